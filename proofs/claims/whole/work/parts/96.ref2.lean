/-! ===== the reference: less, plainOf, setWhole, weigh, compare ===== -/
section RB
variable {f M t : Nat} {σ : tz_S}
theorem r_less {x n : Nat} {v : Int} (h : mSh σ M) (ht : tz_F σ M 35 = nI t) (hv : nV (tz_A σ (M + 20)) x n v) (hx : x + n < t) (hb : t + n < 527200) (hf : 2000 ≤ f) : gp (X12_less f (some M) (nI x)) σ (fun y σ' => y = nI t ∧ Pq M t (t + n + 1) σ σ' ∧ tz_F σ' M 35 = nI (t + n + 1) ∧ nV (tz_A σ' (M + 20)) t n (-v)) := by
  unfold X12_less
  refine gp_cV (mh_me h) (gp_mono (r_again h ht hv hx hb hf) ?_)
  rintro y σ1 ⟨rfl, hP, h35, hv1⟩
  have h1 := mSh_fr h hP.1
  refine gp_rR (mh_me h1) rfl ?_
  refine gp_pl (j := t) h1 (by omega) rfl ?_
  refine gp_ps (j := t) h1 (by omega) rfl ?_
  refine gp_ret ⟨rfl, Pq_trans hP (Pq_cell (Nat.le_refl _) (by omega)), h35, nV_neg hv1 ?_ (fun i hi => ?_)⟩
  · exact tz_u2_same _ _ _ _
  · exact tz_u2_ne _ _ (Or.inr (by omega))
theorem rg_pl (m q r p b : Int) : m + (q * b + r) * p = m + r * p + q * (p * b) := by grind
set_option maxHeartbeats 1000000 in
theorem r_plainOf {v : Int64} (h : mSh σ M) (ht : tz_F σ M 35 = nI t) (hlo : -9223372036854775808 < v.toInt) (hb : t + 4 ≤ 527200) (hf : 2000 ≤ f) : gp (X12_plainOf f (some M) v) σ (fun y σ' => y = nI t ∧ Pq M t (t + 4) σ σ' ∧ ∃ n, n ≤ 3 ∧ tz_F σ' M 35 = nI (t + n + 1) ∧ nV (tz_A σ' (M + 20)) t n v.toInt) := by
  have hhi := az_hi64 v
  have body : ∀ w : Int64, w.toInt = (v.toInt.natAbs : Int) → gp (X12_plainOf_b17 f (some M) v (nI t) w) σ (fun y σ' => y = nI t ∧ Pq M t (t + 4) σ σ' ∧ ∃ n, n ≤ 3 ∧ tz_F σ' M 35 = nI (t + n + 1) ∧ nV (tz_A σ' (M + 20)) t n v.toInt) := by
    intro w hw
    unfold X12_plainOf_b17 X12_plainOf_L22
    refine gp_loop (I := fun (τ : Int64 × Int32) (σ' : tz_S) => ∃ k, τ.2 = nI k ∧ k ≤ 3 ∧ Pq M t (t + 4) σ σ' ∧ tz_F σ' M 35 = nI t ∧ 0 ≤ τ.1.toInt ∧ (∀ j, j < k → 0 ≤ dI (tz_A σ' (M + 20)) (t + 1 + j) ∧ dI (tz_A σ' (M + 20)) (t + 1 + j) < 1000000000) ∧ (0 < k → τ.1.toInt = 0 → dI (tz_A σ' (M + 20)) (t + 1 + (k - 1)) ≠ 0) ∧ mg (fun j => dI (tz_A σ' (M + 20)) (t + 1 + j)) k + τ.1.toInt * 1000000000 ^ k = v.toInt.natAbs) (fun τ _ => 10 - τ.2.toNatClampNeg) ?_ f _ _ ⟨0, rfl, Nat.zero_le _, Pq_refl, ht, by show 0 ≤ w.toInt; omega, fun j hj => absurd hj (Nat.not_lt_zero _), fun hk => absurd hk (Nat.lt_irrefl _), by show 0 + w.toInt * 1 = _; omega⟩ (by omega)
    rintro K ⟨l4, l6⟩ σ1 ⟨k, hk6, hk3, hP, h35, hl4, hd, htop, hval⟩ hK
    simp only at hk6 hl4 htop hval
    subst hk6
    show gp (X12_plainOf_L22_body f (some M) v (nI t) (fun l4 l6 => K (l4, l6)) l4 (nI k)) σ1 _
    unfold X12_plainOf_L22_body
    have h1 := mSh_fr h hP.1
    refine gp_if (fun z => ?_) (fun z => ?_)
    · have z' : l4.toInt ≤ 0 := by rw [lg_cmp_le, Int64.le_iff_toInt_le] at z; exact z
      have hl0 : l4.toInt = 0 := by omega
      rw [hl0, Int.zero_mul, Int.add_zero] at hval
      refine gp_rR (mh_me h1) rfl ?_
      have fin : ∀ s2 : Int32, s2.toInt = (if v.toInt < 0 then -(k : Int) else k) → gp (X12_plainOf_b78 f (some M) (nI t) (nI k) (some (M + 20)) (nI t) s2) σ1 (fun y σ' => y = nI t ∧ Pq M t (t + 4) σ σ' ∧ ∃ n, n ≤ 3 ∧ tz_F σ' M 35 = nI (t + n + 1) ∧ nV (tz_A σ' (M + 20)) t n v.toInt) := by
        intro s2 hs2
        unfold X12_plainOf_b78
        refine gp_ps (j := t) h1 (by omega) rfl ?_
        have h2 : mSh (tz_sA σ1 (M + 20) t s2) M := h1
        rw [nI_add, nI_1]
        refine gp_wI (mh_me h2) rfl ?_
        have e : ∀ j, dI (tz_A (tz_sF (tz_sA σ1 (M + 20) t s2) M 35 (nI (t + k + 1))) (M + 20)) (t + 1 + j) = dI (tz_A σ1 (M + 20)) (t + 1 + j) := fun j => by
          show (tz_u2 (tz_A σ1) (M + 20) t s2 (M + 20) (t + 1 + j)).toInt = _
          rw [tz_u2_ne _ _ (Or.inr (by omega))]
        refine gp_ret ⟨rfl, Pq_trans hP (Pq_trans (Pq_cell (Nat.le_refl _) (by omega)) Pq_top), k, hk3, tz_u2_same _ _ _ _, ?_, fun j hj => by rw [e]; exact hd j hj, fun hk => by rw [e]; exact htop hk hl0, ?_, by omega⟩
        · show (tz_u2 (tz_A σ1) (M + 20) t s2 (M + 20) t).toInt = _
          rw [tz_u2_same]; exact hs2
        · rw [← hval]
          exact mg_congr (fun j _ => e j)
      refine gp_if (fun y => ?_) (fun y => ?_)
      · have y' : 0 ≤ v.toInt := by rw [lg_cmp_ge, Int64.le_iff_toInt_le] at y; exact y
        refine fin _ ?_
        rw [nI_toInt (by omega), if_neg (by omega)]
      · have y' : ¬ 0 ≤ v.toInt := by rw [lg_cmp_ge, Int64.le_iff_toInt_le] at y; exact y
        refine fin _ ?_
        rw [az_ineg (by rw [nI_toInt (by omega)]; omega), nI_toInt (by omega), if_pos (by omega)]
    · have z' : ¬ l4.toInt ≤ 0 := by rw [lg_cmp_le, Int64.le_iff_toInt_le] at z; exact z
      have hk2 : k < 3 := by
        by_cases e : k = 3
        · subst e
          have hm := mg_nn (d := fun j => dI (tz_A σ1 (M + 20)) (t + 1 + j)) (k := 3) (fun j hj => (hd j hj).1)
          have e27 : (1000000000 : Int) ^ 3 = 1000000000000000000000000000 := by decide
          rw [e27] at hval
          omega
        · omega
      refine gp_let ?_
      rw [nI_1, nI_add]
      refine gp_rR (mh_me h1) rfl ?_
      obtain ⟨q, r, e1, e2, e3, e4, e5, e6, e7⟩ := az_lB l4
      obtain ⟨e6, e8⟩ := e6 (by omega)
      refine gp_rmL az_B0 ?_
      refine gp_ps (j := t + (k + 1)) h1 (by omega) rfl ?_
      refine gp_dvL az_B0 ?_
      have er : (Int64.toInt32 (l4 - l4 / 1000000000 * 1000000000)).toInt = r := by rw [az_l2i (by rw [e2]; omega) (by rw [e2]; omega), e2]
      generalize l4 - l4 / 1000000000 * 1000000000 = l4r at *
      generalize l4 / 1000000000 = l4q at *
      have eo : ∀ j, j < k → dI (tz_A (tz_sA σ1 (M + 20) (t + (k + 1)) l4r.toInt32) (M + 20)) (t + 1 + j) = dI (tz_A σ1 (M + 20)) (t + 1 + j) := fun j hj => by
        show (tz_u2 (tz_A σ1) (M + 20) (t + (k + 1)) l4r.toInt32 (M + 20) (t + 1 + j)).toInt = _
        rw [tz_u2_ne _ _ (Or.inr (by omega))]
      have en : dI (tz_A (tz_sA σ1 (M + 20) (t + (k + 1)) l4r.toInt32) (M + 20)) (t + 1 + k) = r := by
        show (tz_u2 (tz_A σ1) (M + 20) (t + (k + 1)) l4r.toInt32 (M + 20) (t + 1 + k)).toInt = _
        rw [show t + 1 + k = t + (k + 1) by omega, tz_u2_same]; exact er
      refine hK (l4q, nI (k + 1)) _ ⟨k + 1, rfl, by omega, Pq_trans hP (Pq_cell (by omega) (by omega)), h35, by show 0 ≤ l4q.toInt; omega, fun j hj => ?_, fun _ hq => ?_, ?_⟩ (by show 10 - (nI (k + 1)).toNatClampNeg < 10 - (nI k).toNatClampNeg; rw [nI_clamp (by omega), nI_clamp (by omega)]; omega)
      · by_cases y : j = k
        · rw [y, en]; omega
        · rw [eo j (by omega)]; exact hd j (by omega)
      · have hq : l4q.toInt = 0 := hq
        rw [show k + 1 - 1 = k by omega, en]
        rw [e1] at hq
        rw [hq] at e3
        omega
      · show mg (fun j => dI (tz_A (tz_sA σ1 (M + 20) (t + (k + 1)) l4r.toInt32) (M + 20)) (t + 1 + j)) k + dI (tz_A (tz_sA σ1 (M + 20) (t + (k + 1)) l4r.toInt32) (M + 20)) (t + 1 + k) * 1000000000 ^ k + l4q.toInt * 1000000000 ^ (k + 1) = _
        rw [mg_congr eo, en, e1, ← hval, e3, mg_ps]
        exact (rg_pl _ _ _ _ _).symm
  unfold X12_plainOf
  refine gp_rI (mh_me h) rfl ?_
  rw [ht]
  refine gp_if (fun z => ?_) (fun z => ?_)
  · have z' : 0 ≤ v.toInt := by rw [lg_cmp_ge, Int64.le_iff_toInt_le] at z; exact z
    exact body v (by omega)
  · have z' : ¬ 0 ≤ v.toInt := by rw [lg_cmp_ge, Int64.le_iff_toInt_le] at z; exact z
    refine body (-v) ?_
    rw [az_lneg hlo]
    omega
/-- a whole number is put to a place of its own -/
theorem r_setWhole {to : Nat} {v : Int64} (h : mSh σ M) (ht : tz_F σ M 35 = nI t) (hlo : -9223372036854775808 < v.toInt) (hb : t + 4 ≤ 527200) (hto : to + 4 ≤ t) (hf : 2000 ≤ f) : gp (X12_setWhole f (some M) (nI to) v) σ (fun _ σ' => Fr (fun x => x = M ∨ x = M + 20) σ σ' ∧ (∀ k, k ≠ 36 → tz_F σ' M k = tz_F σ M k) ∧ (∀ i, i < t → (i < to ∨ to + 4 ≤ i) → tz_A σ' (M + 20) i = tz_A σ (M + 20) i) ∧ ∃ n, n ≤ 3 ∧ nV (tz_A σ' (M + 20)) to n v.toInt) := by
  unfold X12_setWhole
  refine gp_rI (mh_me h) rfl ?_
  rw [ht]
  refine gp_cV (mh_me h) (gp_mono (r_plainOf h ht hlo hb hf) ?_)
  rintro y σ1 ⟨rfl, hP, n, hn, h35, hv⟩
  have h1 := mSh_fr h hP.1
  refine gp_cV (mh_me h1) (gp_mono (r_copyTo h1 hv (by omega) (by omega) (Or.inl (by omega)) hf) ?_)
  rintro _ σ2 ⟨hP2, hF2, hv2⟩
  have h2 := mSh_fr h1 hP2.1
  refine gp_wI (mh_me h2) rfl ?_
  refine gp_ret ⟨Fr_trans hP.1 (Fr_trans hP2.1 (Fr_sF (Or.inl rfl))), fun k hk => ?_, fun i h1 h2 => ?_, n, hn, hv2⟩
  · show tz_u2 (tz_F σ2) M 35 (nI t) M k = _
    by_cases e : k = 35
    · rw [e, tz_u2_same, ht]
    · rw [tz_u2_ne _ _ (Or.inr e), hF2]; exact hP.2.1 k e hk
  · show tz_A σ2 (M + 20) i = _
    rw [hP2.2.2 i (by omega)]
    exact hP.2.2 i (by omega)
theorem nV_ge {a : Nat → Int32} {x n : Nat} {v : Int} (hv : nV a x (n + 1) v) : (1000000000 : Int) ^ n ≤ v.natAbs := by
  obtain ⟨-, h2, h3, h4, -⟩ := hv
  rw [← h4]
  exact mg_ge (d := fun j => dI a (x + 1 + j)) (k := n) (fun j hj => (h2 j hj).1) (by have := h3 (by omega); exact this)
theorem nV_ord {a : Nat → Int32} {x y n m : Nat} {v w : Int} (hv : nV a x n v) (hw : nV a y m w) (h : n < m) : (v.natAbs : Int) < w.natAbs := by
  obtain ⟨k, rfl⟩ : ∃ k, m = k + 1 := ⟨m - 1, by omega⟩
  have h1 := nV_lt hv
  have h2 := nV_ge hw
  have h3 := mg_pmono (show n ≤ k by omega)
  omega
set_option maxHeartbeats 1000000 in
theorem r_weigh {x y n m : Nat} {v w : Int} (h : mSh σ M) (hv : nV (tz_A σ (M + 20)) x n v) (hw : nV (tz_A σ (M + 20)) y m w) (hx : x + n < 527200) (hy : y + m < 527200) (hf : 2000 ≤ f) : gp (X12_weigh f (some M) (nI x) (nI y)) σ (fun z σ' => σ' = σ ∧ z = isg ((v.natAbs : Int) - w.natAbs)) := by
  have hn1 := hv.2.2.2.2
  have hm1 := hw.2.2.2.2
  unfold X12_weigh X12_weigh_b30
  refine gp_cV (mh_me h) (gp_mono (r_limbs h hv (by omega)) ?_)
  rintro _ σ0 ⟨z0, rfl⟩
  rw [z0]
  clear z0 σ0
  refine gp_cV (mh_me h) (gp_mono (r_limbs h hw (by omega)) ?_)
  rintro _ σ0 ⟨z0, rfl⟩
  rw [z0]
  clear z0 σ0
  refine gp_if (fun z => ?_) (fun z => ?_)
  rotate_left
  · rw [nI_eq (by omega) (by omega)] at z
    refine gp_if (fun u => ?_) (fun u => ?_)
    · rw [nI_leI (by omega) (by omega)] at u
      have := nV_ord hw hv (by omega)
      exact gp_ret ⟨rfl, by rw [isg_pos (by omega)]⟩
    · rw [nI_leI (by omega) (by omega)] at u
      have := nV_ord hv hw (by omega)
      exact gp_ret ⟨rfl, by rw [isg_neg (by omega)]⟩
  rw [nI_eq (by omega) (by omega)] at z
  subst z
  obtain ⟨-, v2, -, v4, -⟩ := hv
  obtain ⟨-, w2, -, w4, -⟩ := hw
  have hdif : ∀ k, k ≤ n → (∀ j, k ≤ j → j < n → dI (tz_A σ (M + 20)) (x + 1 + j) = dI (tz_A σ (M + 20)) (y + 1 + j)) → (v.natAbs : Int) - w.natAbs = mg (fun j => dI (tz_A σ (M + 20)) (x + 1 + j) - dI (tz_A σ (M + 20)) (y + 1 + j)) k := by
    intro k hk he
    rw [← v4, ← w4, ← mg_sub]
    obtain ⟨d, rfl⟩ : ∃ d, n = k + d := ⟨n - k, by omega⟩
    exact mg_z (fun j h1 h2 => by have := he j h1 h2; omega)
  unfold X12_weigh_L34
  refine gp_loop (I := fun (τ : Int32) (σ' : tz_S) => ∃ k, τ = nI k ∧ k ≤ n ∧ σ' = σ ∧ ∀ j, k ≤ j → j < n → dI (tz_A σ (M + 20)) (x + 1 + j) = dI (tz_A σ (M + 20)) (y + 1 + j)) (fun τ _ => τ.toNatClampNeg) ?_ f _ _ ⟨n, rfl, Nat.le_refl _, rfl, fun j h1 h2 => absurd h2 (by omega)⟩ (by rw [nI_clamp (by omega)]; omega)
  rintro K l5 σ1 ⟨k, rfl, hk, hσ, he⟩ hK
  rw [hσ]
  clear hσ σ1
  show gp (X12_weigh_L34_body f (some M) (nI x) (nI y) (fun l5 => K l5) (nI k)) σ _
  unfold X12_weigh_L34_body X12_weigh_b66 X12_weigh_b101
  have hD := hdif k hk he
  refine gp_if (fun u => ?_) (fun u => ?_)
  · rw [show (0 : Int32) = nI 0 from rfl, nI_leI (by omega) (by omega)] at u
    have hk0 : k = 0 := by omega
    subst hk0
    refine gp_t rfl (gp_ret ⟨rfl, ?_⟩)
    rw [hD]
    rfl
  rw [show (0 : Int32) = nI 0 from rfl, nI_leI (by omega) (by omega)] at u
  obtain ⟨j, rfl⟩ : ∃ j, k = j + 1 := ⟨k - 1, by omega⟩
  have b1 := v2 j (by omega)
  have b2 := w2 j (by omega)
  have e1 : tz_A σ (M + 20) (x + (j + 1)) = tz_A σ (M + 20) (x + 1 + j) := by rw [show x + (j + 1) = x + 1 + j by omega]
  have e2 : tz_A σ (M + 20) (y + (j + 1)) = tz_A σ (M + 20) (y + 1 + j) := by rw [show y + (j + 1) = y + 1 + j by omega]
  refine gp_pl (j := x + (j + 1)) h (by omega) (nI_add x (j + 1)) ?_
  refine gp_pl (j := y + (j + 1)) h (by omega) (nI_add y (j + 1)) ?_
  rw [e1, e2]
  have hsm : ∀ i, i < j → -1000000000 < dI (tz_A σ (M + 20)) (x + 1 + i) - dI (tz_A σ (M + 20)) (y + 1 + i) ∧ dI (tz_A σ (M + 20)) (x + 1 + i) - dI (tz_A σ (M + 20)) (y + 1 + i) < 1000000000 := fun i hi => by
    have c1 := v2 i (by omega)
    have c2 := w2 i (by omega)
    omega
  obtain ⟨g1, g2⟩ := mg_top (d := fun j => dI (tz_A σ (M + 20)) (x + 1 + j) - dI (tz_A σ (M + 20)) (y + 1 + j)) (k := j) hsm
  refine gp_if (fun q => ?_) (fun q => ?_)
  · refine gp_let ?_
    have e3 : nI (j + 1) + -1 = nI j := by
      rw [← nI_1 (a := j)]
      simp [Int32.add_assoc]
    rw [e3]
    refine hK _ _ ⟨j, rfl, by omega, rfl, fun i h1 h2 => ?_⟩ (by rw [nI_clamp (by omega), nI_clamp (by omega)]; omega)
    by_cases e : i = j
    · rw [e]; show (tz_A σ (M + 20) (x + 1 + j)).toInt = _; rw [q]
    · exact he i (by omega) h2
  · have q' : (tz_A σ (M + 20) (x + 1 + j)).toInt ≠ (tz_A σ (M + 20) (y + 1 + j)).toInt := fun e => q (Int32.toInt_inj.1 e)
    refine gp_f (by rw [show (0 : Int32) = nI 0 from rfl, nI_eq (by omega) (by omega)]; omega) ?_
    refine gp_pl (j := x + (j + 1)) h (by omega) (nI_add x (j + 1)) ?_
    refine gp_pl (j := y + (j + 1)) h (by omega) (nI_add y (j + 1)) ?_
    rw [e1, e2]
    refine gp_if (fun p => ?_) (fun p => ?_)
    · have p' := (i32_c _ _).2.1 p
      refine gp_ret ⟨rfl, ?_⟩
      rw [hD, isg_pos (g1 (by show 0 < (tz_A σ (M + 20) (x + 1 + j)).toInt - (tz_A σ (M + 20) (y + 1 + j)).toInt; omega))]
    · have p' : ¬ (tz_A σ (M + 20) (y + 1 + j)).toInt ≤ (tz_A σ (M + 20) (x + 1 + j)).toInt := fun e => p ((i32_c _ _).2.2 e)
      refine gp_ret ⟨rfl, ?_⟩
      rw [hD, isg_neg (g2 (by show (tz_A σ (M + 20) (x + 1 + j)).toInt - (tz_A σ (M + 20) (y + 1 + j)).toInt < 0; omega))]
theorem r_compare {x y n m : Nat} {v w : Int} (h : mSh σ M) (hv : nV (tz_A σ (M + 20)) x n v) (hw : nV (tz_A σ (M + 20)) y m w) (hx : x + n < 527200) (hy : y + m < 527200) (hf : 2000 ≤ f) : gp (X12_compare f (some M) (nI x) (nI y)) σ (fun z σ' => σ' = σ ∧ z = isg (v - w)) := by
  unfold X12_compare X12_compare_b53
  refine gp_cV (mh_me h) (gp_mono (r_sgn h hv (by omega)) ?_)
  rintro _ σ0 ⟨z0, rfl⟩
  rw [z0]
  clear z0 σ0
  refine gp_cV (mh_me h) (gp_mono (r_sgn h hw (by omega)) ?_)
  rintro _ σ0 ⟨z0, rfl⟩
  rw [z0]
  clear z0 σ0
  have same : (0 ≤ v ∧ 0 ≤ w) → isg v = isg w → gp (pz_if (isg v = isg w) (pz_if (0 ≤ isg v) (pz_cV 12 (some M) (X12_weigh f (some M) (nI x) (nI y)) fun x3 => pz_ret x3) (pz_cV 12 (some M) (X12_weigh f (some M) (nI x) (nI y)) fun x4 => pz_ret (-x4))) (pz_if (isg w ≤ isg v) (pz_ret 1) (pz_ret (-1)))) σ (fun z σ' => σ' = σ ∧ z = isg (v - w)) := by
    intro q e
    refine gp_t e (gp_t (isg_n.2.2.2.2 q.1) ?_)
    refine gp_cV (mh_me h) (gp_mono (r_weigh h hv hw hx hy hf) ?_)
    rintro _ σ0 ⟨z0, rfl⟩
    rw [z0]
    exact gp_ret ⟨rfl, by congr 1; omega⟩
  rcases isg_cases v with a | a | a <;> rcases isg_cases w with b | b | b
  · exact same ⟨by omega, by omega⟩ (by rw [a.2, b.2])
  · rw [a.2, b.2]
    exact gp_f (by decide) (gp_t (by decide) (gp_ret ⟨rfl, by rw [isg_pos (by omega)]⟩))
  · rw [a.2, b.2]
    exact gp_f (by decide) (gp_t (by decide) (gp_ret ⟨rfl, by rw [isg_pos (by omega)]⟩))
  · rw [a.2, b.2]
    exact gp_f (by decide) (gp_f (by decide) (gp_ret ⟨rfl, by rw [isg_neg (by omega)]⟩))
  · rw [a.2, b.2]
    refine gp_t rfl (gp_f (by decide) ?_)
    refine gp_cV (mh_me h) (gp_mono (r_weigh h hv hw hx hy hf) ?_)
    rintro _ σ0 ⟨z0, rfl⟩
    rw [z0]
    refine gp_ret ⟨rfl, ?_⟩
    rcases isg_cases (v - w) with c | c | c
    · rw [c.2, isg_neg (by omega)]; rfl
    · rw [c.2, isg_pos (by omega)]
    · rw [c.2, show (v.natAbs : Int) - w.natAbs = 0 by omega]; rfl
  · rw [a.2, b.2]
    exact gp_f (by decide) (gp_f (by decide) (gp_ret ⟨rfl, by rw [isg_neg (by omega)]⟩))
  · rw [a.2, b.2]
    exact gp_f (by decide) (gp_f (by decide) (gp_ret ⟨rfl, by rw [isg_neg (by omega)]⟩))
  · rw [a.2, b.2]
    exact gp_f (by decide) (gp_t (by decide) (gp_ret ⟨rfl, by rw [isg_pos (by omega)]⟩))
  · exact same ⟨by omega, by omega⟩ (by rw [a.2, b.2])
end RB
