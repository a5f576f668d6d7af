/-! ===== the reference: divide, whole ===== -/
section RI
variable {f M t : Nat} {σ : tz_S}
theorem nV_mk {a : Nat → Int32} {h u N : Nat} {v : Int} (hd : ∀ i, i < N → 0 ≤ dI a (h + 1 + i) ∧ dI a (h + 1 + i) < 1000000000) (hu : u ≤ N) (hz : ∀ i, u ≤ i → i < N → dI a (h + 1 + i) = 0) (htop : 0 < u → dI a (h + 1 + (u - 1)) ≠ 0) (hv : mg (fun i => dI a (h + 1 + i)) N = v) (hh : a h = nI u) (hN : N < 1000) : nV a h u v := by
  have h0 := (mg_lt (d := fun i => dI a (h + 1 + i)) hd).1
  rw [hv] at h0
  refine ⟨by rw [hh, nI_toInt (by omega), if_neg (by omega)], fun j hj => hd j (by omega), htop, ?_, by omega⟩
  have e : mg (fun i => dI a (h + 1 + i)) N = mg (fun i => dI a (h + 1 + i)) u := by
    obtain ⟨d, hd2⟩ : ∃ d, N = u + d := ⟨N - u, by omega⟩
    rw [hd2]
    exact mg_z (fun j h1 h2 => hz j h1 (by omega))
  rw [← e, hv]
  omega
/-- the rest is trimmed -/
theorem r_divEnd {R n pl kq : Nat} {Q1 V1 : Int} {σ1 : tz_S} (h1 : mSh σ1 M) (hR : R = t + pl + 1) (hkq : kq ≤ pl) (hn : n ≤ 400) (hb : R + n + 2 ≤ 527200) (hP : Pq M t (R + n + 2) σ σ1) (h35 : tz_F σ1 M 35 = nI (R + n + 2)) (hq : nV (tz_A σ1 (M + 20)) t kq Q1) (hd : ∀ i, i < n → 0 ≤ dI (tz_A σ1 (M + 20)) (R + 1 + i) ∧ dI (tz_A σ1 (M + 20)) (R + 1 + i) < 1000000000) (hv : mg (fun i => dI (tz_A σ1 (M + 20)) (R + 1 + i)) n = V1) (hf : 2000 ≤ f) :
    gp (X12_divide_L228 f (some M) (nI t) (nI R) (nI n)) σ1 (fun z σ' => z = nI R ∧ Pq M t (R + n + 2) σ σ' ∧ tz_F σ' M 35 = nI (R + n + 2) ∧ tz_F σ' M 36 = nI t ∧ nV (tz_A σ' (M + 20)) t kq Q1 ∧ ∃ kr, kr ≤ n ∧ nV (tz_A σ' (M + 20)) R kr V1) := by
  unfold X12_divide_L228
  refine gp_loop (I := fun (τ : Int32) (σ' : tz_S) => ∃ u, τ = nI u ∧ u ≤ n ∧ σ' = σ1 ∧ ∀ k, u ≤ k → k < n → dI (tz_A σ1 (M + 20)) (R + 1 + k) = 0) (fun τ _ => τ.toNatClampNeg) ?_ f _ _ ⟨n, rfl, Nat.le_refl _, rfl, fun k a b => absurd b (by omega)⟩ (by rw [nI_clamp (by omega)]; omega)
  rintro K l6 σ2 ⟨u, rfl, hu, hσ, hz⟩ hK
  rw [hσ]
  clear hσ σ2
  show gp (X12_divide_L228_body f (some M) (nI t) (nI R) (fun l6 => K l6) (nI u)) σ1 _
  have fin : (0 < u → dI (tz_A σ1 (M + 20)) (R + 1 + (u - 1)) ≠ 0) → gp (X12_divide_b252 f (some M) (nI t) (nI R) (nI u)) σ1 (fun z σ' => z = nI R ∧ Pq M t (R + n + 2) σ σ' ∧ tz_F σ' M 35 = nI (R + n + 2) ∧ tz_F σ' M 36 = nI t ∧ nV (tz_A σ' (M + 20)) t kq Q1 ∧ ∃ kr, kr ≤ n ∧ nV (tz_A σ' (M + 20)) R kr V1) := by
    intro htop
    unfold X12_divide_b252
    refine gp_rR (mh_me h1) rfl ?_
    refine gp_ps (j := R) h1 (by omega) rfl ?_
    have h2 : mSh (tz_sA σ1 (M + 20) R (nI u)) M := h1
    refine gp_wI (mh_me h2) rfl ?_
    have er : ∀ i, i ≠ R → tz_A (tz_sF (tz_sA σ1 (M + 20) R (nI u)) M 36 (nI t)) (M + 20) i = tz_A σ1 (M + 20) i := fun i hi => tz_u2_ne (tz_A σ1) _ (Or.inr hi)
    have en : tz_A (tz_sF (tz_sA σ1 (M + 20) R (nI u)) M 36 (nI t)) (M + 20) R = nI u := tz_u2_same (tz_A σ1) _ _ _
    have ed : ∀ i, dI (tz_A (tz_sF (tz_sA σ1 (M + 20) R (nI u)) M 36 (nI t)) (M + 20)) (R + 1 + i) = dI (tz_A σ1 (M + 20)) (R + 1 + i) := fun i => by unfold dI; rw [er _ (by omega)]
    refine gp_ret ⟨rfl, Pq_trans hP (Pq_trans (Pq_cell (by omega) (by omega)) Pq_quo), ?_, tz_u2_same _ _ _ _, nV_congr hq (fun i a b => er i (by omega)), u, hu, ?_⟩
    · show tz_u2 (tz_F σ1) M 36 (nI t) M 35 = _
      rw [tz_u2_ne _ _ (Or.inr (by decide))]; exact h35
    · refine nV_mk (N := n) (fun i hi => by rw [ed]; exact hd i hi) hu (fun i a b => by rw [ed]; exact hz i a b) (fun q => by rw [ed]; exact htop q) ?_ en (by omega)
      rw [← hv]
      exact mg_congr (fun i _ => ed i)
  unfold X12_divide_L228_body
  refine gp_if (fun z => ?_) (fun z => ?_)
  · rw [show (0 : Int32) = nI 0 from rfl, nI_leI (by omega) (by omega)] at z
    exact fin (fun q => by omega)
  rw [show (0 : Int32) = nI 0 from rfl, nI_leI (by omega) (by omega)] at z
  obtain ⟨k, rfl⟩ : ∃ k, u = k + 1 := ⟨u - 1, by omega⟩
  refine gp_pl (j := R + (k + 1)) h1 (by omega) (nI_add R (k + 1)) ?_
  have ek : tz_A σ1 (M + 20) (R + (k + 1)) = tz_A σ1 (M + 20) (R + 1 + k) := by rw [show R + (k + 1) = R + 1 + k by omega]
  rw [ek]
  refine gp_if (fun q => ?_) (fun q => ?_)
  · refine gp_let ?_
    rw [nI_m1]
    refine hK _ _ ⟨k, rfl, by omega, rfl, fun j a b => ?_⟩ (by rw [nI_clamp (by omega), nI_clamp (by omega)]; omega)
    by_cases e : j = k
    · rw [e]; show (tz_A σ1 (M + 20) (R + 1 + k)).toInt = 0; rw [q]; rfl
    · exact hz j (by omega) b
  · refine fin (fun _ => ?_)
    rw [show k + 1 - 1 = k by omega]
    exact fun q2 => q (az_iz.1 q2)
/-- the quotient is trimmed, then the rest -/
theorem r_divQ {R n pl : Nat} {Q1 V1 : Int} {σ1 : tz_S} (h1 : mSh σ1 M) (hR : R = t + pl + 1) (hpl : pl ≤ 401) (hn : n ≤ 400) (hb : R + n + 2 ≤ 527200) (hP : Pq M t (R + n + 2) σ σ1) (h35 : tz_F σ1 M 35 = nI (R + n + 2)) (hdq : ∀ i, i < pl → 0 ≤ dI (tz_A σ1 (M + 20)) (t + 1 + i) ∧ dI (tz_A σ1 (M + 20)) (t + 1 + i) < 1000000000) (hvq : mg (fun i => dI (tz_A σ1 (M + 20)) (t + 1 + i)) pl = Q1) (hd : ∀ i, i < n → 0 ≤ dI (tz_A σ1 (M + 20)) (R + 1 + i) ∧ dI (tz_A σ1 (M + 20)) (R + 1 + i) < 1000000000) (hv : mg (fun i => dI (tz_A σ1 (M + 20)) (R + 1 + i)) n = V1) (hf : 2000 ≤ f) :
    gp (X12_divide_L191 f (some M) (nI n) (nI t) (nI R) (nI pl)) σ1 (fun z σ' => z = nI R ∧ Pq M t (R + n + 2) σ σ' ∧ tz_F σ' M 35 = nI (R + n + 2) ∧ tz_F σ' M 36 = nI t ∧ ∃ kq kr, kq ≤ pl ∧ kr ≤ n ∧ nV (tz_A σ' (M + 20)) t kq Q1 ∧ nV (tz_A σ' (M + 20)) R kr V1) := by
  unfold X12_divide_L191
  refine gp_loop (I := fun (τ : Int32) (σ' : tz_S) => ∃ u, τ = nI u ∧ u ≤ pl ∧ σ' = σ1 ∧ ∀ k, u ≤ k → k < pl → dI (tz_A σ1 (M + 20)) (t + 1 + k) = 0) (fun τ _ => τ.toNatClampNeg) ?_ f _ _ ⟨pl, rfl, Nat.le_refl _, rfl, fun k a b => absurd b (by omega)⟩ (by rw [nI_clamp (by omega)]; omega)
  rintro K l6 σ2 ⟨u, rfl, hu, hσ, hz⟩ hK
  rw [hσ]
  clear hσ σ2
  show gp (X12_divide_L191_body f (some M) (nI n) (nI t) (nI R) (fun l6 => K l6) (nI u)) σ1 _
  have fin : (0 < u → dI (tz_A σ1 (M + 20)) (t + 1 + (u - 1)) ≠ 0) → gp (X12_divide_b215 f (some M) (nI n) (nI t) (nI R) (nI u)) σ1 (fun z σ' => z = nI R ∧ Pq M t (R + n + 2) σ σ' ∧ tz_F σ' M 35 = nI (R + n + 2) ∧ tz_F σ' M 36 = nI t ∧ ∃ kq kr, kq ≤ pl ∧ kr ≤ n ∧ nV (tz_A σ' (M + 20)) t kq Q1 ∧ nV (tz_A σ' (M + 20)) R kr V1) := by
    intro htop
    unfold X12_divide_b215
    refine gp_rR (mh_me h1) rfl ?_
    refine gp_ps (j := t) h1 (by omega) rfl ?_
    have h2 : mSh (tz_sA σ1 (M + 20) t (nI u)) M := h1
    have er : ∀ i, i ≠ t → tz_A (tz_sA σ1 (M + 20) t (nI u)) (M + 20) i = tz_A σ1 (M + 20) i := fun i hi => tz_u2_ne (tz_A σ1) _ (Or.inr hi)
    have en : tz_A (tz_sA σ1 (M + 20) t (nI u)) (M + 20) t = nI u := tz_u2_same (tz_A σ1) _ _ _
    have edq : ∀ i, dI (tz_A (tz_sA σ1 (M + 20) t (nI u)) (M + 20)) (t + 1 + i) = dI (tz_A σ1 (M + 20)) (t + 1 + i) := fun i => by unfold dI; rw [er _ (by omega)]
    have edr : ∀ i, dI (tz_A (tz_sA σ1 (M + 20) t (nI u)) (M + 20)) (R + 1 + i) = dI (tz_A σ1 (M + 20)) (R + 1 + i) := fun i => by unfold dI; rw [er _ (by omega)]
    have hq2 : nV (tz_A (tz_sA σ1 (M + 20) t (nI u)) (M + 20)) t u Q1 := by
      refine nV_mk (N := pl) (fun i hi => by rw [edq]; exact hdq i hi) hu (fun i a b => by rw [edq]; exact hz i a b) (fun q => by rw [edq]; exact htop q) ?_ en (by omega)
      rw [← hvq]
      exact mg_congr (fun i _ => edq i)
    have hP2 : Pq M t (R + n + 2) σ (tz_sA σ1 (M + 20) t (nI u)) := Pq_trans hP (Pq_cell (Nat.le_refl _) (by omega))
    have h352 : tz_F (tz_sA σ1 (M + 20) t (nI u)) M 35 = nI (R + n + 2) := h35
    have hd2 : ∀ i, i < n → 0 ≤ dI (tz_A (tz_sA σ1 (M + 20) t (nI u)) (M + 20)) (R + 1 + i) ∧ dI (tz_A (tz_sA σ1 (M + 20) t (nI u)) (M + 20)) (R + 1 + i) < 1000000000 := fun i hi => by rw [edr]; exact hd i hi
    have hv2 : mg (fun i => dI (tz_A (tz_sA σ1 (M + 20) t (nI u)) (M + 20)) (R + 1 + i)) n = V1 := by rw [← hv]; exact mg_congr (fun i _ => edr i)
    refine gp_mono (r_divEnd h2 hR hu hn hb hP2 h352 hq2 hd2 hv2 hf) ?_
    rintro z σ' ⟨a1, a2, a3, a4, a5, kr, a6, a7⟩
    exact ⟨a1, a2, a3, a4, u, kr, hu, a6, a5, a7⟩
  unfold X12_divide_L191_body
  refine gp_if (fun z => ?_) (fun z => ?_)
  · rw [show (0 : Int32) = nI 0 from rfl, nI_leI (by omega) (by omega)] at z
    exact fin (fun q => by omega)
  rw [show (0 : Int32) = nI 0 from rfl, nI_leI (by omega) (by omega)] at z
  obtain ⟨k, rfl⟩ : ∃ k, u = k + 1 := ⟨u - 1, by omega⟩
  refine gp_pl (j := t + (k + 1)) h1 (by omega) (nI_add t (k + 1)) ?_
  have ek : tz_A σ1 (M + 20) (t + (k + 1)) = tz_A σ1 (M + 20) (t + 1 + k) := by rw [show t + (k + 1) = t + 1 + k by omega]
  rw [ek]
  refine gp_if (fun q => ?_) (fun q => ?_)
  · refine gp_let ?_
    rw [nI_m1]
    refine hK _ _ ⟨k, rfl, by omega, rfl, fun j a b => ?_⟩ (by rw [nI_clamp (by omega), nI_clamp (by omega)]; omega)
    by_cases e : j = k
    · rw [e]; show (tz_A σ1 (M + 20) (t + 1 + k)).toInt = 0; rw [q]; rfl
    · exact hz j (by omega) b
  · refine fin (fun _ => ?_)
    rw [show k + 1 - 1 = k by omega]
    exact fun q2 => q (az_iz.1 q2)
/-- the digits of the quotient, from the highest -/
theorem r_divM {y R n m pl : Nat} {w V : Int} {σ1 : tz_S} (h : mSh σ M) (hw : nV (tz_A σ (M + 20)) y m w) (hw0 : w ≠ 0) (hy : y + m < t) (hR : R = t + pl + 1) (hpl : (pl = 0 ∧ n < m) ∨ pl + m = n + 1) (hn : n ≤ 400) (hm : m ≤ 400) (hb : R + n + 2 ≤ 527200) (hV : V < 1000000000 ^ n) (hJ : dvI σ M t pl R n (w.natAbs : Int) V pl σ1) (hf : 2000 ≤ f) :
    gp (X12_divide_L155 f (some M) (nI y) (nI n) (nI m) (nI t) (nI pl) (nI R) (nI pl)) σ1 (fun z σ' => z = nI R ∧ Pq M t (R + n + 2) σ σ' ∧ tz_F σ' M 35 = nI (R + n + 2) ∧ tz_F σ' M 36 = nI t ∧ ∃ kq kr, kq ≤ pl ∧ kr ≤ n ∧ nV (tz_A σ' (M + 20)) t kq (V / (w.natAbs : Int)) ∧ nV (tz_A σ' (M + 20)) R kr (V % (w.natAbs : Int))) := by
  have hY0 : 0 < (w.natAbs : Int) := by omega
  have hYm := nV_lt hw
  have hm0 : 0 < m := by
    by_cases q : m = 0
    · exact absurd ((nV_0 hw).1 q) hw0
    · omega
  unfold X12_divide_L155
  refine gp_loop (I := fun (τ : Int32) (σ' : tz_S) => ∃ j, τ = nI j ∧ j ≤ pl ∧ dvI σ M t pl R n (w.natAbs : Int) V j σ') (fun τ _ => τ.toNatClampNeg) ?_ f _ _ ⟨pl, rfl, Nat.le_refl _, hJ⟩ (by rw [nI_clamp (by omega)]; omega)
  clear hJ σ1
  rintro K l9 σ1 ⟨j, rfl, hj, hJ⟩ hK
  show gp (X12_divide_L155_body f (some M) (nI y) (nI n) (nI m) (nI t) (nI pl) (nI R) (fun l9 => K l9) (nI j)) σ1 _
  unfold X12_divide_L155_body
  obtain ⟨g1, g2, g3, g4, g5, g6, g7⟩ := id hJ
  have h1 := mSh_fr h g1.1
  refine gp_if (fun z => ?_) (fun z => ?_)
  · rw [show (0 : Int32) = nI 0 from rfl, nI_leI (by omega) (by omega)] at z
    have hj0 : j = 0 := by omega
    subst hj0
    rw [Int.pow_zero, Int.mul_one] at g6
    have hr0 := (mg_lt (d := fun i => dI (tz_A σ1 (M + 20)) (R + 1 + i)) g3).1
    have hq0 := (mg_lt (d := fun i => dI (tz_A σ1 (M + 20)) (t + 1 + i)) g4).1
    have hyq := Int.mul_nonneg (show 0 ≤ (w.natAbs : Int) by omega) hq0
    have hz := mg_hi0 (d := fun i => dI (tz_A σ1 (M + 20)) (R + 1 + i)) (c := n) g3 (by omega)
    have e1 : mg (fun i => dI (tz_A σ1 (M + 20)) (R + 1 + i)) (n + 1) = mg (fun i => dI (tz_A σ1 (M + 20)) (R + 1 + i)) n := mg_z (m := 1) (fun i a b => hz i a (by omega))
    rw [e1] at g6 g7 hr0
    have e2 : V / (w.natAbs : Int) = mg (fun i => dI (tz_A σ1 (M + 20)) (t + 1 + i)) pl := by
      refine dq_uniq hY0 ?_ ?_
      · rw [Int.mul_comm]; omega
      · rw [Int.add_mul, Int.one_mul, Int.mul_comm]; omega
    have e3 : V % (w.natAbs : Int) = mg (fun i => dI (tz_A σ1 (M + 20)) (R + 1 + i)) n := by
      have := Int.mul_ediv_add_emod V (w.natAbs : Int)
      rw [e2] at this
      omega
    exact r_divQ h1 hR (by omega) hn hb g1 g2 g4 e2.symm (fun i hi => g3 i (by omega)) e3.symm hf
  · rw [show (0 : Int32) = nI 0 from rfl, nI_leI (by omega) (by omega)] at z
    obtain ⟨k, rfl⟩ : ∃ k, j = k + 1 := ⟨j - 1, by omega⟩
    have hplm : pl + m = n + 1 := by omega
    have hw1 := nV_pq hw g1 (Or.inl hy)
    have hYe : mg (fun i => dI (tz_A σ1 (M + 20)) (y + 1 + i)) m = (w.natAbs : Int) := hw1.2.2.2.1
    obtain ⟨w1, -⟩ := dv_win (m := m) g3 (show k + m ≤ n by omega) hYm g6
    have hlow := mg_lt (d := fun i => dI (tz_A σ1 (M + 20)) (R + 1 + i)) (k := k) (fun i hi => g3 i (by omega))
    have hWlt : mg (fun i => dI (tz_A σ1 (M + 20)) (R + k + 1 + i)) (m + 1) < 1000000000 * (w.natAbs : Int) := by
      rw [w1, mg_ps] at g6
      exact dv_wlt (mg_pw k) hlow.1 g6
    refine gp_rR (mh_me h1) rfl ?_
    refine gp_cV (mh_me h1) (gp_mono (r_digit (p := R + k) (rr := R) (jj := k + 1) h1 hm0 hm (by omega) (by omega) (Or.inl (by omega)) (fun i hi => ?_) hw1.2.1 (hw1.2.2.1 hm0) (by rw [hYe]; exact hWlt) (by omega) hf) ?_)
    · have := g3 (k + i) (by omega)
      rw [show R + 1 + (k + i) = R + k + 1 + i by omega] at this
      exact this
    rintro d σ2 ⟨b1, b2, b3, b4, b5, b6⟩
    rw [hYe] at b1 b6
    have h2 := mSh_fr h1 b3.1
    refine gp_ps (j := t + 1 + k) h2 (by omega) (by rw [nI_add, show t + (k + 1) = t + 1 + k by omega]) ?_
    refine gp_let ?_
    rw [nI_m1]
    exact hK _ _ ⟨k, rfl, by omega, dv_step hJ hR (by omega) hplm hY0 hYm b3 b4 b5 b1 b2 b6 rfl⟩ (by rw [nI_clamp (by omega), nI_clamp (by omega)]; omega)
/-- the quotient and the rest of the numbers without their signs -/
theorem r_divide {x y n m : Nat} {v w : Int} (h : mSh σ M) (ht : tz_F σ M 35 = nI t) (hv : nV (tz_A σ (M + 20)) x n v) (hw : nV (tz_A σ (M + 20)) y m w) (hw0 : w ≠ 0) (hx : x + n < t) (hy : y + m < t) (hn : n ≤ 400) (hm : m ≤ 400) (hb : t + 2 * n + 5 ≤ 527200) (hf : 2000 ≤ f) :
    gp (X12_divide f (some M) (nI x) (nI y)) σ (fun z σ' => ∃ R, z = nI R ∧ t < R ∧ R ≤ t + n + 2 ∧ Pq M t (t + 2 * n + 5) σ σ' ∧ tz_F σ' M 35 = nI (R + n + 2) ∧ tz_F σ' M 36 = nI t ∧ ∃ kq kr, t + kq < R ∧ kq ≤ n + 1 ∧ kr ≤ n ∧ nV (tz_A σ' (M + 20)) t kq ((v.natAbs : Int) / (w.natAbs : Int)) ∧ nV (tz_A σ' (M + 20)) R kr ((v.natAbs : Int) % (w.natAbs : Int))) := by
  have hm0 : 0 < m := by
    by_cases q : m = 0
    · exact absurd ((nV_0 hw).1 q) hw0
    · omega
  have go : ∀ pl, ((pl = 0 ∧ n < m) ∨ pl + m = n + 1) → gp (X12_divide_b46 f (some M) (nI x) (nI y) (nI n) (nI m) (nI t) (nI pl)) σ (fun z σ' => ∃ R, z = nI R ∧ t < R ∧ R ≤ t + n + 2 ∧ Pq M t (t + 2 * n + 5) σ σ' ∧ tz_F σ' M 35 = nI (R + n + 2) ∧ tz_F σ' M 36 = nI t ∧ ∃ kq kr, t + kq < R ∧ kq ≤ n + 1 ∧ kr ≤ n ∧ nV (tz_A σ' (M + 20)) t kq ((v.natAbs : Int) / (w.natAbs : Int)) ∧ nV (tz_A σ' (M + 20)) R kr ((v.natAbs : Int) % (w.natAbs : Int))) := by
    intro pl hpl
    unfold X12_divide_b46 X12_divide_L51
    refine gp_loop (I := fun (τ : Int32) (σ' : tz_S) => ∃ k, τ = nI k ∧ k ≤ pl + 1 ∧ Pq M t (t + pl + 1) σ σ' ∧ ∀ j, j < k → tz_A σ' (M + 20) (t + j) = 0) (fun τ _ => 1100 - τ.toNatClampNeg) ?_ f _ _ ⟨0, rfl, Nat.zero_le _, Pq_refl, fun j hj => absurd hj (Nat.not_lt_zero _)⟩ (by omega)
    rintro K l8 σ1 ⟨k, rfl, hk, hP, hz⟩ hK
    show gp (X12_divide_L51_body f (some M) (nI x) (nI y) (nI n) (nI m) (nI t) (nI pl) (fun l8 => K l8) (nI k)) σ1 _
    unfold X12_divide_L51_body
    have h1 := mSh_fr h hP.1
    refine gp_if (fun z => ?_) (fun z => ?_)
    rotate_left
    · rw [nI_ltI (by omega) (by omega)] at z
      refine gp_rR (mh_me h1) rfl ?_
      refine gp_ps (j := t + k) h1 (by omega) (nI_add t k) ?_
      refine gp_let ?_
      rw [nI_1]
      refine hK _ _ ⟨k + 1, rfl, by omega, Pq_trans hP (Pq_cell (by omega) (by omega)), fun j hj => ?_⟩ (by rw [nI_clamp (by omega), nI_clamp (by omega)]; omega)
      show tz_u2 (tz_A σ1) (M + 20) (t + k) 0 (M + 20) (t + j) = 0
      by_cases e : j = k
      · rw [e, tz_u2_same]
      · rw [tz_u2_ne _ _ (Or.inr (by omega))]; exact hz j (by omega)
    rw [nI_ltI (by omega) (by omega)] at z
    have hkp : k = pl + 1 := by omega
    subst hkp
    rw [nI_add, nI_1]
    refine gp_wI (mh_me h1) rfl ?_
    have h2 : mSh (tz_sF σ1 M 35 (nI (t + pl + 1))) M := h1
    refine gp_rI (mh_me h2) rfl ?_
    rw [show tz_F (tz_sF σ1 M 35 (nI (t + pl + 1))) M 35 = nI (t + pl + 1) from tz_u2_same _ _ _ _]
    have hP2 : Pq M t (t + pl + 1) σ (tz_sF σ1 M 35 (nI (t + pl + 1))) := Pq_trans hP Pq_top
    have hz2 : ∀ j, j < pl + 1 → tz_A (tz_sF σ1 M 35 (nI (t + pl + 1))) (M + 20) (t + j) = 0 := hz
    clear hK hz hP h1 hk z K
    generalize tz_sF σ1 M 35 (nI (t + pl + 1)) = σ2 at *
    clear σ1
    obtain ⟨R, hR⟩ : ∃ R, R = t + pl + 1 := ⟨_, rfl⟩
    rw [← hR]
    unfold X12_divide_L95
    refine gp_loop (I := fun (τ : Int32) (σ' : tz_S) => ∃ k, τ = nI (k + 1) ∧ k ≤ n ∧ Pq M t (R + k + 1) σ σ' ∧ (∀ j, j < pl + 1 → tz_A σ' (M + 20) (t + j) = 0) ∧ ∀ j, j < k → tz_A σ' (M + 20) (R + 1 + j) = tz_A σ (M + 20) (x + 1 + j)) (fun τ _ => 1100 - τ.toNatClampNeg) ?_ f _ _ ⟨0, rfl, Nat.zero_le _, Pq_mono hP2 (Nat.le_refl _) (by omega), hz2, fun j hj => absurd hj (Nat.not_lt_zero _)⟩ (by omega)
    clear hP2 hz2 h2 σ2
    rintro K l9 σ1 ⟨k, rfl, hk, hP, hz, hc⟩ hK
    show gp (X12_divide_L95_body f (some M) (nI x) (nI y) (nI n) (nI m) (nI t) (nI pl) (nI R) (fun l9 => K l9) (nI (k + 1))) σ1 _
    unfold X12_divide_L95_body
    have h1 := mSh_fr h hP.1
    refine gp_if (fun z => ?_) (fun z => ?_)
    rotate_left
    · rw [nI_ltI (by omega) (by omega)] at z
      refine gp_rR (mh_me h1) rfl ?_
      refine gp_pl (j := x + (k + 1)) h1 (by omega) (nI_add x (k + 1)) ?_
      have ex : tz_A σ1 (M + 20) (x + (k + 1)) = tz_A σ (M + 20) (x + 1 + k) := by rw [hP.2.2 _ (by omega), show x + (k + 1) = x + 1 + k by omega]
      rw [ex]
      refine gp_ps (j := R + 1 + k) h1 (by omega) (by rw [nI_add, show R + (k + 1) = R + 1 + k by omega]) ?_
      refine gp_let ?_
      rw [nI_1]
      refine hK _ _ ⟨k + 1, rfl, by omega, Pq_trans (Pq_mono hP (Nat.le_refl _) (by omega)) (Pq_cell (by omega) (by omega)), fun j hj => ?_, fun j hj => ?_⟩ (by rw [nI_clamp (by omega), nI_clamp (by omega)]; omega)
      · show tz_u2 (tz_A σ1) (M + 20) (R + 1 + k) _ (M + 20) (t + j) = 0
        rw [tz_u2_ne _ _ (Or.inr (by omega))]; exact hz j hj
      · show tz_u2 (tz_A σ1) (M + 20) (R + 1 + k) _ (M + 20) (R + 1 + j) = _
        by_cases e : j = k
        · rw [e, tz_u2_same]
        · rw [tz_u2_ne _ _ (Or.inr (by omega))]; exact hc j (by omega)
    rw [nI_ltI (by omega) (by omega)] at z
    have hkn : k = n := by omega
    subst hkn
    refine gp_rR (mh_me h1) rfl ?_
    rw [nI_add, nI_1]
    refine gp_ps (j := R + k + 1) h1 (by omega) rfl ?_
    have h2 : mSh (tz_sA σ1 (M + 20) (R + k + 1) 0) M := h1
    rw [show nI (R + k) + 2 = nI (R + k + 2) by rw [show (2 : Int32) = nI 2 from rfl, nI_add]]
    refine gp_wI (mh_me h2) rfl ?_
    have hcell : ∀ i, i ≠ R + k + 1 → tz_A (tz_sF (tz_sA σ1 (M + 20) (R + k + 1) 0) M 35 (nI (R + k + 2))) (M + 20) i = tz_A σ1 (M + 20) i := fun i hi => tz_u2_ne (tz_A σ1) _ (Or.inr hi)
    have hcl0 : tz_A (tz_sF (tz_sA σ1 (M + 20) (R + k + 1) 0) M 35 (nI (R + k + 2))) (M + 20) (R + k + 1) = 0 := tz_u2_same (tz_A σ1) _ _ _
    have hdg : ∀ i, i < k + 1 → dI (tz_A (tz_sF (tz_sA σ1 (M + 20) (R + k + 1) 0) M 35 (nI (R + k + 2))) (M + 20)) (R + 1 + i) = xd (tz_A σ (M + 20)) x k i := fun i hi => by
      unfold xd
      by_cases e : i < k
      · rw [if_pos e]; unfold dI; rw [hcell _ (by omega), hc i e]
      · have : i = k := by omega
        rw [if_neg e, this]
        unfold dI
        rw [show R + 1 + k = R + k + 1 by omega, hcl0]; rfl
    have hqz : ∀ i, i < pl → dI (tz_A (tz_sF (tz_sA σ1 (M + 20) (R + k + 1) 0) M 35 (nI (R + k + 2))) (M + 20)) (t + 1 + i) = 0 := fun i hi => by
      unfold dI
      rw [hcell _ (by omega), show t + 1 + i = t + (1 + i) by omega, hz (1 + i) (by omega)]; rfl
    have hVb := nV_lt hv
    have hJ : dvI σ M t pl R k (w.natAbs : Int) (v.natAbs : Int) pl (tz_sF (tz_sA σ1 (M + 20) (R + k + 1) 0) M 35 (nI (R + k + 2))) := by
      refine ⟨Pq_trans (Pq_mono hP (Nat.le_refl _) (by omega)) (Pq_trans (Pq_cell (by omega) (by omega)) Pq_top), tz_u2_same _ _ _ _, fun i hi => by rw [hdg i hi]; exact xd_b hv i, fun i hi => by rw [hqz i hi]; decide, fun i _ hi => hqz i hi, ?_, ?_⟩
      · rw [mg_congr hdg, xd_mg hv (by omega)]
        obtain ⟨c, rfl⟩ : ∃ c, m = c + 1 := ⟨m - 1, by omega⟩
        have hg := nV_ge hw
        have hpp := mg_pw pl
        have h3 : (1000000000 : Int) ^ c * 1000000000 ^ pl ≤ (w.natAbs : Int) * 1000000000 ^ pl := Int.mul_le_mul_of_nonneg_right hg (by omega)
        rw [← Int.pow_add] at h3
        have h4 := mg_pmono (show k ≤ c + pl by omega)
        omega
      · rw [mg_congr hdg, xd_mg hv (by omega), mg_congr (e := fun _ => 0) hqz, mg_zero, Int.mul_zero, Int.add_zero]
    refine gp_mono (r_divM h hw hw0 hy hR hpl hn hm (by omega) hVb hJ hf) ?_
    rintro z2 σ' ⟨a1, a2, a3, a4, kq, kr, a5, a6, a7, a8⟩
    exact ⟨R, a1, by omega, by omega, Pq_mono a2 (Nat.le_refl _) (by omega), a3, a4, kq, kr, by omega, by omega, a6, a7, a8⟩
  unfold X12_divide
  refine gp_rI (mh_me h) rfl ?_
  refine gp_cV (mh_me h) (gp_mono (r_limbs h hv (by omega)) ?_)
  rintro _ σ0 ⟨z0, rfl⟩
  rw [z0]
  clear z0 σ0
  refine gp_cV (mh_me h) (gp_mono (r_limbs h hw (by omega)) ?_)
  rintro _ σ0 ⟨z0, rfl⟩
  rw [z0]
  clear z0 σ0
  refine gp_rI (mh_me h) rfl ?_
  rw [ht]
  have e1 : (nI n - nI m + 1).toInt = (n : Int) - m + 1 := by
    have a1 := nI_toInt (n := n) (by omega)
    have a2 := nI_toInt (n := m) (by omega)
    have a3 : (nI n - nI m).toInt = (n : Int) - m := by rw [az_isub (by omega) (by omega), a1, a2]
    rw [az_iadd (by rw [a3, show (1 : Int32).toInt = 1 from rfl]; omega) (by rw [a3, show (1 : Int32).toInt = 1 from rfl]; omega), a3]
    rfl
  refine gp_if (fun z => ?_) (fun z => ?_)
  · have z' : (nI n - nI m + 1).toInt ≤ 0 := (i32_c _ 0).2.1 z
    exact go 0 (Or.inl ⟨rfl, by omega⟩)
  · have z' : ¬ (nI n - nI m + 1).toInt ≤ 0 := fun e => z ((i32_c _ 0).2.2 e)
    have e2 : nI n - nI m + 1 = nI (n + 1 - m) := by rw [← Int32.toInt_inj, e1, nI_toInt (by omega)]; omega
    rw [e2]
    exact go (n + 1 - m) (Or.inr (by omega))
end RI
