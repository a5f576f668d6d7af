/-! ===== the reference: by ===== -/
def byJ (σ : tz_S) (M t n m : Nat) (X Y : Nat → Int) (i j : Nat) (c : Int) (σ' : tz_S) : Prop := Pq M t (t + n + m + 1) σ σ' ∧ tz_F σ' M 35 = nI t ∧ (∀ k, k < n + m → 0 ≤ dI (tz_A σ' (M + 20)) (t + 1 + k) ∧ dI (tz_A σ' (M + 20)) (t + 1 + k) < 1000000000) ∧ (∀ k, i + m ≤ k → k < n + m → dI (tz_A σ' (M + 20)) (t + 1 + k) = 0) ∧ (0 ≤ c ∧ c < 1000000000) ∧ mg (fun k => dI (tz_A σ' (M + 20)) (t + 1 + k)) (i + m) + c * 1000000000 ^ (i + j) = mg X i * mg Y m + X i * (1000000000 ^ i * mg Y j)
theorem rg_by1 (R P B c c2 r d W XI Pi Y x y D : Int) (hd : d = x * y + r + c - c2 * B) (h : R + c * P = W + x * (Pi * Y)) (hP : P = Pi * D) : R + (d - r) * P + c2 * (P * B) = W + x * (Pi * (Y + y * D)) := by
  subst hd hP
  grind
theorem by_put {σ σ1 : tz_S} {M t n m : Nat} {X Y : Nat → Int} {i j : Nat} {c c2 : Int} {d : Int32} (h : byJ σ M t n m X Y i j c σ1) (hi : i < n) (hj : j < m) (hd : d.toInt = X i * Y j + dI (tz_A σ1 (M + 20)) (t + 1 + (i + j)) + c - c2 * 1000000000) (h0 : 0 ≤ d.toInt) (h1 : d.toInt < 1000000000) (hc : 0 ≤ c2 ∧ c2 < 1000000000) : byJ σ M t n m X Y i (j + 1) c2 (tz_sA σ1 (M + 20) (t + 1 + (i + j)) d) := by
  obtain ⟨hP, h35, hdd, hz, -, hval⟩ := h
  have eu : ∀ k, dI (tz_A (tz_sA σ1 (M + 20) (t + 1 + (i + j)) d) (M + 20)) (t + 1 + k) = if k = i + j then d.toInt else dI (tz_A σ1 (M + 20)) (t + 1 + k) := fun k => by
    show (tz_u2 (tz_A σ1) (M + 20) (t + 1 + (i + j)) d (M + 20) (t + 1 + k)).toInt = _
    by_cases y : k = i + j
    · rw [y, tz_u2_same, if_pos rfl]
    · rw [tz_u2_ne _ _ (Or.inr (by omega)), if_neg y]
  refine ⟨Pq_trans hP (Pq_cell (by omega) (by omega)), h35, fun k hk => ?_, fun k b1 b2 => ?_, hc, ?_⟩
  · rw [eu]
    by_cases y : k = i + j
    · rw [if_pos y]; exact ⟨h0, h1⟩
    · rw [if_neg y]; exact hdd k hk
  · rw [eu, if_neg (by omega)]; exact hz k b1 b2
  · rw [mg_congr (fun k _ => eu k), mg_upd (d := fun k => dI (tz_A σ1 (M + 20)) (t + 1 + k)) (show i + j < i + m by omega), show i + (j + 1) = i + j + 1 by omega, mg_ps]
    exact rg_by1 _ _ _ _ _ _ _ _ 0 _ _ _ _ _ hd hval (Int.pow_add _ _ _)
theorem by_row {σ σ1 : tz_S} {M t n m : Nat} {X Y : Nat → Int} {i : Nat} {c : Int} {d : Int32} (h : byJ σ M t n m X Y i m c σ1) (hi : i < n) (hd : d.toInt = c) : byJ σ M t n m X Y (i + 1) 0 0 (tz_sA σ1 (M + 20) (t + 1 + (i + m)) d) := by
  obtain ⟨hP, h35, hdd, hz, hc, hval⟩ := h
  have eu : ∀ k, dI (tz_A (tz_sA σ1 (M + 20) (t + 1 + (i + m)) d) (M + 20)) (t + 1 + k) = if k = i + m then d.toInt else dI (tz_A σ1 (M + 20)) (t + 1 + k) := fun k => by
    show (tz_u2 (tz_A σ1) (M + 20) (t + 1 + (i + m)) d (M + 20) (t + 1 + k)).toInt = _
    by_cases y : k = i + m
    · rw [y, tz_u2_same, if_pos rfl]
    · rw [tz_u2_ne _ _ (Or.inr (by omega)), if_neg y]
  refine ⟨Pq_trans hP (Pq_cell (by omega) (by omega)), h35, fun k hk => ?_, fun k b1 b2 => ?_, ⟨Int.le_refl _, by decide⟩, ?_⟩
  · rw [eu]
    by_cases y : k = i + m
    · rw [if_pos y]; omega
    · rw [if_neg y]; exact hdd k hk
  · rw [eu, if_neg (by omega)]; exact hz k (by omega) b2
  · have e1 : i + 1 + m = i + m + 1 := by omega
    rw [e1]
    show mg (fun k => dI (tz_A (tz_sA σ1 (M + 20) (t + 1 + (i + m)) d) (M + 20)) (t + 1 + k)) (i + m) + dI (tz_A (tz_sA σ1 (M + 20) (t + 1 + (i + m)) d) (M + 20)) (t + 1 + (i + m)) * 1000000000 ^ (i + m) + 0 * _ = (mg X i + X i * 1000000000 ^ i) * mg Y m + _ * (_ * 0)
    rw [eu, if_pos rfl, hd, mg_congr (e := fun k => dI (tz_A σ1 (M + 20)) (t + 1 + k)) (fun k hk => by rw [eu, if_neg (by omega)])]
    rw [Int.mul_zero, Int.mul_zero, Int.zero_mul, Int.add_zero, Int.add_zero, hval, Int.add_mul, Int.mul_assoc]
theorem nI_p1 (k : Nat) : nI (k + 1) - 1 = nI k := by
  rw [← nI_1 (a := k)]
  simp
theorem nI_m1 (k : Nat) : nI (k + 1) + -1 = nI k := by
  rw [← nI_1 (a := k)]
  simp [Int32.add_assoc]
theorem by_v {a b r c : Int} (ha : 0 ≤ a ∧ a < 1000000000) (hb : 0 ≤ b ∧ b < 1000000000) (hr : 0 ≤ r ∧ r < 1000000000) (hc : 0 ≤ c ∧ c < 1000000000) : 0 ≤ a * b + r + c ∧ a * b + r + c < 1000000000000000000 := by
  have h1 := Int.mul_nonneg ha.1 hb.1
  have h2 : a * b ≤ 999999999 * 999999999 := Int.mul_le_mul (by omega) (by omega) hb.1 (by decide)
  omega
theorem by_64 {x y r : Int32} {l : Int64} (ha : 0 ≤ x.toInt ∧ x.toInt < 1000000000) (hb : 0 ≤ y.toInt ∧ y.toInt < 1000000000) (hr : 0 ≤ r.toInt ∧ r.toInt < 1000000000) (hc : 0 ≤ l.toInt ∧ l.toInt < 1000000000) : (Int32.toInt64 x * Int32.toInt64 y + Int32.toInt64 r + l).toInt = x.toInt * y.toInt + r.toInt + l.toInt := by
  have hv := by_v ha hb hr hc
  have h1 := Int.mul_nonneg ha.1 hb.1
  have e1 : (Int32.toInt64 x * Int32.toInt64 y).toInt = x.toInt * y.toInt := by
    rw [az_lmul (by rw [Int32.toInt_toInt64, Int32.toInt_toInt64]; omega) (by rw [Int32.toInt_toInt64, Int32.toInt_toInt64]; omega), Int32.toInt_toInt64, Int32.toInt_toInt64]
  have e2 : (Int32.toInt64 x * Int32.toInt64 y + Int32.toInt64 r).toInt = x.toInt * y.toInt + r.toInt := by
    rw [az_ladd (by rw [e1, Int32.toInt_toInt64]; omega) (by rw [e1, Int32.toInt_toInt64]; omega), e1, Int32.toInt_toInt64]
  rw [az_ladd (by rw [e2]; omega) (by rw [e2]; omega), e2]
section RE
variable {f M t : Nat} {σ : tz_S}
/-- leading zeros are left out, head and top are written -/
theorem r_byEnd {x y n m : Nat} {v w : Int} {Q : Int32 → tz_S → Prop} {σ1 : tz_S} (h : mSh σ M) (hv : nV (tz_A σ (M + 20)) x n v) (hw : nV (tz_A σ (M + 20)) y m w) (hx : x + n < t) (hy : y + m < t) (hn : n ≤ 400) (hm : m ≤ 400) (hb : t + n + m + 1 ≤ 527200) (hf : 2000 ≤ f) (hP : Pq M t (t + n + m + 1) σ σ1) (hd : ∀ k, k < n + m → 0 ≤ dI (tz_A σ1 (M + 20)) (t + 1 + k) ∧ dI (tz_A σ1 (M + 20)) (t + 1 + k) < 1000000000) (hval : mg (fun k => dI (tz_A σ1 (M + 20)) (t + 1 + k)) (n + m) = (v.natAbs : Int) * w.natAbs)
    (hQ : ∀ σ' k, k ≤ n + m → Pq M t (t + n + m + 1) σ σ' → tz_F σ' M 35 = nI (t + k + 1) → nV (tz_A σ' (M + 20)) t k (v * w) → Q (nI t) σ') : gp (X12_by_L176 f (some M) (nI x) (nI y) (nI t) (nI (n + m))) σ1 Q := by
  have h1 := mSh_fr h hP.1
  have hv1 := nV_pq hv hP (Or.inl hx)
  have hw1 := nV_pq hw hP (Or.inl hy)
  unfold X12_by_L176
  refine gp_loop (I := fun (τ : Int32) (σ' : tz_S) => ∃ u, τ = nI u ∧ u ≤ n + m ∧ σ' = σ1 ∧ ∀ k, u ≤ k → k < n + m → dI (tz_A σ1 (M + 20)) (t + 1 + k) = 0) (fun τ _ => τ.toNatClampNeg) ?_ f _ _ ⟨n + m, rfl, Nat.le_refl _, rfl, fun k a b => absurd b (by omega)⟩ (by rw [nI_clamp (by omega)]; omega)
  rintro K l6 σ2 ⟨u, rfl, hu, hσ, hz⟩ hK
  rw [hσ]
  clear hσ σ2
  show gp (X12_by_L176_body f (some M) (nI x) (nI y) (nI t) (fun l6 => K l6) (nI u)) σ1 _
  have fin : (0 < u → dI (tz_A σ1 (M + 20)) (t + 1 + (u - 1)) ≠ 0) → gp (X12_by_b199 f (some M) (nI x) (nI y) (nI t) (nI u)) σ1 Q := by
    intro htop
    have hmu : mg (fun k => dI (tz_A σ1 (M + 20)) (t + 1 + k)) u = (v.natAbs : Int) * w.natAbs := by
      rw [← hval]
      obtain ⟨d, hd2⟩ : ∃ d, n + m = u + d := ⟨n + m - u, by omega⟩
      rw [hd2]
      exact (mg_z (fun j h1 h2 => hz j h1 (by omega))).symm
    have hab : (((v * w).natAbs : Nat) : Int) = (v.natAbs : Int) * w.natAbs := by rw [Int.natAbs_mul]; exact Int.natCast_mul _ _
    have hu0 : u = 0 ↔ v * w = 0 := by
      constructor
      · intro q
        rw [q] at hmu
        have e0 : mg (fun k => dI (tz_A σ1 (M + 20)) (t + 1 + k)) 0 = 0 := rfl
        rw [e0, ← hab] at hmu
        omega
      · intro q
        by_cases q2 : u = 0
        · exact q2
        · have := mg_pos (d := fun k => dI (tz_A σ1 (M + 20)) (t + 1 + k)) (k := u) (fun j hj => (hd j (by omega)).1) (by omega) (htop (by omega))
          rw [hmu, ← hab, q] at this
          exact absurd this (by decide)
    unfold X12_by_b199 X12_by_b226
    refine gp_rR (mh_me h1) rfl ?_
    refine gp_cV (mh_me h1) (gp_mono (r_sgn h1 hv1 (by omega)) ?_)
    rintro _ σ0 ⟨z0, rfl⟩
    rw [z0]
    clear z0 σ0
    refine gp_cV (mh_me h1) (gp_mono (r_sgn h1 hw1 (by omega)) ?_)
    rintro _ σ0 ⟨z0, rfl⟩
    rw [z0]
    clear z0 σ0
    have hsg : (0 ≤ isg v * isg w) ↔ ¬ v * w < 0 := by
      rcases isg_cases v with a | a | a <;> rcases isg_cases w with b | b | b <;> rw [a.2, b.2]
      · have := Int.mul_pos a.1 b.1
        exact ⟨fun _ => by omega, fun _ => by decide⟩
      · have := Int.mul_neg_of_pos_of_neg a.1 b.1
        exact ⟨fun q => absurd q (by decide), fun q => absurd this q⟩
      · rw [b.1]; exact ⟨fun _ => by omega, fun _ => by decide⟩
      · have := Int.mul_neg_of_neg_of_pos a.1 b.1
        exact ⟨fun q => absurd q (by decide), fun q => absurd this q⟩
      · have := Int.mul_pos_of_neg_of_neg a.1 b.1
        exact ⟨fun _ => by omega, fun _ => by decide⟩
      · rw [b.1]; exact ⟨fun _ => by omega, fun _ => by decide⟩
      · rw [a.1]; exact ⟨fun _ => by omega, fun _ => by decide⟩
      · rw [a.1]; exact ⟨fun _ => by omega, fun _ => by decide⟩
      · rw [a.1]; exact ⟨fun _ => by omega, fun _ => by decide⟩
    refine gp_if (fun q => ?_) (fun q => ?_)
    · rw [hsg] at q
      obtain ⟨f1, f2, f3⟩ := r_head (s2 := nI u) (r := v * w) (hi := t + n + m + 1) h1 (fun j hj => hd j (by omega)) htop (by rw [hmu, hab]) (by rw [nI_toInt (by omega), if_neg q]) (by omega) (by omega)
      refine gp_ps (j := t) h1 (by omega) rfl ?_
      rw [nI_add, nI_1]
      have h3 : mSh (tz_sA σ1 (M + 20) t (nI u)) M := h1
      refine gp_wI (mh_me h3) rfl ?_
      exact gp_ret (hQ _ u hu (Pq_trans hP f1) f2 f3)
    · rw [hsg] at q
      obtain ⟨f1, f2, f3⟩ := r_head (s2 := -nI u) (r := v * w) (hi := t + n + m + 1) h1 (fun j hj => hd j (by omega)) htop (by rw [hmu, hab]) (by rw [az_ineg (by rw [nI_toInt (by omega)]; omega), nI_toInt (by omega), if_pos (by omega)]) (by omega) (by omega)
      refine gp_ps (j := t) h1 (by omega) rfl ?_
      rw [nI_add, nI_1]
      have h3 : mSh (tz_sA σ1 (M + 20) t (-nI u)) M := h1
      refine gp_wI (mh_me h3) rfl ?_
      exact gp_ret (hQ _ u hu (Pq_trans hP f1) f2 f3)
  unfold X12_by_L176_body
  refine gp_if (fun z => ?_) (fun z => ?_)
  · rw [show (0 : Int32) = nI 0 from rfl, nI_leI (by omega) (by omega)] at z
    exact fin (fun q => by omega)
  rw [show (0 : Int32) = nI 0 from rfl, nI_leI (by omega) (by omega)] at z
  obtain ⟨k, rfl⟩ : ∃ k, u = k + 1 := ⟨u - 1, by omega⟩
  refine gp_pl (j := t + (k + 1)) h1 (by omega) (nI_add t (k + 1)) ?_
  have ek : tz_A σ1 (M + 20) (t + (k + 1)) = tz_A σ1 (M + 20) (t + 1 + k) := by rw [show t + (k + 1) = t + 1 + k by omega]
  rw [ek]
  refine gp_if (fun q => ?_) (fun q => ?_)
  · refine gp_let ?_
    rw [nI_m1]
    refine hK _ _ ⟨k, rfl, by omega, rfl, fun j a b => ?_⟩ (by rw [nI_clamp (by omega), nI_clamp (by omega)]; omega)
    by_cases e : j = k
    · rw [e]; show (tz_A σ1 (M + 20) (t + 1 + k)).toInt = 0; rw [q]; rfl
    · exact hz j (by omega) b
  · refine fin (fun _ => ?_)
    rw [show k + 1 - 1 = k by omega]
    exact fun q2 => q (az_iz.1 q2)
set_option maxHeartbeats 1000000 in
theorem r_by {x y n m : Nat} {v w : Int} (h : mSh σ M) (ht : tz_F σ M 35 = nI t) (hv : nV (tz_A σ (M + 20)) x n v) (hw : nV (tz_A σ (M + 20)) y m w) (hx : x + n < t) (hy : y + m < t) (hn : n ≤ 400) (hm : m ≤ 400) (hb : t + n + m + 1 ≤ 527200) (hf : 2000 ≤ f) :
    gp (X12_by f (some M) (nI x) (nI y)) σ (fun z σ' => z = nI t ∧ Pq M t (t + n + m + 1) σ σ' ∧ ∃ k, k ≤ n + m ∧ tz_F σ' M 35 = nI (t + k + 1) ∧ nV (tz_A σ' (M + 20)) t k (v * w)) := by
  unfold X12_by
  refine gp_rI (mh_me h) rfl ?_
  rw [ht]
  refine gp_cV (mh_me h) (gp_mono (r_limbs h hv (by omega)) ?_)
  rintro _ σ0 ⟨z0, rfl⟩
  rw [z0]
  clear z0 σ0
  refine gp_cV (mh_me h) (gp_mono (r_limbs h hw (by omega)) ?_)
  rintro _ σ0 ⟨z0, rfl⟩
  rw [z0]
  clear z0 σ0
  unfold X12_by_L22
  refine gp_loop (I := fun (τ : Int32) (σ' : tz_S) => ∃ k, τ = nI k ∧ k ≤ n + m + 1 ∧ Pq M t (t + n + m + 1) σ σ' ∧ tz_F σ' M 35 = nI t ∧ ∀ j, j < k → tz_A σ' (M + 20) (t + j) = 0) (fun τ _ => 1100 - τ.toNatClampNeg) ?_ f _ _ ⟨0, rfl, Nat.zero_le _, Pq_refl, ht, fun j hj => absurd hj (Nat.not_lt_zero _)⟩ (by omega)
  rintro K l6 σ1 ⟨k, rfl, hk, hP, h35, hz⟩ hK
  show gp (X12_by_L22_body f (some M) (nI x) (nI y) (nI t) (nI n) (nI m) (fun l6 => K l6) (nI k)) σ1 _
  unfold X12_by_L22_body
  have h1 := mSh_fr h hP.1
  rw [nI_add]
  refine gp_if (fun z => ?_) (fun z => ?_)
  rotate_left
  · rw [nI_ltI (by omega) (by omega)] at z
    refine gp_rR (mh_me h1) rfl ?_
    refine gp_ps (j := t + k) h1 (by omega) (nI_add t k) ?_
    refine gp_let ?_
    rw [nI_1]
    refine hK _ _ ⟨k + 1, rfl, by omega, Pq_trans hP (Pq_cell (by omega) (by omega)), h35, fun j hj => ?_⟩ (by rw [nI_clamp (by omega), nI_clamp (by omega)]; omega)
    show tz_u2 (tz_A σ1) (M + 20) (t + k) 0 (M + 20) (t + j) = 0
    by_cases e : j = k
    · rw [e, tz_u2_same]
    · rw [tz_u2_ne _ _ (Or.inr (by omega))]; exact hz j (by omega)
  rw [nI_ltI (by omega) (by omega)] at z
  have hJ0 : byJ σ M t n m (fun j => dI (tz_A σ (M + 20)) (x + 1 + j)) (fun j => dI (tz_A σ (M + 20)) (y + 1 + j)) 0 0 0 σ1 := by
    have e0 : ∀ j, j < n + m → dI (tz_A σ1 (M + 20)) (t + 1 + j) = 0 := fun j hj => by
      show (tz_A σ1 (M + 20) (t + 1 + j)).toInt = 0
      rw [show t + 1 + j = t + (1 + j) by omega, hz (1 + j) (by omega)]; rfl
    refine ⟨hP, h35, fun j hj => by rw [e0 j hj]; decide, fun j _ hj => e0 j hj, by decide, ?_⟩
    rw [mg_congr (e := fun _ => 0) (fun j hj => e0 j (by omega)), mg_zero]
    show 0 + 0 * _ = 0 * _ + _ * (_ * 0)
    rw [Int.mul_zero, Int.mul_zero, Int.zero_mul, Int.zero_mul]
  clear hK hz hP h35 z hk K
  have v2 := hv.2.1
  have w2 := hw.2.1
  have v4 := hv.2.2.2.1
  have w4 := hw.2.2.2.1
  unfold X12_by_L51
  refine gp_loop (I := fun (τ : Int32) (σ' : tz_S) => ∃ i, τ = nI (i + 1) ∧ i ≤ n ∧ byJ σ M t n m (fun j => dI (tz_A σ (M + 20)) (x + 1 + j)) (fun j => dI (tz_A σ (M + 20)) (y + 1 + j)) i 0 0 σ') (fun τ _ => 1100 - τ.toNatClampNeg) ?_ f _ _ ⟨0, rfl, Nat.zero_le _, hJ0⟩ (by omega)
  clear hJ0 h1 σ1 k
  rintro K l6 σ1 ⟨i, rfl, hi, hJ⟩ hK
  show gp (X12_by_L51_body f (some M) (nI x) (nI y) (nI t) (nI n) (nI m) (fun l6 => K l6) (nI (i + 1))) σ1 _
  unfold X12_by_L51_body
  refine gp_if (fun z => ?_) (fun z => ?_)
  · rw [nI_ltI (by omega) (by omega)] at z
    have hin : i = n := by omega
    subst hin
    obtain ⟨hP, -, hd, -, -, hval⟩ := hJ
    refine gp_let ?_
    rw [nI_add]
    refine r_byEnd h hv hw hx hy hn hm hb hf hP hd ?_ (fun σ' k a1 a2 a3 a4 => ⟨rfl, a2, k, a1, a3, a4⟩)
    rw [Int.zero_mul, Int.add_zero] at hval
    rw [hval, v4, w4]
    show _ + _ * (_ * 0) = _
    rw [Int.mul_zero, Int.mul_zero, Int.add_zero]
  rw [nI_ltI (by omega) (by omega)] at z
  have hin : i < n := by omega
  unfold X12_by_L64
  refine gp_loop (I := fun (τ : Int64 × Int32) (σ' : tz_S) => ∃ j, τ.2 = nI (j + 1) ∧ j ≤ m ∧ byJ σ M t n m (fun j => dI (tz_A σ (M + 20)) (x + 1 + j)) (fun j => dI (tz_A σ (M + 20)) (y + 1 + j)) i j τ.1.toInt σ') (fun τ _ => 1100 - τ.2.toNatClampNeg) ?_ f _ _ ⟨0, rfl, Nat.zero_le _, hJ⟩ (by omega)
  clear hJ σ1
  rintro K2 ⟨l7, l9⟩ σ1 ⟨j, h9, hj, hJ⟩ hK2
  simp only at h9 hJ
  subst h9
  show gp (X12_by_L64_body f (fun l6 => K l6) (some M) (nI x) (nI y) (nI t) (nI n) (nI m) (nI (i + 1)) (fun l7 l9 => K2 (l7, l9)) l7 (nI (j + 1))) σ1 _
  unfold X12_by_L64_body
  obtain ⟨hP, h35, hd, -, hc, -⟩ := id hJ
  have h1 := mSh_fr h hP.1
  refine gp_if (fun q => ?_) (fun q => ?_)
  · rw [nI_ltI (by omega) (by omega)] at q
    have hjm : j = m := by omega
    subst hjm
    refine gp_rR (mh_me h1) rfl ?_
    have hrow := by_row (d := Int64.toInt32 l7) hJ hin (az_l2i (by omega) (by omega))
    rw [nI_add, nI_add]
    refine gp_ps (j := t + 1 + (i + j)) h1 (by omega) (by rw [show t + (i + 1) + j = t + 1 + (i + j) by omega]) ?_
    refine gp_let ?_
    rw [nI_1]
    exact hK _ _ ⟨i + 1, rfl, by omega, hrow⟩ (by rw [nI_clamp (by omega), nI_clamp (by omega)]; omega)
  rw [nI_ltI (by omega) (by omega)] at q
  have hjm : j < m := by omega
  have ex : tz_A σ1 (M + 20) (x + (i + 1)) = tz_A σ (M + 20) (x + 1 + i) := by rw [hP.2.2 _ (by omega), show x + (i + 1) = x + 1 + i by omega]
  have ey : tz_A σ1 (M + 20) (y + (j + 1)) = tz_A σ (M + 20) (y + 1 + j) := by rw [hP.2.2 _ (by omega), show y + (j + 1) = y + 1 + j by omega]
  refine gp_pl (j := x + (i + 1)) h1 (by omega) (nI_add x (i + 1)) ?_
  rw [ex]
  refine gp_pl (j := y + (j + 1)) h1 (by omega) (nI_add y (j + 1)) ?_
  rw [ey]
  have eidx : nI t + nI (i + 1) + nI (j + 1) - 1 = nI (t + 1 + (i + j)) := by
    rw [nI_add, nI_add, show t + (i + 1) + (j + 1) = t + 1 + (i + j) + 1 by omega, nI_p1]
  rw [eidx]
  refine gp_pl (j := t + 1 + (i + j)) h1 (by omega) rfl ?_
  refine gp_let ?_
  have bx := v2 i hin
  have bY := w2 j hjm
  have br := hd (i + j) (by omega)
  have e64 := by_64 (x := tz_A σ (M + 20) (x + 1 + i)) (y := tz_A σ (M + 20) (y + 1 + j)) (r := tz_A σ1 (M + 20) (t + 1 + (i + j))) (l := l7) bx bY br hc
  have hrn := by_v bx bY br hc
  generalize Int32.toInt64 (tz_A σ (M + 20) (x + 1 + i)) * Int32.toInt64 (tz_A σ (M + 20) (y + 1 + j)) + Int32.toInt64 (tz_A σ1 (M + 20) (t + 1 + (i + j))) + l7 = L at *
  obtain ⟨qq, r, e1, e2, e3, e4, e5, e6, e7⟩ := az_lB L
  have hL : 0 ≤ L.toInt ∧ L.toInt < 1000000000000000000 := by rw [e64]; exact hrn
  obtain ⟨e6, e8⟩ := e6 hL.1
  refine gp_dvL az_B0 ?_
  refine gp_rR (mh_me h1) rfl ?_
  refine gp_rmL az_B0 ?_
  have er : (Int64.toInt32 (L - L / 1000000000 * 1000000000)).toInt = r := by rw [az_l2i (by rw [e2]; omega) (by rw [e2]; omega), e2]
  generalize L - L / 1000000000 * 1000000000 = Lr at *
  generalize L / 1000000000 = Lq at *
  have hput := by_put (d := Lr.toInt32) (c2 := Lq.toInt) hJ hin hjm (by rw [er, e1]; show r = (tz_A σ (M + 20) (x + 1 + i)).toInt * (tz_A σ (M + 20) (y + 1 + j)).toInt + (tz_A σ1 (M + 20) (t + 1 + (i + j))).toInt + l7.toInt - qq * 1000000000; rw [← e64, e3]; omega) (by rw [er]; exact e6) (by rw [er]; exact e5) (by rw [e1]; omega)
  clear hJ hd bx bY br e64 hrn e3 hL
  refine gp_ps (j := t + 1 + (i + j)) h1 (by omega) rfl ?_
  refine gp_let ?_
  rw [nI_1]
  exact hK2 (Lq, nI (j + 1 + 1)) _ ⟨j + 1, rfl, by omega, hput⟩ (by show 1100 - (nI (j + 1 + 1)).toNatClampNeg < 1100 - (nI (j + 1)).toNatClampNeg; rw [nI_clamp (by omega), nI_clamp (by omega)]; omega)
end RE
