/-! ===== the reference: isGoodLeaf ===== -/
def allF (P : Nat → Bool) (i : Nat) : Bool := decide (fst1 P i = none)
def bI (b : Bool) : Int32 := if b = true then 1 else 0
theorem allF_iff {P : Nat → Bool} {i : Nat} : allF P i = true ↔ ∀ p, p < i → P p = false := by
  unfold allF
  rw [decide_eq_true_iff]
  exact ⟨fst1_noneI, fst1_none⟩
theorem allF_s {P : Nat → Bool} {i : Nat} : allF P (i + 1) = (allF P i && !P i) := by
  rw [Bool.eq_iff_iff, Bool.and_eq_true, allF_iff, allF_iff]
  constructor
  · intro h
    exact ⟨fun p hp => h p (by omega), by rw [h i (by omega)]; rfl⟩
  · rintro ⟨h1, h2⟩ p hp
    by_cases e : p = i
    · rw [e]; simpa using h2
    · exact h1 p (by omega)
theorem allF_m {P : Nat → Bool} {i n : Nat} (hi : i ≤ n) (h : allF P i = false) : allF P n = false := by
  rw [Bool.eq_false_iff] at h ⊢
  intro h2
  rw [allF_iff] at h2
  exact h (allF_iff.2 (fun p hp => h2 p (by omega)))
theorem allF_0 {P : Nat → Bool} : allF P 0 = true := allF_iff.2 (fun p hp => absurd hp (Nat.not_lt_zero _))
section TT
variable {f M n m k lf t : Nat} {σ σ1 : tz_S} {A : Nat → Nat → Int} {kd : Nat → Nat} {bb dr : Nat → Int} {wh : Nat → Bool} {mp g : Nat → Int × Int} {ga ub lb : Nat → Option Int}
set_option maxRecDepth 20000 in
set_option maxHeartbeats 2000000 in
theorem r_gl164 (g0 : Bool) (hS : glS n m A kd bb dr k lf mp g) (hC : glC σ M n m A kd bb wh dr k lf g ga t) (hga : ∀ x, x < 10 → ga (2 * x) = ub x ∧ ga (2 * x + 1) = lb x) (hb : ∀ x v, x < n → (ub x = some v ∨ lb x = some v) → -1000000000000000001 ≤ v ∧ v ≤ 1000000000000000001) (hf : 20000 ≤ f) :
    gp (X12_isGoodLeaf_L164 f (some M) (nI k) (bI g0) 0) σ (fun y σ' => Tq M t σ σ' ∧ y = bI (g0 && (allF (cvB m A mp) n && decide (sgT 32 (bzW n m bb ub lb) mp 0 = -1)))) := by
  have hn := hS.1.1.1
  unfold X12_isGoodLeaf_L164
  refine gp_loop (I := fun (τ : Int32 × Int32) (σ' : tz_S) => ∃ i, τ = (bI (g0 && allF (cvB m A mp) i), nI i) ∧ i ≤ n ∧ Tq M t σ σ' ∧ tz_F σ' M 35 = nI t) (fun τ _ => 100 - τ.2.toNatClampNeg) ?_ f _ _ ⟨0, by rw [allF_0, Bool.and_true]; rfl, Nat.zero_le _, Tq_refl, hC.2.1⟩ (by omega)
  rintro Kx ⟨l2, l3⟩ σ2 ⟨i, e0, hi, q2, h352⟩ hKx
  obtain ⟨rfl, rfl⟩ := Prod.mk.inj e0
  clear e0
  show gp (X12_isGoodLeaf_L164_body f (some M) (nI k) (fun l2 l3 => Kx (l2, l3)) (bI (g0 && allF (cvB m A mp) i)) (nI i)) σ2 _
  have hC2 := glC_tq hC q2 h352
  obtain ⟨h2, -, ht, hw2, -⟩ := id hC2
  have stop : (g0 && allF (cvB m A mp) i) = false → gp (X12_isGoodLeaf_b285 f (some M) (nI k) 0) σ2 (fun y σ' => Tq M t σ σ' ∧ y = bI (g0 && (allF (cvB m A mp) n && decide (sgT 32 (bzW n m bb ub lb) mp 0 = -1)))) := fun hb0 => by
    unfold X12_isGoodLeaf_b285
    refine gp_t rfl (gp_zz (Or.inl rfl) (gp_ret ⟨q2, ?_⟩))
    cases g0 with
    | false => rfl
    | true =>
      rw [Bool.true_and] at hb0
      rw [allF_m hi hb0]
      rfl
  unfold X12_isGoodLeaf_L164_body
  refine gp_rI (mh_me h2) rfl ?_
  rw [hw2.1.1]
  refine gp_if (fun z => ?_) (fun z => ?_)
  · rw [nI_leI (by omega) (by omega)] at z
    have hin : i = n := by omega
    subst hin
    cases hg : (g0 && allF (cvB m A mp) i) with
    | false => exact stop hg
    | true =>
      refine gp_mono (r_gl285 hS hC2 hga hb hf) ?_
      rintro y σ3 ⟨q3, hy⟩
      refine ⟨Tq_trans q2 q3, ?_⟩
      rw [← Bool.and_assoc, hg, Bool.true_and, hy]
      by_cases e : sgT 32 (bzW i m bb ub lb) mp 0 = -1
      · rw [if_pos e, decide_eq_true e]; rfl
      · rw [if_neg e, decide_eq_false e]; rfl
  rw [nI_leI (by omega) (by omega)] at z
  cases hg : (g0 && allF (cvB m A mp) i) with
  | false => exact gp_t rfl (stop hg)
  | true =>
    refine gp_f (by decide) ?_
    refine gp_rI (mh_me h2) rfl ?_
    rw [h352]
    refine gp_cV (mh_me h2) (gp_mono (r_beginSum h2 h352 (by omega) (by omega)) ?_)
    rintro _ σ3 ⟨q3, t1, ht1, ht1b, hs1⟩
    refine r_gl189 hS hC2 (by omega) q3 hs1 ht1 ht1b hf (fun σ4 q4 h354 => ?_)
    refine hKx (_, nI (i + 1)) σ4 ⟨i + 1, ?_, by omega, Tq_trans q2 q4, h354⟩ (by show 100 - (nI (i + 1)).toNatClampNeg < 100 - (nI i).toNatClampNeg; rw [nI_clamp (by omega), nI_clamp (by omega)]; omega)
    rw [allF_s, ← Bool.and_assoc, hg, Bool.true_and]
    cases cvB m A mp i <;> rfl
theorem isg_mv {x y : Int × Int} (h : mvI x y) : isg y.1 = isg x.1 := by
  obtain ⟨v1, v2, v3, -⟩ := h
  rw [← isg_rd2 v2, ← isg_rd2 (v := x.1) v1, rd_same v2 v1 v3.symm]
theorem r_signOf {j : Nat} {jn : Int32} (hS : glS n m A kd bb dr k lf mp g) (hC : glC σ M n m A kd bb wh dr k lf g ga t) (hj : j < 32) (hjn : jn = nI j) : gp (X12_signOf f (some M) (nI k) jn) σ (fun y σ' => σ' = σ ∧ y = isg (mp j).1) := by
  subst hjn
  obtain ⟨hr, hk, hlf, hI⟩ := hS
  obtain ⟨hc, h35, ht, hw, ⟨c1, c2⟩, hR⟩ := hC
  obtain ⟨⟨n1, a1, a2, a3⟩, -⟩ := c2 j hj
  unfold X12_signOf X12_multiplierAt
  refine gp_rR (mh_me hc) rfl ?_
  refine gp_aI (j := k) (mh_15 hc) (by decide) (by omega) (by omega) rfl ?_
  rw [c1]
  refine gp_cB (gp_ret ?_)
  rw [show (116056 : Int32) + 16 * (2 * (32 * nI lf + nI j) + 0) = nI (116056 + 16 * (2 * (32 * lf + j))) from at_m lf j 0]
  refine gp_cV (mh_me hc) (gp_mono (r_sgn hc a1 (Nat.lt_of_le_of_lt (Nat.le_add_right _ n1) (Nat.lt_trans a2 (by decide)))) ?_)
  rintro y σ0 ⟨z0, hy⟩
  rw [z0, hy]
  exact gp_ret ⟨rfl, isg_mv (hI.1 j hj)⟩
set_option maxHeartbeats 2000000 in
theorem r_gl72 (g0 : Bool) (hS : glS n m A kd bb dr k lf mp g) (hC : glC σ M n m A kd bb wh dr k lf g ga t) (hga : ∀ x, x < 10 → ga (2 * x) = ub x ∧ ga (2 * x + 1) = lb x) (hb : ∀ x v, x < n → (ub x = some v ∨ lb x = some v) → -1000000000000000001 ≤ v ∧ v ≤ 1000000000000000001) (hf : 20000 ≤ f) :
    gp (X12_isGoodLeaf_L72 f (some M) (nI k) (bI g0) 0) σ (fun y σ' => Tq M t σ σ' ∧ y = bI ((g0 && allF (rsV ub lb mp) n) && (allF (cvB m A mp) n && decide (sgT 32 (bzW n m bb ub lb) mp 0 = -1)))) := by
  have hn := hS.1.1.1
  obtain ⟨hc, h35, ht, hw, hL, hR⟩ := id hC
  unfold X12_isGoodLeaf_L72
  refine gp_loop (I := fun (τ : Int32 × Int32) (σ' : tz_S) => σ' = σ ∧ ∃ i, τ = (bI (g0 && allF (rsV ub lb mp) i), nI i) ∧ i ≤ n) (fun τ _ => 100 - τ.2.toNatClampNeg) ?_ f _ _ ⟨rfl, 0, by rw [allF_0, Bool.and_true]; rfl, Nat.zero_le _⟩ (by omega)
  rintro Kx ⟨l2, l3⟩ σ2 ⟨rfl, i, e0, hi⟩ hKx
  obtain ⟨rfl, rfl⟩ := Prod.mk.inj e0
  clear e0
  show gp (X12_isGoodLeaf_L72_body f (some M) (nI k) (fun l2 l3 => Kx (l2, l3)) (bI (g0 && allF (rsV ub lb mp) i)) (nI i)) σ2 _
  unfold X12_isGoodLeaf_L72_body
  refine gp_rI (mh_me hc) rfl ?_
  rw [hw.1.1]
  refine gp_if (fun z => ?_) (fun z => ?_)
  · rw [nI_leI (by omega) (by omega)] at z
    have hin : i = n := by omega
    subst hin
    exact r_gl164 _ hS hC hga hb hf
  rw [nI_leI (by omega) (by omega)] at z
  refine gp_cV (mh_me hc) (gp_mono (r_signOf (j := 12 + i) hS hC (by omega) (by rw [show (12 : Int32) = nI 12 from rfl, nI_add])) ?_)
  rintro _ σ0 ⟨z0, rfl⟩
  rw [z0]
  clear z0 σ0
  refine gp_cV (mh_me hc) (gp_mono (r_signOf (j := 22 + i) hS hC (by omega) (by rw [show (22 : Int32) = nI 22 from rfl, nI_add])) ?_)
  rintro _ σ0 ⟨z0, rfl⟩
  rw [z0]
  clear z0 σ0
  have fin : ∀ s0 : Int32, s0 = bI ((g0 && allF (rsV ub lb mp) i) && !rsV ub lb mp i) → gp (X12_isGoodLeaf_b155 f (fun l2 l3 => Kx (l2, l3)) (some M) (nI k) (nI i) s0) σ2 (fun y σ' => Tq M t σ2 σ' ∧ y = bI ((g0 && allF (rsV ub lb mp) n) && (allF (cvB m A mp) n && decide (sgT 32 (bzW n m bb ub lb) mp 0 = -1)))) := fun s0 e => by
    unfold X12_isGoodLeaf_b155
    refine gp_let ?_
    rw [nI_1]
    refine hKx (s0, nI (i + 1)) σ2 ⟨rfl, i + 1, ?_, by omega⟩ (by show 100 - (nI (i + 1)).toNatClampNeg < 100 - (nI i).toNatClampNeg; rw [nI_clamp (by omega), nI_clamp (by omega)]; omega)
    rw [allF_s, ← Bool.and_assoc, ← e]
  clear hKx
  unfold X12_isGoodLeaf_b132 X12_isGoodLeaf_b154 X12_isGoodLeaf_b150
  obtain ⟨g1, g2⟩ := hga i (by omega)
  have r1 := (hR (2 * i) (by omega)).1
  have r2 := (hR (2 * i + 1) (by omega)).1
  rw [g1] at r1
  rw [g2] at r2
  have x12 : (2 : Int32) * nI i = nI (2 * i) := by rw [show (2 : Int32) = nI 2 from rfl, nI_mul]
  cases hg : (g0 && allF (rsV ub lb mp) i) with
  | false => exact gp_t rfl (fin 0 (by rw [hg]; rfl))
  | true =>
    rw [hg, Bool.true_and] at fin
    have hrs : rsV ub lb mp i = ((decide ((mp (12 + i)).1 < 0) || (decide (0 < (mp (12 + i)).1) && decide (ub i = none))) || (decide (0 < (mp (22 + i)).1) || (decide ((mp (22 + i)).1 < 0) && decide (lb i = none)))) := rfl
    rw [hrs] at fin
    clear hrs
    generalize (mp (12 + i)).1 = u at *
    generalize (mp (22 + i)).1 = l at *
    refine gp_f (by decide) ?_
    refine gp_if (fun z1 => ?_) (fun z1 => ?_)
    · rw [isg_n.1] at z1
      exact fin 0 (by rw [decide_eq_true z1]; rfl)
    rw [isg_n.1] at z1
    refine gp_if (fun z2 => ?_) (fun z2 => ?_)
    · rw [isg_n.2.2.1] at z2
      exact fin 0 (by rw [decide_eq_true z2]; simp [bI])
    rw [isg_n.2.2.1] at z2
    rw [decide_eq_false z1, decide_eq_false z2, Bool.false_or, Bool.false_or] at fin
    have second : (decide (0 < u) && decide (ub i = none)) = false → gp (pz_gB (pz_rR 12 32 (some M)) fun x46 => pz_gB (pz_aI 1 x46 ((2 * nI i) + 1)) fun x47 => pz_if (x47 = 0) (pz_if (isg l = 0) (X12_isGoodLeaf_b155 f (fun l2 l3 => Kx (l2, l3)) (some M) (nI k) (nI i) 1) <| X12_isGoodLeaf_b155 f (fun l2 l3 => Kx (l2, l3)) (some M) (nI k) (nI i) 0) <| X12_isGoodLeaf_b155 f (fun l2 l3 => Kx (l2, l3)) (some M) (nI k) (nI i) 1) σ2 (fun y σ' => Tq M t σ2 σ' ∧ y = bI ((g0 && allF (rsV ub lb mp) n) && (allF (cvB m A mp) n && decide (sgT 32 (bzW n m bb ub lb) mp 0 = -1)))) := fun hf1 => by
      rw [hf1, Bool.false_or] at fin
      refine gp_rR (mh_me hc) rfl ?_
      refine gp_aI (j := 2 * i + 1) (mh_18 hc) (by decide) (by omega) (by omega) (by rw [x12, nI_1]) ?_
      rw [r2]
      by_cases hl : lb i = none
      · rw [if_pos hl]
        refine gp_t rfl ?_
        rw [decide_eq_true hl, Bool.and_true] at fin
        refine gp_if (fun z3 => ?_) (fun z3 => ?_)
        · rw [isg_0] at z3
          exact fin 1 (by rw [decide_eq_false (show ¬ l < 0 by omega)]; rfl)
        · rw [isg_0] at z3
          exact fin 0 (by rw [decide_eq_true (show l < 0 by omega)]; rfl)
      · rw [if_neg hl]
        refine gp_f (by decide) ?_
        exact fin 1 (by rw [decide_eq_false hl, Bool.and_false]; rfl)
    refine gp_rR (mh_me hc) rfl ?_
    refine gp_aI (j := 2 * i) (mh_18 hc) (by decide) (by omega) (by omega) x12 ?_
    rw [r1]
    by_cases hu : ub i = none
    · rw [if_pos hu]
      refine gp_t rfl ?_
      refine gp_if (fun z3 => ?_) (fun z3 => ?_)
      · rw [isg_0] at z3
        exact second (by rw [decide_eq_false (show ¬ 0 < u by omega)]; rfl)
      · rw [isg_0] at z3
        exact fin 0 (by rw [decide_eq_true (show 0 < u by omega), decide_eq_true hu]; rfl)
    · rw [if_neg hu]
      refine gp_f (by decide) ?_
      exact second (by rw [decide_eq_false hu, Bool.and_false])
set_option maxHeartbeats 2000000 in
theorem r_gl9 (hS : glS n m A kd bb dr k lf mp g) (hC : glC σ M n m A kd bb wh dr k lf g ga t) (hga : ∀ x, x < 10 → ga (2 * x) = ub x ∧ ga (2 * x + 1) = lb x) (hb : ∀ x v, x < n → (ub x = some v ∨ lb x = some v) → -1000000000000000001 ≤ v ∧ v ≤ 1000000000000000001) (hf : 20000 ≤ f) :
    gp (X12_isGoodLeaf_L9 f (some M) (nI k) 1 0) σ (fun y σ' => Tq M t σ σ' ∧ y = bI (gdL n m A kd bb ub lb mp)) := by
  have hgd : gdL n m A kd bb ub lb mp = ((allF (rsR kd mp) m && allF (rsV ub lb mp) n) && (allF (cvB m A mp) n && decide (sgT 32 (bzW n m bb ub lb) mp 0 = -1))) := by
    unfold gdL allF
    rw [Bool.decide_and]
  rw [hgd]
  clear hgd
  have hm := hS.1.1.2
  obtain ⟨hc, h35, ht, hw, hL, hR⟩ := id hC
  unfold X12_isGoodLeaf_L9
  refine gp_loop (I := fun (τ : Int32 × Int32) (σ' : tz_S) => σ' = σ ∧ ∃ i, τ = (bI (allF (rsR kd mp) i), nI i) ∧ i ≤ m) (fun τ _ => 100 - τ.2.toNatClampNeg) ?_ f _ _ ⟨rfl, 0, by rw [allF_0]; rfl, Nat.zero_le _⟩ (by omega)
  rintro Kx ⟨l2, l3⟩ σ2 ⟨rfl, i, e0, hi⟩ hKx
  obtain ⟨rfl, rfl⟩ := Prod.mk.inj e0
  clear e0
  show gp (X12_isGoodLeaf_L9_body f (some M) (nI k) (fun l2 l3 => Kx (l2, l3)) (bI (allF (rsR kd mp) i)) (nI i)) σ2 _
  unfold X12_isGoodLeaf_L9_body
  refine gp_rI (mh_me hc) rfl ?_
  rw [hw.1.2.1]
  refine gp_if (fun z => ?_) (fun z => ?_)
  · rw [nI_leI (by omega) (by omega)] at z
    have hin : i = m := by omega
    subst hin
    exact r_gl72 _ hS hC hga hb hf
  rw [nI_leI (by omega) (by omega)] at z
  have him : i < m := by omega
  refine gp_cV (mh_me hc) (gp_mono (r_signOf (j := i) hS hC (by omega) rfl) ?_)
  rintro _ σ0 ⟨z0, rfl⟩
  rw [z0]
  clear z0 σ0
  have fin : ∀ s0 : Int32, s0 = bI (allF (rsR kd mp) i && !rsR kd mp i) → gp (X12_isGoodLeaf_b63 f (fun l2 l3 => Kx (l2, l3)) (some M) (nI k) (nI i) s0) σ2 (fun y σ' => Tq M t σ2 σ' ∧ y = bI ((allF (rsR kd mp) m && allF (rsV ub lb mp) n) && (allF (cvB m A mp) n && decide (sgT 32 (bzW n m bb ub lb) mp 0 = -1)))) := fun s0 e => by
    unfold X12_isGoodLeaf_b63
    refine gp_let ?_
    rw [nI_1]
    refine hKx (s0, nI (i + 1)) σ2 ⟨rfl, i + 1, ?_, by omega⟩ (by show 100 - (nI (i + 1)).toNatClampNeg < 100 - (nI i).toNatClampNeg; rw [nI_clamp (by omega), nI_clamp (by omega)]; omega)
    rw [allF_s, ← e]
  clear hKx
  unfold X12_isGoodLeaf_b43 X12_isGoodLeaf_b62 X12_isGoodLeaf_b58
  obtain ⟨k1, k2⟩ := hw.2.2.1 i him
  cases hg : allF (rsR kd mp) i with
  | false => exact gp_t rfl (fin 0 (by rw [hg]; rfl))
  | true =>
    rw [hg, Bool.true_and] at fin
    have hrs : rsR kd mp i = ((decide ((mp i).1 < 0) && decide (kd i = 0)) || (decide (0 < (mp i).1) && decide (kd i = 1))) := rfl
    rw [hrs] at fin
    clear hrs
    have rk : ∀ Kc : Int32 → pz_C Int32, gp (Kc (nI (kd i))) σ2 (fun y σ' => Tq M t σ2 σ' ∧ y = bI ((allF (rsR kd mp) m && allF (rsV ub lb mp) n) && (allF (cvB m A mp) n && decide (sgT 32 (bzW n m bb ub lb) mp 0 = -1)))) → gp (pz_gB (pz_rR 12 3 (some M)) fun x52 => pz_gB (pz_aI 0 x52 (nI i)) Kc) σ2 (fun y σ' => Tq M t σ2 σ' ∧ y = bI ((allF (rsR kd mp) m && allF (rsV ub lb mp) n) && (allF (cvB m A mp) n && decide (sgT 32 (bzW n m bb ub lb) mp 0 = -1)))) := fun Kc hKc => by
      refine gp_rR (mh_me hc) rfl ?_
      refine gp_aI (j := i) (mh_2 hc) (by decide) (by omega) (by omega) rfl ?_
      rw [k1]; exact hKc
    have hkd : kd i = 0 ∨ kd i = 1 ∨ kd i = 2 := by omega
    generalize (mp i).1 = u at *
    refine gp_f (by decide) ?_
    refine rk _ ?_
    rcases hkd with h | h | h
    · rw [h] at fin rk ⊢
      refine gp_t rfl ?_
      refine gp_if (fun z1 => ?_) (fun z1 => ?_)
      · rw [isg_n.1] at z1
        exact fin 0 (by rw [decide_eq_true z1]; rfl)
      · rw [isg_n.1] at z1
        refine rk _ (gp_f (by decide) (fin 1 ?_))
        rw [decide_eq_false z1]
        simp [bI]
    · rw [h] at fin rk ⊢
      refine gp_f (by decide) (rk _ (gp_t rfl ?_))
      refine gp_if (fun z1 => ?_) (fun z1 => ?_)
      · rw [isg_n.2.2.1] at z1
        exact fin 0 (by rw [decide_eq_true z1]; simp [bI])
      · rw [isg_n.2.2.1] at z1
        exact fin 1 (by rw [decide_eq_false z1]; simp [bI])
    · rw [h] at fin rk ⊢
      refine gp_f (by decide) (rk _ (gp_f (by decide) (fin 1 ?_)))
      simp [bI]
end TT
