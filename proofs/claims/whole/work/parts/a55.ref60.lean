/-! ===== the reference: cut, node ===== -/
section TI
variable {f M n m K lc st sp ex cf spl : Nat} {σ σ1 : tz_S} {A T : Nat → Nat → Int} {kd : Nat → Nat} {bb dr : Nat → Int} {wh : Nat → Bool} {D : Int} {va : Nat → Int} {bs cl : Nat → Nat} {up fi se : Nat → Option Nat} {vr : Nat → Nat} {fo to to2 : Nat → Int} {cd : Nat → Bool} {ln : Nat → Nat} {op : Option Nat} {mp mq mp2 mq2 : Nat → Nat → Int × Int} {wp wq : Nat → Int × Int} {hd : Int × Int} {ah : Bool}
theorem cut_al (a d p g : Int) : (a * 1000000000 + d) * p + g = a * (p * 1000000000) + (g + d * p) := by grind
set_option maxHeartbeats 1000000 in
theorem r_cut {x k : Nat} {v : Int} (hc : mSh σ M) (hv : nV (tz_A σ (M + 20)) x k v) (hx : x + k + 3 < 527200) (hf : 2000 ≤ f) : gp (X12_cut f (some M) (nI x)) σ (fun y σ' => σ' = σ ∧ y = Int32.ofInt (cut2 v)) := by
  have hk0 := nV_0 hv
  have hv2 := hv
  obtain ⟨v1, v2, v3, v4, v5⟩ := hv2
  have hsg : 0 ≤ tz_A σ (M + 20) x ↔ 0 ≤ v := by
    rw [Int32.le_iff_toInt_le, v1]
    have e0 : (0 : Int32).toInt = 0 := rfl
    by_cases w : v < 0
    · rw [if_pos w]; omega
    · rw [if_neg w]; omega
  have big : 2000000000 < v.natAbs → gp (X12_cut_b30 f (some M) (nI x)) σ (fun y σ' => σ' = σ ∧ y = Int32.ofInt (cut2 v)) := by
    intro hb
    unfold X12_cut_b30 X12_cut_b48
    refine gp_pl hc (j := x) (by omega) rfl ?_
    refine gp_if (fun w => ?_) (fun w => ?_)
    · rw [hsg] at w
      refine gp_ret ⟨rfl, ?_⟩
      rw [show cut2 v = 2000000000 by unfold cut2; omega]; rfl
    · rw [hsg] at w
      refine gp_ret ⟨rfl, ?_⟩
      rw [show cut2 v = -2000000000 by unfold cut2; omega]; rfl
  have fin : ∀ l : Int64, l.toInt = min (v.natAbs : Int) 2000000000 → gp (X12_cut_b101 f (some M) (nI x) l) σ (fun y σ' => σ' = σ ∧ y = Int32.ofInt (cut2 v)) := by
    intro l hl
    unfold X12_cut_b101 X12_cut_b117
    refine gp_pl hc (j := x) (by omega) rfl ?_
    refine gp_if (fun w => ?_) (fun w => ?_)
    · rw [hsg] at w
      exact gp_ret ⟨rfl, l64_32 (by rw [hl]; unfold cut2; omega)⟩
    · rw [hsg] at w
      exact gp_ret ⟨rfl, l64_32 (by rw [az_lneg (by omega), hl]; unfold cut2; omega)⟩
  have e20 : (2000000000 : Int64).toInt = 2000000000 := by decide
  have small : k ≤ 2 → v.natAbs ≤ 2999999999 → gp (X12_cut_b49 f (some M) (nI x)) σ (fun y σ' => σ' = σ ∧ y = Int32.ofInt (cut2 v)) := by
    intro hk hb
    unfold X12_cut_b49 X12_cut_L58
    refine gp_cV (mh_me hc) (gp_mono (r_limbs hc hv (by omega)) ?_)
    rintro _ σ0 ⟨z0, rfl⟩
    rw [z0]
    clear z0 σ0
    refine gp_loop (I := fun (τ : Int64 × Int32) (σ' : tz_S) => σ' = σ ∧ ∃ j, j ≤ k ∧ τ.2 = nI j ∧ 0 ≤ τ.1.toInt ∧ τ.1.toInt * 1000000000 ^ j + mg (fun i => dI (tz_A σ (M + 20)) (x + 1 + i)) j = v.natAbs) (fun τ _ => τ.2.toNatClampNeg) ?_ f _ _ ⟨rfl, k, Nat.le_refl _, rfl, by show 0 ≤ (0 : Int64).toInt; decide, by show (0 : Int64).toInt * _ + _ = _; rw [v4, show (0 : Int64).toInt = 0 from rfl]; omega⟩ (by show (nI k).toNatClampNeg < f; rw [nI_clamp (by omega)]; omega)
    rintro Kx ⟨l2, l4⟩ σ0 ⟨z0, j, hj, hl4, hp, he⟩ hK
    rw [z0]
    clear z0 σ0
    simp only at hl4 hp he
    subst hl4
    unfold X12_cut_L58_body
    simp only
    cases j with
    | zero =>
      refine gp_t (by decide) ?_
      have he2 : l2.toInt = v.natAbs := by
        have : l2.toInt * 1000000000 ^ 0 + 0 = v.natAbs := he
        omega
      refine gp_if (fun w => ?_) (fun w => ?_)
      · rw [lg_cmp_le, Int64.le_iff_toInt_le, e20] at w
        exact fin l2 (by omega)
      · rw [lg_cmp_le, Int64.le_iff_toInt_le, e20] at w
        exact fin _ (by rw [e20]; omega)
    | succ j =>
      refine gp_f (fun w => by
        have := (nI_leI (a := j + 1) (b := 0) (by omega) (by omega)).1 w
        omega) ?_
      rw [nI_add]
      refine gp_pl hc (j := x + (j + 1)) (by omega) rfl ?_
      refine gp_let ?_
      refine gp_let ?_
      rw [nI_m1]
      have hd := v2 j (by omega)
      have he2 : l2.toInt * 1000000000 ^ (j + 1) + (mg (fun i => dI (tz_A σ (M + 20)) (x + 1 + i)) j + dI (tz_A σ (M + 20)) (x + 1 + j) * 1000000000 ^ j) = v.natAbs := he
      have hg : (tz_A σ (M + 20) (x + (j + 1))).toInt = dI (tz_A σ (M + 20)) (x + 1 + j) := by rw [show x + (j + 1) = x + 1 + j by omega]
      have hm0 := mg_nn (d := fun i => dI (tz_A σ (M + 20)) (x + 1 + i)) (k := j) (fun i hi => (v2 i (by omega)).1)
      have hl : l2.toInt ≤ 2 := by
        have e1 : (1000000000 : Int) ^ (j + 1) = 1000000000 ^ j * 1000000000 := mg_ps j
        have e2 : (0 : Int) < 1000000000 ^ j := mg_pw j
        rw [e1] at he2
        generalize (1000000000 : Int) ^ j = pw at *
        generalize dI (tz_A σ (M + 20)) (x + 1 + j) = d at *
        generalize mg (fun i => dI (tz_A σ (M + 20)) (x + 1 + i)) j = gm at *
        have e3 : 0 ≤ d * pw := Int.mul_nonneg hd.1 (by omega)
        have e4 : l2.toInt * 1000000000 ≤ l2.toInt * (pw * 1000000000) := Int.mul_le_mul_of_nonneg_left (by omega) hp
        clear v1 v2 v3 v4 he e1 hg
        omega
      have em : (l2 * 1000000000).toInt = l2.toInt * 1000000000 := by rw [az_lmul (by rw [az_B]; omega) (by rw [az_B]; omega), az_B]
      have ea : (l2 * 1000000000 + Int32.toInt64 (tz_A σ (M + 20) (x + (j + 1)))).toInt = l2.toInt * 1000000000 + dI (tz_A σ (M + 20)) (x + 1 + j) := by
        clear he he2 v4
        rw [az_ladd (by rw [em, Int32.toInt_toInt64, hg]; omega) (by rw [em, Int32.toInt_toInt64, hg]; omega), em, Int32.toInt_toInt64, hg]
      refine hK (_, nI j) σ ⟨rfl, j, by omega, rfl, ?_, ?_⟩ (by show (nI j).toNatClampNeg < (nI (j + 1)).toNatClampNeg; rw [nI_clamp (by omega), nI_clamp (by omega)]; omega)
      · show 0 ≤ (l2 * 1000000000 + Int32.toInt64 (tz_A σ (M + 20) (x + (j + 1)))).toInt
        rw [ea]
        exact Int.add_nonneg (Int.mul_nonneg hp (by decide)) hd.1
      · show (l2 * 1000000000 + Int32.toInt64 (tz_A σ (M + 20) (x + (j + 1)))).toInt * 1000000000 ^ j + mg (fun i => dI (tz_A σ (M + 20)) (x + 1 + i)) j = _
        rw [ea, ← he2, mg_ps]
        exact cut_al _ _ _ _
  unfold X12_cut
  refine gp_cV (mh_me hc) (gp_mono (r_limbs hc hv (by omega)) ?_)
  rintro _ σ0 ⟨z0, rfl⟩
  rw [z0]
  clear z0 σ0
  have hlt : 2 < nI k ↔ 2 < k := by
    have := nI_leI (a := k) (b := 2) (by omega) (by omega)
    rw [show (2 : Int32) = nI 2 from rfl, ← Int32.not_le, this]; omega
  refine gp_if (fun w => ?_) (fun w => ?_)
  · rw [hlt] at w
    refine big ?_
    obtain ⟨c, rfl⟩ : ∃ c, k = c + 3 := ⟨k - 3, by omega⟩
    have g1 := nV_ge hv
    have g2 := mg_pmono (show 2 ≤ c + 2 by omega)
    have g3 : (1000000000 : Int) ^ 2 = 1000000000000000000 := by decide
    omega
  rw [hlt] at w
  refine gp_cV (mh_me hc) (gp_mono (r_limbs hc hv (by omega)) ?_)
  rintro _ σ0 ⟨z0, rfl⟩
  rw [z0]
  clear z0 σ0
  refine gp_if (fun y => ?_) (fun y => ?_)
  · have y2 : k = 2 := (nI_eq (b := 2) (by omega) (by omega)).1 y
    subst y2
    have hmg : mg (fun i => dI (tz_A σ (M + 20)) (x + 1 + i)) 2 = 0 + dI (tz_A σ (M + 20)) (x + 1 + 0) * 1000000000 ^ 0 + dI (tz_A σ (M + 20)) (x + 1 + 1) * 1000000000 ^ 1 := rfl
    rw [v4] at hmg
    have d0 := v2 0 (by decide)
    have d1 := v2 1 (by decide)
    have hg : (tz_A σ (M + 20) (x + 2)).toInt = dI (tz_A σ (M + 20)) (x + 1 + 1) := rfl
    rw [show (2 : Int32) = nI 2 from rfl, nI_add]
    refine gp_pl hc (j := x + 2) (by omega) rfl ?_
    have e2 : (nI 2).toInt = 2 := rfl
    refine gp_if (fun z => ?_) (fun z => ?_)
    · rw [Int32.le_iff_toInt_le, hg, e2] at z
      exact small (by omega) (by omega)
    · rw [Int32.le_iff_toInt_le, hg, e2] at z
      exact big (by omega)
  · have y2 : k ≠ 2 := fun e => y (by rw [e]; rfl)
    have hlt2 := nV_lt hv
    have g2 := mg_pmono (show k ≤ 1 by omega)
    exact small (by omega) (by omega)
set_option maxHeartbeats 1000000 in
theorem r_node {k w : Int32} (h : rfV σ M ((n, m, A, kd, bb, wh, dr), ((D, T, va, bs, cl), (K, lc, up, fi, se, vr, fo, to, cd, ln, op), (st, sp, ex, cf, spl), mp, mq), wp, wq, hd, ah)) (hf : 2000 ≤ f) : gp (X12_node f (some M) k w) σ (fun y σ' => σ' = σ ∧ y = mNod k w ((n, m, A, kd, bb, wh, dr), ((D, T, va, bs, cl), (K, lc, up, fi, se, vr, fo, to, cd, ln, op), (st, sp, ex, cf, spl), mp, mq), wp, wq, hd, ah)) := by
  obtain ⟨hsl, hW, hH⟩ := rfV_un h
  obtain ⟨⟨hc, h35⟩, hw, -, hk, hm, -⟩ := rgV_un hsl
  have hb := rgV_bd hsl
  unfold X12_node X12_node_b17 X12_node_b52 X12_node_b129
  unfold mNod
  simp only
  refine gp_cV (mh_me hc) (gp_mono (r_isNode hc hk hb.1) ?_)
  rintro y σ0 ⟨z0, hy⟩
  rw [z0]
  clear z0 σ0
  refine gp_if (fun z => ?_) (fun z => ?_)
  · rw [if_neg (ite0 hy z)]
    exact gp_ret ⟨rfl, rfl⟩
  have hx := ite1 hy z
  rw [if_pos hx]
  have e0 : (0 : Int32).toInt = 0 := rfl
  have e5 : (5 : Int32).toInt = 5 := rfl
  refine gp_if (fun z => ?_) (fun z => ?_)
  · rw [Int32.lt_iff_toInt_lt, e0] at z
    rw [if_neg (by omega), if_neg (by omega), if_neg (by omega), if_neg (by omega), if_neg (by omega), if_neg (by omega)]
    exact gp_ret ⟨rfl, rfl⟩
  rw [Int32.lt_iff_toInt_lt, e0] at z
  obtain ⟨l, hl, hl31, hl2⟩ := i32_nat hx.1
  obtain ⟨c, hcw, hc31, hc2⟩ := i32_nat (show 0 ≤ w.toInt by omega)
  rw [show k.toInt.toNat = l by omega, show w.toInt = c by omega]
  rw [hl, hcw]
  have hlK : l < K := by omega
  obtain ⟨a1, a2, a3, a4, a5, a6, a7⟩ := hk.2 l hlK
  refine gp_if (fun z2 => ?_) (fun z2 => ?_)
  rotate_left
  · rw [show (5 : Int32) = nI 5 from rfl, nI_leI (by omega) (by omega)] at z2
    rw [if_neg (by omega), if_neg (by omega), if_neg (by omega), if_neg (by omega), if_neg (by omega), if_neg (by omega)]
    exact gp_ret ⟨rfl, rfl⟩
  rw [show (5 : Int32) = nI 5 from rfl, nI_leI (by omega) (by omega)] at z2
  have hne : ∀ d : Nat, d < 2 ^ 31 → c ≠ d → nI c ≠ nI d := fun d hd hn e => hn ((nI_eq (by omega) hd).1 e)
  by_cases c0 : c = 0
  · subst c0
    refine gp_t rfl ?_
    rw [if_pos (by decide)]
    refine gp_rR (mh_me hc) rfl ?_
    refine gp_aI (j := l) (mh_9 hc) (by decide) (by omega) (by omega) rfl ?_
    rw [a1]
    by_cases hfi : fi l = none
    · rw [if_pos hfi, if_pos hfi]
      refine gp_t rfl ?_
      refine gp_rR (mh_me hc) rfl ?_
      refine gp_aI (j := l) (mh_10 hc) (by decide) (by omega) (by omega) rfl ?_
      rw [a2]
      cases cd l with
      | true => exact gp_f (by decide) (gp_ret ⟨rfl, rfl⟩)
      | false => exact gp_t rfl (gp_ret ⟨rfl, rfl⟩)
    · rw [if_neg hfi, if_neg hfi]
      exact gp_f (by decide) (gp_ret ⟨rfl, rfl⟩)
  refine gp_f (hne 0 (by decide) c0) ?_
  rw [if_neg (show ¬ ((c : Int) = 0) by omega)]
  by_cases c5 : c = 5
  · subst c5
    refine gp_t rfl ?_
    rw [if_neg (by decide), if_neg (by decide), if_neg (by decide), if_neg (by decide), if_pos (by decide)]
    refine gp_rR (mh_me hc) rfl ?_
    refine gp_aI (j := l) (mh_14 hc) (by decide) (by omega) (by omega) rfl ?_
    exact gp_ret ⟨rfl, a3⟩
  refine gp_f (hne 5 (by decide) c5) ?_
  refine gp_rR (mh_me hc) rfl ?_
  refine gp_aI (j := l) (mh_9 hc) (by decide) (by omega) (by omega) rfl ?_
  rw [a1]
  by_cases hfi : fi l = none
  · rw [if_pos hfi, if_pos hfi, if_pos hfi, if_pos hfi, if_pos hfi]
    refine gp_t rfl (gp_ret ⟨rfl, ?_⟩)
    have hc4 : c = 1 ∨ c = 2 ∨ c = 3 ∨ c = 4 := by omega
    rcases hc4 with rfl | rfl | rfl | rfl <;> rfl
  rw [if_neg hfi, if_neg hfi, if_neg hfi, if_neg hfi, if_neg hfi]
  refine gp_f (by decide) ?_
  obtain ⟨b1, ⟨nn, b2, b3, b4⟩⟩ := a7 hfi
  by_cases c1 : c = 1
  · subst c1
    refine gp_t rfl ?_
    refine gp_rR (mh_me hc) rfl ?_
    refine gp_aI (j := l) (mh_11 hc) (by decide) (by omega) (by omega) rfl ?_
    exact gp_ret ⟨rfl, b1⟩
  refine gp_f (hne 1 (by decide) c1) ?_
  by_cases c2 : c = 2
  · subst c2
    refine gp_t rfl ?_
    unfold X12_splitAt
    refine gp_cB (gp_ret ?_)
    rw [at_s l]
    refine gp_cV (mh_me hc) (gp_mono (r_cut hc b2 (by omega) hf) ?_)
    rintro y σ0 ⟨z0, hy0⟩
    rw [z0, hy0]
    exact gp_ret ⟨rfl, rfl⟩
  refine gp_f (hne 2 (by decide) c2) ?_
  by_cases c3 : c = 3
  · subst c3
    refine gp_t rfl ?_
    refine gp_rR (mh_me hc) rfl ?_
    refine gp_aI (j := l) (mh_12 hc) (by decide) (by omega) (by omega) rfl ?_
    exact gp_ret ⟨rfl, a4⟩
  refine gp_f (hne 3 (by decide) c3) ?_
  have c4 : c = 4 := by omega
  subst c4
  refine gp_rR (mh_me hc) rfl ?_
  refine gp_aI (j := l) (mh_13 hc) (by decide) (by omega) (by omega) rfl ?_
  exact gp_ret ⟨rfl, a5⟩
end TI
