/-! ===== the reference: numbers of multipliers ===== -/
section TF
variable {f M n m K lc : Nat} {σ σ1 : tz_S} {A : Nat → Nat → Int} {kd : Nat → Nat} {bb dr : Nat → Int} {wh : Nat → Bool} {up fi se : Nat → Option Nat} {vr : Nat → Nat} {to : Nat → Int} {cd : Nat → Bool} {ln : Nat → Nat}
theorem r_isNode {k : Int32} (hc : mSh σ M) (hk : rkV σ M K lc up fi se vr to cd ln) (hK : K ≤ 310) : gp (X12_isNode f (some M) k) σ (fun y σ' => σ' = σ ∧ y = if 0 ≤ k.toInt ∧ k.toInt < K then 1 else 0) := by
  unfold X12_isNode X12_isNode_b16 X12_isNode_b17
  refine gp_if (fun z => ?_) (fun z => ?_)
  · have z' : k.toInt < 0 := (i32_c k 0).1.1 z
    exact gp_zz (Or.inl rfl) (gp_ret ⟨rfl, by rw [if_neg (by omega)]⟩)
  have z' : ¬ k.toInt < 0 := fun w => z ((i32_c k 0).1.2 w)
  refine gp_rI (mh_me hc) rfl ?_
  rw [hk.1.1]
  obtain ⟨j, hj, hj31, hj2⟩ := i32_nat (show 0 ≤ k.toInt by omega)
  rw [hj]
  refine gp_if (fun y => ?_) (fun y => ?_)
  · rw [nI_leI (by omega) (by omega)] at y
    exact gp_zz (Or.inl rfl) (gp_ret ⟨rfl, by rw [← hj, if_neg (by omega)]⟩)
  · rw [nI_leI (by omega) (by omega)] at y
    exact gp_zz (Or.inr rfl) (gp_ret ⟨rfl, by rw [← hj, if_pos (by omega)]⟩)
theorem r_numberOf {k s i : Int32} (hc : mSh σ M) (hw : rrV σ M n m A kd bb wh dr) (hk : rkV σ M K lc up fi se vr to cd ln) (hK : K ≤ 310) : gp (X12_numberOf f (some M) k s i) σ (fun y σ' => σ' = σ ∧ y = eM (if (0 ≤ k.toInt ∧ k.toInt < K) ∧ fi k.toInt.toNat = none then mIx n m s i else none)) := by
  obtain ⟨⟨w0, w1, hn, hm⟩, -⟩ := id hw
  unfold X12_numberOf X12_numberOf_b61
  refine gp_cV (mh_me hc) (gp_mono (r_isNode hc hk hK) ?_)
  rintro y σ0 ⟨e0, hy⟩
  rw [e0]
  clear e0 σ0
  refine gp_if (fun z => ?_) (fun z => ?_)
  · have := ite0 hy z
    exact gp_ret ⟨rfl, by rw [if_neg (fun w => this w.1)]; rfl⟩
  have hx := ite1 hy z
  refine gp_rR (mh_me hc) rfl ?_
  refine gp_cV (mh_me hc) (gp_mono (r_isNode hc hk hK) ?_)
  rintro y2 σ0 ⟨e0, hy2⟩
  rw [e0, hy2, if_pos hx]
  clear e0 σ0 hy2
  refine gp_f (by decide) ?_
  obtain ⟨j, hj, hj31, hj2⟩ := i32_nat hx.1
  rw [show k.toInt.toNat = j by omega, hj]
  obtain ⟨a1, -⟩ := hk.2 j (by omega)
  unfold X12_numberOf_b25 X12_numberOf_b61
  refine gp_aI (j := j) (mh_9 hc) (by decide) (by omega) (by omega) rfl ?_
  rw [a1]
  by_cases hfi : fi j = none
  rotate_left
  · rw [if_neg hfi]
    refine gp_f (by decide) (gp_ret ⟨rfl, ?_⟩)
    rw [if_neg (fun w => hfi w.2)]; rfl
  rw [if_pos hfi]
  refine gp_t rfl ?_
  have hcond : (0 ≤ (nI j).toInt ∧ (nI j).toInt < K) ∧ fi j = none := ⟨by rw [← hj]; exact hx, hfi⟩
  rw [if_pos hcond]
  have e0 : (0 : Int32).toInt = 0 := rfl
  have e2 : (2 : Int32).toInt = 2 := rfl
  refine gp_if (fun z => ?_) (fun z => ?_)
  · have z' := (i32_c s 0).1.1 z
    refine gp_ret ⟨rfl, ?_⟩
    unfold mIx
    rw [if_neg (by omega)]
    by_cases w : 0 ≤ i.toInt ∧ i.toInt < n
    · rw [if_pos w, if_neg (by omega), if_neg (by omega)]; rfl
    · rw [if_neg w]; rfl
  have z' : ¬ s.toInt < 0 := fun w => z ((i32_c s 0).1.2 w)
  refine gp_if (fun z => ?_) (fun z => ?_)
  · have z'' := (i32_c 2 s).1.1 z
    refine gp_ret ⟨rfl, ?_⟩
    unfold mIx
    rw [if_neg (by omega)]
    by_cases w : 0 ≤ i.toInt ∧ i.toInt < n
    · rw [if_pos w, if_neg (by omega), if_neg (by omega)]; rfl
    · rw [if_neg w]; rfl
  have z'' : ¬ 2 < s.toInt := fun w => z ((i32_c 2 s).1.2 w)
  refine gp_if (fun y => ?_) (fun y => ?_)
  · have y' := (i32_c i 0).1.1 y
    refine gp_ret ⟨rfl, ?_⟩
    unfold mIx
    rw [if_neg (show ¬ (0 ≤ i.toInt ∧ i.toInt < m) by omega), if_neg (show ¬ (0 ≤ i.toInt ∧ i.toInt < n) by omega)]
    by_cases w : s.toInt = 0
    · rw [if_pos w]; rfl
    · rw [if_neg w]; rfl
  have y' : ¬ i.toInt < 0 := fun w => y ((i32_c i 0).1.2 w)
  obtain ⟨b, hb, hb31, hb2⟩ := i32_nat (show 0 ≤ i.toInt by omega)
  have hlt : ∀ c, c < 2 ^ 31 → (nI b < nI c ↔ b < c) := fun c hc => by
    have := nI_leI (a := c) (b := b) (by omega) (by omega)
    rw [← Int32.not_le, this]; omega
  obtain ⟨a, ha, ha31, ha2⟩ := i32_nat (show 0 ≤ s.toInt by omega)
  unfold X12_numberOf_b58 X12_numberOf_b87 X12_numberOf_b61
  have ha3 : a = 0 ∨ a = 1 ∨ a = 2 := by omega
  rcases ha3 with h | h | h
  · refine gp_t (by rw [ha, h]; rfl) ?_
    refine gp_rI (mh_me hc) rfl ?_
    rw [w1, hb]
    unfold mIx
    rw [if_pos (show s.toInt = 0 by omega)]
    refine gp_if (fun w => ?_) (fun w => ?_)
    · rw [hlt m (by omega)] at w
      refine gp_t (by rw [ha, h]; rfl) (gp_ret ⟨rfl, ?_⟩)
      rw [← hb, if_pos (by omega), show i.toInt.toNat = b by omega, hb]; rfl
    · rw [hlt m (by omega)] at w
      refine gp_ret ⟨rfl, ?_⟩
      rw [← hb, if_neg (by omega)]; rfl
  all_goals
    refine gp_f (by rw [ha, h]; decide) ?_
    refine gp_rI (mh_me hc) rfl ?_
    rw [w0, hb]
    unfold mIx
    rw [if_neg (show ¬ s.toInt = 0 by omega)]
    refine gp_if (fun w => ?_) (fun w => ?_)
    rotate_left
    · rw [hlt n (by omega)] at w
      refine gp_ret ⟨rfl, ?_⟩
      rw [← hb, if_neg (by omega)]; rfl
    rw [hlt n (by omega)] at w
    refine gp_f (by rw [ha, h]; decide) ?_
  · refine gp_t (by rw [ha, h]; rfl) (gp_ret ⟨rfl, ?_⟩)
    rw [← hb, if_pos (by omega), if_pos (by omega), show i.toInt.toNat = b by omega, hb, show (12 : Int32) = nI 12 from rfl, nI_add]; rfl
  · refine gp_f (by rw [ha, h]; decide) (gp_ret ⟨rfl, ?_⟩)
    rw [← hb, if_pos (by omega), if_neg (by omega), if_pos (by omega), show i.toInt.toNat = b by omega, hb, show (22 : Int32) = nI 22 from rfl, nI_add]; rfl
end TF
