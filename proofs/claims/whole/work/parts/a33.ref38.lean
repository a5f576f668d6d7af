/-! ===== the reference: its state ===== -/
def rgV (σ : tz_S) (M n m : Nat) (A : Nat → Nat → Int) (kd : Nat → Nat) (bb : Nat → Int) (wh : Nat → Bool) (dr : Nat → Int) : zS → Prop
  | ((D, T, va, bs, cl), (K, lc, up, fi, se, vr, fo, to, cd, ln, op), (st, sp, ex, cf, spl), _, mq) => (K ≤ 310 ∧ lc ≤ 152) ∧ (mSh σ M ∧ tz_F σ M 35 = nI 447200) ∧ rrV σ M n m A kd bb wh dr ∧ rcV σ M st sp ex cf spl ∧ rkV σ M K lc up fi se vr to cd ln ∧ rmV σ M lc mq ∧ (st ≠ 0 → rtV σ M n m D T va bs cl) ∧ (op = none → tz_F σ M 25 = nI 0) ∧ (∀ k, op = some k → tz_F σ M 24 = nI k ∧ roV σ M (pt up fi k).reverse fo) ∧ (st = 1 → ∀ k, op = some k → rbV σ M n (fun x => fU vr fo x (pt up fi k) none) (fun x => fL vr fo x (pt up fi k) none))
section SN
variable {M n m K lc st sp ex cf spl : Nat} {σ : tz_S} {A T : Nat → Nat → Int} {kd : Nat → Nat} {bb dr : Nat → Int} {wh : Nat → Bool} {D : Int} {va : Nat → Int} {bs cl : Nat → Nat} {up fi se : Nat → Option Nat} {vr : Nat → Nat} {fo to : Nat → Int} {cd : Nat → Bool} {ln : Nat → Nat} {op : Option Nat} {mp mq : Nat → Nat → Int × Int}
theorem rgV_un (h : rgV σ M n m A kd bb wh dr ((D, T, va, bs, cl), (K, lc, up, fi, se, vr, fo, to, cd, ln, op), (st, sp, ex, cf, spl), mp, mq)) : (mSh σ M ∧ tz_F σ M 35 = nI 447200) ∧ rrV σ M n m A kd bb wh dr ∧ rcV σ M st sp ex cf spl ∧ rkV σ M K lc up fi se vr to cd ln ∧ rmV σ M lc mq ∧ (st ≠ 0 → rtV σ M n m D T va bs cl) ∧ (op = none → tz_F σ M 25 = nI 0) ∧ (∀ k, op = some k → tz_F σ M 24 = nI k ∧ roV σ M (pt up fi k).reverse fo) ∧ (st = 1 → ∀ k, op = some k → rbV σ M n (fun x => fU vr fo x (pt up fi k) none) (fun x => fL vr fo x (pt up fi k) none)) := h.2
theorem rgV_bd (h : rgV σ M n m A kd bb wh dr ((D, T, va, bs, cl), (K, lc, up, fi, se, vr, fo, to, cd, ln, op), (st, sp, ex, cf, spl), mp, mq)) : K ≤ 310 ∧ lc ≤ 152 := h.1
theorem rgV_mk (h0 : K ≤ 310 ∧ lc ≤ 152) (h1 : mSh σ M ∧ tz_F σ M 35 = nI 447200) (h2 : rrV σ M n m A kd bb wh dr) (h3 : rcV σ M st sp ex cf spl) (h4 : rkV σ M K lc up fi se vr to cd ln) (h5 : rmV σ M lc mq) (h6 : st ≠ 0 → rtV σ M n m D T va bs cl) (h7 : op = none → tz_F σ M 25 = nI 0) (h8 : ∀ k, op = some k → tz_F σ M 24 = nI k ∧ roV σ M (pt up fi k).reverse fo) (h9 : st = 1 → ∀ k, op = some k → rbV σ M n (fun x => fU vr fo x (pt up fi k) none) (fun x => fL vr fo x (pt up fi k) none)) : rgV σ M n m A kd bb wh dr ((D, T, va, bs, cl), (K, lc, up, fi, se, vr, fo, to, cd, ln, op), (st, sp, ex, cf, spl), mp, mq)   := And.intro h0 (And.intro h1 (And.intro h2 (And.intro h3 (And.intro h4 (And.intro h5 (And.intro h6 (And.intro h7 (And.intro h8 h9))))))))
theorem bd_U (k : Nat) : (fun p => bdS n kd bb (fun x => fU vr fo x (pt up fi k) none) (fun x => fL vr fo x (pt up fi k) none) p 0) = UB n kd bb vr fo up fi k := rfl
theorem bd_L (k : Nat) : (fun p => bdS n kd bb (fun x => fU vr fo x (pt up fi k) none) (fun x => fL vr fo x (pt up fi k) none) p 1) = LB n kd bb vr fo up fi k := rfl
theorem bSz_of {k : Nat} (hr : rwI n m A kd bb dr) (hA : stA n K lc up fi se vr fo to ln) (hk : k < K) : bSz n m kd bb (fun x => fU vr fo x (pt up fi k) none) (fun x => fL vr fo x (pt up fi k) none) := by
  intro p s v hp hs hv
  have hb : -1000000000000000001 ≤ v ∧ v ≤ 1000000000000000001 := by
    have hs2 : s = 0 ∨ s = 1 := by omega
    rcases hs2 with rfl | rfl
    · exact bn_U (vr := vr) (fo := fo) hr hA hk hp hv
    · exact bn_L (vr := vr) (fo := fo) hr hA hk hp hv
  omega
theorem far_iff {a D : Int} (hD : 0 < D) (ha : a % D ≠ 0) : (1000000000000000000 < flr a D ∨ flr a D < -1000000000000000000) ↔ (1000000000000000000 < a / D ∨ a / D < -1000000000000000000) := by
  by_cases z : (a.natAbs : Int) / D < 2000000000000000000
  · rw [show flr a D = a / D from if_pos z]
  · rw [show flr a D = 4000000000000000000 from if_neg z]
    refine ⟨fun _ => ?_, fun _ => Or.inl (by omega)⟩
    by_cases w : a < 0
    · have := flr_neg hD w ha
      exact Or.inr (by omega)
    · rw [show (a.natAbs : Int) = a by omega] at z
      exact Or.inl (by omega)
theorem su_sz {T : Nat → Nat → Int} {c i : Nat} (h : tbI n m A D T bs cl) (hp : pmI n m bs cl) (hn : n ≤ 10) (hA : ∀ r x, r < m → x < n → -1000000 ≤ A r x ∧ A r x ≤ 1000000) (hv : vaB n va) (hi : i < m) (hc : c ≤ n) : ((su c (fun j => T i j * va j)).natAbs : Int) < 1000000000 ^ 11 := by
  have h1 : ((su c (fun j => T i j * va j)).natAbs : Int) ≤ c * ((10000000 ^ 10 * 1000000000000000001 : Nat) : Int) := su_le fun j hj => by
    have a1 := tb_T h hp hn hA hi (show j < n by omega)
    have a2 := hv j (by omega)
    have := mul_nab a1 (show (va j).natAbs ≤ 1000000000000000001 by omega)
    omega
  have h2 : (c : Int) * ((10000000 ^ 10 * 1000000000000000001 : Nat) : Int) ≤ 10 * ((10000000 ^ 10 * 1000000000000000001 : Nat) : Int) := Int.mul_le_mul_of_nonneg_right (by omega) (by omega)
  have h3 : (10 : Int) * ((10000000 ^ 10 * 1000000000000000001 : Nat) : Int) < 1000000000 ^ 11 := by decide
  omega
theorem tSz_of (h : tbI n m A D T bs cl) (hp : pmI n m bs cl) (hr : rwI n m A kd bb dr) (hv : vaB n va) : tSz n m D T va := by
  have hn := hr.1.1
  have hA := rw_A hr
  have e8 : ((10000000 ^ 10 : Nat) : Int) < 1000000000 ^ 8 := by decide
  refine ⟨h.1, ?_, fun r c a b => ?_, fun c hc => ?_, fun r c a b => su_sz h hp hn hA hv a b⟩
  · have := tb_D h hp hn hA
    omega
  · have := tb_T h hp hn hA a b
    omega
  · have := hv c hc
    omega
end SN
