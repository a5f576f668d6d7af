/-! ===== the reference: the state through frames ===== -/
/-- what a step may change among the fields -/
def stF (k : Nat) : Prop := 7 ≤ k ∧ k ≠ 28 ∧ k ≠ 35
section SO
variable {M n m K lc st sp ex cf spl k : Nat} {σ σ1 : tz_S} {A T : Nat → Nat → Int} {kd : Nat → Nat} {bb dr : Nat → Int} {wh : Nat → Bool} {D : Int} {va : Nat → Int} {bs cl : Nat → Nat} {up fi se : Nat → Option Nat} {vr : Nat → Nat} {fo to : Nat → Int} {cd : Nat → Bool} {ln : Nat → Nat} {op : Option Nat} {mp mq : Nat → Nat → Int × Int} {Fs : Nat → Prop}
/-- sizes that frames need -/
def szS (n m K lc : Nat) (cl : Nat → Nat) (up fi : Nat → Option Nat) (k : Nat) : Prop := (n ≤ 10 ∧ m ≤ 12) ∧ K ≤ 309 ∧ lc ≤ 151 ∧ (∀ c, c < n → cl c < 22) ∧ (pt up fi k).length ≤ 24
theorem rgV_fr (h : rgV σ M n m A kd bb wh dr ((D, T, va, bs, cl), (K, lc, up, fi, se, vr, fo, to, cd, ln, some k), (1, sp, ex, cf, spl), mp, mq)) (hz : szS n m K lc cl up fi k) (hq : Rq M Fs (fun _ => False) (fun _ => False) σ σ1) (hF : ∀ j, Fs j → j = 8 ∨ j = 29) (h8 : tz_F σ1 M 8 = nI sp) : rgV σ1 M n m A kd bb wh dr ((D, T, va, bs, cl), (K, lc, up, fi, se, vr, fo, to, cd, ln, some k), (1, sp, ex, cf, spl), mp, mq) := by
  obtain ⟨⟨h1, h2⟩, h3, h4, h5, h6, h7, -, h9, h10⟩ := rgV_un h
  obtain ⟨⟨z1, z2⟩, z3, z4, z5, z6⟩ := hz
  have nf : ∀ j, j ≠ 8 → j ≠ 29 → ¬ Fs j := fun j a b e => by have := hF j e; omega
  obtain ⟨c1, c2, c3, c4, c5⟩ := h4
  refine rgV_mk ⟨by omega, by omega⟩ ⟨mSh_fr h1 hq.1, by rw [hq.2.1 35 (nf 35 (by decide) (by decide)) (by decide)]; exact h2⟩ (rrV_rq h3 hq (nf 0 (by decide) (by decide)) (nf 1 (by decide) (by decide)) (fun _ _ _ e => e)) ⟨by rw [hq.2.1 7 (nf 7 (by decide) (by decide)) (by decide)]; exact c1, h8, by rw [hq.2.1 9 (nf 9 (by decide) (by decide)) (by decide)]; exact c3, by rw [hq.2.1 10 (nf 10 (by decide) (by decide)) (by decide)]; exact c4, by rw [hq.2.1 11 (nf 11 (by decide) (by decide)) (by decide)]; exact c5⟩ (rkV_rq h5 hq (nf 15 (by decide) (by decide)) (nf 23 (by decide) (by decide)) (fun _ _ _ e => e) (fun _ _ _ e => e) (by omega)) (rmV_rq h6 hq (fun _ _ _ e => e) (by omega)) (fun w => rtV_rq (h7 w) hq (fun e => e) (fun e => e) (fun _ _ e => e) z1 z2 z5) (fun e => by cases e) (fun j e => ?_) (fun w j e => ?_)
  · cases e
    obtain ⟨g1, g2⟩ := h9 k rfl
    exact ⟨by rw [hq.2.1 24 (nf 24 (by decide) (by decide)) (by decide)]; exact g1, roV_rq g2 hq (nf 25 (by decide) (by decide)) (fun e => e) (fun e => e) (fun _ _ _ e => e) (by simp; omega)⟩
  · cases e
    exact rbV_rq (h10 w k rfl) hq (fun e => e) (fun _ _ _ e => e) z1
theorem rgV_8 (h : rgV σ M n m A kd bb wh dr ((D, T, va, bs, cl), (K, lc, up, fi, se, vr, fo, to, cd, ln, some k), (1, sp, ex, cf, spl), mp, mq)) : rgV σ M n m A kd bb wh dr ((D, T, va, bs, cl), (K, lc, up, fi, se, vr, fo, to, cd, ln, some k), (1, sp, ex, cf, spl), mp, mq) ∧ tz_F σ M 8 = nI sp := ⟨h, (rgV_un h).2.2.1.2.1⟩
/-- a step is counted -/
theorem rgV_cnt (h : rgV σ M n m A kd bb wh dr ((D, T, va, bs, cl), (K, lc, up, fi, se, vr, fo, to, cd, ln, some k), (1, sp, ex, cf, spl), mp, mq)) (hz : szS n m K lc cl up fi k) : rgV (tz_sF σ M 8 (nI (sp + 1))) M n m A kd bb wh dr ((D, T, va, bs, cl), (K, lc, up, fi, se, vr, fo, to, cd, ln, some k), (1, sp + 1, ex, cf, spl), mp, mq) := by
  obtain ⟨⟨h1, h2⟩, h3, h4, h5, h6, h7, -, h9, h10⟩ := rgV_un h
  obtain ⟨⟨z1, z2⟩, z3, z4, z5, z6⟩ := hz
  have hq : Rq M (fun j => j = 8) (fun _ => False) (fun _ => False) σ (tz_sF σ M 8 (nI (sp + 1))) := Rq_F rfl
  obtain ⟨c1, c2, c3, c4, c5⟩ := h4
  refine rgV_mk ⟨by omega, by omega⟩ ⟨h1, by rw [hq.2.1 35 (by decide) (by decide)]; exact h2⟩ (rrV_rq h3 hq (by decide) (by decide) (fun _ _ _ e => e)) ⟨by rw [hq.2.1 7 (by decide) (by decide)]; exact c1, tz_u2_same _ _ _ _, by rw [hq.2.1 9 (by decide) (by decide)]; exact c3, by rw [hq.2.1 10 (by decide) (by decide)]; exact c4, by rw [hq.2.1 11 (by decide) (by decide)]; exact c5⟩ (rkV_rq h5 hq (by decide) (by decide) (fun _ _ _ e => e) (fun _ _ _ e => e) (by omega)) (rmV_rq h6 hq (fun _ _ _ e => e) (by omega)) (fun w => rtV_rq (h7 w) hq (fun e => e) (fun e => e) (fun _ _ e => e) z1 z2 z5) (fun e => by cases e) (fun j e => ?_) (fun w j e => ?_)
  · cases e
    obtain ⟨g1, g2⟩ := h9 k rfl
    exact ⟨by rw [hq.2.1 24 (by decide) (by decide)]; exact g1, roV_rq g2 hq (by decide) (fun e => e) (fun e => e) (fun _ _ _ e => e) (by simp; omega)⟩
  · cases e
    exact rbV_rq (h10 w k rfl) hq (fun e => e) (fun _ _ _ e => e) z1
end SO
