/-! ===== the reference: a step that exchanges ===== -/
section SP
variable {f M n m K lc sp ex cf spl k r c sd : Nat} {σ : tz_S} {A T : Nat → Nat → Int} {kd : Nat → Nat} {bb dr : Nat → Int} {wh : Nat → Bool} {D b : Int} {va : Nat → Int} {bs cl : Nat → Nat} {up fi se : Nat → Option Nat} {vr : Nat → Nat} {fo to : Nat → Int} {cd : Nat → Bool} {ln : Nat → Nat} {mp mq : Nat → Nat → Int × Int}
set_option maxHeartbeats 1000000 in
theorem r_stEx (h : rgV σ M n m A kd bb wh dr ((D, T, va, bs, cl), (K, lc, up, fi, se, vr, fo, to, cd, ln, some k), (1, sp, ex, cf, spl), mp, mq)) (hr : rwI n m A kd bb dr) (hA : stA n K lc up fi se vr fo to ln) (hk : k < K) (hI : tbI n m A D T bs cl) (hpm : pmI n m bs cl) (hva : vaB n va) (hz : szS n m K lc cl up fi k) (hrm : r < m) (hcn : c < n) (hTc : T r c ≠ 0) (h29 : tz_F σ M 29 = nI sd) (hsd : sd < 2) (hbv : bdS n kd bb (fun x => fU vr fo x (pt up fi k) none) (fun x => fL vr fo x (pt up fi k) none) (bs r) sd = some b) (hf : 2000 ≤ f) :
    gp (X12_exchange f (some M) (nI r) (nI c)) σ (fun _ σ' => Rq M stF (gqA M) gqP σ σ' ∧ rgV σ' M n m A kd bb wh dr (zEx D T va bs cl r c b, (K, lc, up, fi, se, vr, fo, to, cd, ln, some k), (1, sp, ex + 1, cf, spl), mp, mq)) := by
  obtain ⟨⟨h1, h2⟩, h3, h4, h5, h6, h7, -, h9, h10⟩ := rgV_un h
  obtain ⟨⟨z1, z2⟩, z3, z4, z5, z6⟩ := hz
  obtain ⟨hg1, hg2⟩ := isg_pm hTc
  have e8 : ((10000000 ^ 10 : Nat) : Int) < 1000000000 ^ 8 := by decide
  have hX : ∀ a b, a < m → b < n → ((xT D T r c (isg (T r c)).toInt a b).natAbs : Int) < 1000000000 ^ 8 := fun a b ha hb => by
    have := tb_T (tbI_ex hI hrm hcn hTc hg1 hg2) (pmI_ex hpm hrm hcn) z1 (rw_A hr) ha hb
    omega
  obtain ⟨c1, c2, c3, c4, c5⟩ := h4
  refine gp_mono (r_exchange h1 h2 h3 (h7 (by decide)) (tSz_of hI hpm hr hva) (h10 rfl k rfl) (bSz_of hr hA hk) hI hpm hrm hcn hTc hX c3 h29 hsd hbv hf) ?_
  rintro _ σ1 ⟨g1, g2, g3, g4, g5⟩
  have hq : Rq M (fun j => j = 9) (fun x => x = M + 7 ∨ x = M + 8) (fun i => i < 10456) σ σ1 := ⟨Fr_mono g1 (fun x e => by omega), fun j a b => g2 j a b, fun i a b => g4 i a (by omega)⟩
  obtain ⟨w1, w2⟩ := h9 k rfl
  refine ⟨Rq_mono hq (fun _ e => by unfold stF; omega) (fun _ e => by unfold gqA; omega) (fun _ e => by unfold gqP; omega), ?_⟩
  unfold zEx
  refine rgV_mk ⟨by omega, by omega⟩ ⟨mSh_fr h1 hq.1, by rw [hq.2.1 35 (by decide) (by decide)]; exact h2⟩ (rrV_rq h3 hq (by decide) (by decide) (fun x _ _ e => by omega)) ⟨by rw [hq.2.1 7 (by decide) (by decide)]; exact c1, by rw [hq.2.1 8 (by decide) (by decide)]; exact c2, g3, by rw [hq.2.1 10 (by decide) (by decide)]; exact c4, by rw [hq.2.1 11 (by decide) (by decide)]; exact c5⟩ (rkV_rq h5 hq (by decide) (by decide) (fun x _ _ e => by omega) (fun _ _ _ e => by omega) (by omega)) (rmV_rq h6 hq (fun _ _ _ e => by omega) (by omega)) (fun _ => g5) (fun e => by cases e) (fun j e => ?_) (fun w j e => ?_)
  · cases e
    exact ⟨by rw [hq.2.1 24 (by decide) (by decide)]; exact w1, roV_rq w2 hq (by decide) (by omega) (by omega) (fun _ _ _ e => by omega) (by simp; omega)⟩
  · cases e
    exact rbV_rq (h10 rfl k rfl) hq (by omega) (fun _ _ _ e => by omega) z1
end SP
