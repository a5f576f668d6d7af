/-! ===== the reference: a step that splits ===== -/
section SR
variable {f M n m K lc sp ex cf spl k x : Nat} {σ σ1 : tz_S} {A T : Nat → Nat → Int} {kd : Nat → Nat} {bb dr : Nat → Int} {wh : Nat → Bool} {D v : Int} {va : Nat → Int} {bs cl : Nat → Nat} {up fi se : Nat → Option Nat} {vr : Nat → Nat} {fo to : Nat → Int} {cd : Nat → Bool} {ln : Nat → Nat} {mp mq : Nat → Nat → Int × Int} {mp1 mp2 : Nat → Nat → Int × Int}
theorem rkV_bq (hk : rkV σ M K lc up fi se vr to cd ln) (hq : Bq M k σ σ1) (hK : K ≤ 310) (hfk : fi k = none) : rkV σ1 M K lc up fi se vr to cd ln := by
  obtain ⟨⟨b1, b2⟩, b3⟩ := hk
  refine ⟨⟨by rw [hq.2.1 15 (fun e => e) (by decide)]; exact b1, by rw [hq.2.1 23 (fun e => e) (by decide)]; exact b2⟩, fun j hj => ?_⟩
  obtain ⟨a1, a2, a3, a4, a5, a6, a7⟩ := b3 j hj
  refine ⟨?_, ?_, ?_, ?_, ?_, ?_, fun z => ⟨?_, nP_rq (a7 z).2 hq (fun i a b c => ?_)⟩⟩
  · rw [Rq_get hq (by omega) (by omega) (fun e => e)]; exact a1
  · rw [Rq_get hq (by omega) (by omega) (fun e => e)]; exact a2
  · rw [Rq_get hq (by omega) (by omega) (fun e => e)]; exact a3
  · rw [Rq_get hq (by omega) (by omega) (fun e => e)]; exact a4
  · rw [Rq_get hq (by omega) (by omega) (fun e => e)]; exact a5
  · rw [Rq_get hq (by omega) (by omega) (fun e => e)]; exact a6
  · rw [Rq_get hq (by omega) (by omega) (fun e => e)]; exact (a7 z).1
  · have : j ≠ k := fun e => z (by rw [e]; exact hfk)
    omega
theorem rgV_bq (h : rgV σ M n m A kd bb wh dr ((D, T, va, bs, cl), (K, lc, up, fi, se, vr, fo, to, cd, ln, some k), (1, sp, ex, cf, spl), mp, mq)) (hz : szS n m K lc cl up fi k) (hq : Bq M k σ σ1) (hfk : fi k = none) (hk : k < K) : rgV σ1 M n m A kd bb wh dr ((D, T, va, bs, cl), (K, lc, up, fi, se, vr, fo, to, cd, ln, some k), (1, sp, ex, cf, spl), mp, mq) := by
  obtain ⟨⟨h1, h2⟩, h3, h4, h5, h6, h7, -, h9, h10⟩ := rgV_un h
  obtain ⟨⟨z1, z2⟩, z3, z4, z5, z6⟩ := hz
  refine rgV_mk ⟨by omega, by omega⟩ ⟨mSh_fr h1 hq.1, by rw [hq.2.1 35 (fun e => e) (by decide)]; exact h2⟩ (rrV_rq h3 hq (fun e => e) (fun e => e) (fun _ _ _ e => e)) (rcV_rq h4 hq (fun _ _ _ e => e)) (rkV_bq h5 hq (by omega) hfk) (rmV_rq h6 hq (fun _ _ _ e => by omega) (by omega)) (fun w => rtV_rq (h7 w) hq (fun e => e) (fun e => e) (fun _ _ e => by omega) z1 z2 z5) (fun e => by cases e) (fun j e => ?_) (fun w j e => ?_)
  · cases e
    obtain ⟨g1, g2⟩ := h9 k rfl
    exact ⟨by rw [hq.2.1 24 (fun e => e) (by decide)]; exact g1, roV_rq g2 hq (fun e => e) (fun e => e) (fun e => e) (fun _ _ _ e => by omega) (by simp; omega)⟩
  · cases e
    exact rbV_rq (h10 w k rfl) hq (fun e => e) (fun _ _ _ e => by omega) z1
set_option maxHeartbeats 2000000 in
theorem r_stSp (h : rgV σ M n m A kd bb wh dr ((D, T, va, bs, cl), (K, lc, up, fi, se, vr, fo, to, cd, ln, some k), (1, sp, ex, cf, spl), mp, mq)) (hA : stA n K lc up fi se vr fo to ln) (ho : stO K lc spl up fi se ln k) (hpm : pmI n m bs cl) (hz : szS n m K lc cl up fi k) (hx : x < n) (hsp : nP σ M (16456 + 300 * k) v) (hf : 2000 ≤ f) :
    gp (X12_split f (some M) (nI x)) σ (fun _ σ' => Rq M stF (gqA M) gqP σ σ' ∧ (((1000000000000000000 < v ∨ v < -1000000000000000000) ∨ 150 ≤ spl ∨ 24 ≤ (pt up fi k).length) → rgV σ' M n m A kd bb wh dr ((D, T, va, bs, cl), (K, lc, up, fi, se, vr, fo, to, cd, ln, some k), (4, sp, ex, cf, spl), mp1, mq)) ∧ (¬ ((1000000000000000000 < v ∨ v < -1000000000000000000) ∨ 150 ≤ spl ∨ 24 ≤ (pt up fi k).length) → rgV σ' M n m A kd bb wh dr ((D, T, va, bs, cl), (K + 1, lc, ups up K (some k), ups (ups fi k (some K)) K none, ups se K none, ups vr k x, ups fo k v, ups to k v, ups cd K false, ups ln K (ln k), some K), (1, sp, ex, cf, spl + 1), mp2, ups mq (ln k) (fun _ => (0, 1))))) := by
  obtain ⟨⟨h1, h2⟩, h3, h4, h5, h6, h7, -, h9, h10⟩ := rgV_un h
  obtain ⟨⟨z1, z2⟩, z3, z4, z5, z6⟩ := hz
  obtain ⟨c1, c2, c3, c4, c5⟩ := h4
  obtain ⟨w1, w2⟩ := h9 k rfl
  have hT := h7 (by decide)
  have hk : k < K := by have := ho.1; omega
  have hpt := sp_ptK hA hk ho.2.1
  refine gp_mono (r_split (p := pt up fi k) h1 h2 w1 c5 z1 z2 hT hpm h5 h6 w2 z6 ho.2.2.2.2.2.2.2 hk (by omega) (by omega) ho.2.2.1 hx hsp (fun s b hm => ?_) hf) ?_
  · obtain ⟨y1, y2⟩ := stA_mem hA hk hm
    obtain ⟨-, -, -, -, y5⟩ := hA s (by omega)
    obtain ⟨y6, y7, -⟩ := y5 y2
    exact ⟨y1, y2, y6, y7⟩
  rintro _ σ1 (⟨e1, q, e2⟩ | ⟨e1, q, ⟨e2, e3⟩, e4, e5, e6, e7, e8⟩)
  · refine ⟨Rq_mono q (fun _ e => by unfold stF; omega) (fun _ e => e.elim) (fun _ e => e.elim), fun _ => ?_, fun e => absurd e1 e⟩
    refine rgV_mk ⟨by omega, by omega⟩ ⟨mSh_fr h1 q.1, by rw [q.2.1 35 (by decide) (by decide)]; exact h2⟩ (rrV_rq h3 q (by decide) (by decide) (fun _ _ _ e => e)) ⟨e2, ?_, ?_, ?_, ?_⟩ (rkV_rq h5 q (by decide) (by decide) (fun _ _ _ e => e) (fun _ _ _ e => e) (by omega)) (rmV_rq h6 q (fun _ _ _ e => e) (by omega)) (fun _ => rtV_rq hT q (fun e => e) (fun e => e) (fun _ _ e => e) z1 z2 z5) (fun e => by cases e) (fun j e => ?_) (fun e => absurd e (by decide))
    · rw [q.2.1 8 (by decide) (by decide)]; exact c2
    · rw [q.2.1 9 (by decide) (by decide)]; exact c3
    · rw [q.2.1 10 (by decide) (by decide)]; exact c4
    · rw [q.2.1 11 (by decide) (by decide)]; exact c5
    · cases e
      exact ⟨by rw [q.2.1 24 (by decide) (by decide)]; exact w1, roV_rq w2 q (by decide) (fun e => e) (fun e => e) (fun _ _ _ e => e) (by simp; omega)⟩
  · refine ⟨Rq_mono q (fun _ e => by unfold stF; unfold gqF at e; omega) (fun _ e => e) (fun _ e => e), fun e => absurd e e1, fun _ => ?_⟩
    have nf : ∀ j, j ≠ 11 → j ≠ 15 → j ≠ 23 → j ≠ 24 → j ≠ 25 → ¬ (j = 11 ∨ gqF j) := fun j a b c d e w => by unfold gqF at w; omega
    refine rgV_mk ⟨by omega, by omega⟩ ⟨mSh_fr h1 q.1, by rw [q.2.1 35 (nf 35 (by decide) (by decide) (by decide) (by decide) (by decide)) (by decide)]; exact h2⟩ (rrV_rq h3 q (nf 0 (by decide) (by decide) (by decide) (by decide) (by decide)) (nf 1 (by decide) (by decide) (by decide) (by decide) (by decide)) (fun y _ _ => by unfold gqA; omega)) ⟨?_, ?_, ?_, ?_, e2⟩ e5 e6 (fun _ => e4) (fun e => by cases e) (fun j e => ?_) (fun _ j e => ?_)
    · rw [q.2.1 7 (nf 7 (by decide) (by decide) (by decide) (by decide) (by decide)) (by decide)]; exact c1
    · rw [q.2.1 8 (nf 8 (by decide) (by decide) (by decide) (by decide) (by decide)) (by decide)]; exact c2
    · rw [q.2.1 9 (nf 9 (by decide) (by decide) (by decide) (by decide) (by decide)) (by decide)]; exact c3
    · rw [q.2.1 10 (nf 10 (by decide) (by decide) (by decide) (by decide) (by decide)) (by decide)]; exact c4
    · cases e
      rw [hpt]
      exact ⟨e3, e7⟩
    · cases e
      rw [hpt]
      exact e8
end SR
