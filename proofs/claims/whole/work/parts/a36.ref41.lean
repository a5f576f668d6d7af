/-! ===== the reference: a step that closes a leaf ===== -/
section SQ
variable {f M n m K lc sp ex cf spl k r sd : Nat} {σ σ1 : tz_S} {A T : Nat → Nat → Int} {kd : Nat → Nat} {bb dr : Nat → Int} {wh : Nat → Bool} {D s : Int} {va : Nat → Int} {bs cl : Nat → Nat} {up fi se : Nat → Option Nat} {vr : Nat → Nat} {fo to : Nat → Int} {cd : Nat → Bool} {ln : Nat → Nat} {mp mq : Nat → Nat → Int × Int} {mp1 mp2 : Nat → Nat → Int × Int}
theorem rkV_cd {Fs As Ps : Nat → Prop} (hk : rkV σ M K lc up fi se vr to cd ln) (hq : Rq M Fs As Ps σ σ1) (h15 : ¬ Fs 15) (h23 : ¬ Fs 23) (hA : ∀ x, M + 9 ≤ x → x ≤ M + 15 → x ≠ M + 10 → ¬ As x) (hP : ∀ i, 16456 ≤ i → i < 109456 → ¬ Ps i) (hK : K ≤ 310) (hc : ∀ j, tz_A σ1 (M + 10) j = if j = k then 1 else tz_A σ (M + 10) j) : rkV σ1 M K lc up fi se vr to (ups cd k true) ln := by
  obtain ⟨⟨b1, b2⟩, b3⟩ := hk
  refine ⟨⟨by rw [hq.2.1 15 h15 (by decide)]; exact b1, by rw [hq.2.1 23 h23 (by decide)]; exact b2⟩, fun j hj => ?_⟩
  obtain ⟨a1, a2, a3, a4, a5, a6, a7⟩ := b3 j hj
  refine ⟨?_, ?_, ?_, ?_, ?_, ?_, fun z => ⟨?_, nP_rq (a7 z).2 hq (fun i a b => hP i (by omega) (by omega))⟩⟩
  · rw [Rq_get hq (by omega) (by omega) (hA _ (by omega) (by omega) (by omega))]; exact a1
  · rw [hc]
    by_cases e : j = k
    · rw [if_pos e, e, ups_s]; rfl
    · rw [if_neg e, ups_n _ _ e]; exact a2
  · rw [Rq_get hq (by omega) (by omega) (hA _ (by omega) (by omega) (by omega))]; exact a3
  · rw [Rq_get hq (by omega) (by omega) (hA _ (by omega) (by omega) (by omega))]; exact a4
  · rw [Rq_get hq (by omega) (by omega) (hA _ (by omega) (by omega) (by omega))]; exact a5
  · rw [Rq_get hq (by omega) (by omega) (hA _ (by omega) (by omega) (by omega))]; exact a6
  · rw [Rq_get hq (by omega) (by omega) (hA _ (by omega) (by omega) (by omega))]; exact (a7 z).1
set_option maxHeartbeats 4000000 in
theorem r_stCf (h : rgV σ M n m A kd bb wh dr ((D, T, va, bs, cl), (K, lc, up, fi, se, vr, fo, to, cd, ln, some k), (1, sp, ex, cf, spl), mp, mq)) (hr : rwI n m A kd bb dr) (hA : stA n K lc up fi se vr fo to ln) (ho : stO K lc spl up fi se ln k) (hI : tbI n m A D T bs cl) (hpm : pmI n m bs cl) (hva : vaB n va) (hz : szS n m K lc cl up fi k) (hrm : r < m) (h29 : tz_F σ M 29 = nI sd) (hsd : (sd = 1 ∧ s = -1) ∨ (sd = 0 ∧ s = 1)) (hf : 20000 ≤ f) :
    gp (X12_conflict f (some M) (nI r)) σ (fun _ σ' => Rq M stF (gqA M) gqP σ σ' ∧ (lwt se (pt up fi k) = none → rgV σ' M n m A kd bb wh dr ((D, T, va, bs, cl), (K, lc, up, fi, se, vr, fo, to, ups cd k true, ln, none), (3, sp, ex, cf + 1, spl), mp1, ups mq (ln k) (clQ n r T D s cl n (ups (mq (ln k)) (mix n (bs r) s) (s, 1))))) ∧ ∀ s', lwt se (pt up fi k) = some s' → rgV σ' M n m A kd bb wh dr ((D, T, mvV n cl va (vr s') (fL vr fo (vr s') ((s', false) :: pt up fi s') none), bs, cl), (K + 1, lc + 1, ups up K (some s'), ups fi K none, (fun j => if j = K then none else if some s' = some j then some K else se j), vr, fo, to, ups (ups cd k true) K false, ups ln K lc, some K), (1, sp, ex, cf + 1, spl), mp2, ups (ups mq (ln k) (clQ n r T D s cl n (ups (mq (ln k)) (mix n (bs r) s) (s, 1)))) lc (fun _ => (0, 1)))) := by
  obtain ⟨⟨h1, h2⟩, h3, h4, h5, h6, h7, -, h9, h10⟩ := rgV_un h
  obtain ⟨⟨z1, z2⟩, z3, z4, z5, z6⟩ := hz
  obtain ⟨c1, c2, c3, c4, c5⟩ := h4
  obtain ⟨w1, w2⟩ := h9 k rfl
  have hT := h7 (by decide)
  have hk : k < K := by have := ho.1; omega
  have hlk : ln k < lc := by have := ho.2.2.1; omega
  have a1 := h3.1.1
  obtain ⟨-, -, -, -, -, b6, -⟩ := h5.2 k hk
  have hup := stA_up hA
  generalize hG : clQ n r T D s cl n (ups (mq (ln k)) (mix n (bs r) s) (s, 1)) = G
  refine r_cf0 (op := (pt up fi k).length) (lf := ln k) (mq := mq) ⟨h1, ⟨a1, h29, w1, by rw [w2.1]; simp⟩, b6, hT⟩ c4 h2 z1 z2 (tSz_of hI hpm hr hva) hpm (by omega) hlk (by omega) hrm hsd h6 hf (fun σ2 q2 g1 g2 g3 => ?_)
  rw [hG] at g3
  have hs2 := mSh_fr h1 q2.1
  have ho2 := roV_rq w2 q2 (by decide) (by omega) (by omega) (fun _ _ _ e => by unfold lvP at e; omega) (by simp; omega)
  have hk2 := rkV_cd h5 q2 (by decide) (by decide) (fun x _ _ a => a) (fun _ _ _ e => by unfold lvP at e; omega) (by omega) g2
  have hT2 := rtV_rq hT q2 (by omega) (by omega) (fun _ _ e => by unfold lvP at e; omega) z1 z2 z5
  have hrr2 := rrV_rq h3 q2 (by decide) (by decide) (fun x _ _ => by omega)
  have t2 : tz_F σ2 M 35 = nI 447200 := by rw [q2.2.1 35 (by decide) (by decide)]; exact h2
  have F2 : ∀ j, j ≠ 10 → j ≠ 36 → tz_F σ2 M j = tz_F σ M j := fun j a b => q2.2.1 j a b
  have q2' : Rq M stF (gqA M) gqP σ σ2 := Rq_mono q2 (fun _ e => by unfold stF; omega) (fun _ e => by unfold gqA; omega) (fun _ e => by unfold gqP; unfold lvP at e; omega)
  refine r_cfK (se := se) (K := K) hs2 ho2 z6 hup hk ho.2.2.2.2.2.1 (by omega) (fun hl => ?_) (fun s' pre hs' hpre hl => ?_)
  · unfold X12_conflict_b196
    refine gp_f (by decide) ?_
    refine gp_wI (mh_me hs2) rfl ?_
    have hs3 : mSh (tz_sF σ2 M 25 0) M := hs2
    refine gp_wI (mh_me hs3) rfl ?_
    have q4 : Rq M (fun j => j = 25 ∨ j = 7) (fun _ => False) (fun _ => False) σ2 (tz_sF (tz_sF σ2 M 25 0) M 7 3) := Rq_trans (Rq_F (Or.inl rfl)) (Rq_F (Or.inr rfl))
    have f7 : tz_F (tz_sF (tz_sF σ2 M 25 0) M 7 3) M 7 = nI 3 := tz_u2_same _ _ _ _
    have f25 : tz_F (tz_sF (tz_sF σ2 M 25 0) M 7 3) M 25 = nI 0 := (tz_u2_ne _ _ (Or.inr (by decide))).trans (tz_u2_same _ _ _ _)
    refine gp_ret ⟨Rq_trans q2' (Rq_mono q4 (fun _ e => by unfold stF; omega) (fun _ e => e.elim) (fun _ e => e.elim)), fun _ => ?_, fun s' e => by rw [hl] at e; cases e⟩
    refine rgV_mk ⟨by omega, by omega⟩ ⟨hs2, by rw [q4.2.1 35 (by decide) (by decide)]; exact t2⟩ (rrV_rq hrr2 q4 (by decide) (by decide) (fun _ _ _ e => e)) ⟨f7, ?_, ?_, ?_, ?_⟩ (rkV_rq hk2 q4 (by decide) (by decide) (fun _ _ _ e => e) (fun _ _ _ e => e) (by omega)) (rmV_rq g3 q4 (fun _ _ _ e => e) (by omega)) (fun _ => rtV_rq hT2 q4 (fun e => e) (fun e => e) (fun _ _ e => e) z1 z2 z5) (fun _ => f25) (fun _ e => by cases e) (fun e => absurd e (by decide))
    · rw [q4.2.1 8 (by decide) (by decide), F2 8 (by decide) (by decide)]; exact c2
    · rw [q4.2.1 9 (by decide) (by decide), F2 9 (by decide) (by decide)]; exact c3
    · rw [q4.2.1 10 (by decide) (by decide)]; exact g1
    · rw [q4.2.1 11 (by decide) (by decide), F2 11 (by decide) (by decide)]; exact c5
  · obtain ⟨d1, d2, d3, d4, -⟩ := ad_O hA ho hl
    refine gp_mono (r_cfS hs2 t2 ((F2 0 (by decide) (by decide)).trans a1) z1 z2 hT2 hpm hk2 g3 ho2 hpre z6 hs' (by omega) (by omega) (fun s2 b hm => ?_) (by omega)) ?_
    · have hx : s2 < K ∧ fi s2 ≠ none := by
        rcases List.mem_cons.1 hm with e | e
        · cases e; exact ⟨d1, d2⟩
        · have := stA_mem hA hk (d4 _ e)
          exact ⟨by omega, this.2⟩
      obtain ⟨-, -, -, -, y5⟩ := hA s2 hx.1
      obtain ⟨y6, y7, -⟩ := y5 hx.2
      exact ⟨hx.1, hx.2, y6, y7⟩
    rintro _ σ3 ⟨u1, u2, u3, u4, u5, u6, u7⟩
    have F3 : ∀ j, ¬ gqF j → j ≠ 10 → j ≠ 36 → tz_F σ3 M j = tz_F σ M j := fun j a b c => (u1.2.1 j a c).trans (F2 j b c)
    have hpt := ad_ptK hA d1 d2
    refine ⟨Rq_trans q2' (Rq_mono u1 (fun _ e => by unfold stF; unfold gqF at e; omega) (fun _ e => e) (fun _ e => e)), fun e => (by rw [hl] at e; cases e), fun s'' e => ?_⟩
    rw [hl] at e
    cases e
    refine rgV_mk ⟨by omega, by omega⟩ ⟨mSh_fr hs2 u1.1, by rw [u1.2.1 35 (by unfold gqF; omega) (by decide)]; exact t2⟩ (rrV_rq hrr2 u1 (by unfold gqF; omega) (by unfold gqF; omega) (fun x _ _ => by unfold gqA; omega)) ⟨?_, ?_, ?_, ?_, ?_⟩ u4 u5 (fun _ => u3) (fun e => by cases e) (fun j e => ?_) (fun _ j e => ?_)
    · rw [F3 7 (by unfold gqF; omega) (by decide) (by decide)]; exact c1
    · rw [F3 8 (by unfold gqF; omega) (by decide) (by decide)]; exact c2
    · rw [F3 9 (by unfold gqF; omega) (by decide) (by decide)]; exact c3
    · rw [u1.2.1 10 (by unfold gqF; omega) (by decide)]; exact g1
    · rw [F3 11 (by unfold gqF; omega) (by decide) (by decide)]; exact c5
    · cases e
      rw [hpt]
      exact ⟨u2, u6⟩
    · cases e
      rw [hpt]
      exact u7
end SQ
