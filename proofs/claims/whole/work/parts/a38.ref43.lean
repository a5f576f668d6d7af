/-! ===== the reference: the step ===== -/
section SS
variable {f M n m K lc sp ex cf spl : Nat} {σ : tz_S} {A T : Nat → Nat → Int} {kd : Nat → Nat} {bb dr : Nat → Int} {wh : Nat → Bool} {D : Int} {va : Nat → Int} {bs cl : Nat → Nat} {up fi se : Nat → Option Nat} {vr : Nat → Nat} {fo to : Nat → Int} {cd : Nat → Bool} {ln : Nat → Nat} {op : Option Nat} {mp mq : Nat → Nat → Int × Int}
set_option maxHeartbeats 4000000 in
theorem r_step (hr : rwI n m A kd bb dr) (h : rgV σ M n m A kd bb wh dr ((D, T, va, bs, cl), (K, lc, up, fi, se, vr, fo, to, cd, ln, op), (1, sp, ex, cf, spl), mp, mq)) (hz : zI n m A kd bb ((D, T, va, bs, cl), (K, lc, up, fi, se, vr, fo, to, cd, ln, op), (1, sp, ex, cf, spl), mp, mq)) (hf : 20000 ≤ f) :
    gp (X12_step f (some M)) σ (fun _ σ' => Rq M stF (gqA M) gqP σ σ' ∧ rgV σ' M n m A kd bb wh dr (mStep n m kd bb wh ((D, T, va, bs, cl), (K, lc, up, fi, se, vr, fo, to, cd, ln, op), (1, sp, ex, cf, spl), mp, mq))) := by
  obtain ⟨-, h4, hA, hB, h5, -⟩ := zI_un hz
  obtain ⟨k, rfl, ho, hnb, -⟩ := h5 (by decide) (by decide)
  obtain ⟨hn1, hI, hpm, hva, hK0⟩ := h4 (by decide)
  have hk : k < K := by have := ho.1; omega
  have hS : szS n m K lc cl up fi k := by
    obtain ⟨o1, o2, o3, o4, o5, o6, o7, o8⟩ := ho
    exact ⟨hr.1, by omega, by omega, fun c hc => by have := hpm.2.1 c hc; have := hr.1; omega, o7⟩
  have htz := tSz_of hI hpm hr hva
  have hbz := bSz_of (vr := vr) (fo := fo) (up := up) (fi := fi) hr hA hk
  unfold X12_step X12_step_b69 X12_step_b45
  refine gp_rI (mh_me (rgV_un h).1.1) rfl ?_
  rw [(rgV_8 h).2, nI_1]
  refine gp_wI (mh_me (rgV_un h).1.1) rfl ?_
  have h' := rgV_cnt h hS
  have q0 : Rq M stF (gqA M) gqP σ (tz_sF σ M 8 (nI (sp + 1))) := Rq_F (by unfold stF; omega)
  clear h
  generalize tz_sF σ M 8 (nI (sp + 1)) = σa at *
  obtain ⟨⟨a1, a2⟩, a3, -, -, -, a7, -, -, a10⟩ := rgV_un h'
  have hT := a7 (by decide)
  have hb := a10 rfl k rfl
  have hmS : mStep n m kd bb wh ((D, T, va, bs, cl), (K, lc, up, fi, se, vr, fo, to, cd, ln, some k), (1, sp, ex, cf, spl), mp, mq) = mStep n m kd bb wh ((D, T, va, bs, cl), (K, lc, up, fi, se, vr, fo, to, cd, ln, some k), (1, sp, ex, cf, spl), mp, mq) := rfl
  refine gp_cV (mh_me a1) (gp_mono (r_wrongRow a1 a2 a3 hT htz hb hbz hpm (by omega)) ?_)
  rw [bd_U, bd_L]
  rintro y σb (⟨e1, rfl, sq⟩ | ⟨p, r, σb1, e1, hxr, rfl, sq, e2⟩)
  · have hb' := rgV_fr h' hS (Rq_sq (Fs := fun _ => False) sq) (fun _ e => e.elim) (by rw [sq.2.1 8 (by decide)]; exact (rgV_8 h').2)
    have qb : Rq M stF (gqA M) gqP σ σb := Rq_trans q0 (Rq_sq sq)
    refine gp_t rfl ?_
    obtain ⟨⟨b1, b2⟩, b3, bc, b5, b6, b7, -, b9, b10⟩ := rgV_un hb'
    refine gp_cV (mh_me b1) (gp_mono (r_brokenVariable b1 b2 b3 (b7 (by decide)) htz hpm (b9 k rfl).1 (by have := hS.2.1; omega) (by omega)) ?_)
    rintro y σc (⟨e3, rfl, sq2⟩ | ⟨x, r, e3, hxr, rfl, bq, hsp⟩)
    · have hc' := rgV_fr hb' hS (Rq_sq (Fs := fun _ => False) sq2) (fun _ e => e.elim) (by rw [sq2.2.1 8 (by decide)]; exact (rgV_8 hb').2)
      refine gp_t rfl ?_
      obtain ⟨⟨d1, d2⟩, d3, dc, d5, d6, d7, -, d9, -⟩ := rgV_un hc'
      refine gp_wI (mh_me d1) rfl ?_
      have qd : Rq M (fun j => j = 7) (fun _ => False) (fun _ => False) σc (tz_sF σc M 7 2) := Rq_F rfl
      refine gp_ret ⟨Rq_trans qb (Rq_trans (Rq_sq sq2) (Rq_F (by unfold stF; omega))), ?_⟩
      unfold mStep
      simp only [e1, e3]
      obtain ⟨c1, c2, c3, c4, c5⟩ := dc
      obtain ⟨⟨z1, z2⟩, z3, z4, z5, z6⟩ := hS
      refine rgV_mk ⟨by omega, by omega⟩ ⟨d1, by rw [qd.2.1 35 (by decide) (by decide)]; exact d2⟩ (rrV_rq d3 qd (by decide) (by decide) (fun _ _ _ e => e)) ⟨tz_u2_same _ _ _ _, ?_, ?_, ?_, ?_⟩ (rkV_rq d5 qd (by decide) (by decide) (fun _ _ _ e => e) (fun _ _ _ e => e) (by omega)) (rmV_rq d6 qd (fun _ _ _ e => e) (by omega)) (fun _ => rtV_rq (d7 (by decide)) qd (fun e => e) (fun e => e) (fun _ _ e => e) z1 z2 z5) (fun e => by cases e) (fun j e => ?_) (fun e => absurd e (by decide))
      · rw [qd.2.1 8 (by decide) (by decide)]; exact c2
      · rw [qd.2.1 9 (by decide) (by decide)]; exact c3
      · rw [qd.2.1 10 (by decide) (by decide)]; exact c4
      · rw [qd.2.1 11 (by decide) (by decide)]; exact c5
      · cases e
        exact ⟨by rw [qd.2.1 24 (by decide) (by decide)]; exact (d9 k rfl).1, roV_rq (d9 k rfl).2 qd (by decide) (fun e => e) (fun e => e) (fun _ _ _ e => e) (by simp; omega)⟩
    · obtain ⟨hxn, hxt, -⟩ := fst1_spec e3
      obtain ⟨r2, hxr2, -, hmod⟩ := brk_t hxt
      rw [hxr] at hxr2
      cases hxr2
      have hc' := rgV_bq hb' hS bq ho.2.1 hk
      refine gp_f (fun q => by have := (eM_neg (x := some x) (fun k e => by cases e; have := hr.1; omega)).1 q; cases this) ?_
      have d1 := (rgV_un hc').1.1
      refine gp_cV (mh_me d1) (gp_mono (r_stSp (mp1 := mp) (mp2 := ups mp (ln k) (fun _ => (0, 1))) hc' hA ho hpm hS hxn hsp (by omega)) ?_)
      rintro _ σd ⟨qd, g1, g2⟩
      have qc : Rq M stF (gqA M) gqP σb σc := Rq_mono bq (fun _ e => e.elim) (fun _ e => e.elim) (fun _ e => by unfold gqP; have := hS.2.1; omega)
      refine gp_ret ⟨Rq_trans qb (Rq_trans qc qd), ?_⟩
      unfold mStep
      simp only [e1, e3, hxr]
      have hfar := far_iff (a := amt n T va r) hI.1 hmod
      by_cases hd : (1000000000000000000 < flr (amt n T va r) D ∨ flr (amt n T va r) D < -1000000000000000000) ∨ 150 ≤ spl ∨ 24 ≤ (pt up fi k).length
      · rw [if_pos hd]
        exact g1 (by rw [← hfar]; exact hd)
      · rw [if_neg hd]
        have hfl := (flr_f hI.1 hmod (fun z => hd (Or.inl z))).2.2
        rw [hfl]
        exact g2 (by rw [← hfar]; exact hd)
  · obtain ⟨hp, hbt, -⟩ := fst1_spec e1
    obtain ⟨r2, hxr2, hsd⟩ := bey_t hbt
    rw [hxr] at hxr2
    cases hxr2
    obtain ⟨hrm, hbr⟩ := ix_some hxr
    have hside := bey_side hsd
    have hb1 : Rq M (fun j => j = 29) (fun _ => False) (fun _ => False) σa σb := by
      rw [e2]; exact Rq_trans (Rq_sq sq) (Rq_F rfl)
    have hb' := rgV_fr h' hS hb1 (fun _ e => Or.inr e) (by rw [hb1.2.1 8 (by decide) (by decide)]; exact (rgV_8 h').2)
    have qb : Rq M stF (gqA M) gqP σ σb := Rq_trans q0 (Rq_mono hb1 (fun _ e => by unfold stF; omega) (fun _ e => e.elim) (fun _ e => e.elim))
    have f29 : tz_F σb M 29 = if isBelow D (amt n T va r) (LB n kd bb vr fo up fi k p) = true then 1 else 0 := by
      rw [e2]; exact tz_u2_same _ _ _ _
    refine gp_f (fun q => by have := (eM_neg (x := some r) (fun k e => by cases e; have := hr.1; omega)).1 q; cases this) ?_
    obtain ⟨sd, hsd2, f29', hsx, hbv⟩ : ∃ sd, sd < 2 ∧ tz_F σb M 29 = nI sd ∧ ((sd = 1 ∧ sdI D (amt n T va r) (LB n kd bb vr fo up fi k p) = -1) ∨ (sd = 0 ∧ sdI D (amt n T va r) (LB n kd bb vr fo up fi k p) = 1)) ∧ bdS n kd bb (fun x => fU vr fo x (pt up fi k) none) (fun x => fL vr fo x (pt up fi k) none) (bs r) sd = some (bdI (sdI D (amt n T va r) (LB n kd bb vr fo up fi k p)) (UB n kd bb vr fo up fi k p) (LB n kd bb vr fo up fi k p)) := by
      rcases hside with ⟨v, s1, s2, -, s4, s5⟩ | ⟨v, s1, s2, -, s4, s5⟩
      · refine ⟨1, by omega, ?_, Or.inl ⟨rfl, s4⟩, ?_⟩
        · rw [f29, if_pos (by rw [s1]; exact decide_eq_true s2)]; rfl
        · rw [s4, s5, hbr]; exact s1
      · refine ⟨0, by omega, ?_, Or.inr ⟨rfl, s4⟩, ?_⟩
        · rw [f29, if_neg (fun w => by unfold sdI at s4; rw [if_pos w] at s4; exact absurd s4 (by decide))]; rfl
        · rw [s4, s5, hbr]; exact s1
    obtain ⟨⟨b1, b2⟩, b3, -, -, -, b7, -, -, b10⟩ := rgV_un hb'
    refine gp_cV (mh_me b1) (gp_mono (r_columnFor (s := sdI D (amt n T va r) (LB n kd bb vr fo up fi k p)) b1 b2 b3 (b7 (by decide)) htz (b10 rfl k rfl) hbz hpm (by rw [bd_U, bd_L]; exact hnb) hrm (by rw [f29']; rcases hsx with ⟨s1, s2⟩ | ⟨s1, s2⟩; exact Or.inl ⟨s2, by rw [s1]; rfl⟩; exact Or.inr ⟨s2, by rw [s1]; rfl⟩) (by omega)) ?_)
    rw [bd_U, bd_L]
    rintro y σc ⟨sq2, hy⟩
    have hc' := rgV_fr hb' hS (Rq_sq (Fs := fun _ => False) sq2) (fun _ e => e.elim) (by rw [sq2.2.1 8 (by decide)]; exact (rgV_8 hb').2)
    have c29 : tz_F σc M 29 = nI sd := by rw [sq2.2.1 29 (by decide)]; exact f29'
    have d1 := (rgV_un hc').1.1
    have qc : Rq M stF (gqA M) gqP σ σc := Rq_trans qb (Rq_sq sq2)
    cases he : fst1 (isEnt n T va cl (UB n kd bb vr fo up fi k) (LB n kd bb vr fo up fi k) r (sdI D (amt n T va r) (LB n kd bb vr fo up fi k p))) (n + m) with
    | some p2 =>
      obtain ⟨hp2, het, -⟩ := fst1_spec he
      obtain ⟨c, hxc, hTc⟩ := ent_t het
      obtain ⟨hcn, hclc⟩ := ix_some hxc
      have hy2 : y = nI c := by
        rw [hy, he]
        show eM (ix cl p2 n) = nI c
        rw [hxc]; rfl
      rw [hy2]
      refine gp_f (fun q => by have := (eM_neg (x := some c) (fun k e => by cases e; have := hr.1; omega)).1 q; cases this) ?_
      refine gp_cV (mh_me d1) (gp_mono (r_stEx hc' hr hA hk hI hpm hva hS hrm hcn hTc c29 hsd2 hbv (by omega)) ?_)
      rintro _ σd ⟨qd, g1⟩
      refine gp_ret ⟨Rq_trans qc qd, ?_⟩
      unfold mStep
      simp only [e1, hxr, he, hxc]
      exact g1
    | none =>
      have hy2 : y = -1 := by rw [hy, he]
      rw [hy2]
      refine gp_t rfl ?_
      refine gp_cV (mh_me d1) (gp_mono (r_stCf (s := sdI D (amt n T va r) (LB n kd bb vr fo up fi k p)) (mp1 := ups mp (ln k) (clM n r T D (sdI D (amt n T va r) (LB n kd bb vr fo up fi k p)) cl n (ups (mp (ln k)) (mix n (bs r) (sdI D (amt n T va r) (LB n kd bb vr fo up fi k p))) (D * sdI D (amt n T va r) (LB n kd bb vr fo up fi k p), D)))) (mp2 := ups (ups mp (ln k) (clM n r T D (sdI D (amt n T va r) (LB n kd bb vr fo up fi k p)) cl n (ups (mp (ln k)) (mix n (bs r) (sdI D (amt n T va r) (LB n kd bb vr fo up fi k p))) (D * sdI D (amt n T va r) (LB n kd bb vr fo up fi k p), D)))) lc (fun _ => (0, 1))) hc' hr hA ho hI hpm hva hS hrm c29 hsx hf) ?_)
      rintro _ σd ⟨qd, g1, g2⟩
      refine gp_ret ⟨Rq_trans qc qd, ?_⟩
      unfold mStep
      simp only [e1, hxr, he]
      cases hw : lwt se (pt up fi k) with
      | none => exact g1 hw
      | some s' => exact g2 s' hw
end SS
