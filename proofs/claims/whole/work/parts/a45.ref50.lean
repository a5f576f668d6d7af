/-! ===== the reference: value, told ===== -/
section SZ
variable {f M n m K lc st sp ex cf spl : Nat} {σ σ1 : tz_S} {A T : Nat → Nat → Int} {kd : Nat → Nat} {bb dr : Nat → Int} {wh : Nat → Bool} {D : Int} {va : Nat → Int} {bs cl : Nat → Nat} {tr : zTr} {mp mq : Nat → Nat → Int × Int} {wp wq : Nat → Int × Int} {hd hd2 : Int × Int} {ah : Bool} {Z : zS}
/-- a number has been taken to the hand -/
theorem rPo_hand {Fs : Nat → Prop} {y : Int32} (h : rfV σ M ((n, m, A, kd, bb, wh, dr), Z, wp, wq, hd, ah)) (ho : okF ((n, m, A, kd, bb, wh, dr), Z, wp, wq, hd, ah)) (hq : Rq M Fs (fun _ => False) hdP σ σ1) (hF : ∀ j, Fs j → j = 28) (hh : rhV σ1 M hd2 true) : rPo σ M ((n, m, A, kd, bb, wh, dr), Z, wp, wq, hd2, true) y y σ1 := by
  obtain ⟨hsl, hW, hH⟩ := rfV_un h
  obtain ⟨hr, hz, -⟩ := okF_un ho
  have hw := (rgV_sh hsl).2.2.1
  have nf : ∀ j, j ≠ 28 → ¬ Fs j := fun j a e => a (hF j e)
  exact ⟨rfl, Fr_mono hq.1 (fun x e => by rcases e with e | e | e; omega; omega; exact e.elim), rfV_mk (rgV_rq hsl hz hq (fun j e => by have := hF j e; omega) (fun _ e => e.elim) (fun i e => by unfold hdP at e; omega) (rrV_rq hw hq (nf 0 (by decide)) (nf 1 (by decide)) (fun _ _ _ e => e))) (rvV_rq hW hq (fun i a b e => by unfold hdP at e; omega)) hh⟩
set_option maxHeartbeats 1000000 in
theorem r_value {p : Int32} (h : rfV σ M ((n, m, A, kd, bb, wh, dr), ((D, T, va, bs, cl), tr, (st, sp, ex, cf, spl), mp, mq), wp, wq, hd, ah)) (ho : okF ((n, m, A, kd, bb, wh, dr), ((D, T, va, bs, cl), tr, (st, sp, ex, cf, spl), mp, mq), wp, wq, hd, ah)) (hf : 20000 ≤ f) : gp (X12_value f (some M) p) σ (rPo σ M (mVal p ((n, m, A, kd, bb, wh, dr), ((D, T, va, bs, cl), tr, (st, sp, ex, cf, spl), mp, mq), wp, wq, hd, ah)).1 (mVal p ((n, m, A, kd, bb, wh, dr), ((D, T, va, bs, cl), tr, (st, sp, ex, cf, spl), mp, mq), wp, wq, hd, ah)).2) := by
  obtain ⟨K, lc, up, fi, se, vr, fo, to, cd, ln, op⟩ := tr
  obtain ⟨hsl, hW, hH⟩ := rfV_un h
  obtain ⟨hr, hz, -⟩ := okF_un ho
  obtain ⟨⟨hc, h35⟩, hw, ⟨c4, -⟩, -, -, h7, -⟩ := rgV_un hsl
  obtain ⟨⟨z1, -⟩, z4, -⟩ := zI_un hz
  unfold X12_value
  unfold mVal
  simp only
  refine gp_cV (mh_me hc) (gp_mono (r_isPlace hc hw c4 z1) ?_)
  rintro y σ0 ⟨e0, hy⟩
  rw [e0]
  clear e0 σ0
  refine gp_if (fun z => ?_) (fun z => ?_)
  · have := ite0 hy z
    rw [if_neg this]
    exact gp_ret (rPo_0 h rfl)
  have hx : st ≠ 0 ∧ 0 ≤ p.toInt ∧ p.toInt < n + m := ite1 hy z
  rw [if_pos hx]
  obtain ⟨k, hk, hk31, hk2⟩ := i32_nat hx.2.1
  have hT := h7 hx.1
  obtain ⟨-, hI, hpm, hva, -⟩ := z4 hx.1
  have htz := tSz_of hI hpm hr hva
  have hn := hw.1.2.2
  have hcl : ∀ c, c < n → cl c < 22 := fun c hc => by have := hpm.2.1 c hc; omega
  rw [show p.toInt.toNat = k by omega, hk]
  refine gp_rI (mh_me hc) rfl ?_
  rw [h35]
  refine gp_cV (mh_me hc) (gp_mono (r_rowOf (bs := bs) hc hw.1.2.1 hn.2 (fun r hr => ⟨hT.1 r hr, by have := hpm.1 r hr; omega⟩) (by omega) (by omega)) ?_)
  rintro _ σ0 ⟨z0, rfl⟩
  rw [z0]
  clear z0 σ0
  unfold X12_value_b53
  have fin : ∀ (σ1 σ2 : tz_S) (x y : Int) (s : Int32), s = isg x → Rq M (fun j => j = 35) (fun _ => False) (fun _ => False) σ σ1 → Rq M hdF (fun _ => False) hdP σ1 σ2 → rhV σ2 M (rd x y) true → gp (pz_uB (pz_wF 12 35 (some M) (.int (nI 447200))) (pz_ret s)) σ2 (rPo σ M ((n, m, A, kd, bb, wh, dr), ((D, T, va, bs, cl), (K, lc, up, fi, se, vr, fo, to, cd, ln, op), (st, sp, ex, cf, spl), mp, mq), wp, wq, rd x y, true) (isg x)) := by
    intro σ1 σ2 x y s hs q1 q2 hh
    rw [hs]
    have h2 := mSh_fr (mSh_fr hc q1.1) q2.1
    refine gp_wI (mh_me h2) rfl ?_
    have q : Rq M hdF (fun _ => False) hdP σ (tz_sF σ2 M 35 (nI 447200)) := by
      refine ⟨Fr_trans (Fr_trans q1.1 q2.1) (Fr_sF (Or.inl rfl)), fun j a b => ?_, fun i a b => ?_⟩
      · rw [sF_at]
        by_cases e : j = 35
        · rw [if_pos ⟨rfl, e⟩, e, h35]
        · rw [if_neg (fun w => e w.2), q2.2.1 j a b]; exact q1.2.1 j e b
      · rw [sF_A, q2.2.2 i a b]; exact q1.2.2 i a (fun e => e)
    exact gp_ret (rPo_hand h ho q (fun j e => e) (rhV_rq hh (Rq_F (Fs := fun j => j = 35) (As := fun _ => False) (Ps := fun _ => False) rfl) (by decide) (fun _ _ _ e => e)))
  rcases hpm.2.2.2.2.2 k (by omega) with ⟨r, hrm, hbr⟩ | ⟨c, hcn, hcc⟩
  · have hix : ix bs k m = some r := ix_first hrm hbr (fun i hi e => by have := hpm.2.2.1 i r (by omega) hrm (e.trans hbr.symm); omega)
    rw [hix]
    simp only
    refine gp_f (fun q => by have := (eM_neg (x := some r) (fun k e => by cases e; omega)).1 q; cases this) ?_
    refine gp_cV (mh_me hc) (gp_mono (r_sumOf hc h35 (Nat.le_refl _) (by omega) hw.1.1 hn.1 hn.2 hT htz hrm hcl (by omega)) ?_)
    rintro _ σ1 ⟨rfl, hP1, k1, hk1, h351, hv1⟩
    have h1 := mSh_fr hc hP1.1
    obtain ⟨kD, d1, d2⟩ := nP_pq hT.2.2.1 hP1 (by omega)
    have hkD := nV_le d1 htz.2.1
    refine gp_cV (mh_me h1) (gp_mono (r_hand (y := 0) h1 h351 (by omega) (by omega) hv1 d1 htz.1 (by omega) (by omega) (Or.inl (by omega)) (by omega) (by omega) hf) ?_)
    rintro s σ2 ⟨hs, q2, hh⟩
    exact fin σ1 σ2 _ _ s hs (Rq_pq hP1 rfl (fun j a b c => by omega)) q2 hh
  · have hix : ix bs k m = none := ix_no (fun i hi e => hpm.2.2.2.2.1 i c hi hcn (e.trans hcc.symm))
    have hix2 : ix cl k n = some c := ix_first hcn hcc (fun i hi e => by have := hpm.2.2.2.1 i c (by omega) hcn (e.trans hcc.symm); omega)
    rw [hix]
    simp only [hix2]
    refine gp_t rfl ?_
    unfold X12_valueAt
    refine gp_cB (gp_ret ?_)
    rw [at_v]
    refine gp_cV (mh_me hc) (gp_mono (r_plainOf (v := 1) hc h35 (by decide) (by omega) (by omega)) ?_)
    rintro _ σ1 ⟨rfl, hP1, k1, hk1, h351, hv1⟩
    have h1 := mSh_fr hc hP1.1
    obtain ⟨kV, d1, d2⟩ := nP_pq (hT.2.2.2.2 c hcn) hP1 (by omega)
    rw [hcc] at d1 d2
    have hkV := nV_le d1 (htz.2.2.2.1 c hcn)
    refine gp_cV (mh_me h1) (gp_mono (r_hand h1 h351 (by omega) (by omega) d1 hv1 (by decide) (by omega) (by omega) (Or.inr (by omega)) (by omega) (by omega) hf) ?_)
    rintro s σ2 ⟨hs, q2, hh⟩
    exact fin σ1 σ2 _ 1 s hs (Rq_pq hP1 rfl (fun j a b c => by omega)) q2 hh
end SZ
