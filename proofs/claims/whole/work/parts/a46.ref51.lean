/-! ===== the reference: told ===== -/
section TA
variable {f M n m K lc st sp ex cf spl : Nat} {σ σ1 : tz_S} {A T : Nat → Nat → Int} {kd : Nat → Nat} {bb dr : Nat → Int} {wh : Nat → Bool} {D : Int} {va : Nat → Int} {bs cl : Nat → Nat} {tr : zTr} {mp mq : Nat → Nat → Int × Int} {wp wq : Nat → Int × Int} {hd hd2 : Int × Int} {ah : Bool} {Z : zS}
set_option maxHeartbeats 1000000 in
theorem r_told {p b : Int32} (h : rfV σ M ((n, m, A, kd, bb, wh, dr), ((D, T, va, bs, cl), tr, (st, sp, ex, cf, spl), mp, mq), wp, wq, hd, ah)) (ho : okF ((n, m, A, kd, bb, wh, dr), ((D, T, va, bs, cl), tr, (st, sp, ex, cf, spl), mp, mq), wp, wq, hd, ah)) (hf : 20000 ≤ f) : gp (X12_told f (some M) p b) σ (rPo σ M (mTol p b ((n, m, A, kd, bb, wh, dr), ((D, T, va, bs, cl), tr, (st, sp, ex, cf, spl), mp, mq), wp, wq, hd, ah)).1 (mTol p b ((n, m, A, kd, bb, wh, dr), ((D, T, va, bs, cl), tr, (st, sp, ex, cf, spl), mp, mq), wp, wq, hd, ah)).2) := by
  obtain ⟨K, lc, up, fi, se, vr, fo, to, cd, ln, op⟩ := tr
  obtain ⟨hsl, hW, hH⟩ := rfV_un h
  obtain ⟨hr, hz, -⟩ := okF_un ho
  obtain ⟨⟨hc, h35⟩, hw, ⟨c4, -⟩, -, -, h7, -⟩ := rgV_un hsl
  obtain ⟨⟨z1, -⟩, z4, -⟩ := zI_un hz
  unfold X12_told X12_told_b34
  unfold mTol
  simp only
  refine gp_cV (mh_me hc) (gp_mono (r_isPlace hc hw c4 z1) ?_)
  rintro y σ0 ⟨e0, hy⟩
  rw [e0]
  clear e0 σ0
  refine gp_if (fun z => ?_) (fun z => ?_)
  · have := ite0 hy z
    rw [if_neg (fun w => this w.1)]
    exact gp_ret (rPo_0 h rfl)
  have hx : st ≠ 0 ∧ 0 ≤ p.toInt ∧ p.toInt < n + m := ite1 hy z
  refine gp_cV (mh_me hc) (gp_mono (r_isPlace hc hw c4 z1) ?_)
  rintro y2 σ0 ⟨e0, hy2⟩
  rw [e0]
  clear e0 σ0
  refine gp_if (fun z => ?_) (fun z => ?_)
  · have := ite0 hy2 z
    rw [if_neg (fun w => this ⟨hx.1, w.2⟩)]
    exact gp_ret (rPo_0 h rfl)
  have hx2 : st ≠ 0 ∧ 0 ≤ b.toInt ∧ b.toInt < n + m := ite1 hy2 z
  rw [if_pos ⟨hx, hx2.2⟩]
  obtain ⟨k, hk, hk31, hk2⟩ := i32_nat hx.2.1
  obtain ⟨l, hl, hl31, hl2⟩ := i32_nat hx2.2.1
  have hT := h7 hx.1
  obtain ⟨-, hI, hpm, hva, -⟩ := z4 hx.1
  have htz := tSz_of hI hpm hr hva
  have hn := hw.1.2.2
  have hcl : ∀ c, c < n → cl c < 22 := fun c hc => by have := hpm.2.1 c hc; omega
  rw [show p.toInt.toNat = k by omega, hk, show b.toInt.toNat = l by omega, hl]
  have row1 := r_rowOf (f := f) (bs := bs) (p := k) hc hw.1.2.1 hn.2 (fun r hr => ⟨hT.1 r hr, by have := hpm.1 r hr; omega⟩) (by omega) (by omega)
  have col1 := r_columnAt (f := f) (cl := cl) (p := l) hc hw.1.1 hn.1 (fun c hc => ⟨hT.2.1 c hc, by have := hcl c hc; omega⟩) (by omega) (by omega)
  refine gp_cV (mh_me hc) (gp_mono row1 ?_)
  rintro _ σ0 ⟨e0, rfl⟩
  rw [e0]
  clear e0 σ0
  cases hix : ix bs k m with
  | none => exact gp_t rfl (gp_ret (rPo_0 h rfl))
  | some r =>
    obtain ⟨hrm, -⟩ := ix_some hix
    rw [hix] at row1
    refine gp_f (fun q => by have := (eM_neg (x := some r) (fun k e => by cases e; omega)).1 q; cases this) ?_
    refine gp_cV (mh_me hc) (gp_mono col1 ?_)
    rintro _ σ0 ⟨e0, rfl⟩
    rw [e0]
    clear e0 σ0
    cases hix2 : ix cl l n with
    | none => exact gp_t rfl (gp_ret (rPo_0 h rfl))
    | some c =>
      obtain ⟨hcn, -⟩ := ix_some hix2
      rw [hix2] at col1
      refine gp_f (fun q => by have := (eM_neg (x := some c) (fun k e => by cases e; omega)).1 q; cases this) ?_
      refine gp_cV (mh_me hc) (gp_mono row1 ?_)
      rintro _ σ0 ⟨e0, rfl⟩
      rw [e0]
      clear e0 σ0
      refine gp_cV (mh_me hc) (gp_mono col1 ?_)
      rintro _ σ0 ⟨e0, rfl⟩
      rw [e0]
      clear e0 σ0
      unfold X12_factorAt
      refine gp_cB (gp_ret ?_)
      rw [show eM (some r) = nI r from rfl, show eM (some c) = nI c from rfl, at_f]
      obtain ⟨kT, t1, t2⟩ := hT.2.2.2.1 r c hrm hcn
      obtain ⟨kD, d1, d2⟩ := hT.2.2.1
      have hkT := nV_le t1 (htz.2.2.1 r c hrm hcn)
      have hkD := nV_le d1 htz.2.1
      refine gp_cV (mh_me hc) (gp_mono (r_hand (y := 0) hc h35 (Nat.le_refl _) (by omega) t1 d1 htz.1 (by omega) (by omega) (Or.inl (by omega)) (by omega) (by omega) hf) ?_)
      rintro s σ2 ⟨hs, q2, hh⟩
      rw [hs]
      exact gp_ret (rPo_hand h ho q2 (fun j e => e) hh)
end TA
