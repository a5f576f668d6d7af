/-! ===== the reference: state, basic, hand ===== -/
section SX
variable {f M n m K lc st sp ex cf spl : Nat} {σ σ1 : tz_S} {A T : Nat → Nat → Int} {kd : Nat → Nat} {bb dr : Nat → Int} {wh : Nat → Bool} {D : Int} {va : Nat → Int} {bs cl : Nat → Nat} {up fi se : Nat → Option Nat} {vr : Nat → Nat} {fo to : Nat → Int} {cd : Nat → Bool} {ln : Nat → Nat} {op : Option Nat} {mp mq : Nat → Nat → Int × Int} {wp wq : Nat → Int × Int} {hd : Int × Int} {ah : Bool}
theorem r_state {v : Int32} (h : rfV σ M ((n, m, A, kd, bb, wh, dr), ((D, T, va, bs, cl), (K, lc, up, fi, se, vr, fo, to, cd, ln, op), (st, sp, ex, cf, spl), mp, mq), wp, wq, hd, ah)) : gp (X12_state f (some M) v) σ (fun y σ' => σ' = σ ∧ y = mSta v ((n, m, A, kd, bb, wh, dr), ((D, T, va, bs, cl), (K, lc, up, fi, se, vr, fo, to, cd, ln, op), (st, sp, ex, cf, spl), mp, mq), wp, wq, hd, ah)) := by
  obtain ⟨hsl, hW, hH⟩ := rfV_un h
  obtain ⟨⟨hc, -⟩, hw, ⟨c4, c5, c6, c7, c8⟩, hk, -, -, h8, h9, -⟩ := rgV_un hsl
  unfold X12_state
  unfold mSta
  simp only
  refine gp_tsw (fun w => ?_) (fun k mm hk2 hm => ?_)
  · have w' : v.toInt < 0 ∨ 9 ≤ v.toInt := by
      rcases w with w | w
      · exact Or.inl w
      · simp only [List.length_cons, List.length_nil] at w
        omega
    rw [if_neg (by omega), if_neg (by omega), if_neg (by omega), if_neg (by omega), if_neg (by omega), if_neg (by omega), if_neg (by omega), if_neg (by omega), if_neg (by omega)]
    exact gp_ret ⟨rfl, rfl⟩
  rw [hk2]
  match k, hm with
  | 0, hm =>
    cases hm
    refine gp_rI (mh_me hc) rfl (gp_ret ⟨rfl, ?_⟩)
    rw [c4]; rfl
  | 1, hm =>
    cases hm
    refine gp_rI (mh_me hc) rfl (gp_ret ⟨rfl, ?_⟩)
    rw [c5]; rfl
  | 2, hm =>
    cases hm
    refine gp_rI (mh_me hc) rfl (gp_ret ⟨rfl, ?_⟩)
    rw [c6]; rfl
  | 3, hm =>
    cases hm
    refine gp_rI (mh_me hc) rfl (gp_ret ⟨rfl, ?_⟩)
    rw [c7]; rfl
  | 4, hm =>
    cases hm
    refine gp_rI (mh_me hc) rfl (gp_ret ⟨rfl, ?_⟩)
    rw [c8]; rfl
  | 5, hm =>
    cases hm
    refine gp_rI (mh_me hc) rfl (gp_ret ⟨rfl, ?_⟩)
    cases hop : op with
    | none => rw [h8 hop]; rfl
    | some k => rw [(h9 k hop).2.1, List.length_reverse]; rfl
  | 6, hm =>
    cases hm
    refine gp_rI (mh_me hc) rfl (gp_ret ⟨rfl, ?_⟩)
    rw [hw.1.2.1]; rfl
  | 7, hm =>
    cases hm
    refine gp_rI (mh_me hc) rfl (gp_ret ⟨rfl, ?_⟩)
    rw [hw.1.1]; rfl
  | 8, hm =>
    cases hm
    refine gp_rI (mh_me hc) rfl (gp_ret ⟨rfl, ?_⟩)
    rw [hk.1.1]; rfl
  | k + 9, hm => simp at hm
theorem r_isPlace {p : Int32} (hc : mSh σ M) (hw : rrV σ M n m A kd bb wh dr) (h7 : tz_F σ M 7 = nI st) (hst : st ≤ 4) : gp (X12_isPlace f (some M) p) σ (fun y σ' => σ' = σ ∧ y = if st ≠ 0 ∧ 0 ≤ p.toInt ∧ p.toInt < n + m then 1 else 0) := by
  obtain ⟨⟨w0, w1, hn, hm⟩, -⟩ := id hw
  unfold X12_isPlace X12_isPlace_b28 X12_isPlace_b29
  refine gp_rI (mh_me hc) rfl ?_
  rw [h7]
  refine gp_if (fun z => ?_) (fun z => ?_)
  · rw [show (0 : Int32) = nI 0 from rfl, nI_leI (by omega) (by omega)] at z
    exact gp_zz (Or.inl rfl) (gp_ret ⟨rfl, by rw [if_neg (by omega)]⟩)
  rw [show (0 : Int32) = nI 0 from rfl, nI_leI (by omega) (by omega)] at z
  refine gp_if (fun y => ?_) (fun y => ?_)
  · have y' : p.toInt < 0 := (i32_c p 0).1.1 y
    exact gp_zz (Or.inl rfl) (gp_ret ⟨rfl, by rw [if_neg (by omega)]⟩)
  have y' : ¬ p.toInt < 0 := fun w => y ((i32_c p 0).1.2 w)
  refine gp_rI (mh_me hc) rfl ?_
  refine gp_rI (mh_me hc) rfl ?_
  rw [w0, w1, nI_add]
  obtain ⟨k, hk, hk31, hk2⟩ := i32_nat (show 0 ≤ p.toInt by omega)
  rw [hk]
  refine gp_if (fun x => ?_) (fun x => ?_)
  · rw [nI_leI (by omega) (by omega)] at x
    exact gp_zz (Or.inl rfl) (gp_ret ⟨rfl, by rw [← hk, if_neg (by omega)]⟩)
  · rw [nI_leI (by omega) (by omega)] at x
    exact gp_zz (Or.inr rfl) (gp_ret ⟨rfl, by rw [← hk, if_pos (by omega)]⟩)
theorem r_basic {p : Int32} (h : rfV σ M ((n, m, A, kd, bb, wh, dr), ((D, T, va, bs, cl), (K, lc, up, fi, se, vr, fo, to, cd, ln, op), (st, sp, ex, cf, spl), mp, mq), wp, wq, hd, ah)) (ho : okF ((n, m, A, kd, bb, wh, dr), ((D, T, va, bs, cl), (K, lc, up, fi, se, vr, fo, to, cd, ln, op), (st, sp, ex, cf, spl), mp, mq), wp, wq, hd, ah)) (hf : 2000 ≤ f) : gp (X12_basic f (some M) p) σ (fun y σ' => σ' = σ ∧ y = mBas p ((n, m, A, kd, bb, wh, dr), ((D, T, va, bs, cl), (K, lc, up, fi, se, vr, fo, to, cd, ln, op), (st, sp, ex, cf, spl), mp, mq), wp, wq, hd, ah)) := by
  obtain ⟨hsl, hW, hH⟩ := rfV_un h
  obtain ⟨hr, hz, -⟩ := okF_un ho
  obtain ⟨⟨hc, -⟩, hw, ⟨c4, -⟩, -, -, h7, -⟩ := rgV_un hsl
  obtain ⟨⟨z1, -⟩, z4, -⟩ := zI_un hz
  unfold X12_basic X12_basic_b26
  refine gp_cV (mh_me hc) (gp_mono (r_isPlace hc hw c4 z1) ?_)
  rintro y σ0 ⟨z0, hy⟩
  rw [z0]
  clear z0 σ0
  refine gp_if (fun z => ?_) (fun z => ?_)
  · exact gp_ret ⟨rfl, by rw [show mBas p ((n, m, A, kd, bb, wh, dr), ((D, T, va, bs, cl), (K, lc, up, fi, se, vr, fo, to, cd, ln, op), (st, sp, ex, cf, spl), mp, mq), wp, wq, hd, ah) = -1 from if_neg (ite0 hy z)]⟩
  have hx := ite1 hy z
  rw [show mBas p ((n, m, A, kd, bb, wh, dr), ((D, T, va, bs, cl), (K, lc, up, fi, se, vr, fo, to, cd, ln, op), (st, sp, ex, cf, spl), mp, mq), wp, wq, hd, ah) = (if ix bs p.toInt.toNat m = none then 0 else 1) from if_pos hx]
  obtain ⟨k, hk, hk31, hk2⟩ := i32_nat hx.2.1
  obtain ⟨-, -, hpm, -⟩ := z4 hx.1
  rw [show p.toInt.toNat = k by omega, hk]
  have hn := hw.1.2.2
  refine gp_cV (mh_me hc) (gp_mono (r_rowOf (bs := bs) hc hw.1.2.1 hn.2 (fun r hr => ⟨(h7 hx.1).1 r hr, by have := hpm.1 r hr; omega⟩) (by omega) hf) ?_)
  rintro _ σ0 ⟨z0, rfl⟩
  rw [z0]
  cases hq : ix bs k m with
  | none => exact gp_t rfl (gp_ret ⟨rfl, rfl⟩)
  | some r =>
    obtain ⟨hrm, -⟩ := ix_some hq
    exact gp_f (fun q => by have := (eM_neg (x := some r) (fun k e => by cases e; omega)).1 q; cases this) (gp_ret ⟨rfl, rfl⟩)
end SX
