/-! ===== the reference: multiplier, setMultiplier, setSplit ===== -/
section TG
variable {f M n m K lc st sp ex cf spl : Nat} {σ σ1 : tz_S} {A T : Nat → Nat → Int} {kd : Nat → Nat} {bb dr : Nat → Int} {wh : Nat → Bool} {D : Int} {va : Nat → Int} {bs cl : Nat → Nat} {up fi se : Nat → Option Nat} {vr : Nat → Nat} {fo to to2 : Nat → Int} {cd : Nat → Bool} {ln : Nat → Nat} {op : Option Nat} {mp mq mp2 mq2 : Nat → Nat → Int × Int} {wp wq : Nat → Int × Int} {hd : Int × Int} {ah : Bool}
/-- a leaf's numbers or a split's number have changed -/
theorem rgV_gen {Ps : Nat → Prop} (h : rgV σ M n m A kd bb wh dr ((D, T, va, bs, cl), (K, lc, up, fi, se, vr, fo, to, cd, ln, op), (st, sp, ex, cf, spl), mp, mq)) (hz : zI n m A kd bb ((D, T, va, bs, cl), (K, lc, up, fi, se, vr, fo, to, cd, ln, op), (st, sp, ex, cf, spl), mp, mq)) (hq : Rq M (fun _ => False) (fun _ => False) Ps σ σ1) (hP : ∀ i, Ps i → (16456 ≤ i ∧ i < 109456) ∨ (116056 ≤ i ∧ i < 440000)) (hk2 : rkV σ1 M K lc up fi se vr to2 cd ln) (hm2 : rmV σ1 M lc mq2) : rgV σ1 M n m A kd bb wh dr ((D, T, va, bs, cl), (K, lc, up, fi, se, vr, fo, to2, cd, ln, op), (st, sp, ex, cf, spl), mp2, mq2) := by
  obtain ⟨⟨h1, h2⟩, h3, h4, h5, h6, h7, h8, h9, h10⟩ := rgV_un h
  have hb := rgV_bd h
  obtain ⟨y1, y4, hA1, hB, y5, -⟩ := zI_un hz
  have hn := h3.1.2.2
  have nf : ∀ j : Nat, ¬ (fun _ : Nat => False) j := fun j e => e
  have np : ∀ i, (i < 16456 ∨ (109456 ≤ i ∧ i < 116056) ∨ 440000 ≤ i) → ¬ Ps i := fun i a e => by have := hP i e; omega
  have hk : ∀ k, op = some k → (pt up fi k).length ≤ 24 := fun k e => by
    have s0 : st ≠ 0 := fun w => by have := y1.2.2 (Or.inl w); rw [this] at e; cases e
    have s3 : st ≠ 3 := fun w => by have := y1.2.2 (Or.inr w); rw [this] at e; cases e
    obtain ⟨k2, e2, ho, -⟩ := y5 s0 s3
    rw [e] at e2
    cases e2
    exact ho.2.2.2.2.2.2.1
  refine rgV_mk hb ⟨mSh_fr h1 hq.1, by rw [hq.2.1 35 (nf 35) (by decide)]; exact h2⟩ (rrV_rq h3 hq (nf 0) (nf 1) (fun _ _ _ e => e)) (rcV_rq h4 hq (fun k a b => nf k)) hk2 hm2 (fun w => ?_) (fun e => ?_) (fun j e => ?_) (fun w j e => ?_)
  · obtain ⟨-, -, hpm, -⟩ := y4 w
    exact rtV_rq (h7 w) hq (fun e => e) (fun e => e) (fun i a => np i (by omega)) hn.1 hn.2 (fun c hc => by have := hpm.2.1 c hc; omega)
  · rw [hq.2.1 25 (nf 25) (by decide)]; exact h8 e
  · obtain ⟨g1, g2⟩ := h9 j e
    exact ⟨by rw [hq.2.1 24 (nf 24) (by decide)]; exact g1, roV_rq g2 hq (nf 25) (fun e => e) (fun e => e) (fun i a b => np i (by omega)) (by simp; exact hk j e)⟩
  · exact rbV_rq (h10 w j e) hq (fun e => e) (fun i a b => np i (by omega)) hn.1
theorem rPo_gen {Ps : Nat → Prop} {y : Int32} (h : rfV σ M ((n, m, A, kd, bb, wh, dr), ((D, T, va, bs, cl), (K, lc, up, fi, se, vr, fo, to, cd, ln, op), (st, sp, ex, cf, spl), mp, mq), wp, wq, hd, ah)) (ho : okF ((n, m, A, kd, bb, wh, dr), ((D, T, va, bs, cl), (K, lc, up, fi, se, vr, fo, to, cd, ln, op), (st, sp, ex, cf, spl), mp, mq), wp, wq, hd, ah)) (hq : Rq M (fun _ => False) (fun _ => False) Ps σ σ1) (hP : ∀ i, Ps i → (16456 ≤ i ∧ i < 109456) ∨ (116056 ≤ i ∧ i < 440000)) (hk2 : rkV σ1 M K lc up fi se vr to2 cd ln) (hm2 : rmV σ1 M lc mq2) : rPo σ M ((n, m, A, kd, bb, wh, dr), ((D, T, va, bs, cl), (K, lc, up, fi, se, vr, fo, to2, cd, ln, op), (st, sp, ex, cf, spl), mp2, mq2), wp, wq, hd, ah) y y σ1 := by
  obtain ⟨hsl, hW, hH⟩ := rfV_un h
  obtain ⟨hr, hz, -⟩ := okF_un ho
  exact ⟨rfl, Fr_mono hq.1 (fun x e => by rcases e with e | e | e; omega; omega; exact e.elim), rfV_mk (rgV_gen hsl hz hq hP hk2 hm2) (rvV_rq hW hq (fun i a b e => by have := hP i e; omega)) (rhV_rq hH hq (fun e => e) (fun i a b e => by have := hP i e; omega))⟩
theorem eM_some {j : Nat} (hj : j < 2 ^ 31) : eM (some j) ≠ -1 := fun q => by have := (eM_neg (x := some j) (fun k e => by cases e; omega)).1 q; cases this
theorem mv_sz {x y : Int × Int} (h : mvI x y) : (y.1.natAbs : Int) < 1000000000 ^ 8 ∧ (y.2.natAbs : Int) < 1000000000 ^ 8 := by
  obtain ⟨h1, h2, -, h4, h5, h6, h7⟩ := h
  have e1 : (((10000000 ^ 10 : Nat)) : Int) < 1000000000 ^ 8 := by decide
  exact ⟨by omega, by omega⟩
set_option maxRecDepth 20000 in
set_option maxHeartbeats 1000000 in
theorem r_multiplier {k s i : Int32} (h : rfV σ M ((n, m, A, kd, bb, wh, dr), ((D, T, va, bs, cl), (K, lc, up, fi, se, vr, fo, to, cd, ln, op), (st, sp, ex, cf, spl), mp, mq), wp, wq, hd, ah)) (ho : okF ((n, m, A, kd, bb, wh, dr), ((D, T, va, bs, cl), (K, lc, up, fi, se, vr, fo, to, cd, ln, op), (st, sp, ex, cf, spl), mp, mq), wp, wq, hd, ah)) (hf : 20000 ≤ f) : gp (X12_multiplier f (some M) k s i) σ (rPo σ M (mMul k s i ((n, m, A, kd, bb, wh, dr), ((D, T, va, bs, cl), (K, lc, up, fi, se, vr, fo, to, cd, ln, op), (st, sp, ex, cf, spl), mp, mq), wp, wq, hd, ah)).1 (mMul k s i ((n, m, A, kd, bb, wh, dr), ((D, T, va, bs, cl), (K, lc, up, fi, se, vr, fo, to, cd, ln, op), (st, sp, ex, cf, spl), mp, mq), wp, wq, hd, ah)).2) := by
  obtain ⟨hsl, hW, hH⟩ := rfV_un h
  obtain ⟨hr, hz, -⟩ := okF_un ho
  obtain ⟨⟨hc, h35⟩, hw, -, hk, hm, -⟩ := rgV_un hsl
  have hb := rgV_bd hsl
  obtain ⟨-, -, hA, -, -, hlf⟩ := zI_un hz
  have hn := hw.1.2.2
  unfold X12_multiplier X12_multiplier_b48 X12_multiplierAt
  refine gp_cV (mh_me hc) (gp_mono (r_numberOf hc hw hk hb.1) ?_)
  rintro y σ0 ⟨z0, hy⟩
  rw [z0]
  clear z0 σ0
  by_cases hx : (0 ≤ k.toInt ∧ k.toInt < K) ∧ fi k.toInt.toNat = none
  rotate_left
  · rw [if_neg hx] at hy
    rw [hy]
    have e : mMul k s i ((n, m, A, kd, bb, wh, dr), ((D, T, va, bs, cl), (K, lc, up, fi, se, vr, fo, to, cd, ln, op), (st, sp, ex, cf, spl), mp, mq), wp, wq, hd, ah) = (((n, m, A, kd, bb, wh, dr), ((D, T, va, bs, cl), (K, lc, up, fi, se, vr, fo, to, cd, ln, op), (st, sp, ex, cf, spl), mp, mq), wp, wq, hd, ah), -4) := if_neg hx
    rw [e]
    exact gp_t rfl (gp_ret (rPo_0 h rfl))
  rw [if_pos hx] at hy
  unfold mMul
  simp only
  rw [if_pos hx]
  cases hix : mIx n m s i with
  | none =>
    rw [hix] at hy
    rw [hy]
    exact gp_t rfl (gp_ret (rPo_0 h rfl))
  | some j =>
    rw [hix] at hy
    have hj := mIx_lt hn.1 hn.2 hix
    rw [hy]
    refine gp_f (eM_some (by omega)) ?_
    obtain ⟨l, hl, hl31, hl2⟩ := i32_nat hx.1.1
    rw [show k.toInt.toNat = l by omega, hl]
    have hlK : l < K := by omega
    obtain ⟨-, -, -, -, -, a6, -⟩ := hk.2 l hlK
    have hll := (hA l hlK).2.2.2.1
    have hmv := (hlf _ hll).1 j hj
    obtain ⟨⟨n1, g1, g2, g3⟩, ⟨n2, u1, u2, u3⟩⟩ := hm _ _ hll hj
    obtain ⟨s1, s2⟩ := mv_sz hmv
    have hn1 := nV_le g1 s1
    have hn2 := nV_le u1 s2
    refine gp_rR (mh_me hc) rfl ?_
    refine gp_aI (j := l) (mh_15 hc) (by decide) (by omega) (by omega) rfl ?_
    rw [a6]
    refine gp_cB (gp_ret ?_)
    rw [show (116056 : Int32) + 16 * (2 * (32 * nI (ln l) + eM (some j)) + 0) = nI (116056 + 16 * (2 * (32 * ln l + j))) from at_m (ln l) j 0]
    refine gp_rR (mh_me hc) rfl ?_
    refine gp_aI (j := l) (mh_15 hc) (by decide) (by omega) (by omega) rfl ?_
    rw [a6]
    refine gp_cB (gp_ret ?_)
    rw [show (116056 : Int32) + 16 * (2 * (32 * nI (ln l) + eM (some j)) + 1) = nI (116056 + 16 * (2 * (32 * ln l + j) + 1)) from at_m (ln l) j 1]
    obtain ⟨v1, v2, v3, -⟩ := hmv
    refine gp_cV (mh_me hc) (gp_mono (r_hand hc h35 (by omega) (by omega) g1 u1 v2 (by omega) (by omega) (Or.inr (by omega)) (by omega) (by omega) hf) ?_)
    rintro z σ2 ⟨hs, q2, hh⟩
    have e1 : rd (mq (ln l) j).1 (mq (ln l) j).2 = rd (mp (ln l) j).1 (mp (ln l) j).2 := rd_same v2 v1 v3.symm
    have e2 : isg (mq (ln l) j).1 = isg (mp (ln l) j).1 := by rw [← isg_rd2 v2, ← isg_rd2 (v := (mp (ln l) j).1) v1, e1]
    rw [hs, e2]
    rw [e1] at hh
    exact gp_ret (rPo_hand h ho q2 (fun j e => e) hh)
end TG
