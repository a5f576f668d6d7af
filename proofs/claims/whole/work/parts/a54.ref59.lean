/-! ===== the reference: setMultiplier, setSplit ===== -/
section TH
variable {f M n m K lc st sp ex cf spl : Nat} {σ σ1 : tz_S} {A T : Nat → Nat → Int} {kd : Nat → Nat} {bb dr : Nat → Int} {wh : Nat → Bool} {D : Int} {va : Nat → Int} {bs cl : Nat → Nat} {up fi se : Nat → Option Nat} {vr : Nat → Nat} {fo to to2 : Nat → Int} {cd : Nat → Bool} {ln : Nat → Nat} {op : Option Nat} {mp mq mp2 mq2 : Nat → Nat → Int × Int} {wp wq : Nat → Int × Int} {hd : Int × Int} {ah : Bool}
set_option maxRecDepth 20000 in
set_option maxHeartbeats 1000000 in
theorem r_setMultiplier {k s i a b : Int32} (h : rfV σ M ((n, m, A, kd, bb, wh, dr), ((D, T, va, bs, cl), (K, lc, up, fi, se, vr, fo, to, cd, ln, op), (st, sp, ex, cf, spl), mp, mq), wp, wq, hd, ah)) (ho : okF ((n, m, A, kd, bb, wh, dr), ((D, T, va, bs, cl), (K, lc, up, fi, se, vr, fo, to, cd, ln, op), (st, sp, ex, cf, spl), mp, mq), wp, wq, hd, ah)) (hf : 2000 ≤ f) : gp (X12_setMultiplier f (some M) k s i a b) σ (rPo σ M (mSeM k s i a b ((n, m, A, kd, bb, wh, dr), ((D, T, va, bs, cl), (K, lc, up, fi, se, vr, fo, to, cd, ln, op), (st, sp, ex, cf, spl), mp, mq), wp, wq, hd, ah)).1 (mSeM k s i a b ((n, m, A, kd, bb, wh, dr), ((D, T, va, bs, cl), (K, lc, up, fi, se, vr, fo, to, cd, ln, op), (st, sp, ex, cf, spl), mp, mq), wp, wq, hd, ah)).2) := by
  obtain ⟨hsl, hW, hH⟩ := rfV_un h
  obtain ⟨hr, hz, -⟩ := okF_un ho
  obtain ⟨⟨hc, h35⟩, hw, -, hk, hm, -⟩ := rgV_un hsl
  have hb := rgV_bd hsl
  obtain ⟨-, -, hA, -, -, hlf⟩ := zI_un hz
  have hn := hw.1.2.2
  unfold X12_setMultiplier X12_setMultiplier_b25 X12_multiplierAt
  have bad : ¬ (((0 ≤ k.toInt ∧ k.toInt < K) ∧ fi k.toInt.toNat = none) ∧ (-1000000000 ≤ a.toInt ∧ a.toInt ≤ 1000000000) ∧ 1 ≤ b.toInt ∧ b.toInt ≤ 1000000000) → gp (pz_ret (-1)) σ (rPo σ M (mSeM k s i a b ((n, m, A, kd, bb, wh, dr), ((D, T, va, bs, cl), (K, lc, up, fi, se, vr, fo, to, cd, ln, op), (st, sp, ex, cf, spl), mp, mq), wp, wq, hd, ah)).1 (mSeM k s i a b ((n, m, A, kd, bb, wh, dr), ((D, T, va, bs, cl), (K, lc, up, fi, se, vr, fo, to, cd, ln, op), (st, sp, ex, cf, spl), mp, mq), wp, wq, hd, ah)).2) := fun w => by
    have e : mSeM k s i a b ((n, m, A, kd, bb, wh, dr), ((D, T, va, bs, cl), (K, lc, up, fi, se, vr, fo, to, cd, ln, op), (st, sp, ex, cf, spl), mp, mq), wp, wq, hd, ah) = (((n, m, A, kd, bb, wh, dr), ((D, T, va, bs, cl), (K, lc, up, fi, se, vr, fo, to, cd, ln, op), (st, sp, ex, cf, spl), mp, mq), wp, wq, hd, ah), -1) := if_neg w
    rw [e]
    exact gp_ret (rPo_0 h rfl)
  refine gp_cV (mh_me hc) (gp_mono (r_numberOf hc hw hk hb.1) ?_)
  rintro y σ0 ⟨z0, hy⟩
  rw [z0]
  clear z0 σ0
  by_cases hx : (0 ≤ k.toInt ∧ k.toInt < K) ∧ fi k.toInt.toNat = none
  rotate_left
  · rw [if_neg hx] at hy
    rw [hy]
    exact gp_t rfl (bad (fun w => hx w.1))
  rw [if_pos hx] at hy
  cases hix : mIx n m s i with
  | none =>
    rw [hix] at hy
    rw [hy]
    refine gp_t rfl ?_
    by_cases hab : (-1000000000 ≤ a.toInt ∧ a.toInt ≤ 1000000000) ∧ 1 ≤ b.toInt ∧ b.toInt ≤ 1000000000
    · unfold mSeM
      simp only
      rw [if_pos ⟨hx, hab⟩, hix]
      exact gp_ret (rPo_0 h rfl)
    · exact bad (fun w => hab w.2)
  | some j =>
    rw [hix] at hy
    have hj := mIx_lt hn.1 hn.2 hix
    rw [hy]
    refine gp_f (eM_some (by omega)) ?_
    refine gp_cB (gp_mono r_isFraction ?_)
    rintro y2 σ0 ⟨z0, hy2⟩
    rw [z0]
    clear z0 σ0
    refine gp_if (fun z => bad (fun w => ite0 hy2 z w.2)) (fun z => ?_)
    have hab := ite1 hy2 z
    have e : mSeM k s i a b ((n, m, A, kd, bb, wh, dr), ((D, T, va, bs, cl), (K, lc, up, fi, se, vr, fo, to, cd, ln, op), (st, sp, ex, cf, spl), mp, mq), wp, wq, hd, ah) = (((n, m, A, kd, bb, wh, dr), ((D, T, va, bs, cl), (K, lc, up, fi, se, vr, fo, to, cd, ln, op), (st, sp, ex, cf, spl), ups mp (ln k.toInt.toNat) (ups (mp (ln k.toInt.toNat)) j (a.toInt, b.toInt)), ups mq (ln k.toInt.toNat) (ups (mq (ln k.toInt.toNat)) j (a.toInt, b.toInt))), wp, wq, hd, ah), 0) := by
      unfold mSeM
      simp only
      rw [if_pos ⟨hx, hab⟩, hix]
    rw [e]
    obtain ⟨l, hl, hl31, hl2⟩ := i32_nat hx.1.1
    rw [show k.toInt.toNat = l by omega, hl]
    have hlK : l < K := by omega
    obtain ⟨-, -, -, -, -, a6, -⟩ := hk.2 l hlK
    have hll := (hA l hlK).2.2.2.1
    refine gp_rR (mh_me hc) rfl ?_
    refine gp_aI (j := l) (mh_15 hc) (by decide) (by omega) (by omega) rfl ?_
    rw [a6]
    refine gp_cB (gp_ret ?_)
    rw [show (116056 : Int32) + 16 * (2 * (32 * nI (ln l) + eM (some j)) + 0) = nI (116056 + 16 * (2 * (32 * ln l + j))) from at_m (ln l) j 0]
    refine gp_cV (mh_me hc) (gp_mono (r_setWhole (to := 116056 + 16 * (2 * (32 * ln l + j))) hc h35 (by rw [Int32.toInt_toInt64]; omega) (by omega) (by omega) hf) ?_)
    rintro _ σ2 ⟨e1, e2, e3, n1, e4, e5⟩
    rw [Int32.toInt_toInt64] at e5
    have h2 := mSh_fr hc e1
    have q1 : Rq M (fun _ => False) (fun _ => False) (fun i => 116056 + 16 * (2 * (32 * ln l + j)) ≤ i ∧ i < 116056 + 16 * (2 * (32 * ln l + j)) + 4) σ σ2 := Rq_wh (n := 0) (Nat.le_refl _) ⟨e1, e2, e3⟩ (fun x a b => ⟨a, b⟩)
    refine gp_rR (mh_me h2) rfl ?_
    refine gp_aI (j := l) (mh_15 h2) (by decide) (by omega) (by omega) rfl ?_
    rw [Fr_A e1 (show ¬ (M + 15 = M ∨ M + 15 = M + 20) by omega), a6]
    refine gp_cB (gp_ret ?_)
    rw [show (116056 : Int32) + 16 * (2 * (32 * nI (ln l) + eM (some j)) + 1) = nI (116056 + 16 * (2 * (32 * ln l + j) + 1)) from at_m (ln l) j 1]
    refine gp_cV (mh_me h2) (gp_mono (r_setWhole (to := 116056 + 16 * (2 * (32 * ln l + j) + 1)) h2 (by rw [e2 35 (by decide)]; exact h35) (by rw [Int32.toInt_toInt64]; omega) (by omega) (by omega) hf) ?_)
    rintro _ σ3 ⟨w1, w2, w3, n2, w4, w5⟩
    rw [Int32.toInt_toInt64] at w5
    have q2 : Rq M (fun _ => False) (fun _ => False) (fun i => 116056 + 16 * (2 * (32 * ln l + j) + 1) ≤ i ∧ i < 116056 + 16 * (2 * (32 * ln l + j) + 1) + 4) σ2 σ3 := Rq_wh (n := 0) (Nat.le_refl _) ⟨w1, w2, w3⟩ (fun x a b => ⟨a, b⟩)
    have q : Rq M (fun _ => False) (fun _ => False) (fun i => 116056 + 16 * (2 * (32 * ln l + j)) ≤ i ∧ i < 116056 + 16 * (2 * (32 * ln l + j)) + 32) σ σ3 := Rq_trans (Rq_mono q1 (fun _ e => e) (fun _ e => e) (fun i e => by omega)) (Rq_mono q2 (fun _ e => e) (fun _ e => e) (fun i e => by omega))
    have hP : ∀ i, (116056 + 16 * (2 * (32 * ln l + j)) ≤ i ∧ i < 116056 + 16 * (2 * (32 * ln l + j)) + 32) → (16456 ≤ i ∧ i < 109456) ∨ (116056 ≤ i ∧ i < 440000) := fun i e => by omega
    exact gp_ret (rPo_gen h ho q hP (rkV_rq hk q (fun e => e) (fun e => e) (fun _ _ _ e => e) (fun i a b e => by omega) hb.1) (rmV_put hm hb.2 hj q (nP_rq (⟨n1, e5, by omega, by omega⟩ : nP σ2 M (116056 + 16 * (2 * (32 * ln l + j))) a.toInt) q2 (fun i c d w => by omega)) ⟨n2, w5, by omega, by omega⟩))
/-- a split's number has been set -/
theorem rkV_to {Ps : Nat → Prop} {l : Nat} {v : Int} (hk : rkV σ M K lc up fi se vr to cd ln) (hq : Rq M (fun _ => False) (fun _ => False) (fun i => 16456 + 300 * l ≤ i ∧ i < 16456 + 300 * l + 4) σ σ1) (hl : l < K) (hK : K ≤ 310) (hv : nP σ1 M (16456 + 300 * l) v) : rkV σ1 M K lc up fi se vr (ups to l v) cd ln := by
  obtain ⟨⟨k1, k2⟩, k3⟩ := hk
  refine ⟨⟨by rw [hq.2.1 15 (fun e => e) (by decide)]; exact k1, by rw [hq.2.1 23 (fun e => e) (by decide)]; exact k2⟩, fun k h => ?_⟩
  obtain ⟨a1, a2, a3, a4, a5, a6, a7⟩ := k3 k h
  have ea : ∀ x, M + 9 ≤ x → x ≤ M + 15 → tz_A σ1 x = tz_A σ x := fun x a b => Fr_A hq.1 (by rintro (e | e | e); omega; omega; exact e)
  refine ⟨by rw [ea _ (by omega) (by omega)]; exact a1, by rw [ea _ (by omega) (by omega)]; exact a2, by rw [ea _ (by omega) (by omega)]; exact a3, by rw [ea _ (by omega) (by omega)]; exact a4, by rw [ea _ (by omega) (by omega)]; exact a5, by rw [ea _ (by omega) (by omega)]; exact a6, fun w => ?_⟩
  obtain ⟨b1, b2⟩ := a7 w
  refine ⟨by rw [ea _ (by omega) (by omega)]; exact b1, ?_⟩
  by_cases e : k = l
  · rw [e, ups_s]; exact hv
  · rw [ups_n _ _ e]
    exact nP_rq b2 hq (fun i c d w => by omega)
set_option maxRecDepth 20000 in
set_option maxHeartbeats 1000000 in
theorem r_setSplit {k v : Int32} (h : rfV σ M ((n, m, A, kd, bb, wh, dr), ((D, T, va, bs, cl), (K, lc, up, fi, se, vr, fo, to, cd, ln, op), (st, sp, ex, cf, spl), mp, mq), wp, wq, hd, ah)) (ho : okF ((n, m, A, kd, bb, wh, dr), ((D, T, va, bs, cl), (K, lc, up, fi, se, vr, fo, to, cd, ln, op), (st, sp, ex, cf, spl), mp, mq), wp, wq, hd, ah)) (hf : 2000 ≤ f) : gp (X12_setSplit f (some M) k v) σ (rPo σ M (mSeS k v ((n, m, A, kd, bb, wh, dr), ((D, T, va, bs, cl), (K, lc, up, fi, se, vr, fo, to, cd, ln, op), (st, sp, ex, cf, spl), mp, mq), wp, wq, hd, ah)).1 (mSeS k v ((n, m, A, kd, bb, wh, dr), ((D, T, va, bs, cl), (K, lc, up, fi, se, vr, fo, to, cd, ln, op), (st, sp, ex, cf, spl), mp, mq), wp, wq, hd, ah)).2) := by
  obtain ⟨hsl, hW, hH⟩ := rfV_un h
  obtain ⟨hr, hz, -⟩ := okF_un ho
  obtain ⟨⟨hc, h35⟩, hw, -, hk, hm, -⟩ := rgV_un hsl
  have hb := rgV_bd hsl
  have hn := hw.1.2.2
  unfold X12_setSplit X12_setSplit_b39
  have bad : ¬ (((0 ≤ k.toInt ∧ k.toInt < K) ∧ fi k.toInt.toNat ≠ none) ∧ -1000000000 ≤ v.toInt ∧ v.toInt ≤ 1000000000) → gp (pz_ret (-1)) σ (rPo σ M (mSeS k v ((n, m, A, kd, bb, wh, dr), ((D, T, va, bs, cl), (K, lc, up, fi, se, vr, fo, to, cd, ln, op), (st, sp, ex, cf, spl), mp, mq), wp, wq, hd, ah)).1 (mSeS k v ((n, m, A, kd, bb, wh, dr), ((D, T, va, bs, cl), (K, lc, up, fi, se, vr, fo, to, cd, ln, op), (st, sp, ex, cf, spl), mp, mq), wp, wq, hd, ah)).2) := fun w => by
    have e : mSeS k v ((n, m, A, kd, bb, wh, dr), ((D, T, va, bs, cl), (K, lc, up, fi, se, vr, fo, to, cd, ln, op), (st, sp, ex, cf, spl), mp, mq), wp, wq, hd, ah) = (((n, m, A, kd, bb, wh, dr), ((D, T, va, bs, cl), (K, lc, up, fi, se, vr, fo, to, cd, ln, op), (st, sp, ex, cf, spl), mp, mq), wp, wq, hd, ah), -1) := if_neg w
    rw [e]
    exact gp_ret (rPo_0 h rfl)
  refine gp_cV (mh_me hc) (gp_mono (r_isNode hc hk hb.1) ?_)
  rintro y σ0 ⟨z0, hy⟩
  rw [z0]
  clear z0 σ0
  refine gp_if (fun z => bad (fun w => ite0 hy z w.1.1)) (fun z => ?_)
  have hx := ite1 hy z
  refine gp_rR (mh_me hc) rfl ?_
  refine gp_cV (mh_me hc) (gp_mono (r_isNode hc hk hb.1) ?_)
  rintro y2 σ0 ⟨z0, hy2⟩
  rw [z0, hy2, if_pos hx]
  clear z0 σ0 hy2
  refine gp_f (by decide) ?_
  unfold X12_setSplit_b25 X12_setSplit_b39 X12_splitAt
  obtain ⟨l, hl, hl31, hl2⟩ := i32_nat hx.1
  have hlK : l < K := by omega
  obtain ⟨a1, -⟩ := hk.2 l hlK
  refine gp_aI (j := l) (mh_9 hc) (by decide) (by omega) (by omega) hl ?_
  rw [a1]
  by_cases hfi : fi l = none
  · rw [if_pos hfi]
    refine gp_t rfl (bad (fun w => w.1.2 ?_))
    rw [show k.toInt.toNat = l by omega]; exact hfi
  rw [if_neg hfi]
  refine gp_f (by decide) ?_
  refine gp_cB (gp_mono (r_within (v := v) (w := 1000000000) (W := 1000000000) (by decide) (by decide)) ?_)
  rintro y3 σ0 ⟨z0, hy3⟩
  rw [z0]
  clear z0 σ0
  have e9 : (1000000000 : Int32).toInt = 1000000000 := rfl
  refine gp_if (fun z => bad (fun w => ite0 hy3 z (by omega))) (fun z => ?_)
  have hv := ite1 hy3 z
  have e : mSeS k v ((n, m, A, kd, bb, wh, dr), ((D, T, va, bs, cl), (K, lc, up, fi, se, vr, fo, to, cd, ln, op), (st, sp, ex, cf, spl), mp, mq), wp, wq, hd, ah) = (((n, m, A, kd, bb, wh, dr), ((D, T, va, bs, cl), (K, lc, up, fi, se, vr, fo, ups to k.toInt.toNat v.toInt, cd, ln, op), (st, sp, ex, cf, spl), mp, mq), wp, wq, hd, ah), 0) := if_pos ⟨⟨hx, by rw [show k.toInt.toNat = l by omega]; exact hfi⟩, by omega⟩
  rw [e, show k.toInt.toNat = l by omega, hl]
  refine gp_cB (gp_ret ?_)
  rw [at_s l]
  refine gp_cV (mh_me hc) (gp_mono (r_setWhole (to := 16456 + 300 * l) hc h35 (by rw [Int32.toInt_toInt64]; omega) (by omega) (by omega) hf) ?_)
  rintro _ σ2 ⟨e1, e2, e3, n1, e4, e5⟩
  rw [Int32.toInt_toInt64] at e5
  have q1 : Rq M (fun _ => False) (fun _ => False) (fun i => 16456 + 300 * l ≤ i ∧ i < 16456 + 300 * l + 4) σ σ2 := Rq_wh (n := 0) (Nat.le_refl _) ⟨e1, e2, e3⟩ (fun x a b => ⟨a, b⟩)
  exact gp_ret (rPo_gen h ho q1 (fun i e => by omega) (rkV_to (Ps := fun _ => False) hk q1 hlK hb.1 ⟨n1, e5, by omega, by omega⟩) (rmV_rq hm q1 (fun i a b e => by omega) hb.2))
end TH
