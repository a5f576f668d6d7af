/-! ===== the reference: judgeTree ===== -/
section TU
variable {f M n m K lc st sp ex cf spl k t : Nat} {σ σ1 : tz_S} {A T : Nat → Nat → Int} {kd : Nat → Nat} {bb dr : Nat → Int} {wh : Nat → Bool} {D : Int} {va : Nat → Int} {bs cl : Nat → Nat} {up fi se : Nat → Option Nat} {vr : Nat → Nat} {fo to : Nat → Int} {cd : Nat → Bool} {ln : Nat → Nat} {op : Option Nat} {mp mq : Nat → Nat → Int × Int} {wp wq : Nat → Int × Int} {hd : Int × Int} {ah : Bool}
theorem Rq_uq (hq : Uq M t σ σ1) : Rq M (fun k => k = 30 ∨ k = 31 ∨ k = 35) (fun x => x = M + 18 ∨ x = M + 19) (fun i => t ≤ i) σ σ1 := ⟨Fr_mono hq.1 (fun x e => by omega), fun k a b => hq.2.1 k (by omega) (by omega) (by omega) b, fun i _ b => hq.2.2 i (by omega)⟩
theorem rfV_uq {F : zF} (h : rfV σ M F) (ho : okF F) (hq : Uq M 447200 σ σ1) (h35 : tz_F σ1 M 35 = nI 447200) : rfV σ1 M F := by
  obtain ⟨⟨n, m, A, kd, bb, wh, dr⟩, Z, wp, wq, hd, ah⟩ := F
  obtain ⟨hsl, hW, hH⟩ := rfV_un h
  obtain ⟨hr, hz, -⟩ := okF_un ho
  obtain ⟨-, g35, hw, -⟩ := rgV_sh hsl
  have q0 := Rq_uq hq
  have q : Rq M (fun k => k = 30 ∨ k = 31) (fun x => x = M + 18 ∨ x = M + 19) (fun _ => False) σ σ1 := ⟨q0.1, fun k a b => by
    by_cases e : k = 35
    · rw [e, h35, g35]
    · exact q0.2.1 k (by omega) b, fun i a _ => q0.2.2 i a (by omega)⟩
  exact rfV_mk (rgV_rq hsl hz q (fun k e => by omega) (fun x e => by omega) (fun _ e => e.elim) (rrV_rq hw q (by omega) (by omega) (fun x a b e => by omega))) (rvV_rq hW q (fun _ _ _ e => e)) (rhV_rq hH q (by omega) (fun _ _ _ e => e))
set_option maxHeartbeats 1000000 in
theorem r_isGoodLeaf (h : rfV σ M ((n, m, A, kd, bb, wh, dr), ((D, T, va, bs, cl), (K, lc, up, fi, se, vr, fo, to, cd, ln, op), (st, sp, ex, cf, spl), mp, mq), wp, wq, hd, ah)) (ho : okF ((n, m, A, kd, bb, wh, dr), ((D, T, va, bs, cl), (K, lc, up, fi, se, vr, fo, to, cd, ln, op), (st, sp, ex, cf, spl), mp, mq), wp, wq, hd, ah)) (hkK : k < K) (hf : 20000 ≤ f) : gp (X12_isGoodLeaf f (some M) (nI k)) σ (fun y σ' => Uq M 447200 σ σ' ∧ y = bI (gdL n m A kd bb (fun x => fU vr to x (pt up fi k) none) (fun x => fL vr to x (pt up fi k) none) (mp (ln k)))) := by
  obtain ⟨hsl, hW, hH⟩ := rfV_un h
  obtain ⟨hr, hz, -⟩ := okF_un ho
  obtain ⟨⟨hc, h35⟩, hw, -, hk, hm, -⟩ := rgV_un hsl
  have hb := rgV_bd hsl
  obtain ⟨-, -, hA, -, -, hlf⟩ := zI_un hz
  have hll := (hA k hkK).2.2.2.1
  unfold X12_isGoodLeaf
  refine gp_cV (mh_me hc) (gp_mono (r_lookAround hc h35 hk hA hb.1 hr.1.1 hkK (by omega)) ?_)
  rintro _ σ1 ⟨q1, t, ga, h351, ht1, ht2, hR, hga⟩
  have q := Rq_uq q1
  have hS : glS n m A kd bb dr k (ln k) (mp (ln k)) (mq (ln k)) := ⟨hr, by omega, by omega, hlf _ hll⟩
  have hC : glC σ1 M n m A kd bb wh dr k (ln k) (mq (ln k)) ga t := by
    refine ⟨mSh_fr hc q1.1, h351, ⟨ht1, ht2⟩, rrV_rq hw q (by omega) (by omega) (fun x a b e => by omega), ⟨?_, fun j hj => ?_⟩, hR⟩
    · rw [Fr_A q1.1 (by omega)]; exact (hk.2 k hkK).2.2.2.2.2.1
    · obtain ⟨⟨n1, a1, a2, a3⟩, ⟨n2, b1, b2, b3⟩⟩ := hm _ _ hll hj
      exact ⟨⟨n1, nV_congr a1 (fun i _ c => q1.2.2 i (by omega)), a2, a3⟩, ⟨n2, nV_congr b1 (fun i _ c => q1.2.2 i (by omega)), b2, b3⟩⟩
  refine gp_mono (r_gl9 hS hC hga (fun x v hx e => ?_) hf) ?_
  · rcases e with e | e
    · exact st_Ut hA hkK e
    · exact st_Lt hA hkK e
  · rintro y σ2 ⟨q2, hy⟩
    exact ⟨Uq_trans q1 (Uq_tq q2 ht1), hy⟩
set_option maxHeartbeats 2000000 in
theorem r_judgeTree (h : rfV σ M ((n, m, A, kd, bb, wh, dr), ((D, T, va, bs, cl), (K, lc, up, fi, se, vr, fo, to, cd, ln, op), (st, sp, ex, cf, spl), mp, mq), wp, wq, hd, ah)) (ho : okF ((n, m, A, kd, bb, wh, dr), ((D, T, va, bs, cl), (K, lc, up, fi, se, vr, fo, to, cd, ln, op), (st, sp, ex, cf, spl), mp, mq), wp, wq, hd, ah)) (hf : 20000 ≤ f) : gp (X12_judgeTree f (some M)) σ (rPo σ M ((n, m, A, kd, bb, wh, dr), ((D, T, va, bs, cl), (K, lc, up, fi, se, vr, fo, to, cd, ln, op), (st, sp, ex, cf, spl), mp, mq), wp, wq, hd, ah) (mJuT ((n, m, A, kd, bb, wh, dr), ((D, T, va, bs, cl), (K, lc, up, fi, se, vr, fo, to, cd, ln, op), (st, sp, ex, cf, spl), mp, mq), wp, wq, hd, ah))) := by
  obtain ⟨hsl, hW, hH⟩ := rfV_un h
  obtain ⟨hr, hz, -⟩ := okF_un ho
  obtain ⟨⟨hc, h35⟩, -, -, hk, -⟩ := rgV_un hsl
  have hb := rgV_bd hsl
  obtain ⟨-, -, hA, -⟩ := zI_un hz
  unfold X12_judgeTree
  refine gp_rI (mh_me hc) rfl ?_
  rw [hk.1.1]
  unfold mJuT
  simp only
  refine gp_if (fun z => ?_) (fun z => ?_)
  · have : K = 0 := (nI_eq (b := 0) (by omega) (by omega)).1 z
    rw [if_pos this]
    exact gp_ret (rPo_0 h rfl)
  have hK0 : K ≠ 0 := fun e => z (by rw [e]; rfl)
  rw [if_neg hK0]
  have done : ∀ {σ' : tz_S} {y a : Int32}, Uq M 447200 σ σ' → tz_F σ' M 35 = nI 447200 → y = a → rPo σ M ((n, m, A, kd, bb, wh, dr), ((D, T, va, bs, cl), (K, lc, up, fi, se, vr, fo, to, cd, ln, op), (st, sp, ex, cf, spl), mp, mq), wp, wq, hd, ah) a y σ' := fun q g e => ⟨e, Fr_mono q.1 (fun x e => by omega), rfV_uq h ho q g⟩
  have hgd : ∀ i, i < K → gdN n m A kd bb wh up fi se vr to ln mp i = if fi i = none then gdL n m A kd bb (fun x => fU vr to x (pt up fi i) none) (fun x => fL vr to x (pt up fi i) none) (mp (ln i)) else wh (vr i) && decide (se i ≠ none) := fun i _ => rfl
  unfold X12_judgeTree_L11
  generalize hG : (fun k => !gdN n m A kd bb wh up fi se vr to ln mp k) = G
  have hG2 : ∀ i, G i = !gdN n m A kd bb wh up fi se vr to ln mp i := fun i => by rw [← hG]
  refine gp_loop (I := fun (τ : Int32) (σ' : tz_S) => ∃ i, τ = nI i ∧ i ≤ K ∧ Uq M 447200 σ σ' ∧ tz_F σ' M 35 = nI 447200 ∧ ∀ p, p < i → G p = false) (fun τ _ => 1000 - τ.toNatClampNeg) ?_ f _ _ ⟨0, rfl, Nat.zero_le _, Uq_refl, h35, fun p hp => absurd hp (Nat.not_lt_zero _)⟩ (by omega)
  rintro Kx l1 σ2 ⟨i, rfl, hi, q2, h352, hno⟩ hKx
  show gp (X12_judgeTree_L11_body f (some M) (fun l1 => Kx l1) (nI i)) σ2 _
  have hv2 := rfV_uq h ho q2 h352
  obtain ⟨⟨h2, -⟩, hw2, -, hk2, -⟩ := rgV_un (rfV_un hv2).1
  unfold X12_judgeTree_L11_body
  refine gp_rI (mh_me h2) rfl ?_
  rw [hk2.1.1]
  refine gp_if (fun z => ?_) (fun z => ?_)
  · rw [nI_leI (by omega) (by omega)] at z
    refine gp_ret (done q2 h352 ?_)
    rw [fst1_none (fun p hp => hno p (by omega))]
  rw [nI_leI (by omega) (by omega)] at z
  have hiK : i < K := by omega
  refine gp_rI (mh_me h2) rfl ?_
  rw [h352]
  have fin : ∀ (σ3 : tz_S) (s0 : Int32), Uq M 447200 σ σ3 → s0 = bI (gdN n m A kd bb wh up fi se vr to ln mp i) → gp (X12_judgeTree_b82 f (fun l1 => Kx l1) (some M) (nI i) (nI 447200) s0) σ3 (rPo σ M ((n, m, A, kd, bb, wh, dr), ((D, T, va, bs, cl), (K, lc, up, fi, se, vr, fo, to, cd, ln, op), (st, sp, ex, cf, spl), mp, mq), wp, wq, hd, ah) (match fst1 G K with
    | some k => nI (1 + k)
    | none => 0)) := by
    intro σ3 s0 q3 hs0
    have h3 := mSh_fr hc q3.1
    unfold X12_judgeTree_b82
    refine gp_wI (mh_me h3) rfl ?_
    have q4 : Uq M 447200 σ (tz_sF σ3 M 35 (nI 447200)) := Uq_trans q3 (Uq_tq (Tq_F (t := 447200) (Or.inr (Or.inr rfl))) (Nat.le_refl _))
    have h354 : tz_F (tz_sF σ3 M 35 (nI 447200)) M 35 = nI 447200 := by rw [sF_at, if_pos ⟨rfl, rfl⟩]
    generalize tz_sF σ3 M 35 (nI 447200) = σ4 at *
    rw [hs0]
    cases hg : gdN n m A kd bb wh up fi se vr to ln mp i with
    | false =>
      refine gp_t rfl (gp_ret (done q4 h354 ?_))
      rw [fst1_some hno (by rw [hG2, hg]; rfl) hiK, show (1 : Int32) = nI 1 from rfl, nI_add]
    | true =>
      refine gp_f (by decide) ?_
      refine gp_let ?_
      rw [nI_1]
      exact hKx (nI (i + 1)) σ4 ⟨i + 1, rfl, by omega, q4, h354, fun p hp => by
        by_cases e : p = i
        · rw [e, hG2, hg]; rfl
        · exact hno p (by omega)⟩ (by rw [nI_clamp (by omega), nI_clamp (by omega)]; omega)
  have hgi := hgd i hiK
  obtain ⟨a1, a2, a3, a4, a5, a6, a7⟩ := hk2.2 i hiK
  refine gp_rR (mh_me h2) rfl ?_
  refine gp_aI (j := i) (mh_9 h2) (by decide) (by omega) (by omega) rfl ?_
  rw [a1]
  by_cases hfi : fi i = none
  · rw [if_pos hfi] at hgi
    rw [if_pos hfi]
    refine gp_t rfl ?_
    refine gp_cV (mh_me h2) (gp_mono (r_isGoodLeaf hv2 ho hiK hf) ?_)
    rintro y σ3 ⟨q3, hy⟩
    exact fin σ3 y (Uq_trans q2 q3) (by rw [hy, hgi])
  · rw [if_neg hfi] at hgi
    rw [if_neg hfi]
    refine gp_f (by decide) ?_
    have hvr := ((hA i hiK).2.2.2.2 hfi).1
    have hn := hr.1.1
    unfold X12_judgeTree_b73
    refine gp_rR (mh_me h2) rfl ?_
    refine gp_rR (mh_me h2) rfl ?_
    refine gp_aI (j := i) (mh_11 h2) (by decide) (by omega) (by omega) rfl ?_
    rw [(a7 hfi).1]
    refine gp_aI (j := vr i) (mh_5 h2) (by decide) (by omega) (by omega) rfl ?_
    rw [hw2.2.2.2.2.1 (vr i) (by omega)]
    cases hwv : wh (vr i) with
    | false => exact gp_t (by simp) (fin σ2 0 q2 (by rw [hgi, hwv]; rfl))
    | true =>
      refine gp_f (by simp) ?_
      refine gp_rR (mh_me h2) rfl ?_
      refine gp_aI (j := i) (mh_12 h2) (by decide) (by omega) (by omega) rfl ?_
      rw [a4]
      have ne : ∀ x : Option Nat, (∀ k, x = some k → k < 2 ^ 31) → (eN x = -2 ↔ x = none) := fun x hx => by
        constructor
        · intro e
          exact (eN_neg hx).1 (by rw [e]; decide)
        · intro e
          rw [e]; rfl
      refine gp_f (fun e => hfi ((ne _ (fun k e2 => by have := (hA i hiK).2.1 k e2; omega)).1 e)) ?_
      refine gp_rR (mh_me h2) rfl ?_
      refine gp_aI (j := i) (mh_13 h2) (by decide) (by omega) (by omega) rfl ?_
      rw [a5]
      have ne2 := ne (se i) (fun k e2 => by have := ((hA i hiK).2.2.1 k e2).1; omega)
      refine gp_if (fun e => ?_) (fun e => ?_)
      · rw [ne2] at e
        exact fin σ2 0 q2 (by rw [hgi, hwv, e]; rfl)
      · rw [ne2] at e
        exact fin σ2 1 q2 (by rw [hgi, hwv, decide_eq_true e]; rfl)
end TU
