/-! ===== the reference: solve ===== -/
def rfV (σ : tz_S) (M : Nat) : zF → Prop
  | ((n, m, A, kd, bb, wh, dr), Z, _, wq, hd, ah) => rgV σ M n m A kd bb wh dr Z ∧ rvV σ M wq ∧ rhV σ M hd ah
def rPo (σ : tz_S) (M : Nat) (F : zF) (a : Int32) : Int32 → tz_S → Prop := fun y σ' => y = a ∧ Fr (fun x => M ≤ x ∧ x ≤ M + 20) σ σ' ∧ rfV σ' M F
section ST
variable {f M n m : Nat} {σ σ1 : tz_S} {A : Nat → Nat → Int} {kd : Nat → Nat} {bb dr : Nat → Int} {wh : Nat → Bool} {wp wq : Nat → Int × Int} {hd : Int × Int} {ah : Bool} {Z : zS} {F : zF}
theorem rfV_un (h : rfV σ M ((n, m, A, kd, bb, wh, dr), Z, wp, wq, hd, ah)) : rgV σ M n m A kd bb wh dr Z ∧ rvV σ M wq ∧ rhV σ M hd ah := h
theorem rfV_mk (h1 : rgV σ M n m A kd bb wh dr Z) (h2 : rvV σ M wq) (h3 : rhV σ M hd ah) : rfV σ M ((n, m, A, kd, bb, wh, dr), Z, wp, wq, hd, ah) := And.intro h1 (And.intro h2 h3)
theorem rPo_0 {y a : Int32} (h : rfV σ M F) (hy : y = a) : rPo σ M F a y σ := ⟨hy, Fr_refl, h⟩
theorem rgV_sh (h : rgV σ M n m A kd bb wh dr Z) : mSh σ M ∧ tz_F σ M 35 = nI 447200 ∧ rrV σ M n m A kd bb wh dr ∧ tz_F σ M 7 = nI Z.2.2.1.1 := by
  obtain ⟨⟨D, T, va, bs, cl⟩, ⟨K, lc, up, fi, se, vr, fo, to, cd, ln, op⟩, ⟨st, sp, ex, cf, spl⟩, mp, mq⟩ := Z
  obtain ⟨⟨h1, h2⟩, h3, h4, -⟩ := rgV_un h
  exact ⟨h1, h2, h3, h4.1⟩
theorem r_stepZ (hr : rwI n m A kd bb dr) (h : rgV σ M n m A kd bb wh dr Z) (hz : zI n m A kd bb Z) (h1 : Z.2.2.1.1 = 1) (hf : 20000 ≤ f) : gp (X12_step f (some M)) σ (fun _ σ' => Rq M stF (gqA M) gqP σ σ' ∧ rgV σ' M n m A kd bb wh dr (mStep n m kd bb wh Z)) := by
  obtain ⟨⟨D, T, va, bs, cl⟩, ⟨K, lc, up, fi, se, vr, fo, to, cd, ln, op⟩, ⟨st, sp, ex, cf, spl⟩, mp, mq⟩ := Z
  have h2 : st = 1 := h1
  subst h2
  exact r_step hr h hz hf
theorem r_beginZ (hr : rwI n m A kd bb dr) (h : rgV σ M n m A kd bb wh dr Z) (hz : zI n m A kd bb Z) (h1 : Z.2.2.1.1 = 0) (hf : 2000 ≤ f) : gp (X12_begin f (some M)) σ (fun _ σ' => Rq M stF (gqA M) gqP σ σ' ∧ rgV σ' M n m A kd bb wh dr (mBegin n A Z)) := by
  obtain ⟨⟨D, T, va, bs, cl⟩, ⟨K, lc, up, fi, se, vr, fo, to, cd, ln, op⟩, ⟨st, sp, ex, cf, spl⟩, mp, mq⟩ := Z
  have h2 : st = 0 := h1
  subst h2
  obtain ⟨⟨-, h2, h3⟩, -⟩ := zI_un hz
  obtain ⟨rfl, rfl, rfl⟩ := h2 rfl
  cases h3 (Or.inl rfl)
  obtain ⟨⟨b1, b2⟩, b3, ⟨c1, c2, c3, c4, c5⟩, b5, b6, -, b8, -⟩ := rgV_un h
  refine gp_mono (r_begin (up := up) (fi := fi) (se := se) (vr := vr) (to := to) (cd := cd) (ln := ln) (mq := mq) b1 b2 b3 b5.1.1 b5.1.2 hf) ?_
  rintro _ σ1 ⟨q, e1, e2, e3, e4, e5, e6⟩
  refine ⟨Rq_mono q (fun _ e => by unfold stF; omega) (fun _ e => e) (fun _ e => e), ?_⟩
  have hpt : pt (ups up 0 none) (ups fi 0 none) 0 = [] := pt_none (ups_s _ _ _)
  have hse : ups se 0 none = (fun k => if k = 0 then none else if none = some k then some 0 else se k) := by
    funext j
    by_cases e : j = 0
    · rw [e, ups_s, if_pos rfl]
    · rw [ups_n _ _ e, if_neg e, if_neg (fun w => by cases w)]
  rw [hse] at e4
  unfold mBegin
  refine rgV_mk ⟨by omega, by omega⟩ ⟨mSh_fr b1 q.1, by rw [q.2.1 35 (by decide) (by decide)]; exact b2⟩ (rrV_rq b3 q (by decide) (by decide) (fun x _ _ => by unfold gqA; omega)) ⟨e1, ?_, ?_, ?_, ?_⟩ e4 e5 (fun _ => e3) (fun e => by cases e) (fun j e => ?_) (fun _ j e => ?_)
  · rw [q.2.1 8 (by decide) (by decide)]; exact c2
  · rw [q.2.1 9 (by decide) (by decide)]; exact c3
  · rw [q.2.1 10 (by decide) (by decide)]; exact c4
  · rw [q.2.1 11 (by decide) (by decide)]; exact c5
  · cases e
    rw [hpt]
    exact ⟨e2, by rw [q.2.1 25 (by decide) (by decide)]; exact b8 rfl, fun i s b hi => by simp at hi⟩
  · cases e
    rw [hpt]
    exact e6
theorem r_solveL {v : Nat} (hr : rwI n m A kd bb dr) (h : rgV σ M n m A kd bb wh dr Z) (hz : zI n m A kd bb Z) (hv : v ≤ 20000) (hf : 30000 ≤ f) : gp (X12_solve_L34 f (some M) (nI v) 0) σ (fun y σ' => y = nI (mRun n m kd bb wh v Z).2 ∧ Rq M stF (gqA M) gqP σ σ' ∧ rgV σ' M n m A kd bb wh dr (mRun n m kd bb wh v Z).1) := by
  unfold X12_solve_L34
  refine gp_loop (I := fun (τ : Int32) (σ' : tz_S) => ∃ j Zj, τ = nI j ∧ j ≤ v ∧ (mRun n m kd bb wh v Z).1 = (mRun n m kd bb wh (v - j) Zj).1 ∧ (mRun n m kd bb wh v Z).2 = j + (mRun n m kd bb wh (v - j) Zj).2 ∧ Rq M stF (gqA M) gqP σ σ' ∧ rgV σ' M n m A kd bb wh dr Zj ∧ zI n m A kd bb Zj) (fun τ _ => 20001 - τ.toNatClampNeg) ?_ f _ _ ⟨0, Z, rfl, Nat.zero_le _, by rw [Nat.sub_zero], by rw [Nat.sub_zero]; omega, Rq_refl, h, hz⟩ (by omega)
  rintro K l2 σ1 ⟨j, Zj, rfl, hj, e1, e2, hG, hsl, hzj⟩ hK
  show gp (X12_solve_L34_body f (some M) (nI v) (fun l2 => K l2) (nI j)) σ1 _
  unfold X12_solve_L34_body X12_solve_b57
  obtain ⟨hc, -, -, h7⟩ := rgV_sh hsl
  refine gp_if (fun z => ?_) (fun z => ?_)
  · rw [nI_leI (by omega) (by omega)] at z
    have hjv : v - j = 0 := by omega
    rw [hjv] at e1 e2
    refine gp_ret ⟨?_, hG, ?_⟩
    · rw [e2]; rfl
    · rw [e1]; exact hsl
  rw [nI_leI (by omega) (by omega)] at z
  refine gp_rI (mh_me hc) rfl ?_
  rw [h7]
  have hst := zI_st hzj
  refine gp_if (fun y => ?_) (fun y => ?_)
  · rw [show (1 : Int32) = nI 1 from rfl, nI_eq (by omega) (by omega)] at y
    refine gp_cV (mh_me hc) (gp_mono (r_stepZ hr hsl hzj y (by omega)) ?_)
    rintro _ σ2 ⟨hG2, hsl2⟩
    refine gp_let ?_
    rw [nI_1]
    have hs : v - j = (v - (j + 1)) + 1 := by omega
    have e3 : mRun n m kd bb wh (v - j) Zj = ((mRun n m kd bb wh (v - (j + 1)) (mStep n m kd bb wh Zj)).1, (mRun n m kd bb wh (v - (j + 1)) (mStep n m kd bb wh Zj)).2 + 1) := by
      rw [hs]
      simp only [mRun]
      rw [if_pos y]
    rw [e3] at e1 e2
    exact hK _ _ ⟨j + 1, mStep n m kd bb wh Zj, rfl, by omega, e1, by rw [e2]; show j + ((mRun n m kd bb wh (v - (j + 1)) (mStep n m kd bb wh Zj)).2 + 1) = _; omega, Rq_trans hG hG2, hsl2, zI_stepZ hr hzj y⟩ (by rw [nI_clamp (by omega), nI_clamp (by omega)]; omega)
  · rw [show (1 : Int32) = nI 1 from rfl, nI_eq (by omega) (by omega)] at y
    have e3 : mRun n m kd bb wh (v - j) Zj = (Zj, 0) := by
      rw [show v - j = (v - (j + 1)) + 1 by omega]
      simp only [mRun]
      rw [if_neg y]
    rw [e3] at e1 e2
    refine gp_ret ⟨?_, hG, ?_⟩
    · rw [e2]; rfl
    · rw [e1]; exact hsl
theorem st_fr (h : Rq M stF (gqA M) gqP σ σ1) : Fr (fun x => M ≤ x ∧ x ≤ M + 20) σ σ1 := Fr_mono h.1 (fun x e => by unfold gqA at e; omega)
theorem st_v (h : Rq M stF (gqA M) gqP σ σ1) (hv : rvV σ M wq) : rvV σ1 M wq := rvV_rq hv h (fun i a b e => by unfold gqP at e; omega)
theorem st_h (h : Rq M stF (gqA M) gqP σ σ1) (hv : rhV σ M hd ah) : rhV σ1 M hd ah := rhV_rq hv h (by unfold stF; omega) (fun i a b e => by unfold gqP at e; omega)
theorem r_solve {v : Int32} (h : rfV σ M ((n, m, A, kd, bb, wh, dr), Z, wp, wq, hd, ah)) (ho : okF ((n, m, A, kd, bb, wh, dr), Z, wp, wq, hd, ah)) (hf : 30000 ≤ f) : gp (X12_solve f (some M) v) σ (rPo σ M (mSol v ((n, m, A, kd, bb, wh, dr), Z, wp, wq, hd, ah)).1 (mSol v ((n, m, A, kd, bb, wh, dr), Z, wp, wq, hd, ah)).2) := by
  obtain ⟨hsl, hW, hH⟩ := rfV_un h
  obtain ⟨hr, hz, -⟩ := okF_un ho
  obtain ⟨hc, -, hw, h7⟩ := rgV_sh hsl
  have hn := hw.1.2.2.1
  have bad : ¬ (n ≠ 0 ∧ 1 ≤ v.toInt ∧ v.toInt ≤ 20000) → gp (X12_solve_b19 f) σ (rPo σ M (mSol v ((n, m, A, kd, bb, wh, dr), Z, wp, wq, hd, ah)).1 (mSol v ((n, m, A, kd, bb, wh, dr), Z, wp, wq, hd, ah)).2) := by
    intro w
    have e : mSol v ((n, m, A, kd, bb, wh, dr), Z, wp, wq, hd, ah) = (((n, m, A, kd, bb, wh, dr), Z, wp, wq, hd, ah), -1) := if_neg w
    rw [e]
    exact gp_ret (rPo_0 h rfl)
  unfold X12_solve
  refine gp_rI (mh_me hc) rfl ?_
  rw [hw.1.1]
  refine gp_if (fun z => ?_) (fun z => ?_)
  · rw [show (0 : Int32) = nI 0 from rfl, nI_eq (by omega) (by omega)] at z
    exact bad (fun w => w.1 z)
  rw [show (0 : Int32) = nI 0 from rfl, nI_eq (by omega) (by omega)] at z
  refine gp_if (fun y => ?_) (fun y => ?_)
  · have y' : v.toInt < 1 := (i32_c v 1).1.1 y
    exact bad (by omega)
  have y' : ¬ v.toInt < 1 := fun w => y ((i32_c v 1).1.2 w)
  refine gp_if (fun x => ?_) (fun x => ?_)
  rotate_left
  · have x' : ¬ v.toInt ≤ 20000 := fun w => x ((i32_c v 20000).2.2 w)
    exact bad (by omega)
  have x' : v.toInt ≤ 20000 := (i32_c v 20000).2.1 x
  clear bad
  have e : mSol v ((n, m, A, kd, bb, wh, dr), Z, wp, wq, hd, ah) = (((n, m, A, kd, bb, wh, dr), (mRun n m kd bb wh v.toInt.toNat (if Z.2.2.1.1 = 0 then mBegin n A Z else Z)).1, wp, wq, hd, ah), nI (mRun n m kd bb wh v.toInt.toNat (if Z.2.2.1.1 = 0 then mBegin n A Z else Z)).2) := if_pos ⟨z, by omega, x'⟩
  rw [e]
  clear e
  obtain ⟨k, hk, hk31, hk2⟩ := i32_nat (show 0 ≤ v.toInt by omega)
  rw [show v.toInt.toNat = k by omega, hk]
  refine gp_rI (mh_me hc) rfl ?_
  rw [h7]
  have hst := zI_st hz
  have fin : ∀ (σ1 : tz_S) (Z1 : zS), Rq M stF (gqA M) gqP σ σ1 → rgV σ1 M n m A kd bb wh dr Z1 → zI n m A kd bb Z1 → gp (X12_solve_b32 f (some M) (nI k)) σ1 (rPo σ M ((n, m, A, kd, bb, wh, dr), (mRun n m kd bb wh k Z1).1, wp, wq, hd, ah) (nI (mRun n m kd bb wh k Z1).2)) := by
    intro σ1 Z1 hG1 hsl1 hz1
    unfold X12_solve_b32
    refine gp_mono (r_solveL hr hsl1 hz1 (by omega) hf) ?_
    rintro y2 σ2 ⟨hy2, hG2, hsl2⟩
    have hGa := Rq_trans hG1 hG2
    exact ⟨hy2, st_fr hGa, rfV_mk hsl2 (st_v hGa hW) (st_h hGa hH)⟩
  refine gp_if (fun t => ?_) (fun t => ?_)
  · rw [show (0 : Int32) = nI 0 from rfl, nI_eq (by omega) (by omega)] at t
    rw [if_pos t]
    refine gp_cV (mh_me hc) (gp_mono (r_beginZ hr hsl hz t (by omega)) ?_)
    rintro _ σ1 ⟨g1, g2⟩
    exact fin σ1 _ g1 g2 (zI_beginZ hr (by omega) hz t)
  · rw [show (0 : Int32) = nI 0 from rfl, nI_eq (by omega) (by omega)] at t
    rw [if_neg t]
    exact fin σ Z Rq_refl hsl hz
end ST
