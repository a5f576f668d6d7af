/-! ===== the reference: forget, factor, whole ===== -/
def fgF (k : Nat) : Prop := (7 ≤ k ∧ k ≤ 11) ∨ k = 15 ∨ k = 23 ∨ k = 25
section SU
variable {f M n m : Nat} {σ σ1 : tz_S} {A : Nat → Nat → Int} {kd : Nat → Nat} {bb dr : Nat → Int} {wh : Nat → Bool} {wp wq : Nat → Int × Int} {hd : Int × Int} {ah : Bool} {Z : zS} {F : zF}
theorem mh_4 (h : mSh σ M) : tz_sh σ (M + 4) = some (.inr (0, 10)) := h.2.2.2.2.1
theorem r_forget (h : mSh σ M) (ht : tz_F σ M 35 = nI 447200) (hrr : rrV σ M n m A kd bb wh dr) : gp (X12_forget f (some M)) σ (fun _ σ' => Rq M fgF (fun _ => False) (fun _ => False) σ σ' ∧ rgV σ' M n m A kd bb wh dr (mForget Z)) := by
  unfold X12_forget
  refine gp_wI (mh_me h) rfl ?_
  refine gp_wI (mh_me h) rfl ?_
  refine gp_wI (mh_me h) rfl ?_
  refine gp_wI (mh_me h) rfl ?_
  refine gp_wI (mh_me h) rfl ?_
  refine gp_wI (mh_me h) rfl ?_
  refine gp_wI (mh_me h) rfl ?_
  refine gp_wI (mh_me h) rfl ?_
  have q : Rq M fgF (fun _ => False) (fun _ => False) σ (tz_sF (tz_sF (tz_sF (tz_sF (tz_sF (tz_sF (tz_sF (tz_sF σ M 7 0) M 8 0) M 9 0) M 10 0) M 11 0) M 15 0) M 23 0) M 25 0) := by
    refine Rq_trans (Rq_trans (Rq_trans (Rq_trans (Rq_trans (Rq_trans (Rq_trans (Rq_F ?_) (Rq_F ?_)) (Rq_F ?_)) (Rq_F ?_)) (Rq_F ?_)) (Rq_F ?_)) (Rq_F ?_)) (Rq_F ?_) <;> unfold fgF <;> omega
  refine gp_ret ⟨q, ?_⟩
  obtain ⟨⟨D, T, va, bs, cl⟩, ⟨K, lc, up, fi, se, vr, fo, to, cd, ln, op⟩, ⟨st, sp, ex, cf, spl⟩, mp, mq⟩ := Z
  unfold mForget
  refine rgV_mk ⟨by omega, by omega⟩ ⟨h, by rw [q.2.1 35 (by unfold fgF; omega) (by decide)]; exact ht⟩ (rrV_rq hrr q (by unfold fgF; omega) (by unfold fgF; omega) (fun _ _ _ e => e)) ⟨?_, ?_, ?_, ?_, ?_⟩ ⟨⟨?_, ?_⟩, fun j hj => absurd hj (Nat.not_lt_zero _)⟩ (fun i j hi => absurd hi (Nat.not_lt_zero _)) (fun w => absurd rfl w) (fun _ => ?_) (fun _ e => by cases e) (fun e => absurd e (by decide)) <;> simp [sF_at] <;> rfl
theorem r_isVariable {x : Int32} (h : mSh σ M) (hrr : rrV σ M n m A kd bb wh dr) : gp (X12_isVariable f (some M) x) σ (fun y σ' => σ' = σ ∧ y = if 0 ≤ x.toInt ∧ x.toInt < n then 1 else 0) := by
  unfold X12_isVariable X12_isVariable_b16 X12_isVariable_b17
  have hn := hrr.1.2.2.1
  refine gp_if (fun z => ?_) (fun z => ?_)
  · have z' : x.toInt < 0 := (i32_c x 0).1.1 z
    exact gp_zz (Or.inl rfl) (gp_ret ⟨rfl, by rw [if_neg (by omega)]⟩)
  have z' : ¬ x.toInt < 0 := fun w => z ((i32_c x 0).1.2 w)
  refine gp_rI (mh_me h) rfl ?_
  rw [hrr.1.1]
  obtain ⟨k, hk, hk31, hk2⟩ := i32_nat (show 0 ≤ x.toInt by omega)
  rw [hk]
  refine gp_if (fun y => ?_) (fun y => ?_)
  · rw [nI_leI (by omega) (by omega)] at y
    exact gp_zz (Or.inl rfl) (gp_ret ⟨rfl, by rw [← hk, if_neg (by omega)]⟩)
  · rw [nI_leI (by omega) (by omega)] at y
    exact gp_zz (Or.inr rfl) (gp_ret ⟨rfl, by rw [← hk, if_pos (by omega)]⟩)
theorem r_within {v w : Int32} {W : Int} (h1 : w.toInt = W) (h2 : (-w).toInt = -W) : gp (X12_within f v w) σ (fun y σ' => σ' = σ ∧ y = if -W ≤ v.toInt ∧ v.toInt ≤ W then 1 else 0) := by
  unfold X12_within X12_within_b15 X12_within_b16
  refine gp_if (fun z => ?_) (fun z => ?_)
  · have z' := (i32_c v (-w)).1.1 z
    exact gp_zz (Or.inl rfl) (gp_ret ⟨rfl, by rw [if_neg (by omega)]⟩)
  have z' : ¬ v.toInt < (-w).toInt := fun y => z ((i32_c v (-w)).1.2 y)
  refine gp_if (fun y => ?_) (fun y => ?_)
  · have y' := (i32_c w v).1.1 y
    exact gp_zz (Or.inl rfl) (gp_ret ⟨rfl, by rw [if_neg (by omega)]⟩)
  · have y' : ¬ w.toInt < v.toInt := fun x => y ((i32_c w v).1.2 x)
    exact gp_zz (Or.inr rfl) (gp_ret ⟨rfl, by rw [if_pos (by omega)]⟩)
/-- what doesn't touch the solving -/
theorem rgV_rq {Fs As Ps : Nat → Prop} {dr2 : Nat → Int} (h : rgV σ M n m A kd bb wh dr Z) (hz : zI n m A kd bb Z) (hq : Rq M Fs As Ps σ σ1) (hF : ∀ k, Fs k → k < 7 ∨ (28 ≤ k ∧ k ≤ 33)) (hA : ∀ x, As x → x ≤ M + 5 ∨ M + 18 ≤ x) (hP : ∀ i, Ps i → 109456 ≤ i ∧ i < 116056) (hr : rrV σ1 M n m A kd bb wh dr2) : rgV σ1 M n m A kd bb wh dr2 Z := by
  obtain ⟨⟨D, T, va, bs, cl⟩, ⟨K, lc, up, fi, se, vr, fo, to, cd, ln, op⟩, ⟨st, sp, ex, cf, spl⟩, mp, mq⟩ := Z
  obtain ⟨⟨h1, h2⟩, h3, h4, h5, h6, h7, h8, h9, h10⟩ := rgV_un h
  have hb := rgV_bd h
  obtain ⟨y1, y4, hA1, hB, y5, -⟩ := zI_un hz
  have hn := h3.1.2.2
  have nf : ∀ j, 7 ≤ j → (j < 28 ∨ 33 < j) → ¬ Fs j := fun j a b e => by have := hF j e; omega
  have na : ∀ x, M + 6 ≤ x → x ≤ M + 17 → ¬ As x := fun x a b e => by have := hA x e; omega
  have np : ∀ i, (i < 109456 ∨ 116056 ≤ i) → ¬ Ps i := fun i a e => by have := hP i e; omega
  have hk : ∀ k, op = some k → (pt up fi k).length ≤ 24 := fun k e => by
    have s0 : st ≠ 0 := fun w => by have := y1.2.2 (Or.inl w); rw [this] at e; cases e
    have s3 : st ≠ 3 := fun w => by have := y1.2.2 (Or.inr w); rw [this] at e; cases e
    obtain ⟨k2, e2, ho, -⟩ := y5 s0 s3
    rw [e] at e2
    cases e2
    exact ho.2.2.2.2.2.2.1
  refine rgV_mk hb ⟨mSh_fr h1 hq.1, by rw [hq.2.1 35 (nf 35 (by decide) (by decide)) (by decide)]; exact h2⟩ hr (rcV_rq h4 hq (fun k a b => nf k a (by omega))) (rkV_rq h5 hq (nf 15 (by decide) (by decide)) (nf 23 (by decide) (by decide)) (fun x a b => na x (by omega) (by omega)) (fun i a b => np i (by omega)) hb.1) (rmV_rq h6 hq (fun i a b => np i (by omega)) hb.2) (fun w => ?_) (fun e => ?_) (fun j e => ?_) (fun w j e => ?_)
  · obtain ⟨-, -, hpm, -⟩ := y4 w
    exact rtV_rq (h7 w) hq (na _ (by omega) (by omega)) (na _ (by omega) (by omega)) (fun i a => np i (by omega)) hn.1 hn.2 (fun c hc => by have := hpm.2.1 c hc; omega)
  · rw [hq.2.1 25 (nf 25 (by decide) (by decide)) (by decide)]; exact h8 e
  · obtain ⟨g1, g2⟩ := h9 j e
    exact ⟨by rw [hq.2.1 24 (nf 24 (by decide) (by decide)) (by decide)]; exact g1, roV_rq g2 hq (nf 25 (by decide) (by decide)) (na _ (by omega) (by omega)) (na _ (by omega) (by omega)) (fun i a b => np i (by omega)) (by simp; exact hk j e)⟩
  · exact rbV_rq (h10 w j e) hq (na _ (by omega) (by omega)) (fun i a b => np i (by omega)) hn.1
theorem rrV_dr {x : Nat} {a : Int32} (hr : rrV σ M n m A kd bb wh dr) : rrV (tz_sA σ (M + 4) x a) M n m A kd bb wh (ups dr x a.toInt) := by
  obtain ⟨h1, h2, h3, h4, h5, h6⟩ := hr
  refine ⟨h1, fun r y u v => ?_, fun r u => ?_, fun r u => ?_, fun y u => ?_, fun y u => ?_⟩
  · rw [sA_at, if_neg (by omega)]; exact h2 r y u v
  · rw [sA_at, if_neg (by omega)]; exact h3 r u
  · rw [sA_at, if_neg (by omega)]; exact h4 r u
  · rw [sA_at, if_neg (by omega)]; exact h5 y u
  · rw [sA_at]
    by_cases e : y = x
    · rw [if_pos ⟨rfl, e⟩, e, ups_s]
    · rw [if_neg (fun w => e w.2), ups_n _ _ e]; exact h6 y u
theorem r_factor {x a : Int32} (h : rfV σ M ((n, m, A, kd, bb, wh, dr), Z, wp, wq, hd, ah)) (ho : okF ((n, m, A, kd, bb, wh, dr), Z, wp, wq, hd, ah)) : gp (X12_factor f (some M) x a) σ (rPo σ M (mFac x a ((n, m, A, kd, bb, wh, dr), Z, wp, wq, hd, ah)).1 (mFac x a ((n, m, A, kd, bb, wh, dr), Z, wp, wq, hd, ah)).2) := by
  obtain ⟨hsl, hW, hH⟩ := rfV_un h
  obtain ⟨hr, hz, -⟩ := okF_un ho
  obtain ⟨hc, -, hw, -⟩ := rgV_sh hsl
  have hn := hw.1.2.2.1
  have bad : ¬ ((0 ≤ x.toInt ∧ x.toInt < n) ∧ -1000000 ≤ a.toInt ∧ a.toInt ≤ 1000000) → gp (X12_factor_b17 f) σ (rPo σ M (mFac x a ((n, m, A, kd, bb, wh, dr), Z, wp, wq, hd, ah)).1 (mFac x a ((n, m, A, kd, bb, wh, dr), Z, wp, wq, hd, ah)).2) := by
    intro w
    have e : mFac x a ((n, m, A, kd, bb, wh, dr), Z, wp, wq, hd, ah) = (((n, m, A, kd, bb, wh, dr), Z, wp, wq, hd, ah), -1) := if_neg w
    rw [e]
    exact gp_ret (rPo_0 h rfl)
  unfold X12_factor
  refine gp_cV (mh_me hc) (gp_mono (r_isVariable hc hw) ?_)
  rintro y σ0 ⟨z0, hy⟩
  rw [z0]
  clear z0 σ0
  refine gp_if (fun z => bad (fun w => ite0 hy z w.1)) (fun z => ?_)
  have hx := ite1 hy z
  refine gp_cB (gp_mono (r_within (W := 1000000) (by decide) (by decide)) ?_)
  rintro y2 σ0 ⟨z0, hy2⟩
  rw [z0]
  clear z0 σ0
  refine gp_if (fun z => bad (fun w => ite0 hy2 z w.2)) (fun z => ?_)
  have ha := ite1 hy2 z
  have e : mFac x a ((n, m, A, kd, bb, wh, dr), Z, wp, wq, hd, ah) = (((n, m, A, kd, bb, wh, ups dr x.toInt.toNat a.toInt), Z, wp, wq, hd, ah), 0) := if_pos ⟨hx, ha⟩
  rw [e]
  obtain ⟨k, hk, hk31, hk2⟩ := i32_nat hx.1
  rw [show x.toInt.toNat = k by omega, hk]
  refine gp_rR (mh_me hc) rfl ?_
  refine gp_sI (j := k) (mh_4 hc) (by decide) (by omega) (by omega) rfl ?_
  have q : Rq M (fun _ => False) (fun y => y = M + 4) (fun _ => False) σ (tz_sA σ (M + 4) k a) := Rq_A rfl (by omega)
  exact gp_ret ⟨rfl, Fr_mono q.1 (fun y e => by omega), rfV_mk (rgV_rq hsl hz q (fun _ e => e.elim) (fun y e => by omega) (fun _ e => e.elim) (rrV_dr hw)) (rvV_rq hW q (fun _ _ _ e => e)) (rhV_rq hH q (fun e => e) (fun _ _ _ e => e))⟩
end SU
