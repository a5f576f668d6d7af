/-! ===== the reference: a leaf's columns ===== -/
def glS (n m : Nat) (A : Nat → Nat → Int) (kd : Nat → Nat) (bb dr : Nat → Int) (k lf : Nat) (mp g : Nat → Int × Int) : Prop := rwI n m A kd bb dr ∧ k < 310 ∧ lf < 152 ∧ lfI mp g
def glC (σ : tz_S) (M n m : Nat) (A : Nat → Nat → Int) (kd : Nat → Nat) (bb : Nat → Int) (wh : Nat → Bool) (dr : Nat → Int) (k lf : Nat) (g : Nat → Int × Int) (ga : Nat → Option Int) (t : Nat) : Prop := mSh σ M ∧ tz_F σ M 35 = nI t ∧ (447200 ≤ t ∧ t ≤ 455000) ∧ rrV σ M n m A kd bb wh dr ∧ lfC σ M k lf g ∧ raV σ M t ga
section TR
variable {f M n m k lf t : Nat} {σ σ1 : tz_S} {A : Nat → Nat → Int} {kd : Nat → Nat} {bb dr : Nat → Int} {wh : Nat → Bool} {mp g : Nat → Int × Int} {ga : Nat → Option Int} {w : Nat → Int}
theorem rrV_tq (h : rrV σ M n m A kd bb wh dr) (hq : Tq M t σ σ1) : rrV σ1 M n m A kd bb wh dr := by
  have q : Rq M (fun k => k = 30 ∨ k = 31 ∨ k = 35) (fun _ => False) (fun i => t ≤ i) σ σ1 := ⟨Fr_mono hq.1 (fun x e => by rcases e with e | e; exact Or.inl e; exact Or.inr (Or.inl e)), fun k a b => hq.2.1 k (by omega) (by omega) (by omega) b, fun i _ b => hq.2.2 i (by omega)⟩
  exact rrV_rq h q (by omega) (by omega) (fun _ _ _ e => e)
theorem glC_tq (h : glC σ M n m A kd bb wh dr k lf g ga t) (hq : Tq M t σ σ1) (h35 : tz_F σ1 M 35 = nI t) : glC σ1 M n m A kd bb wh dr k lf g ga t := by
  obtain ⟨h1, h2, h3, h4, h5, h6⟩ := h
  exact ⟨mSh_fr h1 hq.1, h35, h3, rrV_tq h4 hq, lfC_tq h5 hq h3.1, raV_tq h6 hq (Nat.le_refl _)⟩
theorem gl_g (h : glS n m A kd bb dr k lf mp g) : gOk g ∧ wS 32 g ≤ 959 ∧ ∀ i, i < 32 → 0 < (g i).2 ∧ (g i).2.natAbs ≤ 10 ^ 70 ∧ (mp i).1 * (g i).2 = (g i).1 * (mp i).2 := by
  obtain ⟨-, -, -, h1, h2⟩ := h
  have hh : ∀ i, i < 32 → 0 < (g i).2 ∧ (g i).2.natAbs ≤ 10 ^ 70 ∧ (mp i).1 * (g i).2 = (g i).1 * (mp i).2 := fun i hi => by
    obtain ⟨a1, a2, a3, a4, a5, a6, a7⟩ := h1 i hi
    refine ⟨a2, ?_, a3⟩
    rw [e70] at a7
    omega
  exact ⟨fun j hj => ⟨(hh j hj).1, (hh j hj).2.1⟩, Nat.le_trans (wS_mn (fun i hi => (h1 i hi).2.2.2.2.1)) h2, hh⟩
theorem gl_w (h : glS n m A kd bb dr k lf mp g) (hw : ∀ i, i < 32 → -1000000000000000001 ≤ w i ∧ w i ≤ 1000000000000000001) : jdP 32 w mp ∧ ∀ i, i < 32 → (w i * (g i).1).natAbs ≤ 10 ^ 97 := by
  have hj := jd_lf h.2.2.2 hw
  refine ⟨hj, fun i hi => ?_⟩
  have h1 := (hj.2.1 i hi).2.2.2.1
  rw [Int.natAbs_mul] at h1 ⊢
  exact Nat.le_trans (Nat.mul_le_mul_left _ (h.2.2.2.1 i hi).2.2.2.1) h1
theorem cv_w {x i : Nat} (hr : rwI n m A kd bb dr) (hx : x < 10) : -1000000000000000001 ≤ cvW m A x i ∧ cvW m A x i ≤ 1000000000000000001 := by
  unfold cvW
  by_cases z : i < m
  · rw [if_pos z]
    have := hr.2.1 i x z hx
    omega
  · rw [if_neg z]
    by_cases y : i = 12 + x ∨ i = 22 + x
    · rw [if_pos y]; omega
    · rw [if_neg y]; omega
theorem cv_0 {x i : Nat} (h1 : m ≤ i) (h2 : i ≠ 12 + x) (h3 : i ≠ 22 + x) : exE 32 (cvW m A x) g i = 0 := by
  unfold exE
  rw [show cvW m A x i = 0 by unfold cvW; rw [if_neg (by omega), if_neg (by omega)]]
  simp
set_option maxRecDepth 20000 in
set_option maxHeartbeats 4000000 in
theorem r_gl189 {x t1 : Nat} {K164 : Int32 → Int32 → pz_C Int32} {Q : Int32 → tz_S → Prop} (hS : glS n m A kd bb dr k lf mp g) (hC : glC σ M n m A kd bb wh dr k lf g ga t) (hxn : x < n) (hq1 : Tq M t σ σ1) (hs : smV σ1 M t1 0 1) (ht1 : t1 ≤ t + 8) (ht2 : t ≤ t1) (hf : 20000 ≤ f) (hK : ∀ σ2, Tq M t σ σ2 → tz_F σ2 M 35 = nI t → gp (K164 (if cvB m A mp x = true then 0 else 1) (nI (x + 1))) σ2 Q) :
    gp (X12_isGoodLeaf_L189 f K164 (some M) (nI k) (nI x) (nI t) 0) σ1 Q := by
  obtain ⟨gg, gW, gh⟩ := gl_g hS
  have hwt : ∀ i, i < 32 → -1000000000000000001 ≤ cvW m A x i ∧ cvW m A x i ≤ 1000000000000000001 := fun i _ => cv_w hS.1 (by have := hS.1.1.1; omega)
  obtain ⟨hj, hw97⟩ := gl_w hS hwt
  obtain ⟨hr, hk, hlf, -⟩ := hS
  have hn := hr.1.1
  have hm := hr.1.2
  obtain ⟨hc, h35, ht, hw, hL, hR⟩ := id hC
  obtain ⟨⟨w0, w1, -, -⟩, wA, -⟩ := id hw
  have hsu : su 32 (exE 32 (cvW m A x) g) = su m (exE 32 (cvW m A x) g) + exE 32 (cvW m A x) g (12 + x) + exE 32 (cvW m A x) g (22 + x) := su_cv hm (by omega) (fun i a _ b c => cv_0 a b c)
  have hsg : ∀ U V : Int, smI (prD g 32) (su m (exE 32 (cvW m A x) g) + exE 32 (cvW m A x) g (12 + x) + exE 32 (cvW m A x) g (22 + x)) U V → isg U = sgT 32 (cvW m A x) mp 0 := fun U V hI => by
    rw [← hsu] at hI
    have := tot_sg (b := 0) hj gh hI
    rw [Int.zero_mul, Int.sub_zero] at this
    exact this
  have hcv : cvB m A mp x = decide (sgT 32 (cvW m A x) mp 0 ≠ 0) := rfl
  have hw12 : cvW m A x (12 + x) = 1 := by unfold cvW; rw [if_neg (by omega), if_pos (Or.inl rfl)]
  have hw22 : cvW m A x (22 + x) = 1 := by unfold cvW; rw [if_neg (by omega), if_pos (Or.inr rfl)]
  unfold X12_isGoodLeaf_L189
  refine gp_loop (I := fun (τ : Int32) (σ' : tz_S) => ∃ i t3 U V, τ = nI i ∧ i ≤ m ∧ t3 ≤ t + 8 + 1010 * i ∧ t ≤ t3 ∧ Tq M t σ σ' ∧ smV σ' M t3 U V ∧ sgI (prD g 32) i (su i (exE 32 (cvW m A x) g)) U V) (fun τ _ => 100 - τ.toNatClampNeg) ?_ f _ _ ⟨0, t1, 0, 1, rfl, Nat.zero_le _, by omega, ht2, hq1, hs, sgI_0⟩ (by omega)
  clear hq1 hs
  rintro Kx l5 σ2 ⟨i, t3, U, V, rfl, hi, ht3, ht4, q2, hs2, hI2⟩ hKx
  show gp (X12_isGoodLeaf_L189_body f K164 (some M) (nI k) (nI x) (nI t) (fun l5 => Kx l5) (nI i)) σ2 Q
  have h2 := mSh_fr hc q2.1
  have hL2 := lfC_tq hL q2 ht.1
  unfold X12_isGoodLeaf_L189_body
  refine gp_rI (mh_me h2) rfl ?_
  rw [q2.2.1 1 (by decide) (by decide) (by decide) (by decide), w1]
  refine gp_if (fun z => ?_) (fun z => ?_)
  · rw [nI_leI (by omega) (by omega)] at z
    have him : i = m := by omega
    subst him
    refine gp_cV (mh_me h2) (gp_mono (r_plainOf (v := 1) h2 (smV_top hs2) (by decide) (by omega) (by omega)) ?_)
    rintro _ σ3 ⟨rfl, hP3, k3, hk3, h353, hv3⟩
    have h3 := mSh_fr h2 hP3.1
    have q3 : Tq M t σ2 σ3 := Tq_pq hP3 (by omega)
    have hs3 := smV_pq hs2 hP3 (Nat.le_refl _) h353 (by omega)
    have hv3' : nV (tz_A σ3 (M + 20)) t3 k3 (cvW i A x (12 + x)) := by rw [hw12]; exact hv3
    refine gp_cV (mh_me h3) (gp_mono (r_add (w := cvW i A x) h3 (lfC_tq hL2 q3 ht.1) hk hlf gg gW (show 12 + x < 32 by omega) (hw97 _ (by omega)) hs3 hI2 (by omega) hv3' (by omega) (by omega) (by omega) (by omega) (by rw [show (12 : Int32) = nI 12 from rfl, nI_add]) hf) ?_)
    rintro _ σ4 ⟨q4, t4, U4, V4, ht5, ht6, hs4, hI4⟩
    have h4 := mSh_fr h3 q4.1
    refine gp_cV (mh_me h4) (gp_mono (r_plainOf (v := 1) h4 (smV_top hs4) (by decide) (by omega) (by omega)) ?_)
    rintro _ σ5 ⟨rfl, hP5, k5, hk5, h355, hv5⟩
    have h5 := mSh_fr h4 hP5.1
    have q5 : Tq M t σ σ5 := Tq_trans q2 (Tq_trans q3 (Tq_trans (Tq_mono q4 (by omega)) (Tq_pq hP5 (by omega))))
    have hs5 := smV_pq hs4 hP5 (Nat.le_refl _) h355 (by omega)
    have hv5' : nV (tz_A σ5 (M + 20)) t4 k5 (cvW i A x (22 + x)) := by rw [hw22]; exact hv5
    refine gp_cV (mh_me h5) (gp_mono (r_add (w := cvW i A x) h5 (lfC_tq hL q5 ht.1) hk hlf gg gW (show 22 + x < 32 by omega) (hw97 _ (by omega)) hs5 hI4 (by omega) hv5' (by omega) (by omega) (by omega) (by omega) (by rw [show (22 : Int32) = nI 22 from rfl, nI_add]) hf) ?_)
    rintro _ σ6 ⟨q6, t6, U6, V6, ht7, ht8, hs6, hI6⟩
    have h6 := mSh_fr h5 q6.1
    obtain ⟨a1, a2, k1, k2, f30, f31, l1, l2, n1, n2, h356⟩ := hs6
    refine gp_rI (mh_me h6) rfl ?_
    rw [f30]
    refine gp_cV (mh_me h6) (gp_mono (r_sgn h6 n1 (by omega)) ?_)
    rintro _ σ0 ⟨z0, rfl⟩
    rw [z0, hsg _ _ hI6.1]
    clear z0 σ0
    have fin : ∀ s0 : Int32, s0 = (if cvB i A mp x = true then 0 else 1) → gp (X12_isGoodLeaf_b272 f K164 (some M) (nI k) (nI x) (nI t) s0) σ6 Q := fun s0 e => by
      unfold X12_isGoodLeaf_b272
      refine gp_wI (mh_me h6) rfl ?_
      refine gp_let ?_
      rw [nI_1, e]
      exact hK _ (Tq_trans q5 (Tq_trans (Tq_mono q6 (by omega)) (Tq_F (Or.inr (Or.inr rfl))))) (by rw [sF_at, if_pos ⟨rfl, rfl⟩])
    rw [hcv] at fin
    refine gp_if (fun z1 => fin 1 ?_) (fun z1 => fin 0 ?_)
    · rw [z1]; rfl
    · rw [if_pos (decide_eq_true z1)]
  rw [nI_leI (by omega) (by omega)] at z
  have him : i < m := by omega
  have hwi : cvW m A x i = A i x := by unfold cvW; rw [if_pos him]
  have hAr := hr.2.1 i x him (by omega)
  refine gp_rR (mh_me h2) rfl ?_
  refine gp_aI (j := 10 * i + x) (mh_1 h2) (by decide) (by omega) (by omega) (by rw [show (10 : Int32) = nI 10 from rfl, nI_mul, nI_add]) ?_
  rw [Fr_A q2.1 (show ¬ (M + 1 = M ∨ M + 1 = M + 20) by omega)]
  refine gp_cV (mh_me h2) (gp_mono (r_plainOf h2 (smV_top hs2) (by rw [Int32.toInt_toInt64, wA i x him (by omega)]; omega) (by omega) (by omega)) ?_)
  rintro _ σ3 ⟨rfl, hP3, k3, hk3, h353, hv3⟩
  rw [Int32.toInt_toInt64, wA i x him (by omega), ← hwi] at hv3
  have h3 := mSh_fr h2 hP3.1
  have q3 : Tq M t σ σ3 := Tq_trans q2 (Tq_pq hP3 (by omega))
  have hs3 := smV_pq hs2 hP3 (Nat.le_refl _) h353 (by omega)
  refine gp_cV (mh_me h3) (gp_mono (r_add (w := cvW m A x) h3 (lfC_tq hL q3 ht.1) hk hlf gg gW (show i < 32 by omega) (hw97 _ (by omega)) hs3 hI2 (by omega) hv3 (by omega) (by omega) (by omega) (by omega) rfl hf) ?_)
  rintro _ σ4 ⟨q4, t4, U4, V4, ht5, ht6, hs4, hI4⟩
  refine gp_let ?_
  rw [nI_1]
  exact hKx (nI (i + 1)) σ4 ⟨i + 1, t4, U4, V4, rfl, by omega, by omega, by omega, Tq_trans q3 (Tq_mono q4 (by omega)), hs4, hI4⟩ (by rw [nI_clamp (by omega), nI_clamp (by omega)]; omega)
end TR
