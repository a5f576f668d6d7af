/-! ===== the reference: judgeWitness, the whole ones ===== -/
theorem dv_same {p q p2 q2 : Int} (hq : 0 < q) (hq2 : 0 < q2) (h : p * q2 = p2 * q) : p % q = 0 ↔ p2 % q2 = 0 := by
  have one : ∀ {p q p2 q2 : Int}, 0 < q → p * q2 = p2 * q → p % q = 0 → p2 % q2 = 0 := by
    intro p q p2 q2 hq h h0
    obtain ⟨c, rfl⟩ := Int.dvd_of_emod_eq_zero h0
    have : (c * q2) * q = p2 * q := by rw [← h]; grind
    have e := Int.eq_of_mul_eq_mul_right (show q ≠ 0 by omega) this
    rw [← e]
    exact Int.mul_emod_left _ _
  exact ⟨one hq h, one hq2 h.symm⟩
theorem mod_isg {p q : Int} : isg (p / q * q - p) = 0 ↔ p % q = 0 := by
  have := Int.mul_ediv_add_emod p q
  rw [Int.mul_comm] at this
  rw [isg_0]
  omega
section TM
variable {f M n m : Nat} {σ σ1 : tz_S} {A : Nat → Nat → Int} {kd : Nat → Nat} {bb dr : Nat → Int} {wh : Nat → Bool} {wp wq : Nat → Int × Int} {hd : Int × Int} {ah : Bool} {Z : zS}
set_option maxRecDepth 20000 in
set_option maxHeartbeats 2000000 in
theorem r_jw39 (h : rfV σ M ((n, m, A, kd, bb, wh, dr), Z, wp, wq, hd, ah)) (ho : okF ((n, m, A, kd, bb, wh, dr), Z, wp, wq, hd, ah)) (hf : 20000 ≤ f) : gp (X12_judgeWitness_L39 f (some M) 0) σ (fun y σ' => Tq M 447200 σ σ' ∧ tz_F σ' M 35 = nI 447200 ∧ y = match fst1 (brV wh wp) n with
    | some x => nI (100 + x)
    | none => 0) := by
  obtain ⟨hsl, hW, hH⟩ := rfV_un h
  obtain ⟨hr, hz, hwv⟩ := okF_un ho
  obtain ⟨hc, h35, hw, -⟩ := rgV_sh hsl
  obtain ⟨⟨w0, w1, hn, hm⟩, -, -, -, wW, -⟩ := hw
  unfold X12_judgeWitness_L39
  refine gp_loop (I := fun (τ : Int32) (σ' : tz_S) => ∃ i, τ = nI i ∧ i ≤ n ∧ Tq M 447200 σ σ' ∧ tz_F σ' M 35 = nI 447200 ∧ ∀ p, p < i → brV wh wp p = false) (fun τ _ => 100 - τ.toNatClampNeg) ?_ f _ _ ⟨0, rfl, Nat.zero_le _, Tq_refl, h35, fun p hp => absurd hp (Nat.not_lt_zero _)⟩ (by omega)
  rintro Kx l1 σ2 ⟨i, rfl, hi, q2, h352, hno⟩ hK
  show gp (X12_judgeWitness_L39_body f (some M) (fun l1 => Kx l1) (nI i)) σ2 _
  have h2 := mSh_fr hc q2.1
  unfold X12_judgeWitness_L39_body
  refine gp_rI (mh_me h2) rfl ?_
  rw [q2.2.1 0 (by decide) (by decide) (by decide) (by decide), w0]
  refine gp_if (fun z => ?_) (fun z => ?_)
  · rw [nI_leI (by omega) (by omega)] at z
    refine gp_ret ⟨q2, h352, ?_⟩
    rw [fst1_none (fun p hp => hno p (by omega))]
  rw [nI_leI (by omega) (by omega)] at z
  have hin : i < n := by omega
  refine gp_rI (mh_me h2) rfl ?_
  rw [h352]
  unfold X12_witnessAt
  refine gp_cB (gp_ret ?_)
  rw [show (109456 : Int32) + 300 * (2 * nI i + 0) = nI (109456 + 300 * (2 * i)) from at_w i 0]
  refine gp_cB (gp_ret ?_)
  rw [show (109456 : Int32) + 300 * (2 * nI i + 1) = nI (109456 + 300 * (2 * i + 1)) from at_w i 1]
  obtain ⟨⟨c1, g1, g2, g3⟩, ⟨c2, u1, u2, u3⟩⟩ := hW i (by omega)
  obtain ⟨y1, y2, y3⟩ := wv_q (hwv i (by omega))
  have x1 := (hwv i (by omega)).1
  have g1' := nV_tq g1 q2 g2
  have u1' := nV_tq u1 q2 u2
  refine gp_cV (mh_me h2) (gp_mono (r_over h2 h352 g1' u1' y1 (by omega) (by omega) (by omega) (by omega) (by omega) (by omega)) ?_)
  rintro _ σ3 ⟨rfl, hP3, k3, hk3, h353, hv3⟩
  have h3 := mSh_fr h2 hP3.1
  refine gp_cV (mh_me h3) (gp_mono (r_by h3 h353 hv3 (nV_pq u1' hP3 (Or.inl (by omega))) (by omega) (by omega) (by omega) (by omega) (by omega) (by omega)) ?_)
  rintro _ σ4 ⟨rfl, hP4, k4, hk4, h354, hv4⟩
  have h4 := mSh_fr h3 hP4.1
  refine gp_cV (mh_me h4) (gp_mono (r_compare h4 hv4 (nV_pq (nV_pq g1' hP3 (Or.inl (by omega))) hP4 (Or.inl (by omega))) (by omega) (by omega) (by omega)) ?_)
  rintro _ σ0 ⟨z0, rfl⟩
  rw [z0]
  clear z0 σ0
  have q4 : Tq M 447200 σ σ4 := Tq_trans q2 (Tq_trans (Tq_pq hP3 (by omega)) (Tq_pq hP4 (by omega)))
  have hdv : isg ((wq i).1 / (wq i).2 * (wq i).2 - (wq i).1) = 0 ↔ (wp i).1 % (wp i).2 = 0 := by rw [mod_isg]; exact (dv_same x1 y1 y3).symm
  generalize isg ((wq i).1 / (wq i).2 * (wq i).2 - (wq i).1) = sg at *
  have fin : ∀ s0 : Int32, (s0 = 0 ↔ (wp i).1 % (wp i).2 ≠ 0) → gp (X12_judgeWitness_b91 f (fun l1 => Kx l1) (some M) (nI i) (nI 447200) s0) σ4 (fun y σ' => Tq M 447200 σ σ' ∧ tz_F σ' M 35 = nI 447200 ∧ y = match fst1 (brV wh wp) n with
    | some x => nI (100 + x)
    | none => 0) := by
    intro s0 hs0
    unfold X12_judgeWitness_b91 X12_judgeWitness_b117
    refine gp_wI (mh_me h4) rfl ?_
    have q5 : Tq M 447200 σ (tz_sF σ4 M 35 (nI 447200)) := Tq_trans q4 (Tq_F (Or.inr (Or.inr rfl)))
    have h355 : tz_F (tz_sF σ4 M 35 (nI 447200)) M 35 = nI 447200 := by rw [sF_at, if_pos ⟨rfl, rfl⟩]
    generalize tz_sF σ4 M 35 (nI 447200) = σ5 at *
    have h5 := mSh_fr hc q5.1
    have next : brV wh wp i = false → gp (pz_let (nI i + 1) fun l1_12 => Kx l1_12) σ5 (fun y σ' => Tq M 447200 σ σ' ∧ tz_F σ' M 35 = nI 447200 ∧ y = match fst1 (brV wh wp) n with
      | some x => nI (100 + x)
      | none => 0) := fun hb => by
      refine gp_let ?_
      rw [nI_1]
      exact hK (nI (i + 1)) σ5 ⟨i + 1, rfl, by omega, q5, h355, fun p hp => by
        by_cases e : p = i
        · rw [e]; exact hb
        · exact hno p (by omega)⟩ (by rw [nI_clamp (by omega), nI_clamp (by omega)]; omega)
    refine gp_rR (mh_me h5) rfl ?_
    refine gp_aI (j := i) (mh_5 h5) (by decide) (by omega) (by omega) rfl ?_
    rw [Fr_A q5.1 (show ¬ (M + 5 = M ∨ M + 5 = M + 20) by omega), wW i (by omega)]
    cases hwh : wh i with
    | false =>
      refine gp_t (by simp) (next ?_)
      unfold brV
      rw [hwh]; rfl
    | true =>
      refine gp_f (by simp) ?_
      refine gp_if (fun z1 => ?_) (fun z1 => ?_)
      · refine gp_ret ⟨q5, h355, ?_⟩
        rw [fst1_some hno (by unfold brV; rw [hwh]; simp; exact hs0.1 z1) hin, show (100 : Int32) = nI 100 from rfl, nI_add]
      · refine next ?_
        unfold brV
        rw [hwh]
        by_cases e : (wp i).1 % (wp i).2 = 0
        · rw [e]; rfl
        · exact absurd (hs0.2 e) z1
  refine gp_if (fun z1 => fin 1 ?_) (fun z1 => fin 0 ?_)
  · exact ⟨fun w => absurd w (by decide), fun w => absurd (hdv.1 z1) w⟩
  · exact ⟨fun _ w => z1 (hdv.2 w), fun _ => rfl⟩
set_option maxHeartbeats 1000000 in
theorem r_judgeWitness (h : rfV σ M ((n, m, A, kd, bb, wh, dr), Z, wp, wq, hd, ah)) (ho : okF ((n, m, A, kd, bb, wh, dr), Z, wp, wq, hd, ah)) (hf : 20000 ≤ f) : gp (X12_judgeWitness f (some M)) σ (rPo σ M ((n, m, A, kd, bb, wh, dr), Z, wp, wq, hd, ah) (mJuW ((n, m, A, kd, bb, wh, dr), Z, wp, wq, hd, ah))) := by
  obtain ⟨hsl, hW, hH⟩ := rfV_un h
  obtain ⟨hc, h35, hw, -⟩ := rgV_sh hsl
  obtain ⟨⟨w0, w1, hn, hm⟩, -⟩ := hw
  unfold X12_judgeWitness
  refine gp_rI (mh_me hc) rfl ?_
  rw [w0]
  unfold mJuW
  simp only
  refine gp_if (fun z => ?_) (fun z => ?_)
  · have : n = 0 := (nI_eq (b := 0) (by omega) (by omega)).1 z
    rw [if_pos this]
    exact gp_ret (rPo_0 h rfl)
  have hn0 : n ≠ 0 := fun e => z (by rw [e]; rfl)
  rw [if_neg hn0]
  have done : ∀ {σ' : tz_S} {y a : Int32}, Tq M 447200 σ σ' → tz_F σ' M 35 = nI 447200 → y = a → rPo σ M ((n, m, A, kd, bb, wh, dr), Z, wp, wq, hd, ah) a y σ' := fun q g e => ⟨e, Fr_mono q.1 (fun x e => by omega), rfV_tq h ho q g⟩
  unfold X12_judgeWitness_L11
  refine gp_loop (I := fun (τ : Int32) (σ' : tz_S) => ∃ i, τ = nI i ∧ i ≤ m ∧ Tq M 447200 σ σ' ∧ tz_F σ' M 35 = nI 447200 ∧ ∀ p, p < i → brR n A kd bb wp p = false) (fun τ _ => 100 - τ.toNatClampNeg) ?_ f _ _ ⟨0, rfl, Nat.zero_le _, Tq_refl, h35, fun p hp => absurd hp (Nat.not_lt_zero _)⟩ (by omega)
  rintro Kx l1 σ2 ⟨i, rfl, hi, q2, h352, hno⟩ hK
  show gp (X12_judgeWitness_L11_body f (some M) (fun l1 => Kx l1) (nI i)) σ2 _
  have h2 := mSh_fr hc q2.1
  have hv2 := rfV_tq h ho q2 h352
  unfold X12_judgeWitness_L11_body
  refine gp_rI (mh_me h2) rfl ?_
  rw [q2.2.1 1 (by decide) (by decide) (by decide) (by decide), w1]
  refine gp_if (fun z => ?_) (fun z => ?_)
  · rw [nI_leI (by omega) (by omega)] at z
    refine gp_mono (r_jw39 hv2 ho hf) ?_
    rintro y σ3 ⟨q3, h353, hy⟩
    refine done (Tq_trans q2 q3) h353 ?_
    rw [hy, fst1_none (fun p hp => hno p (by omega))]
    cases fst1 (brV wh wp) n <;> rfl
  rw [nI_leI (by omega) (by omega)] at z
  have him : i < m := by omega
  refine gp_cV (mh_me h2) (gp_mono (r_holds hv2 ho him hf) ?_)
  rintro y σ3 ⟨q3, h353, hy⟩
  have q := Tq_trans q2 q3
  refine gp_if (fun z1 => ?_) (fun z1 => ?_)
  · refine gp_ret (done q h353 ?_)
    have hb : brR n A kd bb wp i = true := by
      by_cases e : brR n A kd bb wp i = true
      · exact e
      · rw [if_neg e] at hy; rw [hy] at z1; exact absurd z1 (by decide)
    rw [fst1_some hno hb him, show (1 : Int32) = nI 1 from rfl, nI_add]
  · have hb : brR n A kd bb wp i = false := by
      by_cases e : brR n A kd bb wp i = true
      · rw [if_pos e] at hy; exact absurd hy z1
      · exact Bool.eq_false_iff.2 e
    refine gp_let ?_
    rw [nI_1]
    exact hK (nI (i + 1)) σ3 ⟨i + 1, rfl, by omega, q, h353, fun p hp => by
      by_cases e : p = i
      · rw [e]; exact hb
      · exact hno p (by omega)⟩ (by rw [nI_clamp (by omega), nI_clamp (by omega)]; omega)
end TM
