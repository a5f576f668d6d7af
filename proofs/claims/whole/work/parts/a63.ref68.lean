/-! ===== the reference: a leaf's last sum ===== -/
section TS
variable {f M n m k lf t : Nat} {σ σ1 : tz_S} {A : Nat → Nat → Int} {kd : Nat → Nat} {bb dr : Nat → Int} {wh : Nat → Bool} {mp g : Nat → Int × Int} {ga ub lb : Nat → Option Int}
theorem sgI_mono {P E U V : Int} {c d : Nat} (h : sgI P c E U V) (hd : c ≤ d) : sgI P d E U V := ⟨h.1, Nat.le_trans h.2 (Nat.mul_le_mul_right _ hd)⟩
theorem bz_w {i : Nat} (hr : rwI n m A kd bb dr) (hb : ∀ x v, x < n → (ub x = some v ∨ lb x = some v) → -1000000000000000001 ≤ v ∧ v ≤ 1000000000000000001) : -1000000000000000001 ≤ bzW n m bb ub lb i ∧ bzW n m bb ub lb i ≤ 1000000000000000001 := by
  unfold bzW
  by_cases z : i < m
  · rw [if_pos z]
    have := hr.2.2.1 i z
    omega
  · rw [if_neg z]
    by_cases y : 12 ≤ i ∧ i < 12 + n
    · rw [if_pos y]
      cases hu : ub (i - 12) with
      | none => show -1000000000000000001 ≤ (0 : Int) ∧ (0 : Int) ≤ 1000000000000000001; omega
      | some v => exact hb (i - 12) v (by omega) (Or.inl hu)
    · rw [if_neg y]
      by_cases y2 : 22 ≤ i ∧ i < 22 + n
      · rw [if_pos y2]
        cases hu : lb (i - 22) with
        | none => show -1000000000000000001 ≤ (0 : Int) ∧ (0 : Int) ≤ 1000000000000000001; omega
        | some v => exact hb (i - 22) v (by omega) (Or.inr hu)
      · rw [if_neg y2]; omega
theorem bz_12 {x : Nat} (hm : m ≤ 12) (hx : x < n) : bzW n m bb ub lb (12 + x) = (ub x).getD 0 := by
  unfold bzW
  rw [if_neg (by omega), if_pos (by omega), show 12 + x - 12 = x by omega]
theorem bz_22 {x : Nat} (hm : m ≤ 12) (hn : n ≤ 10) (hx : x < n) : bzW n m bb ub lb (22 + x) = (lb x).getD 0 := by
  unfold bzW
  rw [if_neg (by omega), if_neg (by omega), if_pos (by omega), show 22 + x - 22 = x by omega]
theorem ex_0 {w : Nat → Int} {i : Nat} (h : w i = 0) : exE 32 w g i = 0 := by
  unfold exE
  rw [h]
  simp
set_option maxRecDepth 20000 in
set_option maxHeartbeats 4000000 in
theorem r_gl330 {t1 : Nat} {U1 V1 : Int} (hS : glS n m A kd bb dr k lf mp g) (hC : glC σ M n m A kd bb wh dr k lf g ga t) (hga : ∀ x, x < 10 → ga (2 * x) = ub x ∧ ga (2 * x + 1) = lb x) (hb : ∀ x v, x < n → (ub x = some v ∨ lb x = some v) → -1000000000000000001 ≤ v ∧ v ≤ 1000000000000000001) (hq1 : Tq M t σ σ1) (hs : smV σ1 M t1 U1 V1) (ht1 : t1 ≤ t + 13000) (ht2 : t ≤ t1) (hI : sgI (prD g 32) m (su m (exE 32 (bzW n m bb ub lb) g)) U1 V1) (hf : 20000 ≤ f) :
    gp (X12_isGoodLeaf_L330 f (some M) (nI k) 0) σ1 (fun y σ' => Tq M t σ σ' ∧ y = if sgT 32 (bzW n m bb ub lb) mp 0 = -1 then 1 else 0) := by
  obtain ⟨gg, gW, gh⟩ := gl_g hS
  obtain ⟨hj, hw97⟩ := gl_w hS (fun i _ => bz_w (i := i) hS.1 hb)
  obtain ⟨hr, hk, hlf, -⟩ := hS
  have hn := hr.1.1
  have hm := hr.1.2
  obtain ⟨hc, h35, ht, hw, hL, hR⟩ := id hC
  obtain ⟨⟨w0, w1, -, -⟩, -⟩ := id hw
  have hsu : su 32 (exE 32 (bzW n m bb ub lb) g) = su m (exE 32 (bzW n m bb ub lb) g) + su n (fun x => exE 32 (bzW n m bb ub lb) g (12 + x) + exE 32 (bzW n m bb ub lb) g (22 + x)) := su_bz hn hm (fun i a b c d => ex_0 (by unfold bzW; rw [if_neg (by omega), if_neg c, if_neg d]))
  have hsg : ∀ U V : Int, smI (prD g 32) (su m (exE 32 (bzW n m bb ub lb) g) + su n (fun x => exE 32 (bzW n m bb ub lb) g (12 + x) + exE 32 (bzW n m bb ub lb) g (22 + x))) U V → isg U = sgT 32 (bzW n m bb ub lb) mp 0 := fun U V hI => by
    rw [← hsu] at hI
    have := tot_sg (b := 0) hj gh hI
    rw [Int.zero_mul, Int.sub_zero] at this
    exact this
  have hw12 : ∀ x, x < n → bzW n m bb ub lb (12 + x) = (ub x).getD 0 := fun x hx => bz_12 hm hx
  have hw22 : ∀ x, x < n → bzW n m bb ub lb (22 + x) = (lb x).getD 0 := fun x hx => bz_22 hm hn hx
  have hs3 := sgT_3 32 (bzW n m bb ub lb) mp 0
  clear hsu hj gh
  generalize sgT 32 (bzW n m bb ub lb) mp 0 = sg at *
  unfold X12_isGoodLeaf_L330
  refine gp_loop (I := fun (τ : Int32) (σ' : tz_S) => ∃ i t3 U V, τ = nI i ∧ i ≤ n ∧ t3 ≤ t + 13000 + 2010 * i ∧ t ≤ t3 ∧ Tq M t σ σ' ∧ smV σ' M t3 U V ∧ sgI (prD g 32) (m + 2 * i) (su m (exE 32 (bzW n m bb ub lb) g) + su i (fun x => exE 32 (bzW n m bb ub lb) g (12 + x) + exE 32 (bzW n m bb ub lb) g (22 + x))) U V) (fun τ _ => 100 - τ.toNatClampNeg) ?_ f _ _ ⟨0, t1, U1, V1, rfl, Nat.zero_le _, by omega, ht2, hq1, hs, by show sgI _ m (_ + 0) U1 V1; rw [Int.add_zero]; exact hI⟩ (by omega)
  clear hq1 hs hI
  rintro Kx l3 σ2 ⟨i, t3, U, V, rfl, hi, ht3, ht4, q2, hs2, hI2⟩ hKx
  show gp (X12_isGoodLeaf_L330_body f (some M) (nI k) (fun l3 => Kx l3) (nI i)) σ2 _
  have h2 := mSh_fr hc q2.1
  unfold X12_isGoodLeaf_L330_body
  refine gp_rI (mh_me h2) rfl ?_
  rw [q2.2.1 0 (by decide) (by decide) (by decide) (by decide), w0]
  refine gp_if (fun z => ?_) (fun z => ?_)
  · rw [nI_leI (by omega) (by omega)] at z
    have hin : i = n := by omega
    subst hin
    obtain ⟨a1, a2, k1, k2, f30, f31, l1, l2, n1, n2, h352⟩ := hs2
    refine gp_rI (mh_me h2) rfl ?_
    rw [f30]
    refine gp_cV (mh_me h2) (gp_mono (r_sgn h2 n1 (by omega)) ?_)
    rintro _ σ0 ⟨z0, rfl⟩
    rw [z0, hsg _ _ hI2.1]
    clear z0 σ0
    unfold X12_isGoodLeaf_b420
    rcases hs3 with rfl | rfl | rfl
    · exact gp_t (by decide) (gp_zz (Or.inl rfl) (gp_ret ⟨q2, by decide⟩))
    · exact gp_f (by decide) (gp_zz (Or.inr rfl) (gp_ret ⟨q2, by decide⟩))
    · exact gp_t (by decide) (gp_zz (Or.inl rfl) (gp_ret ⟨q2, by decide⟩))
  rw [nI_leI (by omega) (by omega)] at z
  have hin : i < n := by omega
  obtain ⟨g1, g2⟩ := hga i (by omega)
  have hx12 := hw12 i hin
  have hx22 := hw22 i hin
  have x12 : (2 : Int32) * nI i = nI (2 * i) := by rw [show (2 : Int32) = nI 2 from rfl, nI_mul]
  have nxt : ∀ σ4 t4 U4 V4, Tq M t σ σ4 → smV σ4 M t4 U4 V4 → t ≤ t4 → t4 ≤ t + 13000 + 2010 * (i + 1) → sgI (prD g 32) (m + 2 * (i + 1)) (su m (exE 32 (bzW n m bb ub lb) g) + su i (fun x => exE 32 (bzW n m bb ub lb) g (12 + x) + exE 32 (bzW n m bb ub lb) g (22 + x)) + exE 32 (bzW n m bb ub lb) g (12 + i) + exE 32 (bzW n m bb ub lb) g (22 + i)) U4 V4 → gp (X12_isGoodLeaf_b398 f (fun l3 => Kx l3) (some M) (nI k) (nI i)) σ4 (fun y σ' => Tq M t σ σ' ∧ y = if sg = -1 then 1 else 0) := by
    intro σ4 t4 U4 V4 q4 s4 e1 e2 e3
    unfold X12_isGoodLeaf_b398
    refine gp_let ?_
    rw [nI_1]
    refine hKx (nI (i + 1)) σ4 ⟨i + 1, t4, U4, V4, rfl, by omega, by omega, by omega, q4, s4, ?_⟩ (by rw [nI_clamp (by omega), nI_clamp (by omega)]; omega)
    have e4 : su m (exE 32 (bzW n m bb ub lb) g) + su (i + 1) (fun x => exE 32 (bzW n m bb ub lb) g (12 + x) + exE 32 (bzW n m bb ub lb) g (22 + x)) = su m (exE 32 (bzW n m bb ub lb) g) + su i (fun x => exE 32 (bzW n m bb ub lb) g (12 + x) + exE 32 (bzW n m bb ub lb) g (22 + x)) + exE 32 (bzW n m bb ub lb) g (12 + i) + exE 32 (bzW n m bb ub lb) g (22 + i) := by
      show _ + (su i _ + (_ + _)) = _
      omega
    rw [e4]
    exact e3
  generalize su m (exE 32 (bzW n m bb ub lb) g) + su i (fun x => exE 32 (bzW n m bb ub lb) g (12 + x) + exE 32 (bzW n m bb ub lb) g (22 + x)) = E0 at *
  clear hKx hsg
  have snd : ∀ σ3 t5 U3 V3, Tq M t σ σ3 → smV σ3 M t5 U3 V3 → t ≤ t5 → t5 ≤ t + 13000 + 2010 * i + 1000 → sgI (prD g 32) (m + 2 * i + 1) (E0 + exE 32 (bzW n m bb ub lb) g (12 + i)) U3 V3 → gp (X12_isGoodLeaf_b366 f (fun l3 => Kx l3) (some M) (nI k) (nI i)) σ3 (fun y σ' => Tq M t σ σ' ∧ y = if sg = -1 then 1 else 0) := by
    intro σ3 t5 U3 V3 q3 s3 e1 e2 e3
    have h3 := mSh_fr hc q3.1
    have hR3 := raV_tq hR q3 (Nat.le_refl _)
    obtain ⟨r1, r2⟩ := hR3 (2 * i + 1) (by omega)
    unfold X12_isGoodLeaf_b366
    refine gp_rR (mh_me h3) rfl ?_
    refine gp_aI (j := 2 * i + 1) (mh_18 h3) (by decide) (by omega) (by omega) (by rw [x12, nI_1]) ?_
    rw [r1, g2]
    cases hu : lb i with
    | none =>
      refine gp_t (if_pos rfl) (nxt σ3 t5 U3 V3 q3 s3 e1 (by omega) ?_)
      rw [ex_0 (show bzW n m bb ub lb (22 + i) = 0 by rw [hx22, hu]; rfl), Int.add_zero]
      exact sgI_mono e3 (by omega)
    | some v =>
      refine gp_f (by simp) ?_
      obtain ⟨p, kk, p1, p2, p3, p4⟩ := r2 v (by rw [g2]; exact hu)
      refine gp_rR (mh_me h3) rfl ?_
      refine gp_aI (j := 2 * i + 1) (mh_19 h3) (by decide) (by omega) (by omega) (by rw [x12, nI_1]) ?_
      rw [p1]
      have p4' : nV (tz_A σ3 (M + 20)) p kk (bzW n m bb ub lb (22 + i)) := by rw [hx22, hu]; exact p4
      refine gp_cV (mh_me h3) (gp_mono (r_add (w := bzW n m bb ub lb) h3 (lfC_tq hL q3 ht.1) hk hlf gg gW (show 22 + i < 32 by omega) (hw97 _ (by omega)) s3 e3 (by omega) p4' (by omega) p3 (by omega) (by omega) (by rw [show (22 : Int32) = nI 22 from rfl, nI_add]) hf) ?_)
      rintro _ σ4 ⟨q4, t4, U4, V4, ht5, ht6, hs4, hI4⟩
      exact nxt σ4 t4 U4 V4 (Tq_trans q3 (Tq_mono q4 (by omega))) hs4 (by omega) (by omega) (sgI_mono hI4 (by omega))
  have hR2 := raV_tq hR q2 (Nat.le_refl _)
  obtain ⟨r1, r2⟩ := hR2 (2 * i) (by omega)
  refine gp_rR (mh_me h2) rfl ?_
  refine gp_aI (j := 2 * i) (mh_18 h2) (by decide) (by omega) (by omega) x12 ?_
  rw [r1, g1]
  cases hu : ub i with
  | none =>
    refine gp_t (if_pos rfl) (snd σ2 t3 U V q2 hs2 ht4 (by omega) ?_)
    rw [ex_0 (show bzW n m bb ub lb (12 + i) = 0 by rw [hx12, hu]; rfl), Int.add_zero]
    exact sgI_mono hI2 (by omega)
  | some v =>
    refine gp_f (by simp) ?_
    obtain ⟨p, kk, p1, p2, p3, p4⟩ := r2 v (by rw [g1]; exact hu)
    refine gp_rR (mh_me h2) rfl ?_
    refine gp_aI (j := 2 * i) (mh_19 h2) (by decide) (by omega) (by omega) x12 ?_
    rw [p1]
    have p4' : nV (tz_A σ2 (M + 20)) p kk (bzW n m bb ub lb (12 + i)) := by rw [hx12, hu]; exact p4
    refine gp_cV (mh_me h2) (gp_mono (r_add (w := bzW n m bb ub lb) h2 (lfC_tq hL q2 ht.1) hk hlf gg gW (show 12 + i < 32 by omega) (hw97 _ (by omega)) hs2 hI2 (by omega) p4' (by omega) p3 (by omega) (by omega) (by rw [show (12 : Int32) = nI 12 from rfl, nI_add]) hf) ?_)
    rintro _ σ4 ⟨q4, t4, U4, V4, ht5, ht6, hs4, hI4⟩
    exact snd σ4 t4 U4 V4 (Tq_trans q2 (Tq_mono q4 (by omega))) hs4 (by omega) (by omega) hI4
set_option maxRecDepth 20000 in
set_option maxHeartbeats 2000000 in
theorem r_gl285 (hS : glS n m A kd bb dr k lf mp g) (hC : glC σ M n m A kd bb wh dr k lf g ga t) (hga : ∀ x, x < 10 → ga (2 * x) = ub x ∧ ga (2 * x + 1) = lb x) (hb : ∀ x v, x < n → (ub x = some v ∨ lb x = some v) → -1000000000000000001 ≤ v ∧ v ≤ 1000000000000000001) (hf : 20000 ≤ f) :
    gp (X12_isGoodLeaf_b285 f (some M) (nI k) 1) σ (fun y σ' => Tq M t σ σ' ∧ y = if sgT 32 (bzW n m bb ub lb) mp 0 = -1 then 1 else 0) := by
  obtain ⟨gg, gW, gh⟩ := gl_g hS
  obtain ⟨hj, hw97⟩ := gl_w hS (fun i _ => bz_w (i := i) hS.1 hb)
  obtain ⟨hr, hk, hlf, -⟩ := id hS
  have hn := hr.1.1
  have hm := hr.1.2
  obtain ⟨hc, h35, ht, hw, hL, hR⟩ := id hC
  obtain ⟨⟨w0, w1, -, -⟩, -, -, wB, -⟩ := id hw
  unfold X12_isGoodLeaf_b285
  refine gp_f (by decide) ?_
  refine gp_cV (mh_me hc) (gp_mono (r_beginSum hc h35 (by omega) (by omega)) ?_)
  rintro _ σ1 ⟨q1, t1, ht1, ht1b, hs1⟩
  unfold X12_isGoodLeaf_L297
  refine gp_loop (I := fun (τ : Int32) (σ' : tz_S) => ∃ i t3 U V, τ = nI i ∧ i ≤ m ∧ t3 ≤ t + 8 + 1010 * i ∧ t ≤ t3 ∧ Tq M t σ σ' ∧ smV σ' M t3 U V ∧ sgI (prD g 32) i (su i (exE 32 (bzW n m bb ub lb) g)) U V) (fun τ _ => 100 - τ.toNatClampNeg) ?_ f _ _ ⟨0, t1, 0, 1, rfl, Nat.zero_le _, by omega, by omega, q1, hs1, sgI_0⟩ (by omega)
  clear q1 hs1
  rintro Kx l3 σ2 ⟨i, t3, U, V, rfl, hi, ht3, ht4, q2, hs2, hI2⟩ hKx
  show gp (X12_isGoodLeaf_L297_body f (some M) (nI k) (fun l3 => Kx l3) (nI i)) σ2 _
  have h2 := mSh_fr hc q2.1
  unfold X12_isGoodLeaf_L297_body
  refine gp_rI (mh_me h2) rfl ?_
  rw [q2.2.1 1 (by decide) (by decide) (by decide) (by decide), w1]
  refine gp_if (fun z => ?_) (fun z => ?_)
  · rw [nI_leI (by omega) (by omega)] at z
    have him : i = m := by omega
    subst him
    exact r_gl330 hS hC hga hb q2 hs2 (by omega) ht4 hI2 hf
  rw [nI_leI (by omega) (by omega)] at z
  have him : i < m := by omega
  have hwi : bzW n m bb ub lb i = bb i := by unfold bzW; rw [if_pos him]
  have hbr := hr.2.2.1 i him
  refine gp_rR (mh_me h2) rfl ?_
  refine gp_aI (j := i) (mh_3 h2) (by decide) (by omega) (by omega) rfl ?_
  rw [Fr_A q2.1 (show ¬ (M + 3 = M ∨ M + 3 = M + 20) by omega)]
  refine gp_cV (mh_me h2) (gp_mono (r_plainOf h2 (smV_top hs2) (by rw [Int32.toInt_toInt64, wB i him]; omega) (by omega) (by omega)) ?_)
  rintro _ σ3 ⟨rfl, hP3, k3, hk3, h353, hv3⟩
  rw [Int32.toInt_toInt64, wB i him, ← hwi] at hv3
  have h3 := mSh_fr h2 hP3.1
  have q3 : Tq M t σ σ3 := Tq_trans q2 (Tq_pq hP3 (by omega))
  have hs3 := smV_pq hs2 hP3 (Nat.le_refl _) h353 (by omega)
  refine gp_cV (mh_me h3) (gp_mono (r_add (w := bzW n m bb ub lb) h3 (lfC_tq hL q3 ht.1) hk hlf gg gW (show i < 32 by omega) (hw97 _ (by omega)) hs3 hI2 (by omega) hv3 (by omega) (by omega) (by omega) (by omega) rfl hf) ?_)
  rintro _ σ4 ⟨q4, t4, U4, V4, ht5, ht6, hs4, hI4⟩
  refine gp_let ?_
  rw [nI_1]
  exact hKx (nI (i + 1)) σ4 ⟨i + 1, t4, U4, V4, rfl, by omega, by omega, by omega, Tq_trans q3 (Tq_mono q4 (by omega)), hs4, hI4⟩ (by rw [nI_clamp (by omega), nI_clamp (by omega)]; omega)
end TS
