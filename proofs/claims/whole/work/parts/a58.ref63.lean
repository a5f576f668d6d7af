/-! ===== the reference: judgeWitness ===== -/
theorem su_cut {e : Nat → Int} {n : Nat} : ∀ {c : Nat}, n ≤ c → (∀ i, n ≤ i → i < c → e i = 0) → su c e = su n e
  | 0, h, _ => by rw [show n = 0 by omega]
  | c + 1, h, h2 => by
    by_cases z : n = c + 1
    · rw [z]
    · show su c e + e c = su n e
      rw [h2 c (by omega) (by omega), Int.add_zero]
      exact su_cut (by omega) (fun i a b => h2 i a (by omega))
section TL
variable {f M n m r : Nat} {σ σ1 : tz_S} {A : Nat → Nat → Int} {kd : Nat → Nat} {bb dr : Nat → Int} {wh : Nat → Bool} {wp wq : Nat → Int × Int} {hd : Int × Int} {ah : Bool} {Z : zS}
theorem wv_q {x y : Int × Int} (h : wvI x y) : 0 < y.2 ∧ y.2.natAbs ≤ 10 ^ 70 ∧ x.1 * y.2 = y.1 * x.2 := by
  obtain ⟨h1, h2, h3, h4, h5, h6, h7⟩ := h
  exact ⟨h4, Nat.le_trans (by omega) h2, h5⟩
set_option maxRecDepth 20000 in
set_option maxHeartbeats 4000000 in
theorem r_holds (h : rfV σ M ((n, m, A, kd, bb, wh, dr), Z, wp, wq, hd, ah)) (ho : okF ((n, m, A, kd, bb, wh, dr), Z, wp, wq, hd, ah)) (hrm : r < m) (hf : 20000 ≤ f) : gp (X12_holds f (some M) (nI r)) σ (fun y σ' => Tq M 447200 σ σ' ∧ tz_F σ' M 35 = nI 447200 ∧ y = if brR n A kd bb wp r = true then 0 else 1) := by
  obtain ⟨hsl, hW, hH⟩ := rfV_un h
  obtain ⟨hr, hz, hwv⟩ := okF_un ho
  obtain ⟨hc, h35, hw, -⟩ := rgV_sh hsl
  obtain ⟨⟨w0, w1, hn, hm⟩, wA, wK, wB, -⟩ := hw
  have hj : jdP 10 (rwW n A r) wp := jd_row hr (fun x hx => ⟨(hwv x hx).1, (hwv x hx).2.1, (hwv x hx).2.2.1⟩) hrm
  have hg : ∀ i, i < 10 → 0 < (wq i).2 ∧ (wq i).2.natAbs ≤ 10 ^ 70 ∧ (wp i).1 * (wq i).2 = (wq i).1 * (wp i).2 := fun i hi => wv_q (hwv i hi)
  have hw97 : ∀ i, i < 10 → (rwW n A r i * (wq i).1).natAbs ≤ 10 ^ 97 := fun i hi => by
    have h1 := (hj.2.1 i hi).2.2.2.1
    rw [Int.natAbs_mul] at h1 ⊢
    exact Nat.le_trans (Nat.mul_le_mul_left _ (hwv i hi).2.2.2.2.2.1) h1
  obtain ⟨hP0, hPM⟩ := prD_ok (g := wq) (j := 10) (fun i hi => ⟨(hg i hi).1, (hg i hi).2.1⟩)
  have hPW : wS 10 wq ≤ 959 := by have := wS_70 (f := wq) 10; omega
  have hEs : ∀ c, c ≤ 10 → (su c (exE 10 (rwW n A r) wq)).natAbs ≤ (prD wq 10).natAbs * (32 * 10 ^ 97) := fun c hc => exE_su hc (by decide) (fun i hi => (hg i hi).1) hP0 hw97
  have hen : su 10 (exE 10 (rwW n A r) wq) = su n (exE 10 (rwW n A r) wq) := su_cut hn (fun i a b => by
    unfold exE
    rw [show rwW n A r i = 0 from if_neg (by omega)]
    simp)
  have hee : ∀ i, i < 10 → exE 10 (rwW n A r) wq i * (wq i).2 = rwW n A r i * (wq i).1 * prD wq 10 := fun i hi => exE_e hi
  have hsg : ∀ U V : Int, smI (prD wq 10) (su n (exE 10 (rwW n A r) wq)) U V → isg (U - bb r * V) = sgT 10 (rwW n A r) wp (bb r) := fun U V hI => by
    rw [← hen] at hI
    exact tot_sg hj hg hI
  have hbr : brR n A kd bb wp r = ((decide (sgT 10 (rwW n A r) wp (bb r) = 1) && decide (kd r ≠ 1)) || (decide (sgT 10 (rwW n A r) wp (bb r) = -1) && decide (kd r ≠ 0))) := rfl
  have hs3 := sgT_3 10 (rwW n A r) wp (bb r)
  rw [hbr]
  clear hbr
  generalize sgT 10 (rwW n A r) wp (bb r) = sg at *
  generalize exE 10 (rwW n A r) wq = e at *
  generalize prD wq 10 = P at *
  unfold X12_holds
  refine gp_rI (mh_me hc) rfl ?_
  rw [h35]
  refine gp_cV (mh_me hc) (gp_mono (r_beginSum hc h35 (by omega) (by omega)) ?_)
  rintro _ σ1 ⟨q1, t1, ht1, ht1b, hs1⟩
  unfold X12_holds_L11
  refine gp_loop (I := fun (τ : Int32) (σ' : tz_S) => ∃ i t U V, τ = nI i ∧ i ≤ n ∧ t ≤ 447208 + 1010 * i ∧ 447200 ≤ t ∧ Tq M 447200 σ σ' ∧ smV σ' M t U V ∧ smI P (su i e) U V) (fun τ _ => 100 - τ.toNatClampNeg) ?_ f _ _ ⟨0, t1, 0, 1, rfl, Nat.zero_le _, by omega, by omega, q1, hs1, smI_0⟩ (by omega)
  clear q1 hs1 σ1
  rintro Kx l3 σ2 ⟨i, t, U, V, rfl, hi, ht, ht2, q2, hs2, hI2⟩ hK
  show gp (X12_holds_L11_body f (some M) (nI r) (nI 447200) (fun l3 => Kx l3) (nI i)) σ2 _
  have h2 := mSh_fr hc q2.1
  have eA : ∀ x, x ≠ M → x ≠ M + 20 → tz_A σ2 x = tz_A σ x := fun x a b => Fr_A q2.1 (by rintro (e | e); exact a e; exact b e)
  unfold X12_holds_L11_body
  refine gp_rI (mh_me h2) rfl ?_
  rw [q2.2.1 0 (by decide) (by decide) (by decide) (by decide), w0]
  refine gp_if (fun z => ?_) (fun z => ?_)
  · rw [nI_leI (by omega) (by omega)] at z
    have hin : i = n := by omega
    subst hin
    obtain ⟨s1, s2⟩ := smI_sz hI2 hP0 hPW hPM (hEs i hn)
    obtain ⟨a1, a2, k1, k2, f30, f31, l1, l2, n1, n2, h352⟩ := id hs2
    have hk1 := nV_le n1 s1
    have hk2 := nV_le n2 s2
    refine gp_rI (mh_me h2) rfl ?_
    rw [f30]
    refine gp_rR (mh_me h2) rfl ?_
    refine gp_aI (j := r) (mh_3 h2) (by decide) (by omega) (by omega) rfl ?_
    rw [eA _ (by omega) (by omega)]
    refine gp_cV (mh_me h2) (gp_mono (r_plainOf h2 h352 (by rw [Int32.toInt_toInt64, wB r hrm]; have := hr.2.2.1 r hrm; omega) (by omega) (by omega)) ?_)
    rintro _ σ3 ⟨rfl, hP3, k3, hk3, h353, hv3⟩
    rw [Int32.toInt_toInt64, wB r hrm] at hv3
    have h3 := mSh_fr h2 hP3.1
    refine gp_rI (mh_me h3) rfl ?_
    rw [hP3.2.1 31 (by decide) (by decide), f31]
    refine gp_cV (mh_me h3) (gp_mono (r_by h3 h353 hv3 (nV_pq n2 hP3 (Or.inl (by omega))) (by omega) (by omega) (by omega) (by omega) (by omega) (by omega)) ?_)
    rintro _ σ4 ⟨rfl, hP4, k4, hk4, h354, hv4⟩
    have h4 := mSh_fr h3 hP4.1
    refine gp_cV (mh_me h4) (gp_mono (r_compare h4 (nV_pq (nV_pq n1 hP3 (Or.inl (by omega))) hP4 (Or.inl (by omega))) hv4 (by omega) (by omega) (by omega)) ?_)
    rintro _ σ0 ⟨z0, rfl⟩
    rw [z0, hsg U V hI2]
    clear z0 σ0
    refine gp_wI (mh_me h4) rfl ?_
    have q5 : Tq M 447200 σ (tz_sF σ4 M 35 (nI 447200)) := Tq_trans (Tq_trans q2 (Tq_trans (Tq_pq hP3 (by omega)) (Tq_pq hP4 (by omega)))) (Tq_F (Or.inr (Or.inr rfl)))
    have h355 : tz_F (tz_sF σ4 M 35 (nI 447200)) M 35 = nI 447200 := by rw [sF_at, if_pos ⟨rfl, rfl⟩]
    generalize tz_sF σ4 M 35 (nI 447200) = σ5 at *
    have h5 := mSh_fr hc q5.1
    have eK : tz_A σ5 (M + 2) r = nI (kd r) := by rw [Fr_A q5.1 (show ¬ (M + 2 = M ∨ M + 2 = M + 20) by omega)]; exact (wK r hrm).1
    have fin : ∀ y : Int32, (y = 0 ∨ y = 1) → y = (if ((decide (sg = 1) && decide (kd r ≠ 1)) || (decide (sg = -1) && decide (kd r ≠ 0))) = true then 0 else 1) → gp (X12_holds_b140 f y) σ5 (fun y σ' => Tq M 447200 σ σ' ∧ tz_F σ' M 35 = nI 447200 ∧ y = (if ((decide (sg = 1) && decide (kd r ≠ 1)) || (decide (sg = -1) && decide (kd r ≠ 0))) = true then 0 else 1)) := fun y hy hy2 => by
      unfold X12_holds_b140
      exact gp_zz hy (gp_ret ⟨q5, h355, hy2⟩)
    have hkd : kd r = 0 ∨ kd r = 1 ∨ kd r = 2 := by have := (wK r hrm).2; omega
    refine gp_rR (mh_me h5) rfl ?_
    refine gp_aI (j := r) (mh_2 h5) (by decide) (by omega) (by omega) rfl ?_
    rw [eK]
    have rd2 : ∀ Kc : Int32 → pz_C Int32, gp (Kc (nI (kd r))) σ5 (fun y σ' => Tq M 447200 σ σ' ∧ tz_F σ' M 35 = nI 447200 ∧ y = (if ((decide (sg = 1) && decide (kd r ≠ 1)) || (decide (sg = -1) && decide (kd r ≠ 0))) = true then 0 else 1)) → gp (pz_gB (pz_rR 12 3 (some M)) fun x13 => pz_gB (pz_aI 0 x13 (nI r)) Kc) σ5 (fun y σ' => Tq M 447200 σ σ' ∧ tz_F σ' M 35 = nI 447200 ∧ y = (if ((decide (sg = 1) && decide (kd r ≠ 1)) || (decide (sg = -1) && decide (kd r ≠ 0))) = true then 0 else 1)) := fun Kc hKc => by
      refine gp_rR (mh_me h5) rfl ?_
      refine gp_aI (j := r) (mh_2 h5) (by decide) (by omega) (by omega) rfl ?_
      rw [eK]; exact hKc
    generalize kd r = c at *
    rcases hkd with rfl | rfl | rfl
    · refine gp_t rfl ?_
      rcases hs3 with rfl | rfl | rfl
      · exact gp_t (by decide) (fin 0 (Or.inl rfl) (by decide))
      · exact gp_f (by decide) (fin 1 (Or.inr rfl) (by decide))
      · exact gp_f (by decide) (fin 1 (Or.inr rfl) (by decide))
    · refine gp_f (by decide) (rd2 _ (gp_t rfl ?_))
      rcases hs3 with rfl | rfl | rfl
      · exact gp_f (by decide) (fin 1 (Or.inr rfl) (by decide))
      · exact gp_t (by decide) (fin 0 (Or.inl rfl) (by decide))
      · exact gp_f (by decide) (fin 1 (Or.inr rfl) (by decide))
    · refine gp_f (by decide) (rd2 _ (gp_f (by decide) ?_))
      rcases hs3 with rfl | rfl | rfl
      · exact gp_f (by decide) (fin 0 (Or.inl rfl) (by decide))
      · exact gp_f (by decide) (fin 0 (Or.inl rfl) (by decide))
      · exact gp_t rfl (fin 1 (Or.inr rfl) (by decide))
  rw [nI_leI (by omega) (by omega)] at z
  have hin : i < n := by omega
  refine gp_rR (mh_me h2) rfl ?_
  refine gp_aI (j := 10 * r + i) (mh_1 h2) (by decide) (by omega) (by omega) (by rw [show (10 : Int32) = nI 10 from rfl, nI_mul, nI_add]) ?_
  rw [eA _ (by omega) (by omega)]
  have hAr := hr.2.1 r i hrm (by omega)
  refine gp_cV (mh_me h2) (gp_mono (r_plainOf h2 (smV_top hs2) (by rw [Int32.toInt_toInt64, wA r i hrm (by omega)]; omega) (by omega) (by omega)) ?_)
  rintro _ σ3 ⟨rfl, hP3, k3, hk3, h353, hv3⟩
  rw [Int32.toInt_toInt64, wA r i hrm (by omega)] at hv3
  have h3 := mSh_fr h2 hP3.1
  have hs3' := smV_pq hs2 hP3 (Nat.le_refl _) h353 (by omega)
  have q3 : Tq M 447200 σ σ3 := Tq_trans q2 (Tq_pq hP3 (by omega))
  unfold X12_witnessAt
  refine gp_cB (gp_ret ?_)
  rw [show (109456 : Int32) + 300 * (2 * nI i + 0) = nI (109456 + 300 * (2 * i)) from at_w i 0]
  refine gp_cB (gp_ret ?_)
  rw [show (109456 : Int32) + 300 * (2 * nI i + 1) = nI (109456 + 300 * (2 * i + 1)) from at_w i 1]
  obtain ⟨⟨c1, g1, g2, g3⟩, ⟨c2, u1, u2, u3⟩⟩ := hW i (by omega)
  have hAi : rwW n A r i = A r i := if_pos hin
  have he1 := hee i (by omega)
  have he2 := hw97 i (by omega)
  rw [hAi] at he1 he2
  refine gp_cV (mh_me h3) (gp_mono (r_addS h3 hs3' hI2 hP0 hPW hPM (hEs i (by omega)) he1 (hg i (by omega)).1 hv3 (nV_tq g1 q3 g2) (nV_tq u1 q3 u2) (by omega) (by omega) (by omega) (by omega) (by omega) (hg i (by omega)).2.1 he2 (by omega) hf) ?_)
  rintro _ σ4 ⟨q4, t4, U4, V4, ht4, ht4b, hs4, hI4⟩
  refine gp_let ?_
  rw [nI_1]
  refine hK (nI (i + 1)) σ4 ⟨i + 1, t4, U4, V4, rfl, by omega, by omega, by omega, Tq_trans q3 (Tq_mono q4 (by omega)), hs4, hI4⟩ (by rw [nI_clamp (by omega), nI_clamp (by omega)]; omega)
end TL
