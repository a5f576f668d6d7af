/-! ===== the reference: begin ===== -/
section SM
variable {f M n m : Nat} {σ : tz_S} {A : Nat → Nat → Int} {kd : Nat → Nat} {bb dr : Nat → Int} {wh : Nat → Bool} {up fi se : Nat → Option Nat} {vr : Nat → Nat} {to : Nat → Int} {cd : Nat → Bool} {ln : Nat → Nat} {mq : Nat → Nat → Int × Int} {Q : Unit → tz_S → Prop}
theorem r_bgR (h : mSh σ M) (ht : tz_F σ M 35 = nI 447200) (hrr : rrV σ M n m A kd bb wh dr) (hf : 2000 ≤ f)
    (hK : ∀ σ2, Rq M (fun _ => False) (fun x => x = M + 7) (fun i => 16 ≤ i ∧ i < 1936) σ σ2 → (∀ r, r < m → tz_A σ2 (M + 7) r = nI (n + r)) → (∀ r c, r < m → c < n → nP σ2 M (16 + 16 * (10 * r + c)) (A r c)) → gp (pz_cV 12 (some M) (X12_newNode f (some M) (-2)) fun x4 => pz_uB (pz_wF 12 24 (some M) (.int x4)) <| pz_ret ()) σ2 Q) :
    gp (X12_begin_L65 f (some M) 0) σ Q := by
  obtain ⟨⟨a1, a2, a3, a4⟩, -⟩ := id hrr
  unfold X12_begin_L65
  refine gp_loop (I := fun (τ : Int32) (σ' : tz_S) => ∃ r, τ = nI r ∧ r ≤ m ∧ Rq M (fun _ => False) (fun x => x = M + 7) (fun i => 16 ≤ i ∧ i < 1936) σ σ' ∧ (∀ j, j < r → tz_A σ' (M + 7) j = nI (n + j)) ∧ ∀ j c, j < r → c < n → nP σ' M (16 + 16 * (10 * j + c)) (A j c)) (fun τ _ => 100 - τ.toNatClampNeg) ?_ f _ _ ⟨0, rfl, Nat.zero_le _, Rq_refl, fun j hj => absurd hj (Nat.not_lt_zero _), fun j _ hj => absurd hj (Nat.not_lt_zero _)⟩ (by omega)
  rintro K l1 σ1 ⟨r, rfl, hr, hS, hl, hp⟩ hK1
  show gp (X12_begin_L65_body f (some M) (fun l1 => K l1) (nI r)) σ1 _
  unfold X12_begin_L65_body
  have h1 := mSh_fr h hS.1
  refine gp_rI (mh_me h1) rfl ?_
  rw [hS.2.1 1 (fun e => e) (by decide), a2]
  refine gp_if (fun z => ?_) (fun z => ?_)
  · rw [nI_leI (by omega) (by omega)] at z
    exact hK σ1 hS (fun j hj => hl j (by omega)) (fun j c hj hc => hp j c (by omega) hc)
  rw [nI_leI (by omega) (by omega)] at z
  refine gp_rR (mh_me h1) rfl ?_
  refine gp_rI (mh_me h1) rfl ?_
  rw [hS.2.1 0 (fun e => e) (by decide), a1, nI_add]
  refine gp_sI (j := r) (mh_7 h1) (by decide) (by omega) (by omega) rfl ?_
  have h2 : mSh (tz_sA σ1 (M + 7) r (nI (n + r))) M := h1
  have q2 : Rq M (fun _ => False) (fun x => x = M + 7) (fun _ => False) σ1 (tz_sA σ1 (M + 7) r (nI (n + r))) := Rq_A rfl (by omega)
  have qq : Rq M (fun _ => False) (fun x => x = M + 7) (fun i => 16 ≤ i ∧ i < 1936) σ (tz_sA σ1 (M + 7) r (nI (n + r))) := Rq_trans hS (Rq_mono q2 (fun _ e => e) (fun _ e => e) (fun _ e => e.elim))
  refine r_bgI (n := n) (m := m) (A := A) (kd := kd) (bb := bb) (wh := wh) (dr := dr) h2 (by rw [qq.2.1 35 (fun e => e) (by decide)]; exact ht) (rrV_rq hrr qq (fun e => e) (fun e => e) (fun x _ _ e => by omega)) (by omega) hf (fun σ3 g1 g2 => ?_)
  refine hK1 _ _ ⟨r + 1, rfl, by omega, Rq_trans qq (Rq_mono g1 (fun _ e => e) (fun _ e => e.elim) (fun x e => by omega)), fun j hj => ?_, fun j c hj hc => ?_⟩ (by rw [nI_clamp (by omega), nI_clamp (by omega)]; omega)
  · rw [Rq_get g1 (by omega) (by omega) (fun e => e), sA_at]
    by_cases e : j = r
    · rw [if_pos ⟨rfl, e⟩, e]
    · rw [if_neg (fun w => e w.2)]; exact hl j (by omega)
  · by_cases e : j = r
    · rw [e]; exact g2 c hc
    · exact nP_rq (nP_rq (hp j c (by omega) hc) q2 (fun _ _ _ e => e)) g1 (fun x a b => by omega)
set_option maxHeartbeats 2000000 in
theorem r_begin (h : mSh σ M) (ht : tz_F σ M 35 = nI 447200) (hrr : rrV σ M n m A kd bb wh dr) (h15 : tz_F σ M 15 = nI 0) (h23 : tz_F σ M 23 = nI 0) (hf : 2000 ≤ f) :
    gp (X12_begin f (some M)) σ (fun _ σ' => Rq M (fun k => k = 7 ∨ k = 15 ∨ k = 23 ∨ k = 24) (gqA M) gqP σ σ' ∧ tz_F σ' M 7 = nI 1 ∧ tz_F σ' M 24 = nI 0 ∧ rtV σ' M n m 1 A (fun _ => 0) (fun r => n + r) (fun c => c) ∧ rkV σ' M 1 1 (ups up 0 none) (ups fi 0 none) (ups se 0 none) vr to (ups cd 0 false) (ups ln 0 0) ∧ rmV σ' M 1 (ups mq 0 (fun _ => (0, 1))) ∧ rbV σ' M n (fun _ => none) (fun _ => none)) := by
  obtain ⟨⟨a1, a2, a3, a4⟩, -⟩ := id hrr
  generalize hQ : (fun (_ : Unit) (σ' : tz_S) => Rq M (fun k => k = 7 ∨ k = 15 ∨ k = 23 ∨ k = 24) (gqA M) gqP σ σ' ∧ tz_F σ' M 7 = nI 1 ∧ tz_F σ' M 24 = nI 0 ∧ rtV σ' M n m 1 A (fun _ => 0) (fun r => n + r) (fun c => c) ∧ rkV σ' M 1 1 (ups up 0 none) (ups fi 0 none) (ups se 0 none) vr to (ups cd 0 false) (ups ln 0 0) ∧ rmV σ' M 1 (ups mq 0 (fun _ => (0, 1))) ∧ rbV σ' M n (fun _ => none) (fun _ => none)) = Q
  unfold X12_begin
  refine gp_wI (mh_me h) rfl ?_
  have ha : mSh (tz_sF σ M 7 1) M := h
  have qa : Rq M (fun k => k = 7) (fun _ => False) (fun _ => False) σ (tz_sF σ M 7 1) := Rq_F rfl
  have fa7 : tz_F (tz_sF σ M 7 1) M 7 = nI 1 := tz_u2_same _ _ _ _
  generalize tz_sF σ M 7 1 = σa at *
  have hrra := rrV_rq hrr qa (by decide) (by decide) (fun _ _ _ e => e)
  have hta : tz_F σa M 35 = nI 447200 := by rw [qa.2.1 35 (by decide) (by decide)]; exact ht
  unfold X12_begin_L7
  refine gp_loop (I := fun (τ : Int32) (σ' : tz_S) => ∃ c, τ = nI c ∧ c ≤ n ∧ Rq M (fun _ => False) (fun x => x = M + 6 ∨ x = M + 8) (fun i => 3856 ≤ i ∧ i < 10456) σa σ' ∧ ∀ j, j < c → tz_A σ' (M + 8) j = nI j ∧ nP σ' M (3856 + 300 * j) 0 ∧ tz_A σ' (M + 6) (2 * j) = 0 ∧ tz_A σ' (M + 6) (2 * j + 1) = 0) (fun τ _ => 100 - τ.toNatClampNeg) ?_ f _ _ ⟨0, rfl, Nat.zero_le _, Rq_refl, fun j hj => absurd hj (Nat.not_lt_zero _)⟩ (by omega)
  rintro K l1 σ1 ⟨c, rfl, hc, hS, hl⟩ hK1
  show gp (X12_begin_L7_body f (some M) (fun l1 => K l1) (nI c)) σ1 _
  unfold X12_begin_L7_body
  have h1 := mSh_fr ha hS.1
  have ht1 : tz_F σ1 M 35 = nI 447200 := by rw [hS.2.1 35 (fun e => e) (by decide)]; exact hta
  refine gp_rI (mh_me h1) rfl ?_
  rw [hS.2.1 0 (fun e => e) (by decide), hrra.1.1]
  refine gp_if (fun z => ?_) (fun z => ?_)
  · rw [nI_leI (by omega) (by omega)] at z
    refine gp_cV (mh_me h1) (gp_mono (r_setWhole (to := 0) (v := 1) h1 ht1 (by decide) (by omega) (by omega) hf) ?_)
    rintro _ σ2 ⟨w1, w2, w3, n2, w4, w5⟩
    have q2 : Rq M (fun _ => False) (fun _ => False) (fun x => x < 4) σ1 σ2 := Rq_wh (n := 0) (Nat.le_refl _) ⟨w1, w2, w3⟩ (fun x a b => by omega)
    have h2 := mSh_fr h1 w1
    have hrr2 := rrV_rq (rrV_rq hrra hS (fun e => e) (fun e => e) (fun x _ _ e => by omega)) q2 (fun e => e) (fun e => e) (fun _ _ _ e => e)
    refine r_bgR h2 (by rw [q2.2.1 35 (fun e => e) (by decide)]; exact ht1) hrr2 hf (fun σ3 g1 g2 g3 => ?_)
    have h3 := mSh_fr h2 g1.1
    have F3 : ∀ k, k ≠ 7 → k ≠ 36 → tz_F σ3 M k = tz_F σ M k := fun k a b => by
      rw [g1.2.1 k (fun e => e) b, q2.2.1 k (fun e => e) b, hS.2.1 k (fun e => e) b]; exact qa.2.1 k a b
    have F37 : tz_F σ3 M 7 = nI 1 := by
      rw [g1.2.1 7 (fun e => e) (by decide), q2.2.1 7 (fun e => e) (by decide), hS.2.1 7 (fun e => e) (by decide)]; exact fa7
    have hk3 : rkV σ3 M 0 0 up fi se vr to cd ln := ⟨⟨(F3 15 (by decide) (by decide)).trans h15, (F3 23 (by decide) (by decide)).trans h23⟩, fun j hj => absurd hj (Nat.not_lt_zero _)⟩
    have hm3 : rmV σ3 M 0 mq := fun i j hi => absurd hi (Nat.not_lt_zero _)
    have hT3 : rtV σ3 M n m 1 A (fun _ => 0) (fun r => n + r) (fun c => c) := by
      refine ⟨g2, fun j hj => ?_, ?_, g3, fun j hj => ?_⟩
      · rw [Rq_get g1 (by omega) (by omega) (by omega), Rq_get q2 (by omega) (by omega) (fun e => e)]
        exact (hl j (by omega)).1
      · exact nP_rq (⟨n2, w5, by omega, by omega⟩ : nP σ2 M 0 1) g1 (fun x a b => by omega)
      · exact nP_rq (nP_rq (hl j (by omega)).2.1 q2 (fun x a b => by omega)) g1 (fun x a b => by omega)
    have hb3 : rbV σ3 M n (fun _ => none) (fun _ => none) := fun x hx => by
      have e6 : tz_A σ3 (M + 6) = tz_A σ1 (M + 6) := by rw [Rq_get g1 (by omega) (by omega) (by omega), Rq_get q2 (by omega) (by omega) (fun e => e)]
      rw [e6]
      exact ⟨(hl x (by omega)).2.2.1, (hl x (by omega)).2.2.2, fun v e => (by cases e), fun v e => (by cases e)⟩
    have q3 : Rq M (fun k => k = 7) (fun x => x = M + 6 ∨ x = M + 7 ∨ x = M + 8) (fun i => i < 10456) σ σ3 := Rq_trans (Rq_mono qa (fun _ e => e) (fun _ e => e.elim) (fun _ e => e.elim)) (Rq_trans (Rq_mono hS (fun _ e => e.elim) (fun _ e => by omega) (fun _ e => by omega)) (Rq_trans (Rq_mono q2 (fun _ e => e.elim) (fun _ e => e.elim) (fun _ e => by omega)) (Rq_mono g1 (fun _ e => e.elim) (fun _ e => by omega) (fun _ e => by omega))))
    have hnn := r_newNode (u := none) h3 ((F3 35 (by decide) (by decide)).trans ht) hk3 hm3 (by omega) (by omega) hf
    rw [show eN none = -2 from rfl] at hnn
    refine gp_cV (mh_me h3) (gp_mono hnn ?_)
    clear hnn
    rintro _ σ4 ⟨rfl, u1, u2, u3⟩
    have h4 := mSh_fr h3 u1.1
    refine gp_wI (mh_me h4) rfl ?_
    have q5 : Rq M (fun k => k = 24) (fun _ => False) (fun _ => False) σ4 (tz_sF σ4 M 24 (nI 0)) := Rq_F rfl
    have q45 : Rq M (fun k => k = 15 ∨ k = 23 ∨ k = 24) (nnA M) (fun i => 116056 ≤ i ∧ i < 440000) σ3 (tz_sF σ4 M 24 (nI 0)) := Rq_trans (Rq_mono u1 (fun _ e => by omega) (fun _ e => e) (fun _ e => e)) (Rq_mono q5 (fun _ e => by omega) (fun _ e => e.elim) (fun _ e => e.elim))
    rw [← hQ]
    refine gp_ret ⟨Rq_trans (Rq_mono q3 (fun _ e => by omega) (fun _ e => by unfold gqA; omega) (fun _ e => by unfold gqP; omega)) (Rq_mono q45 (fun _ e => by omega) (fun _ e => by unfold gqA; unfold nnA at e; omega) (fun _ e => by unfold gqP; omega)), ?_, tz_u2_same _ _ _ _, ?_, ?_, ?_, ?_⟩
    · rw [q45.2.1 7 (by decide) (by decide)]; exact F37
    · exact rtV_rq hT3 q45 (by unfold nnA; omega) (by unfold nnA; omega) (fun _ _ e => by omega) a3 a4 (fun c hc => by omega)
    · exact rkV_rq u2 q5 (by decide) (by decide) (fun _ _ _ e => e) (fun _ _ _ e => e) (by omega)
    · exact rmV_rq u3 q5 (fun _ _ _ e => e) (by omega)
    · exact rbV_rq hb3 q45 (by unfold nnA; omega) (fun _ _ _ e => by omega) a3
  rw [nI_leI (by omega) (by omega)] at z
  refine gp_rR (mh_me h1) rfl ?_
  refine gp_sI (j := c) (mh_8 h1) (by decide) (by omega) (by omega) rfl ?_
  have h2 : mSh (tz_sA σ1 (M + 8) c (nI c)) M := h1
  have q2 : Rq M (fun _ => False) (fun x => x = M + 6 ∨ x = M + 8) (fun _ => False) σ1 (tz_sA σ1 (M + 8) c (nI c)) := Rq_A (Or.inr rfl) (by omega)
  have k8 : ∀ j, tz_A (tz_sA σ1 (M + 8) c (nI c)) (M + 8) j = if j = c then nI c else tz_A σ1 (M + 8) j := fun j => by rw [sA_at]; simp
  have k6 : tz_A (tz_sA σ1 (M + 8) c (nI c)) (M + 6) = tz_A σ1 (M + 6) := by funext j; rw [sA_at, if_neg (by omega)]
  generalize tz_sA σ1 (M + 8) c (nI c) = σ2 at *
  unfold X12_valueAt
  refine gp_cB (gp_ret ?_)
  rw [at_v]
  refine gp_cV (mh_me h2) (gp_mono (r_setWhole (to := 3856 + 300 * c) (v := 0) h2 (by rw [q2.2.1 35 (fun e => e) (by decide)]; exact ht1) (by decide) (by omega) (by omega) hf) ?_)
  rintro _ σ3 ⟨w1, w2, w3, n2, w4, w5⟩
  have q3 : Rq M (fun _ => False) (fun _ => False) (fun x => 3856 + 300 * c ≤ x ∧ x < 3856 + 300 * c + 4) σ2 σ3 := Rq_wh (n := 0) (Nat.le_refl _) ⟨w1, w2, w3⟩ (fun x a b => ⟨a, b⟩)
  have h3 := mSh_fr h2 w1
  refine gp_rR (mh_me h3) rfl ?_
  refine gp_sZ (j := 2 * c) (mh_6 h3) (by omega) (by omega) (by rw [show (2 : Int32) = nI 2 from rfl, nI_mul]) (Or.inl rfl) ?_
  have h4 : mSh (tz_sA σ3 (M + 6) (2 * c) 0) M := h3
  refine gp_rR (mh_me h4) rfl ?_
  refine gp_sZ (j := 2 * c + 1) (mh_6 h4) (by omega) (by omega) (by rw [show (2 : Int32) = nI 2 from rfl, nI_mul, nI_1]) (Or.inl rfl) ?_
  refine gp_let ?_
  rw [nI_1]
  have q5 : Rq M (fun _ => False) (fun x => x = M + 6 ∨ x = M + 8) (fun _ => False) σ3 (tz_sA (tz_sA σ3 (M + 6) (2 * c) 0) (M + 6) (2 * c + 1) 0) := Rq_trans (Rq_A (Or.inl rfl) (by omega)) (Rq_A (Or.inl rfl) (by omega))
  have e38 : tz_A σ3 (M + 8) = tz_A σ2 (M + 8) := Rq_get q3 (by omega) (by omega) (fun e => e)
  have e36 : tz_A σ3 (M + 6) = tz_A σ1 (M + 6) := by rw [Rq_get q3 (by omega) (by omega) (fun e => e), k6]
  refine hK1 _ _ ⟨c + 1, rfl, by omega, Rq_trans hS (Rq_trans (Rq_mono q2 (fun _ e => e) (fun _ e => e) (fun _ e => e.elim)) (Rq_trans (Rq_mono q3 (fun _ e => e) (fun _ e => e.elim) (fun _ e => by omega)) (Rq_mono q5 (fun _ e => e) (fun _ e => e) (fun _ e => e.elim)))), fun j hj => ?_⟩ (by rw [nI_clamp (by omega), nI_clamp (by omega)]; omega)
  rw [sA_at, if_neg (by omega), sA_at, if_neg (by omega), e38, k8, sA_at, sA_at, sA_at, sA_at, e36]
  by_cases e : j = c
  · rw [e, if_pos rfl]
    refine ⟨rfl, nP_rq (⟨n2, w5, by omega, by omega⟩ : nP σ3 M (3856 + 300 * c) 0) q5 (fun _ _ _ e => e), ?_, ?_⟩
    · simp
    · simp
  · rw [if_neg e]
    obtain ⟨d1, d2, d3, d4⟩ := hl j (by omega)
    refine ⟨d1, nP_rq (nP_rq (nP_rq d2 q2 (fun _ _ _ e => e)) q3 (fun x a b => by omega)) q5 (fun _ _ _ e => e), ?_, ?_⟩
    · rw [if_neg (by omega), if_neg (by omega)]; exact d3
    · rw [if_neg (by omega), if_neg (by omega)]; exact d4
end SM
