/-! ===== the reference is made; printed by wip/whole/genmk5.py ===== -/
section UC
variable {f M S : Nat} {σ σ1 : tz_S} {Q : Unit → tz_S → Prop}
set_option maxRecDepth 100000 in
set_option maxHeartbeats 2000000 in
theorem mk_rv (h : mSh σ M) (h35 : tz_F σ M 35 = nI 447200) (hff : 2000 ≤ f) (hK : ∀ σ1, Rq M (fun _ => False) (fun _ => False) (fun _ => True) σ σ1 → rvV σ1 M (fun _ => (0, 1)) → Q () σ1) : gp (X12_init_L179 f (some M) 0) σ Q := by
  unfold X12_init_L179
  refine gp_loop (I := fun (τ : Int32) (σ' : tz_S) => ∃ i, τ = nI i ∧ i ≤ 10 ∧ Rq M (fun _ => False) (fun _ => False) (fun _ => True) σ σ' ∧ ∀ x, x < i → nP σ' M (109456 + 300 * (2 * x)) 0 ∧ nP σ' M (109456 + 300 * (2 * x + 1)) 1) (fun τ _ => 100 - τ.toNatClampNeg) ?_ f _ _ ⟨0, rfl, Nat.zero_le _, Rq_refl, fun x hx => absurd hx (Nat.not_lt_zero _)⟩ (by omega)
  rintro Kx l1 σ2 ⟨i, rfl, hi, q2, w2⟩ hKx
  show gp (X12_init_L179_body f (some M) (fun l1 => Kx l1) (nI i)) σ2 Q
  unfold X12_init_L179_body X12_witnessAt
  refine gp_if (fun z => ?_) (fun z => ?_)
  · rw [show (10 : Int32) = nI 10 from rfl, nI_leI (by omega) (by omega)] at z
    exact gp_ret (hK σ2 q2 (fun x hx => w2 x (by omega)))
  rw [show (10 : Int32) = nI 10 from rfl, nI_leI (by omega) (by omega)] at z
  have hc := mSh_fr h q2.1
  have g35 : tz_F σ2 M 35 = nI 447200 := by rw [q2.2.1 35 (fun e => e) (by decide)]; exact h35
  refine gp_cB (gp_ret ?_)
  rw [show (109456 : Int32) + 300 * (2 * nI i + 0) = nI (109456 + 300 * (2 * i)) from at_w i 0]
  refine gp_cV (mh_me hc) (gp_mono (r_setWhole (to := 109456 + 300 * (2 * i)) (v := 0) hc g35 (by decide) (by omega) (by omega) hff) ?_)
  rintro _ σ3 ⟨e1, e2, e3, n1, e4, e5⟩
  have h3 := mSh_fr hc e1
  have q1 : Rq M (fun _ => False) (fun _ => False) (fun j => 109456 + 300 * (2 * i) ≤ j ∧ j < 109456 + 300 * (2 * i) + 4) σ2 σ3 := Rq_wh (n := 0) (Nat.le_refl _) ⟨e1, e2, e3⟩ (fun x a b => ⟨a, b⟩)
  refine gp_cB (gp_ret ?_)
  rw [show (109456 : Int32) + 300 * (2 * nI i + 1) = nI (109456 + 300 * (2 * i + 1)) from at_w i 1]
  refine gp_cV (mh_me h3) (gp_mono (r_setWhole (to := 109456 + 300 * (2 * i + 1)) (v := 1) h3 (by rw [e2 35 (by decide)]; exact g35) (by decide) (by omega) (by omega) hff) ?_)
  rintro _ σ4 ⟨w1, w3, w4, n2, w5, w6⟩
  have q3 : Rq M (fun _ => False) (fun _ => False) (fun j => 109456 + 300 * (2 * i + 1) ≤ j ∧ j < 109456 + 300 * (2 * i + 1) + 4) σ3 σ4 := Rq_wh (n := 0) (Nat.le_refl _) ⟨w1, w3, w4⟩ (fun x a b => ⟨a, b⟩)
  refine gp_let ?_
  rw [nI_1]
  refine hKx (nI (i + 1)) σ4 ⟨i + 1, rfl, by omega, Rq_trans q2 (Rq_trans (Rq_mono q1 (fun _ e => e) (fun _ e => e) (fun _ _ => trivial)) (Rq_mono q3 (fun _ e => e) (fun _ e => e) (fun _ _ => trivial))), fun x hx => ?_⟩ (by rw [nI_clamp (by omega), nI_clamp (by omega)]; omega)
  by_cases e : x = i
  · rw [e]
    exact ⟨nP_rq (⟨n1, e5, by omega, by omega⟩ : nP σ3 M (109456 + 300 * (2 * i)) 0) q3 (fun j c d u => by omega), ⟨n2, w6, by omega, by omega⟩⟩
  · obtain ⟨a1, a2⟩ := w2 x (by omega)
    exact ⟨nP_rq (nP_rq a1 q1 (fun j c d u => by omega)) q3 (fun j c d u => by omega), nP_rq (nP_rq a2 q1 (fun j c d u => by omega)) q3 (fun j c d u => by omega)⟩
set_option maxRecDepth 100000 in
set_option maxHeartbeats 4000000 in
theorem mk_ref {R : Option Nat → pz_C Unit} (hn : tz_nc σ = M) (hs : tz_ns σ = S) (hff : 2000 ≤ f) (hK : ∀ σ1, Gr noP σ σ1 → tz_nc σ1 = M + 21 → tz_ns σ1 = S + 529703 → rfV σ1 M zF0 → gp (R (some M)) σ1 Q) : gp (pz_new 12 37 [.int 0, .int 0, .null, .null, .null, .null, .null, .int 0, .int 0, .int 0, .int 0, .int 0, .null, .null, .null, .int 0, .null, .null, .null, .null, .null, .null, .null, .int 0, .int 0, .int 0, .null, .null, .int 0, .int 0, .int 0, .int 0, .null, .null, .null, .int 0, .int 0] fun x3 => pz_nn x3 <| pz_cB (X12_init f x3) fun _ => R x3) σ Q := by
  have h : EV σ σ M 0 S kN f0 r0 := ⟨Gr_refl, by omega, hs, by omega, fun i hi => absurd hi (Nat.not_lt_zero _)⟩
  refine ev_new (lay := [none, none, some none, some none, some none, some none, some none, none, none, none, none, none, some none, some none, some none, none, some none, some none, some none, some none, some none, some none, some none, none, none, none, some none, some none, none, none, none, none, some none, some none, some none, none, none]) rfl h rfl rfl (fun σa h => ?_)
  show gp (pz_nn (some M) <| pz_cB (X12_init f (some M)) fun _ => R (some M)) σa Q
  refine gp_nn (gp_cB ?_)
  unfold X12_init
  refine gp_nn ?_
  refine ev_newI (n := 120) h (by decide) (by decide) rfl rfl rfl (fun _ h => ?_)
  refine ev_wR (i := 0) h (by decide) rfl (Nat.le_of_ble_eq_true rfl) (fun σx0 hx => ?_)
  have h : EV σ σx0 M 2 _ (ups _ 0 (some (.inl (12, [none, none, some (some (M + 1)), some none, some none, some none, some none, none, none, none, none, none, some none, some none, some none, none, some none, some none, some none, some none, some none, some none, some none, none, none, none, some none, some none, none, none, none, none, some none, some none, some none, none, none])))) _ _ := hx
  clear hx
  refine ev_newI (n := 12) h (by decide) (by decide) rfl rfl rfl (fun _ h => ?_)
  refine ev_wR (i := 0) h (by decide) rfl (Nat.le_of_ble_eq_true rfl) (fun σx1 hx => ?_)
  have h : EV σ σx1 M 3 _ (ups _ 0 (some (.inl (12, [none, none, some (some (M + 1)), some (some (M + 2)), some none, some none, some none, none, none, none, none, none, some none, some none, some none, none, some none, some none, some none, some none, some none, some none, some none, none, none, none, some none, some none, none, none, none, none, some none, some none, some none, none, none])))) _ _ := hx
  clear hx
  refine ev_newI (n := 12) h (by decide) (by decide) rfl rfl rfl (fun _ h => ?_)
  refine ev_wR (i := 0) h (by decide) rfl (Nat.le_of_ble_eq_true rfl) (fun σx2 hx => ?_)
  have h : EV σ σx2 M 4 _ (ups _ 0 (some (.inl (12, [none, none, some (some (M + 1)), some (some (M + 2)), some (some (M + 3)), some none, some none, none, none, none, none, none, some none, some none, some none, none, some none, some none, some none, some none, some none, some none, some none, none, none, none, some none, some none, none, none, none, none, some none, some none, some none, none, none])))) _ _ := hx
  clear hx
  refine ev_newI (n := 10) h (by decide) (by decide) rfl rfl rfl (fun _ h => ?_)
  refine ev_wR (i := 0) h (by decide) rfl (Nat.le_of_ble_eq_true rfl) (fun σx3 hx => ?_)
  have h : EV σ σx3 M 5 _ (ups _ 0 (some (.inl (12, [none, none, some (some (M + 1)), some (some (M + 2)), some (some (M + 3)), some (some (M + 4)), some none, none, none, none, none, none, some none, some none, some none, none, some none, some none, some none, some none, some none, some none, some none, none, none, none, some none, some none, none, none, none, none, some none, some none, some none, none, none])))) _ _ := hx
  clear hx
  refine ev_newI (n := 10) h (by decide) (by decide) rfl rfl rfl (fun _ h => ?_)
  refine ev_wR (i := 0) h (by decide) rfl (Nat.le_of_ble_eq_true rfl) (fun σx4 hx => ?_)
  have h : EV σ σx4 M 6 _ (ups _ 0 (some (.inl (12, [none, none, some (some (M + 1)), some (some (M + 2)), some (some (M + 3)), some (some (M + 4)), some (some (M + 5)), none, none, none, none, none, some none, some none, some none, none, some none, some none, some none, some none, some none, some none, some none, none, none, none, some none, some none, none, none, none, none, some none, some none, some none, none, none])))) _ _ := hx
  clear hx
  refine ev_newI (n := 20) h (by decide) (by decide) rfl rfl rfl (fun _ h => ?_)
  refine ev_wR (i := 0) h (by decide) rfl (Nat.le_of_ble_eq_true rfl) (fun σx5 hx => ?_)
  have h : EV σ σx5 M 7 _ (ups _ 0 (some (.inl (12, [none, none, some (some (M + 1)), some (some (M + 2)), some (some (M + 3)), some (some (M + 4)), some (some (M + 5)), none, none, none, none, none, some (some (M + 6)), some none, some none, none, some none, some none, some none, some none, some none, some none, some none, none, none, none, some none, some none, none, none, none, none, some none, some none, some none, none, none])))) _ _ := hx
  clear hx
  refine ev_newI (n := 12) h (by decide) (by decide) rfl rfl rfl (fun _ h => ?_)
  refine ev_wR (i := 0) h (by decide) rfl (Nat.le_of_ble_eq_true rfl) (fun σx6 hx => ?_)
  have h : EV σ σx6 M 8 _ (ups _ 0 (some (.inl (12, [none, none, some (some (M + 1)), some (some (M + 2)), some (some (M + 3)), some (some (M + 4)), some (some (M + 5)), none, none, none, none, none, some (some (M + 6)), some (some (M + 7)), some none, none, some none, some none, some none, some none, some none, some none, some none, none, none, none, some none, some none, none, none, none, none, some none, some none, some none, none, none])))) _ _ := hx
  clear hx
  refine ev_newI (n := 10) h (by decide) (by decide) rfl rfl rfl (fun _ h => ?_)
  refine ev_wR (i := 0) h (by decide) rfl (Nat.le_of_ble_eq_true rfl) (fun σx7 hx => ?_)
  have h : EV σ σx7 M 9 _ (ups _ 0 (some (.inl (12, [none, none, some (some (M + 1)), some (some (M + 2)), some (some (M + 3)), some (some (M + 4)), some (some (M + 5)), none, none, none, none, none, some (some (M + 6)), some (some (M + 7)), some (some (M + 8)), none, some none, some none, some none, some none, some none, some none, some none, none, none, none, some none, some none, none, none, none, none, some none, some none, some none, none, none])))) _ _ := hx
  clear hx
  refine ev_newI (n := 310) h (by decide) (by decide) rfl rfl rfl (fun _ h => ?_)
  refine ev_wR (i := 0) h (by decide) rfl (Nat.le_of_ble_eq_true rfl) (fun σx8 hx => ?_)
  have h : EV σ σx8 M 10 _ (ups _ 0 (some (.inl (12, [none, none, some (some (M + 1)), some (some (M + 2)), some (some (M + 3)), some (some (M + 4)), some (some (M + 5)), none, none, none, none, none, some (some (M + 6)), some (some (M + 7)), some (some (M + 8)), none, some (some (M + 9)), some none, some none, some none, some none, some none, some none, none, none, none, some none, some none, none, none, none, none, some none, some none, some none, none, none])))) _ _ := hx
  clear hx
  refine ev_newI (n := 310) h (by decide) (by decide) rfl rfl rfl (fun _ h => ?_)
  refine ev_wR (i := 0) h (by decide) rfl (Nat.le_of_ble_eq_true rfl) (fun σx9 hx => ?_)
  have h : EV σ σx9 M 11 _ (ups _ 0 (some (.inl (12, [none, none, some (some (M + 1)), some (some (M + 2)), some (some (M + 3)), some (some (M + 4)), some (some (M + 5)), none, none, none, none, none, some (some (M + 6)), some (some (M + 7)), some (some (M + 8)), none, some (some (M + 9)), some (some (M + 10)), some none, some none, some none, some none, some none, none, none, none, some none, some none, none, none, none, none, some none, some none, some none, none, none])))) _ _ := hx
  clear hx
  refine ev_newI (n := 310) h (by decide) (by decide) rfl rfl rfl (fun _ h => ?_)
  refine ev_wR (i := 0) h (by decide) rfl (Nat.le_of_ble_eq_true rfl) (fun σx10 hx => ?_)
  have h : EV σ σx10 M 12 _ (ups _ 0 (some (.inl (12, [none, none, some (some (M + 1)), some (some (M + 2)), some (some (M + 3)), some (some (M + 4)), some (some (M + 5)), none, none, none, none, none, some (some (M + 6)), some (some (M + 7)), some (some (M + 8)), none, some (some (M + 9)), some (some (M + 10)), some (some (M + 11)), some none, some none, some none, some none, none, none, none, some none, some none, none, none, none, none, some none, some none, some none, none, none])))) _ _ := hx
  clear hx
  refine ev_newI (n := 310) h (by decide) (by decide) rfl rfl rfl (fun _ h => ?_)
  refine ev_wR (i := 0) h (by decide) rfl (Nat.le_of_ble_eq_true rfl) (fun σx11 hx => ?_)
  have h : EV σ σx11 M 13 _ (ups _ 0 (some (.inl (12, [none, none, some (some (M + 1)), some (some (M + 2)), some (some (M + 3)), some (some (M + 4)), some (some (M + 5)), none, none, none, none, none, some (some (M + 6)), some (some (M + 7)), some (some (M + 8)), none, some (some (M + 9)), some (some (M + 10)), some (some (M + 11)), some (some (M + 12)), some none, some none, some none, none, none, none, some none, some none, none, none, none, none, some none, some none, some none, none, none])))) _ _ := hx
  clear hx
  refine ev_newI (n := 310) h (by decide) (by decide) rfl rfl rfl (fun _ h => ?_)
  refine ev_wR (i := 0) h (by decide) rfl (Nat.le_of_ble_eq_true rfl) (fun σx12 hx => ?_)
  have h : EV σ σx12 M 14 _ (ups _ 0 (some (.inl (12, [none, none, some (some (M + 1)), some (some (M + 2)), some (some (M + 3)), some (some (M + 4)), some (some (M + 5)), none, none, none, none, none, some (some (M + 6)), some (some (M + 7)), some (some (M + 8)), none, some (some (M + 9)), some (some (M + 10)), some (some (M + 11)), some (some (M + 12)), some (some (M + 13)), some none, some none, none, none, none, some none, some none, none, none, none, none, some none, some none, some none, none, none])))) _ _ := hx
  clear hx
  refine ev_newI (n := 310) h (by decide) (by decide) rfl rfl rfl (fun _ h => ?_)
  refine ev_wR (i := 0) h (by decide) rfl (Nat.le_of_ble_eq_true rfl) (fun σx13 hx => ?_)
  have h : EV σ σx13 M 15 _ (ups _ 0 (some (.inl (12, [none, none, some (some (M + 1)), some (some (M + 2)), some (some (M + 3)), some (some (M + 4)), some (some (M + 5)), none, none, none, none, none, some (some (M + 6)), some (some (M + 7)), some (some (M + 8)), none, some (some (M + 9)), some (some (M + 10)), some (some (M + 11)), some (some (M + 12)), some (some (M + 13)), some (some (M + 14)), some none, none, none, none, some none, some none, none, none, none, none, some none, some none, some none, none, none])))) _ _ := hx
  clear hx
  refine ev_newI (n := 310) h (by decide) (by decide) rfl rfl rfl (fun _ h => ?_)
  refine ev_wR (i := 0) h (by decide) rfl (Nat.le_of_ble_eq_true rfl) (fun σx14 hx => ?_)
  have h : EV σ σx14 M 16 _ (ups _ 0 (some (.inl (12, [none, none, some (some (M + 1)), some (some (M + 2)), some (some (M + 3)), some (some (M + 4)), some (some (M + 5)), none, none, none, none, none, some (some (M + 6)), some (some (M + 7)), some (some (M + 8)), none, some (some (M + 9)), some (some (M + 10)), some (some (M + 11)), some (some (M + 12)), some (some (M + 13)), some (some (M + 14)), some (some (M + 15)), none, none, none, some none, some none, none, none, none, none, some none, some none, some none, none, none])))) _ _ := hx
  clear hx
  refine ev_newI (n := 25) h (by decide) (by decide) rfl rfl rfl (fun _ h => ?_)
  refine ev_wR (i := 0) h (by decide) rfl (Nat.le_of_ble_eq_true rfl) (fun σx15 hx => ?_)
  have h : EV σ σx15 M 17 _ (ups _ 0 (some (.inl (12, [none, none, some (some (M + 1)), some (some (M + 2)), some (some (M + 3)), some (some (M + 4)), some (some (M + 5)), none, none, none, none, none, some (some (M + 6)), some (some (M + 7)), some (some (M + 8)), none, some (some (M + 9)), some (some (M + 10)), some (some (M + 11)), some (some (M + 12)), some (some (M + 13)), some (some (M + 14)), some (some (M + 15)), none, none, none, some (some (M + 16)), some none, none, none, none, none, some none, some none, some none, none, none])))) _ _ := hx
  clear hx
  refine ev_newI (n := 25) h (by decide) (by decide) rfl rfl rfl (fun _ h => ?_)
  refine ev_wR (i := 0) h (by decide) rfl (Nat.le_of_ble_eq_true rfl) (fun σx16 hx => ?_)
  have h : EV σ σx16 M 18 _ (ups _ 0 (some (.inl (12, [none, none, some (some (M + 1)), some (some (M + 2)), some (some (M + 3)), some (some (M + 4)), some (some (M + 5)), none, none, none, none, none, some (some (M + 6)), some (some (M + 7)), some (some (M + 8)), none, some (some (M + 9)), some (some (M + 10)), some (some (M + 11)), some (some (M + 12)), some (some (M + 13)), some (some (M + 14)), some (some (M + 15)), none, none, none, some (some (M + 16)), some (some (M + 17)), none, none, none, none, some none, some none, some none, none, none])))) _ _ := hx
  clear hx
  refine ev_newI (n := 20) h (by decide) (by decide) rfl rfl rfl (fun _ h => ?_)
  refine ev_wR (i := 0) h (by decide) rfl (Nat.le_of_ble_eq_true rfl) (fun σx17 hx => ?_)
  have h : EV σ σx17 M 19 _ (ups _ 0 (some (.inl (12, [none, none, some (some (M + 1)), some (some (M + 2)), some (some (M + 3)), some (some (M + 4)), some (some (M + 5)), none, none, none, none, none, some (some (M + 6)), some (some (M + 7)), some (some (M + 8)), none, some (some (M + 9)), some (some (M + 10)), some (some (M + 11)), some (some (M + 12)), some (some (M + 13)), some (some (M + 14)), some (some (M + 15)), none, none, none, some (some (M + 16)), some (some (M + 17)), none, none, none, none, some (some (M + 18)), some none, some none, none, none])))) _ _ := hx
  clear hx
  refine ev_newI (n := 20) h (by decide) (by decide) rfl rfl rfl (fun _ h => ?_)
  refine ev_wR (i := 0) h (by decide) rfl (Nat.le_of_ble_eq_true rfl) (fun σx18 hx => ?_)
  have h : EV σ σx18 M 20 _ (ups _ 0 (some (.inl (12, [none, none, some (some (M + 1)), some (some (M + 2)), some (some (M + 3)), some (some (M + 4)), some (some (M + 5)), none, none, none, none, none, some (some (M + 6)), some (some (M + 7)), some (some (M + 8)), none, some (some (M + 9)), some (some (M + 10)), some (some (M + 11)), some (some (M + 12)), some (some (M + 13)), some (some (M + 14)), some (some (M + 15)), none, none, none, some (some (M + 16)), some (some (M + 17)), none, none, none, none, some (some (M + 18)), some (some (M + 19)), some none, none, none])))) _ _ := hx
  clear hx
  refine ev_newI (n := 527200) h (by decide) (by decide) rfl rfl rfl (fun _ h => ?_)
  refine ev_wR (i := 0) h (by decide) rfl (Nat.le_of_ble_eq_true rfl) (fun σx19 hx => ?_)
  have h : EV σ σx19 M 21 _ (ups _ 0 (some (.inl (12, [none, none, some (some (M + 1)), some (some (M + 2)), some (some (M + 3)), some (some (M + 4)), some (some (M + 5)), none, none, none, none, none, some (some (M + 6)), some (some (M + 7)), some (some (M + 8)), none, some (some (M + 9)), some (some (M + 10)), some (some (M + 11)), some (some (M + 12)), some (some (M + 13)), some (some (M + 14)), some (some (M + 15)), none, none, none, some (some (M + 16)), some (some (M + 17)), none, none, none, none, some (some (M + 18)), some (some (M + 19)), some (some (M + 20)), none, none])))) _ _ := hx
  clear hx
  refine ev_wI (i := 0) h (by decide) rfl rfl (fun σb h => ?_)
  obtain ⟨g1, g2, g3, g4, g5⟩ := h
  have hm : mSh σb M := ⟨(g5 0 (by decide)).1, (g5 1 (by decide)).1, (g5 2 (by decide)).1, (g5 3 (by decide)).1, (g5 4 (by decide)).1, (g5 5 (by decide)).1, (g5 6 (by decide)).1, (g5 7 (by decide)).1, (g5 8 (by decide)).1, (g5 9 (by decide)).1, (g5 10 (by decide)).1, (g5 11 (by decide)).1, (g5 12 (by decide)).1, (g5 13 (by decide)).1, (g5 14 (by decide)).1, (g5 15 (by decide)).1, (g5 16 (by decide)).1, (g5 17 (by decide)).1, (g5 18 (by decide)).1, (g5 19 (by decide)).1, (g5 20 (by decide)).1⟩
  have F : ∀ k, tz_F σb M k = ups (f0 0) 35 447200 k := fun k => by
    have := (g5 0 (by decide)).2.1
    exact congrFun this k
  refine mk_rv hm (F 35) hff (fun σc q hv => ?_)
  have FC : ∀ k, k ≠ 36 → k ≠ 35 → tz_F σc M k = 0 := fun k h1 h2 => by
    rw [q.2.1 k (fun e => e) h1, F k, ups_n _ _ h2]
    rfl
  have A4 : ∀ x, tz_A σc (M + 4) x = 0 := fun x => by
    rw [Rq_get q (by omega) (by omega) (fun e => e)]
    exact congrFun (g5 4 (by decide)).2.2.1 x
  have A5 : ∀ x, tz_A σc (M + 5) x = 0 := fun x => by
    rw [Rq_get q (by omega) (by omega) (fun e => e)]
    exact congrFun (g5 5 (by decide)).2.2.1 x
  refine hK σc (Gr_new g1 q.1 (fun x e => by rcases e with e | e | e; exact Or.inr (by omega); exact Or.inr (by omega); exact e.elim)) (by rw [q.1.1]; exact g4) (by rw [q.1.2.1, g3]) ?_
  refine rfV_mk (rgV_mk ⟨by decide, by decide⟩ ⟨mSh_fr hm q.1, by rw [q.2.1 35 (fun e => e) (by decide)]; exact F 35⟩ ⟨⟨FC 0 (by decide) (by decide), FC 1 (by decide) (by decide), by decide, by decide⟩, fun r x hr => absurd hr (Nat.not_lt_zero _), fun r hr => absurd hr (Nat.not_lt_zero _), fun r hr => absurd hr (Nat.not_lt_zero _), fun x _ => A5 x, fun x _ => by rw [A4 x]; rfl⟩ ⟨FC 7 (by decide) (by decide), FC 8 (by decide) (by decide), FC 9 (by decide) (by decide), FC 10 (by decide) (by decide), FC 11 (by decide) (by decide)⟩ ⟨⟨FC 15 (by decide) (by decide), FC 23 (by decide) (by decide)⟩, fun k hk => absurd hk (Nat.not_lt_zero _)⟩ (fun i j hi => absurd hi (Nat.not_lt_zero _)) (fun z => absurd rfl z) (fun _ => FC 25 (by decide) (by decide)) (fun k e => by cases e) (fun _ k e => by cases e)) hv ⟨FC 28 (by decide) (by decide), fun e => by cases e⟩
end UC
