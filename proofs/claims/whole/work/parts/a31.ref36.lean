/-! ===== the reference: begin, the rows ===== -/
section SL
variable {f M n m : Nat} {σ : tz_S} {A : Nat → Nat → Int} {kd : Nat → Nat} {bb dr : Nat → Int} {wh : Nat → Bool} {Q : Unit → tz_S → Prop}
theorem mh_1 (h : mSh σ M) : tz_sh σ (M + 1) = some (.inr (0, 120)) := h.2.1
theorem r_bgI {K65 : Int32 → pz_C Unit} {r : Nat} (h : mSh σ M) (ht : tz_F σ M 35 = nI 447200) (hrr : rrV σ M n m A kd bb wh dr) (hr : r < m) (hf : 2000 ≤ f)
    (hK : ∀ σ2, Rq M (fun _ => False) (fun _ => False) (fun i => 16 + 160 * r ≤ i ∧ i < 16 + 160 * (r + 1)) σ σ2 → (∀ c, c < n → nP σ2 M (16 + 16 * (10 * r + c)) (A r c)) → gp (K65 (nI (r + 1))) σ2 Q) :
    gp (X12_begin_L87 f K65 (some M) (nI r) 0) σ Q := by
  obtain ⟨⟨a1, a2, a3, a4⟩, b1, -⟩ := id hrr
  unfold X12_begin_L87
  refine gp_loop (I := fun (τ : Int32) (σ' : tz_S) => ∃ c, τ = nI c ∧ c ≤ n ∧ Rq M (fun _ => False) (fun _ => False) (fun i => 16 + 160 * r ≤ i ∧ i < 16 + 160 * (r + 1)) σ σ' ∧ ∀ j, j < c → nP σ' M (16 + 16 * (10 * r + j)) (A r j)) (fun τ _ => 100 - τ.toNatClampNeg) ?_ f _ _ ⟨0, rfl, Nat.zero_le _, Rq_refl, fun j hj => absurd hj (Nat.not_lt_zero _)⟩ (by omega)
  rintro K l1 σ1 ⟨c, rfl, hc, hS, hl⟩ hK1
  show gp (X12_begin_L87_body f K65 (some M) (nI r) (fun l1 => K l1) (nI c)) σ1 _
  unfold X12_begin_L87_body X12_factorAt
  have h1 := mSh_fr h hS.1
  refine gp_rI (mh_me h1) rfl ?_
  rw [hS.2.1 0 (fun e => e) (by decide), a1]
  refine gp_if (fun z => ?_) (fun z => ?_)
  · rw [nI_leI (by omega) (by omega)] at z
    refine gp_let ?_
    rw [nI_1]
    exact hK σ1 hS (fun j hj => hl j (by omega))
  rw [nI_leI (by omega) (by omega)] at z
  refine gp_cB (gp_ret ?_)
  rw [at_f]
  refine gp_rR (mh_me h1) rfl ?_
  refine gp_aI (j := 10 * r + c) (mh_1 h1) (by decide) (by omega) (by omega) (by rw [show (10 : Int32) = nI 10 from rfl, nI_mul, nI_add]) ?_
  rw [Rq_get hS (by omega) (by omega) (fun e => e)]
  have e2 : (Int32.toInt64 (tz_A σ (M + 1) (10 * r + c))).toInt = A r c := by rw [Int32.toInt_toInt64]; exact b1 r c hr (by omega)
  have b := az_lo32 (tz_A σ (M + 1) (10 * r + c))
  refine gp_cV (mh_me h1) (gp_mono (r_setWhole (to := 16 + 16 * (10 * r + c)) h1 (by rw [hS.2.1 35 (fun e => e) (by decide)]; exact ht) (by rw [Int32.toInt_toInt64]; omega) (by omega) (by omega) hf) ?_)
  rintro _ σ2 ⟨w1, w2, w3, n2, w4, w5⟩
  rw [e2] at w5
  have q : Rq M (fun _ => False) (fun _ => False) (fun x => 16 + 16 * (10 * r + c) ≤ x ∧ x < 16 + 16 * (10 * r + c) + 4) σ1 σ2 := Rq_wh (n := 0) (Nat.le_refl _) ⟨w1, w2, w3⟩ (fun x a b => ⟨a, b⟩)
  refine gp_let ?_
  rw [nI_1]
  refine hK1 _ _ ⟨c + 1, rfl, by omega, Rq_trans hS (Rq_mono q (fun _ e => e) (fun _ e => e) (fun x e => by omega)), fun j hj => ?_⟩ (by rw [nI_clamp (by omega), nI_clamp (by omega)]; omega)
  by_cases e : j = c
  · rw [e]; exact ⟨n2, w5, by omega, by omega⟩
  · exact nP_rq (hl j (by omega)) q (fun x a b => by omega)
end SL
