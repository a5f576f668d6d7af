/-! ===== the reference: brokenVariable ===== -/
section RW
variable {f M n m k : Nat} {σ : tz_S} {A T : Nat → Nat → Int} {kd : Nat → Nat} {bb dr : Nat → Int} {wh : Nat → Bool} {D : Int} {va : Nat → Int} {bs cl : Nat → Nat}
theorem mh_5 (h : mSh σ M) : tz_sh σ (M + 5) = some (.inr (1, 10)) := h.2.2.2.2.2.1
theorem isg_iz {v : Int} : isg v = 0 ↔ v = 0 := by
  rcases isg_cases v with z | z | z
  · rw [z.2]; exact ⟨fun h => absurd h (by decide), fun h => by omega⟩
  · rw [z.2]; exact ⟨fun h => absurd h (by decide), fun h => by omega⟩
  · rw [z.2]; exact ⟨fun _ => z.1, fun _ => rfl⟩
theorem em_z {a b : Int} : a / b * b - a = 0 ↔ a % b = 0 := by
  have := Int.mul_ediv_add_emod a b
  rw [Int.mul_comm] at this
  omega
theorem at_s (k : Nat) : (16456 : Int32) + 300 * nI k = nI (16456 + 300 * k) := by
  rw [show (300 : Int32) = nI 300 from rfl, nI_mul, show (16456 : Int32) = nI 16456 from rfl, nI_add]
/-- nothing that lasts has changed but one split place -/
def Bq (M k : Nat) : tz_S → tz_S → Prop := Rq M (fun _ => False) (fun _ => False) (fun i => 16456 + 300 * k ≤ i ∧ i < 16456 + 300 * k + 16)
set_option maxHeartbeats 1000000 in
theorem r_brokenVariable (h : mSh σ M) (ht : tz_F σ M 35 = nI 447200) (hrr : rrV σ M n m A kd bb wh dr) (hT : rtV σ M n m D T va bs cl) (hz : tSz n m D T va) (hpm : pmI n m bs cl) (h24 : tz_F σ M 24 = nI k) (hk : k < 310) (hf : 2000 ≤ f) :
    gp (X12_brokenVariable f (some M)) σ (fun y σ' => (fst1 (isBrk m D (amt n T va) bs wh) n = none ∧ y = -1 ∧ Sq M σ σ') ∨ ∃ x r, fst1 (isBrk m D (amt n T va) bs wh) n = some x ∧ ix bs x m = some r ∧ y = nI x ∧ Bq M k σ σ' ∧ nP σ' M (16456 + 300 * k) (amt n T va r / D)) := by
  obtain ⟨⟨a1, a2, a3, a4⟩, -, -, -, b5, -⟩ := id hrr
  have hcl : ∀ c, c < n → cl c < 22 := fun c hc => by have := hpm.2.1 c hc; omega
  obtain ⟨zD0, zD, -⟩ := id hz
  unfold X12_brokenVariable X12_brokenVariable_L2
  generalize hQ : (fun (y : Int32) σ' => (fst1 (isBrk m D (amt n T va) bs wh) n = none ∧ y = -1 ∧ Sq M σ σ') ∨ ∃ x r, fst1 (isBrk m D (amt n T va) bs wh) n = some x ∧ ix bs x m = some r ∧ y = nI x ∧ Bq M k σ σ' ∧ nP σ' M (16456 + 300 * k) (amt n T va r / D)) = Q
  refine gp_loop (I := fun (τ : Int32) (σ' : tz_S) => ∃ i, τ = nI i ∧ i ≤ n ∧ Sq M σ σ' ∧ ∀ p, p < i → isBrk m D (amt n T va) bs wh p = false) (fun τ _ => 100 - τ.toNatClampNeg) ?_ f _ _ ⟨0, rfl, Nat.zero_le _, Sq_refl, fun j hj => absurd hj (Nat.not_lt_zero _)⟩ (by omega)
  rintro K l1 σ1 ⟨i, rfl, hi, hS, hl⟩ hK
  show gp (X12_brokenVariable_L2_body f (some M) (fun l1 => K l1) (nI i)) σ1 _
  unfold X12_brokenVariable_L2_body
  have h1 := mSh_fr h hS.1
  refine gp_rI (mh_me h1) rfl ?_
  rw [hS.2.1 0 (by decide), a1]
  refine gp_if (fun z => ?_) (fun z => ?_)
  · rw [nI_leI (by omega) (by omega)] at z
    rw [← hQ]
    exact gp_ret (Or.inl ⟨fst1_none (fun p hp => hl p (by omega)), rfl, hS⟩)
  rw [nI_leI (by omega) (by omega)] at z
  have hin : i < n := by omega
  have nxt : ∀ σ2, Sq M σ σ2 → isBrk m D (amt n T va) bs wh i = false → gp (X12_brokenVariable_b108 f (fun l1 => K l1) (some M) (nI i)) σ2 Q := by
    intro σ2 g1 g2
    unfold X12_brokenVariable_b108
    refine gp_let ?_
    rw [nI_1]
    refine hK _ _ ⟨i + 1, rfl, by omega, g1, fun p hp => ?_⟩ (by rw [nI_clamp (by omega), nI_clamp (by omega)]; omega)
    by_cases e : p = i
    · rw [e]; exact g2
    · exact hl p (by omega)
  refine gp_rR (mh_me h1) rfl ?_
  refine gp_aI (j := i) (mh_5 h1) (by decide) (by omega) (by omega) rfl ?_
  rw [Sq_A hS (by omega) (by omega), b5 i (by omega)]
  unfold X12_brokenVariable_b28
  by_cases w : wh i = true
  · rw [if_pos w]
    refine gp_f (by decide) ?_
    refine gp_cV (mh_me h1) (gp_mono (r_rowOf (bs := bs) h1 (by rw [hS.2.1 1 (by decide)]; exact a2) a4 (fun r hr => ⟨by rw [Sq_A hS (by omega) (by omega)]; exact hT.1 r hr, by have := hpm.1 r hr; omega⟩) (by omega) hf) ?_)
    rintro _ σ0 ⟨z0, rfl⟩
    rw [z0]
    clear z0 σ0
    cases hx : ix bs i m with
    | none =>
      refine gp_t rfl (nxt σ1 hS ?_)
      simp only [isBrk, hx]
    | some r =>
      obtain ⟨hrm, hbr⟩ := ix_some hx
      have hbk : isBrk m D (amt n T va) bs wh i = decide (amt n T va r % D ≠ 0) := by simp only [isBrk, hx, w, Bool.true_and]
      refine gp_f (fun q => by have := (eM_neg (x := some r) (fun k e => by cases e; omega)).1 q; cases this) ?_
      have ht1 : tz_F σ1 M 35 = nI 447200 := by rw [hS.2.1 35 (by decide)]; exact ht
      have hT1 := rtV_sq hT hS
      refine gp_rI (mh_me h1) rfl ?_
      rw [ht1]
      refine gp_cV (mh_me h1) (gp_mono (r_sumOf h1 ht1 (Nat.le_refl _) (by omega) (by rw [hS.2.1 0 (by decide)]; exact a1) a3 a4 hT1 hz hrm hcl hf) ?_)
      rintro _ σ2 ⟨rfl, hP2, k2, hk2, h352, hv2⟩
      have h2 := mSh_fr h1 hP2.1
      obtain ⟨kD, d1, d2⟩ := nP_pq hT1.2.2.1 hP2 (by omega)
      have hkD := nV_le d1 zD
      refine gp_cV (mh_me h2) (gp_mono (r_over (y := 0) h2 h352 hv2 d1 zD0 (by omega) (by omega) (by omega) (by omega) (by omega) hf) ?_)
      rintro _ σ3 ⟨rfl, hP3, k3, hk3, h353, hv3⟩
      have h3 := mSh_fr h2 hP3.1
      have hv23 := nV_pq hv2 hP3 (Or.inl (by omega))
      have d13 := nV_pq d1 hP3 (Or.inl (by omega))
      refine gp_cV (mh_me h3) (gp_mono (r_by (y := 0) h3 h353 hv3 d13 (by omega) (by omega) (by omega) (by omega) (by omega) hf) ?_)
      rintro _ σ4 ⟨rfl, hP4, k4, hk4, h354, hv4⟩
      have h4 := mSh_fr h3 hP4.1
      have hv24 := nV_pq hv23 hP4 (Or.inl (by omega))
      have hv34 := nV_pq hv3 hP4 (Or.inl (by omega))
      refine gp_cV (mh_me h4) (gp_mono (r_compare h4 hv4 hv24 (by omega) (by omega) hf) ?_)
      rintro _ σ0 ⟨z0, rfl⟩
      rw [z0]
      clear z0 σ0
      have hPP : Pq M 447200 527200 σ1 σ4 := Pq_trans (Pq_mono hP2 (by omega) (by omega)) (Pq_trans (Pq_mono hP3 (by omega) (by omega)) (Pq_mono hP4 (by omega) (by omega)))
      refine gp_if (fun q => ?_) (fun q => ?_)
      · rw [isg_iz, em_z] at q
        unfold X12_brokenVariable_b76 X12_brokenVariable_b96
        refine gp_t rfl ?_
        refine gp_wI (mh_me h4) rfl ?_
        refine gp_t rfl (nxt _ (Sq_trans hS (Sq_put hPP (Nat.le_refl _) ht1)) ?_)
        rw [hbk]
        exact decide_eq_false (fun e => e q)
      · rw [isg_iz, em_z] at q
        unfold X12_brokenVariable_b76 X12_brokenVariable_b96 X12_splitAt
        refine gp_f (by decide) ?_
        refine gp_rI (mh_me h4) rfl ?_
        rw [hPP.2.1 24 (by decide) (by decide), hS.2.1 24 (by decide), h24]
        refine gp_cB (gp_ret ?_)
        rw [at_s]
        refine gp_cV (mh_me h4) (gp_mono (r_copyTo (to := 16456 + 300 * k) h4 hv34 (by omega) (by omega) (Or.inl (by omega)) hf) ?_)
        rintro _ σ5 ⟨hP5, hF5, hv5⟩
        have h5 := mSh_fr h4 hP5.1
        refine gp_wI (mh_me h5) rfl ?_
        refine gp_f (by decide) ?_
        rw [← hQ]
        refine gp_ret (Or.inr ⟨i, r, fst1_some hl (by rw [hbk]; exact decide_eq_true q) hin, hx, rfl, ?_, ?_⟩)
        · have r1 : Rq M (fun x => x = 35) (fun _ => False) (fun i => 16456 + 300 * k ≤ i ∧ i < 16456 + 300 * k + 16) σ σ5 := Rq_trans (Rq_sq hS) (Rq_trans (Rq_pq hPP rfl (fun j x y _ => by omega)) (Rq_pq hP5 rfl (fun j _ y x => by omega)))
          refine ⟨Fr_trans r1.1 (Fr_sF (Or.inl rfl)), fun j _ hj => ?_, fun j x y => r1.2.2 j x y⟩
          show tz_u2 (tz_F σ5) M 35 (nI 447200) M j = _
          by_cases e : j = 35
          · rw [e, tz_u2_same, ht]
          · rw [tz_u2_ne _ _ (Or.inr e)]; exact r1.2.1 j e hj
        · exact ⟨k3, hv5, by omega, by omega⟩
  · rw [if_neg w]
    refine gp_t rfl ?_
    refine gp_t rfl (nxt σ1 hS ?_)
    simp only [isBrk]
    cases ix bs i m with
    | none => rfl
    | some r => simp [w]
end RW
