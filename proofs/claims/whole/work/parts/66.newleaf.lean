/-! ===== a Leaf made anew ===== -/
section ML
variable {ρ : Type} {f : Nat} {σ : tz_S} {Q : ρ → tz_S → Prop}
set_option maxHeartbeats 1000000 in
theorem gp_newLeaf {R : Option Nat → pz_C ρ} (hf : 2000 ≤ f) (h : ∀ σ', Gr noP σ σ' → tz_nc σ' = tz_nc σ + 162 → tz_ns σ' = tz_ns σ + 801 → lfSh σ' (tz_nc σ) → lfV σ' (tz_nc σ) (fun _ => (0, 1)) → gp (R (some (tz_nc σ))) σ' Q) :
    gp (pz_new 5 1 [.null] fun x => pz_nn x <| pz_cB (X5_init f x) fun _ => R x) σ Q := by
  refine gp_new (lay := [some none]) rfl (gp_nn (gp_cB ?_))
  unfold X5_init
  refine gp_nn ?_
  refine gp_newR (n := 32) (by decide) (by decide) rfl ?_
  have e1 : tz_nc (tz_al σ 1 (.inl (5, [some none]))) = tz_nc σ + 1 := rfl
  rw [e1]
  have s1 : tz_sh (tz_al (tz_al σ 1 (.inl (5, [some none]))) 32 (.inr (4, 32))) (tz_nc σ) = some (.inl (5, [some none])) := (al_shn (by rw [e1]; omega)).trans al_sh
  refine gp_wR (r := some (tz_nc σ + 1)) s1 (by decide) ?_
  have G3 : Gr noP σ (tz_sS (tz_al (tz_al σ 1 (.inl (5, [some none]))) 32 (.inr (4, 32))) (tz_nc σ) (.inl (5, [some (some (tz_nc σ + 1))]))) := Gr_sS (Gr_trans Gr_al Gr_al) (Nat.le_refl _)
  have c3 : tz_nc (tz_sS (tz_al (tz_al σ 1 (.inl (5, [some none]))) 32 (.inr (4, 32))) (tz_nc σ) (.inl (5, [some (some (tz_nc σ + 1))]))) = tz_nc σ + 2 := rfl
  have d3 : tz_ns (tz_sS (tz_al (tz_al σ 1 (.inl (5, [some none]))) 32 (.inr (4, 32))) (tz_nc σ) (.inl (5, [some (some (tz_nc σ + 1))]))) = tz_ns σ + 33 := rfl
  have s3 : tz_sh (tz_sS (tz_al (tz_al σ 1 (.inl (5, [some none]))) 32 (.inr (4, 32))) (tz_nc σ) (.inl (5, [some (some (tz_nc σ + 1))]))) (tz_nc σ) = some (.inl (5, [some (some (tz_nc σ + 1))])) := sS_sh
  have t3 : tz_sh (tz_sS (tz_al (tz_al σ 1 (.inl (5, [some none]))) 32 (.inr (4, 32))) (tz_nc σ) (.inl (5, [some (some (tz_nc σ + 1))]))) (tz_nc σ + 1) = some (.inr (4, 32)) := (sS_shn (by omega)).trans al_sh
  show gp _ (tz_sS (tz_al (tz_al σ 1 (.inl (5, [some none]))) 32 (.inr (4, 32))) (tz_nc σ) (.inl (5, [some (some (tz_nc σ + 1))]))) _
  generalize tz_sS (tz_al (tz_al σ 1 (.inl (5, [some none]))) 32 (.inr (4, 32))) (tz_nc σ) (.inl (5, [some (some (tz_nc σ + 1))])) = σ3 at *
  generalize hl : tz_nc σ = l at *
  unfold X5_init_L15
  refine gp_loop (I := fun (τ : Int32) (σ' : tz_S) => ∃ i, τ = nI i ∧ i ≤ 32 ∧ Gr noP σ σ' ∧ tz_nc σ' = l + 2 + 5 * i ∧ tz_ns σ' = tz_ns σ + 33 + 24 * i ∧ tz_sh σ' l = some (.inl (5, [some (some (l + 1))])) ∧ tz_sh σ' (l + 1) = some (.inr (4, 32)) ∧ ∀ j, j < i → Fz σ' (l + 2 + 5 * j) 8 0 1 ∧ tz_R σ' (l + 1) j = some (l + 2 + 5 * j)) (fun τ _ => 100 - τ.toNatClampNeg) ?_ f _ _ ⟨0, rfl, Nat.zero_le _, G3, by rw [c3], by rw [d3], s3, t3, fun j hj => absurd hj (Nat.not_lt_zero _)⟩ (by omega)
  rintro K l1 σ4 ⟨i, rfl, hi, G4, c4, d4, s4, t4, h4⟩ hK
  show gp (X5_init_L15_body f (some l) (fun l1 => K l1) (nI i)) σ4 _
  unfold X5_init_L15_body
  refine gp_rR s4 rfl ?_
  refine gp_len t4 ?_
  refine gp_if (fun z => ?_) (fun z => ?_)
  · rw [nI_leI (by omega) (by omega)] at z
    have : i = 32 := by omega
    subst this
    exact gp_ret (h σ4 G4 (by rw [c4]) (by rw [d4]) ⟨s4, t4, fun j hj => ⟨Fz_sh (h4 j hj).1, (h4 j hj).2⟩⟩ (fun j hj => (h4 j hj).1))
  · rw [nI_leI (by omega) (by omega)] at z
    refine gp_rR s4 rfl ?_
    refine gp_newFr (n := 8) hf (by decide) (by decide) rfl ?_
    rintro σ5 G5 c5 d5 b5
    rw [c4] at c5 b5 ⊢
    have s5 : tz_sh σ5 l = some (.inl (5, [some (some (l + 1))])) := (G5.2.2 _ (by omega)).1.trans s4
    have t5 : tz_sh σ5 (l + 1) = some (.inr (4, 32)) := (G5.2.2 _ (by omega)).1.trans t4
    refine gp_sR (j := i) t5 (by decide) b5.1 (by omega) (by omega) rfl ?_
    refine gp_let ?_
    rw [nI_1]
    refine hK _ _ ⟨i + 1, rfl, by omega, Gr_sRn (Gr_trans G4 G5) (Or.inr (by omega)), by show tz_nc σ5 = _; omega, by show tz_ns σ5 = _; omega, s5, t5, ?_⟩ (by rw [nI_clamp (by omega), nI_clamp (by omega)]; omega)
    intro j hj
    show Fz σ5 _ _ _ _ ∧ tz_u2 (tz_R σ5) (l + 1) i (some (l + 2 + 5 * i)) (l + 1) j = _
    by_cases zz : j = i
    · subst zz
      rw [tz_u2_same]
      exact ⟨b5, rfl⟩
    · obtain ⟨q1, q2⟩ := h4 j (by omega)
      rw [tz_u2_ne _ _ (Or.inr zz), ((G5.2.2 (l + 1) (by omega)).2 (fun w => w)).2.2.2]
      exact ⟨Fz_gro q1 G5 (by omega) (fun _ _ _ w => w), q2⟩
end ML
