/-! ===== Rows ===== -/
theorem i32_nat {x : Int32} (h : 0 ≤ x.toInt) : ∃ k : Nat, x = nI k ∧ k < 2 ^ 31 ∧ x.toInt = k := by
  have h2 := az_hi32 x
  refine ⟨x.toInt.toNat, ?_, by omega, by omega⟩
  rw [← Int32.toInt_inj, nI_toInt (by omega)]
  omega
theorem i32_le {k : Nat} {x : Int32} (hk : k < 2 ^ 31) : nI k ≤ x ↔ (k : Int) ≤ x.toInt := by rw [Int32.le_iff_toInt_le, nI_toInt hk]
theorem i32_lt0 {x : Int32} : x < 0 ↔ x.toInt < 0 := by rw [Int32.lt_iff_toInt_lt]; rfl
def rwV (σ : tz_S) (o n m : Nat) (A : Nat → Nat → Int) (kd : Nat → Nat) (bb : Nat → Int) (wh : Nat → Bool) (dr : Nat → Int) : Prop :=
  (tz_F σ (o + 1) 5 = nI n ∧ tz_F σ (o + 1) 6 = nI m ∧ n ≤ 10 ∧ m ≤ 12) ∧
  (∀ r x, r < m → x < 10 → (tz_A σ (o + 3 + r) x).toInt = A r x) ∧ (∀ r, r < m → tz_A σ (o + 15) r = nI (kd r) ∧ kd r ≤ 2) ∧ (∀ r, r < m → (tz_A σ (o + 16) r).toInt = bb r) ∧
  (∀ x, x < 10 → tz_A σ (o + 17) x = if wh x = true then 1 else 0) ∧ (∀ x, x < 10 → (tz_A σ (o + 18) x).toInt = dr x)
theorem rwV_fr {P : Nat → Prop} {σ σ1 : tz_S} {o n m : Nat} {A : Nat → Nat → Int} {kd : Nat → Nat} {bb dr : Nat → Int} {wh : Nat → Bool} (h : rwV σ o n m A kd bb wh dr) (hf : Fr P σ σ1) (hP : ∀ x, o + 1 ≤ x → x ≤ o + 18 → ¬ P x) : rwV σ1 o n m A kd bb wh dr := by
  obtain ⟨⟨h1, h2, h3, h3'⟩, h4, h5, h6, h7, h8⟩ := h
  refine ⟨⟨?_, ?_, h3, h3'⟩, ?_, ?_, ?_, ?_, ?_⟩
  · rw [Fr_F hf (hP _ (by omega) (by omega))]; exact h1
  · rw [Fr_F hf (hP _ (by omega) (by omega))]; exact h2
  · intro r x hr hx
    rw [Fr_A hf (hP _ (by omega) (by omega))]; exact h4 r x hr hx
  · rw [Fr_A hf (hP _ (by omega) (by omega))]; exact h5
  · rw [Fr_A hf (hP _ (by omega) (by omega))]; exact h6
  · rw [Fr_A hf (hP _ (by omega) (by omega))]; exact h7
  · rw [Fr_A hf (hP _ (by omega) (by omega))]; exact h8
section RW
variable {f o N n m : Nat} {σ : tz_S} {A : Nat → Nat → Int} {kd : Nat → Nat} {bb dr : Nat → Int} {wh : Nat → Bool}
theorem c_hasVariable {x : Int32} (hc : cSh σ o N) (hw : rwV σ o n m A kd bb wh dr) : gp (X6_hasVariable f (some (o + 1)) x) σ (fun y σ' => σ' = σ ∧ y = if 0 ≤ x.toInt ∧ x.toInt < n then 1 else 0) := by
  obtain ⟨⟨h1, h2, h3, h3'⟩, -⟩ := hw
  unfold X6_hasVariable X6_hasVariable_b16 X6_hasVariable_b17
  refine gp_if (fun h => ?_) (fun h => ?_)
  · rw [i32_lt0] at h
    refine gp_zz (Or.inl rfl) (gp_ret ⟨rfl, ?_⟩)
    rw [if_neg (by omega)]
  rw [i32_lt0] at h
  refine gp_rI (cs_rows hc) rfl ?_
  rw [h1]
  refine gp_if (fun h' => ?_) (fun h' => ?_)
  · rw [i32_le (by omega)] at h'
    refine gp_zz (Or.inl rfl) (gp_ret ⟨rfl, ?_⟩)
    rw [if_neg (by omega)]
  · rw [i32_le (by omega)] at h'
    refine gp_zz (Or.inr rfl) (gp_ret ⟨rfl, ?_⟩)
    rw [if_pos (by omega)]
theorem c_hasRow {x : Int32} (hc : cSh σ o N) (hw : rwV σ o n m A kd bb wh dr) : gp (X6_hasRow f (some (o + 1)) x) σ (fun y σ' => σ' = σ ∧ y = if 0 ≤ x.toInt ∧ x.toInt < m then 1 else 0) := by
  obtain ⟨⟨h1, h2, h3, h3'⟩, -⟩ := hw
  unfold X6_hasRow X6_hasRow_b16 X6_hasRow_b17
  refine gp_if (fun h => ?_) (fun h => ?_)
  · rw [i32_lt0] at h
    refine gp_zz (Or.inl rfl) (gp_ret ⟨rfl, ?_⟩)
    rw [if_neg (by omega)]
  rw [i32_lt0] at h
  refine gp_rI (cs_rows hc) rfl ?_
  rw [h2]
  refine gp_if (fun h' => ?_) (fun h' => ?_)
  · rw [i32_le (by omega)] at h'
    refine gp_zz (Or.inl rfl) (gp_ret ⟨rfl, ?_⟩)
    rw [if_neg (by omega)]
  · rw [i32_le (by omega)] at h'
    refine gp_zz (Or.inr rfl) (gp_ret ⟨rfl, ?_⟩)
    rw [if_pos (by omega)]
def rwP (o : Nat) : Nat → Prop := fun x => o + 1 ≤ x ∧ x ≤ o + 18
theorem c_renew {k : Nat} (hc : cSh σ o N) (hf : 2000 ≤ f) (hk : k ≤ 10) : gp (X6_renew f (some (o + 1)) (nI k)) σ (fun _ σ' => Fr (rwP o) σ σ' ∧ rwV σ' o k 0 A kd bb (fun _ => false) (fun _ => 0)) := by
  unfold X6_renew
  refine gp_wI (cs_rows hc) rfl ?_
  have hF1 : Fr (rwP o) σ (tz_sF σ (o + 1) 5 (nI k)) := Fr_sF (by unfold rwP; omega)
  refine gp_wI (cs_rows (cs_fr hc hF1)) rfl ?_
  have hF2 := Fr_trans hF1 (Fr_sF (a := o + 1) (k := 6) (v := 0) (by unfold rwP; omega))
  have g1 : tz_F (tz_sF (tz_sF σ (o + 1) 5 (nI k)) (o + 1) 6 0) (o + 1) 5 = nI k := by
    show tz_u2 (tz_u2 (tz_F σ) (o + 1) 5 (nI k)) (o + 1) 6 0 (o + 1) 5 = _
    rw [tz_u2_ne _ _ (Or.inr (by decide)), tz_u2_same]
  have g2 : tz_F (tz_sF (tz_sF σ (o + 1) 5 (nI k)) (o + 1) 6 0) (o + 1) 6 = 0 := tz_u2_same _ _ _ _
  generalize tz_sF (tz_sF σ (o + 1) 5 (nI k)) (o + 1) 6 0 = σ2 at *
  unfold X6_renew_L12
  refine gp_loop (I := fun (τ : Int32) (σ' : tz_S) => ∃ i, τ = nI i ∧ i ≤ 10 ∧ Fr (rwP o) σ σ' ∧ tz_F σ' (o + 1) 5 = nI k ∧ tz_F σ' (o + 1) 6 = 0 ∧ ∀ x, x < i → tz_A σ' (o + 17) x = 0 ∧ tz_A σ' (o + 18) x = 0) (fun τ _ => 100 - τ.toNatClampNeg) ?_ f _ _ ⟨0, rfl, Nat.zero_le _, hF2, g1, g2, fun x hx => absurd hx (Nat.not_lt_zero _)⟩ (by omega)
  rintro K l2 σ3 ⟨i, rfl, hi, hF3, k1, k2, k3⟩ hK
  show gp (X6_renew_L12_body f (some (o + 1)) (fun l2 => K l2) (nI i)) σ3 _
  unfold X6_renew_L12_body
  have hc3 := cs_fr hc hF3
  refine gp_if (fun h => ?_) (fun h => ?_)
  · rw [show (10 : Int32) = nI 10 from rfl, nI_leI (by omega) (by omega)] at h
    refine gp_ret ⟨hF3, ⟨k1, k2, hk, by omega⟩, fun r x hr _ => absurd hr (Nat.not_lt_zero _), fun r hr => absurd hr (Nat.not_lt_zero _), fun r hr => absurd hr (Nat.not_lt_zero _), ?_, ?_⟩
    · intro x hx
      rw [(k3 x (by omega)).1]
      simp
    · intro x hx
      rw [(k3 x (by omega)).2]
      rfl
  · rw [show (10 : Int32) = nI 10 from rfl, nI_leI (by omega) (by omega)] at h
    refine gp_rR (cs_rows hc3) rfl ?_
    refine gp_sZ (j := i) (cs_iswh hc3) (by omega) (by omega) rfl (Or.inl rfl) ?_
    have hF4 := Fr_trans hF3 (Fr_sA (a := o + 17) (k := i) (v := 0) (by unfold rwP; omega))
    have hc4 := cs_fr hc hF4
    refine gp_rR (cs_rows hc4) rfl ?_
    refine gp_sI (j := i) (cs_draft hc4) (by decide) (by omega) (by omega) rfl ?_
    have hF5 := Fr_trans hF4 (Fr_sA (a := o + 18) (k := i) (v := 0) (by unfold rwP; omega))
    refine gp_let ?_
    rw [nI_1]
    refine hK _ _ ⟨i + 1, rfl, by omega, hF5, k1, k2, ?_⟩ (by rw [nI_clamp (by omega), nI_clamp (by omega)]; omega)
    intro x hx
    show tz_u2 (tz_u2 (tz_A σ3) (o + 17) i 0) (o + 18) i 0 (o + 17) x = 0 ∧ tz_u2 (tz_u2 (tz_A σ3) (o + 17) i 0) (o + 18) i 0 (o + 18) x = 0
    by_cases z : x = i
    · simp [tz_u2, z]
    · have := k3 x (by omega)
      simp [tz_u2, z, this]
theorem c_endDraft {k : Nat} {b : Int32} (hc : cSh σ o N) (hw : rwV σ o n m A kd bb wh dr) (hf : 2000 ≤ f) (hm : m < 12) (hk : k ≤ 2) : gp (X6_endDraft f (some (o + 1)) (nI k) b) σ (fun y σ' => y = nI m ∧ Fr (rwP o) σ σ' ∧ rwV σ' o n (m + 1) (fun r x => if r = m then dr x else A r x) (fun r => if r = m then k else kd r) (fun r => if r = m then b.toInt else bb r) wh (fun _ => 0)) := by
  obtain ⟨⟨h1, h2, h3, h3'⟩, h4, h5, h6, h7, h8⟩ := hw
  unfold X6_endDraft
  refine gp_rI (cs_rows hc) rfl ?_
  rw [h2]
  unfold X6_endDraft_L8
  refine gp_loop (I := fun (τ : Int32) (σ' : tz_S) => ∃ i, τ = nI i ∧ i ≤ 10 ∧ Fr (rwP o) σ σ' ∧ tz_F σ' (o + 1) 5 = nI n ∧ tz_F σ' (o + 1) 6 = nI m ∧ (∀ r x, r < m → x < 10 → (tz_A σ' (o + 3 + r) x).toInt = A r x) ∧ tz_A σ' (o + 15) = tz_A σ (o + 15) ∧ tz_A σ' (o + 16) = tz_A σ (o + 16) ∧ tz_A σ' (o + 17) = tz_A σ (o + 17) ∧ (∀ x, x < i → (tz_A σ' (o + 3 + m) x).toInt = dr x ∧ (tz_A σ' (o + 18) x).toInt = 0) ∧ (∀ x, i ≤ x → x < 10 → (tz_A σ' (o + 18) x).toInt = dr x)) (fun τ _ => 100 - τ.toNatClampNeg) ?_ f _ _ ⟨0, rfl, Nat.zero_le _, Fr_refl, h1, h2, h4, rfl, rfl, rfl, fun x hx => absurd hx (Nat.not_lt_zero _), fun x _ hx => h8 x hx⟩ (by omega)
  rintro K l4 σ3 ⟨i, rfl, hi, hF3, k1, k2, k3, k4, k5, k6, k7, k8⟩ hK
  show gp (X6_endDraft_L8_body f (some (o + 1)) (nI k) b (nI m) (fun l4 => K l4) (nI i)) σ3 _
  unfold X6_endDraft_L8_body
  have hc3 := cs_fr hc hF3
  refine gp_if (fun h => ?_) (fun h => ?_)
  · rw [show (10 : Int32) = nI 10 from rfl, nI_leI (by omega) (by omega)] at h
    have : i = 10 := by omega
    subst this
    refine gp_rR (cs_rows hc3) rfl ?_
    refine gp_sI (j := m) (cs_kinds hc3) (by decide) (by omega) (by omega) rfl ?_
    have hF4 := Fr_trans hF3 (Fr_sA (a := o + 15) (k := m) (v := nI k) (by unfold rwP; omega))
    have hc4 := cs_fr hc hF4
    refine gp_rR (cs_rows hc4) rfl ?_
    refine gp_sI (j := m) (cs_nums hc4) (by decide) (by omega) (by omega) rfl ?_
    have hF5 := Fr_trans hF4 (Fr_sA (a := o + 16) (k := m) (v := b) (by unfold rwP; omega))
    have hc5 := cs_fr hc hF5
    refine gp_rI (cs_rows hc5) rfl ?_
    refine gp_wI (cs_rows hc5) rfl ?_
    have hF6 := Fr_trans hF5 (Fr_sF (a := o + 1) (k := 6) (v := nI m + 1) (by unfold rwP; omega))
    rw [show tz_F (tz_sA (tz_sA σ3 (o + 15) m (nI k)) (o + 16) m b) (o + 1) 6 = nI m from k2]
    refine gp_ret ⟨rfl, hF6, ⟨?_, ?_, h3, by omega⟩, ?_, ?_, ?_, ?_, ?_⟩
    · show tz_u2 (tz_F σ3) (o + 1) 6 (nI m + 1) (o + 1) 5 = _
      rw [tz_u2_ne _ _ (Or.inr (by decide))]; exact k1
    · show tz_u2 (tz_F σ3) (o + 1) 6 (nI m + 1) (o + 1) 6 = _
      rw [tz_u2_same, nI_1]
    · intro r x hr hx
      show (tz_u2 (tz_u2 (tz_A σ3) (o + 15) m (nI k)) (o + 16) m b (o + 3 + r) x).toInt = _
      rw [tz_u2_ne _ _ (Or.inl (by omega)), tz_u2_ne _ _ (Or.inl (by omega))]
      by_cases z : r = m
      · simp only [z, if_true]; exact (k7 x hx).1
      · simp only [z, if_false]; exact k3 r x (by omega) hx
    · intro r hr
      show tz_u2 (tz_u2 (tz_A σ3) (o + 15) m (nI k)) (o + 16) m b (o + 15) r = _ ∧ _
      rw [tz_u2_ne _ _ (Or.inl (by omega))]
      by_cases z : r = m
      · subst z; rw [tz_u2_same]; simp [hk]
      · rw [tz_u2_ne _ _ (Or.inr z), k4]
        simp only [z, if_false]
        exact h5 r (by omega)
    · intro r hr
      show (tz_u2 (tz_u2 (tz_A σ3) (o + 15) m (nI k)) (o + 16) m b (o + 16) r).toInt = _
      by_cases z : r = m
      · subst z; rw [tz_u2_same]; simp
      · rw [tz_u2_ne _ _ (Or.inr z), tz_u2_ne _ _ (Or.inl (by omega)), k5]
        simp only [z, if_false]
        exact h6 r (by omega)
    · intro x hx
      show tz_u2 (tz_u2 (tz_A σ3) (o + 15) m (nI k)) (o + 16) m b (o + 17) x = _
      rw [tz_u2_ne _ _ (Or.inl (by omega)), tz_u2_ne _ _ (Or.inl (by omega)), k6]
      exact h7 x hx
    · intro x hx
      show (tz_u2 (tz_u2 (tz_A σ3) (o + 15) m (nI k)) (o + 16) m b (o + 18) x).toInt = _
      rw [tz_u2_ne _ _ (Or.inl (by omega)), tz_u2_ne _ _ (Or.inl (by omega))]
      exact (k7 x hx).2
  · rw [show (10 : Int32) = nI 10 from rfl, nI_leI (by omega) (by omega)] at h
    refine gp_rR (cs_rows hc3) rfl ?_
    refine gp_aR (j := m) (cs_grid hc3) (by decide) (by omega) (by omega) rfl ?_
    rw [(cs_line hc3 m (by omega)).2]
    refine gp_rR (cs_rows hc3) rfl ?_
    refine gp_aI (j := i) (cs_draft hc3) (by decide) (by omega) (by omega) rfl ?_
    refine gp_sI (j := i) (cs_line hc3 m (by omega)).1 (by decide) (by omega) (by omega) rfl ?_
    have hF4 := Fr_trans hF3 (Fr_sA (a := o + 3 + m) (k := i) (v := tz_A σ3 (o + 18) i) (by unfold rwP; omega))
    have hc4 := cs_fr hc hF4
    refine gp_rR (cs_rows hc4) rfl ?_
    refine gp_sI (j := i) (cs_draft hc4) (by decide) (by omega) (by omega) rfl ?_
    have hF5 := Fr_trans hF4 (Fr_sA (a := o + 18) (k := i) (v := 0) (by unfold rwP; omega))
    refine gp_let ?_
    rw [nI_1]
    have hdi := k8 i (Nat.le_refl _) (by omega)
    generalize tz_A σ3 (o + 18) i = w at hdi hF5 ⊢
    refine hK _ _ ⟨i + 1, rfl, by omega, hF5, k1, k2, ?_, ?_, ?_, ?_, ?_, ?_⟩ (by rw [nI_clamp (by omega), nI_clamp (by omega)]; omega)
    · intro r x hr hx
      show (tz_u2 (tz_u2 (tz_A σ3) (o + 3 + m) i w) (o + 18) i 0 (o + 3 + r) x).toInt = _
      rw [tz_u2_ne _ _ (Or.inl (by omega)), tz_u2_ne _ _ (Or.inl (by omega))]
      exact k3 r x hr hx
    · show tz_u2 (tz_u2 (tz_A σ3) (o + 3 + m) i w) (o + 18) i 0 (o + 15) = _
      rw [tz_u2_row _ _ _ _ (by omega), tz_u2_row _ _ _ _ (by omega)]; exact k4
    · show tz_u2 (tz_u2 (tz_A σ3) (o + 3 + m) i w) (o + 18) i 0 (o + 16) = _
      rw [tz_u2_row _ _ _ _ (by omega), tz_u2_row _ _ _ _ (by omega)]; exact k5
    · show tz_u2 (tz_u2 (tz_A σ3) (o + 3 + m) i w) (o + 18) i 0 (o + 17) = _
      rw [tz_u2_row _ _ _ _ (by omega), tz_u2_row _ _ _ _ (by omega)]; exact k6
    · intro x hx
      show (tz_u2 (tz_u2 (tz_A σ3) (o + 3 + m) i w) (o + 18) i 0 (o + 3 + m) x).toInt = _ ∧ (tz_u2 (tz_u2 (tz_A σ3) (o + 3 + m) i w) (o + 18) i 0 (o + 18) x).toInt = 0
      by_cases z : x = i
      · subst z
        rw [tz_u2_ne _ _ (Or.inl (by omega)), tz_u2_same, tz_u2_same]
        exact ⟨hdi, rfl⟩
      · have := k7 x (by omega)
        rw [tz_u2_ne _ _ (Or.inl (by omega)), tz_u2_ne _ _ (Or.inr z), tz_u2_ne _ _ (Or.inr z), tz_u2_ne _ _ (Or.inl (by omega))]
        exact this
    · intro x hx1 hx2
      show (tz_u2 (tz_u2 (tz_A σ3) (o + 3 + m) i w) (o + 18) i 0 (o + 18) x).toInt = _
      rw [tz_u2_ne _ _ (Or.inr (by omega)), tz_u2_ne _ _ (Or.inl (by omega))]
      exact k8 x (by omega) hx2
end RW
