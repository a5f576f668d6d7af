/-! ===== Tableau.begin ===== -/
section BG
variable {f o N n m : Nat} {σ σ1 : tz_S} {A : Nat → Nat → Int} {kd : Nat → Nat} {bb dr : Nat → Int} {wh : Nat → Bool}
def tbC (σ : tz_S) (o j : Nat) : Prop := ∀ c, c < j → (tz_L σ (o + 35) c).toInt = 0 ∧ tz_A σ (o + 37) c = nI c ∧ tz_A σ (o + 38) c = nI c ∧ tz_A σ (o + 39) c = 0
def tbR (σ : tz_S) (o n i : Nat) : Prop := ∀ r, r < i → Bz σ (o + 288 + 2 * r) 12 0 ∧ tz_A σ (o + 36) r = nI (n + r) ∧ tz_A σ (o + 38) (n + r) = nI r ∧ tz_A σ (o + 39) (n + r) = 1
def tbX (σ : tz_S) (o n i k : Nat) (A : Nat → Nat → Int) : Prop := ∀ r c, c < n → (r < i ∨ (r = i ∧ c < k)) → Bz σ (o + 48 + 2 * (10 * r + c)) 8 (A r c)
def tbH (σ : tz_S) (o n m : Nat) : Prop := tz_F σ (o + 32) 13 = nI m ∧ tz_F σ (o + 32) 14 = nI n ∧ Bz σ (o + 40) 8 1
theorem tbC_fr {P : Nat → Prop} {j : Nat} (h : tbC σ o j) (hf : Fr P σ σ1) (hP : ∀ x, o + 35 ≤ x → x ≤ o + 39 → ¬ P x) : tbC σ1 o j := by
  intro c hc
  rw [Fr_L hf (hP _ (by omega) (by omega)), Fr_A hf (hP (o + 37) (by omega) (by omega)), Fr_A hf (hP (o + 38) (by omega) (by omega)), Fr_A hf (hP (o + 39) (by omega) (by omega))]
  exact h c hc
theorem tbR_fr {P : Nat → Prop} {i : Nat} (h : tbR σ o n i) (hf : Fr P σ σ1) (hP : ∀ x, o + 35 ≤ x → x ≤ o + 39 → ¬ P x) (hP2 : ∀ r, r < i → ¬ P (o + 288 + 2 * r) ∧ ¬ P (o + 288 + 2 * r + 1)) : tbR σ1 o n i := by
  intro r hr
  rw [Fr_A hf (hP (o + 36) (by omega) (by omega)), Fr_A hf (hP (o + 38) (by omega) (by omega)), Fr_A hf (hP (o + 39) (by omega) (by omega))]
  exact ⟨Bz_fr (h r hr).1 hf (hP2 r hr).1 (hP2 r hr).2, (h r hr).2⟩
theorem tbH_fr {P : Nat → Prop} (h : tbH σ o n m) (hf : Fr P σ σ1) (h1 : ¬ P (o + 32)) (h2 : ¬ P (o + 40)) (h3 : ¬ P (o + 41)) : tbH σ1 o n m := ⟨by rw [Fr_F hf h1]; exact h.1, by rw [Fr_F hf h1]; exact h.2.1, Bz_fr h.2.2 hf h2 h3⟩
theorem tbX_fr {P : Nat → Prop} {i k : Nat} (h : tbX σ o n i k A) (hf : Fr P σ σ1) (hn : n ≤ 10) (hi : i ≤ 12) (hP : ∀ r c, c < n → (r < i ∨ (r = i ∧ c < k)) → ¬ P (o + 48 + 2 * (10 * r + c)) ∧ ¬ P (o + 48 + 2 * (10 * r + c) + 1)) : tbX σ1 o n i k A := fun r c hc hr => Bz_fr (h r c hc hr) hf (hP r c hc hr).1 (hP r c hc hr).2
theorem c_seatColumn {c p : Nat} (hc : cSh σ o N) (h1 : c < 10) (h2 : p < 22) : gp (X9_seatColumn f (some (o + 32)) (nI c) (nI p)) σ (fun _ σ' => σ' = tz_sA (tz_sA (tz_sA σ (o + 37) c (nI p)) (o + 38) p (nI c)) (o + 39) p 0) := by
  unfold X9_seatColumn
  refine gp_rR (cs_tab hc) rfl ?_
  refine gp_sI (j := c) (cs_cpl hc) (by decide) (by omega) (by omega) rfl ?_
  have hc2 : cSh (tz_sA σ (o + 37) c (nI p)) o N := hc
  refine gp_rR (cs_tab hc2) rfl ?_
  refine gp_sI (j := p) (cs_lines hc2) (by decide) (by omega) (by omega) rfl ?_
  have hc3 : cSh (tz_sA (tz_sA σ (o + 37) c (nI p)) (o + 38) p (nI c)) o N := hc
  refine gp_rR (cs_tab hc3) rfl ?_
  refine gp_sZ (j := p) (cs_isb hc3) (by omega) (by omega) rfl (Or.inl rfl) ?_
  exact gp_ret rfl
theorem c_seatRow {r p : Nat} (hc : cSh σ o N) (h1 : r < 12) (h2 : p < 22) : gp (X9_seatRow f (some (o + 32)) (nI r) (nI p)) σ (fun _ σ' => σ' = tz_sA (tz_sA (tz_sA σ (o + 36) r (nI p)) (o + 38) p (nI r)) (o + 39) p 1) := by
  unfold X9_seatRow
  refine gp_rR (cs_tab hc) rfl ?_
  refine gp_sI (j := r) (cs_rpl hc) (by decide) (by omega) (by omega) rfl ?_
  have hc2 : cSh (tz_sA σ (o + 36) r (nI p)) o N := hc
  refine gp_rR (cs_tab hc2) rfl ?_
  refine gp_sI (j := p) (cs_lines hc2) (by decide) (by omega) (by omega) rfl ?_
  have hc3 : cSh (tz_sA (tz_sA σ (o + 36) r (nI p)) (o + 38) p (nI r)) o N := hc
  refine gp_rR (cs_tab hc3) rfl ?_
  refine gp_sZ (j := p) (cs_isb hc3) (by omega) (by omega) rfl (Or.inr rfl) ?_
  exact gp_ret rfl
set_option maxHeartbeats 2000000 in
theorem c_begin (hc : cSh σ o N) (hw : rwV σ o n m A kd bb wh dr) (hf : 2000 ≤ f) (hA : ∀ r x, r < m → x < n → -1000000 ≤ A r x ∧ A r x ≤ 1000000) : gp (X9_begin f (some (o + 32)) (some (o + 1))) σ (fun _ σ' => Fr (exP o) σ σ' ∧ (∀ x, x = o + 30 ∨ x = o + 31 → tz_F σ' x = tz_F σ x ∧ tz_L σ' x = tz_L σ x) ∧ tbV σ' o n m 1 A (fun _ => 0) (fun _ => 0) (fun r => n + r) (fun c => c)) := by
  obtain ⟨⟨h1, h2, h3, h3'⟩, h4, h5, h6, h7, h8⟩ := hw
  unfold X9_begin
  refine gp_rI (cs_rows hc) rfl ?_
  rw [h2]
  refine gp_wI (cs_tab hc) rfl ?_
  have hc1 : cSh (tz_sF σ (o + 32) 13 (nI m)) o N := hc
  refine gp_rI (cs_rows hc1) rfl ?_
  rw [show tz_F (tz_sF σ (o + 32) 13 (nI m)) (o + 1) 5 = nI n by show tz_u2 (tz_F σ) (o + 32) 13 (nI m) (o + 1) 5 = _; rw [tz_u2_ne _ _ (Or.inl (by omega))]; exact h1]
  refine gp_wI (cs_tab hc1) rfl ?_
  have hF2 : Fr (fun x => exP o x ∧ x ≠ o + 30 ∧ x ≠ o + 31) σ (tz_sF (tz_sF σ (o + 32) 13 (nI m)) (o + 32) 14 (nI n)) := Fr_trans (Fr_sF (by unfold exP; omega)) (Fr_sF (by unfold exP; omega))
  have g1 : tz_F (tz_sF (tz_sF σ (o + 32) 13 (nI m)) (o + 32) 14 (nI n)) (o + 32) 13 = nI m := by
    show tz_u2 (tz_u2 (tz_F σ) (o + 32) 13 (nI m)) (o + 32) 14 (nI n) (o + 32) 13 = _
    rw [tz_u2_ne _ _ (Or.inr (by decide)), tz_u2_same]
  have g2 : tz_F (tz_sF (tz_sF σ (o + 32) 13 (nI m)) (o + 32) 14 (nI n)) (o + 32) 14 = nI n := tz_u2_same _ _ _ _
  generalize tz_sF (tz_sF σ (o + 32) 13 (nI m)) (o + 32) 14 (nI n) = σ2 at *
  have hc2 := cs_fr hc hF2
  refine gp_rR (cs_tab hc2) rfl ?_
  refine gp_cV (cs_common hc2).1 (gp_mono (c_setLongB (t := 1) (cs_common hc2) hf (by rw [show (1 : Int64).toInt = 1 from rfl]; have := mg_pmono (show 1 ≤ 8 by omega); omega)) ?_)
  rintro _ σ3 ⟨hF3, hb3⟩
  rw [show (1 : Int64).toInt = 1 from rfl] at hb3
  have hF30 := Fr_then hF2 hF3 (fun x hx => by unfold bP at hx; unfold exP; omega)
  have hH3 : tbH σ3 o n m := ⟨by rw [Fr_F hF3 (by unfold bP; omega)]; exact g1, by rw [Fr_F hF3 (by unfold bP; omega)]; exact g2, hb3⟩
  have hwr : ∀ σ', Fr (fun x => exP o x ∧ x ≠ o + 30 ∧ x ≠ o + 31) σ σ' → ∀ r x, r < m → x < 10 → (tz_A σ' (o + 3 + r) x).toInt = A r x := by
    intro σ' hf' r x hr hx
    rw [Fr_A hf' (by unfold exP; omega)]
    exact h4 r x hr hx
  clear hF2 hF3 hc2 g1 g2
  unfold X9_begin_L26
  refine gp_loop (I := fun (τ : Int32) (σ' : tz_S) => ∃ j, τ = nI j ∧ j ≤ n ∧ Fr (fun x => exP o x ∧ x ≠ o + 30 ∧ x ≠ o + 31) σ σ' ∧ tbH σ' o n m ∧ tbC σ' o j) (fun τ _ => 100 - τ.toNatClampNeg) ?_ f _ _ ⟨0, rfl, Nat.zero_le _, hF30, hH3, fun c hc' => absurd hc' (Nat.not_lt_zero _)⟩ (by omega)
  rintro K l2 σ4 ⟨j, rfl, hj, hF4, hH4, hC4⟩ hK
  show gp (X9_begin_L26_body f (some (o + 32)) (some (o + 1)) (fun l2 => K l2) (nI j)) σ4 _
  unfold X9_begin_L26_body
  have hc4 := cs_fr hc hF4
  refine gp_rI (cs_tab hc4) rfl ?_
  rw [hH4.2.1]
  refine gp_if (fun hjn => ?_) (fun hjn => ?_)
  rotate_left
  · rw [nI_leI (by omega) (by omega)] at hjn
    refine gp_rR (cs_tab hc4) rfl ?_
    refine gp_sL (j := j) (cs_rest hc4) (by omega) (by omega) rfl ?_
    have hF5 := Fr_trans hF4 (Fr_sL (a := o + 35) (k := j) (v := 0) (by unfold exP; omega))
    have hc5 := cs_fr hc hF5
    refine gp_cV (cs_tab hc5) (gp_mono (c_seatColumn hc5 (by omega) (by omega)) ?_)
    rintro _ σ6 rfl
    refine gp_let ?_
    rw [nI_1]
    have hF6 := Fr_trans hF5 (Fr_trans (Fr_trans (Fr_sA (a := o + 37) (k := j) (v := nI j) (by unfold exP; omega)) (Fr_sA (a := o + 38) (k := j) (v := nI j) (by unfold exP; omega))) (Fr_sA (a := o + 39) (k := j) (v := 0) (by unfold exP; omega)))
    refine hK _ _ ⟨j + 1, rfl, by omega, hF6, ⟨hH4.1, hH4.2.1, ?_⟩, ?_⟩ (by rw [nI_clamp (by omega), nI_clamp (by omega)]; omega)
    · refine Bz_fr hH4.2.2 (Fr_trans (Fr_trans (Fr_trans (Fr_sL (P := fun x => o + 35 ≤ x ∧ x ≤ o + 39) (a := o + 35) (k := j) (v := 0) (by omega)) (Fr_sA (a := o + 37) (k := j) (v := nI j) (by omega))) (Fr_sA (a := o + 38) (k := j) (v := nI j) (by omega))) (Fr_sA (a := o + 39) (k := j) (v := 0) (by omega))) (by omega) (by omega)
    · intro c hcj
      show (tz_u2 (tz_L σ4) (o + 35) j 0 (o + 35) c).toInt = 0 ∧ tz_u2 (tz_u2 (tz_u2 (tz_A σ4) (o + 37) j (nI j)) (o + 38) j (nI j)) (o + 39) j 0 (o + 37) c = _ ∧ tz_u2 (tz_u2 (tz_u2 (tz_A σ4) (o + 37) j (nI j)) (o + 38) j (nI j)) (o + 39) j 0 (o + 38) c = _ ∧ tz_u2 (tz_u2 (tz_u2 (tz_A σ4) (o + 37) j (nI j)) (o + 38) j (nI j)) (o + 39) j 0 (o + 39) c = 0
      by_cases z : c = j
      · subst z
        simp [tz_u2]
      · have := hC4 c (by omega)
        simp [tz_u2, z, this]
  rw [nI_leI (by omega) (by omega)] at hjn
  have : j = n := by omega
  subst this
  clear hK hjn hj
  unfold X9_begin_L55
  refine gp_loop (I := fun (τ : Int32) (σ' : tz_S) => ∃ i, τ = nI i ∧ i ≤ m ∧ Fr (fun x => exP o x ∧ x ≠ o + 30 ∧ x ≠ o + 31) σ σ' ∧ tbH σ' o j m ∧ tbC σ' o j ∧ tbR σ' o j i ∧ tbX σ' o j i 0 A) (fun τ _ => 100 - τ.toNatClampNeg) ?_ f _ _ ⟨0, rfl, Nat.zero_le _, hF4, hH4, hC4, fun r hr => absurd hr (Nat.not_lt_zero _), fun r c hc' hr => by omega⟩ (by omega)
  clear hF4 hH4 hC4 hc4 σ4 hF30 hH3 hb3 σ3 K
  rintro K l2 σ4 ⟨i, rfl, hi, hF4, hH4, hC4, hR4, hX4⟩ hK
  show gp (X9_begin_L55_body f (some (o + 32)) (some (o + 1)) (fun l2 => K l2) (nI i)) σ4 _
  unfold X9_begin_L55_body
  have hc4 := cs_fr hc hF4
  refine gp_rI (cs_tab hc4) rfl ?_
  rw [hH4.1]
  refine gp_if (fun him => ?_) (fun him => ?_)
  · rw [nI_leI (by omega) (by omega)] at him
    have : i = m := by omega
    subst this
    refine gp_ret ⟨Fr_mono hF4 (fun x hx => hx.1), ?_, ⟨hH4.1, hH4.2.1, h3, h3'⟩, hH4.2.2, fun r c hr hc' => hX4 r c hc' (Or.inl hr), fun r hr => (hR4 r hr).1, fun c hc' => (hC4 c hc').1, ?_, ?_⟩
    · intro x hx
      exact ⟨Fr_F hF4 (by omega), Fr_L hF4 (by omega)⟩
    · intro r hr
      obtain ⟨-, q1, q2, q3⟩ := hR4 r hr
      exact ⟨q1, by show j + r < _; omega, q2, q3⟩
    · intro c hc'
      obtain ⟨-, q1, q2, q3⟩ := hC4 c hc'
      exact ⟨q1, by show c < _; omega, q2, q3⟩
  rw [nI_leI (by omega) (by omega)] at him
  refine gp_rR (cs_tab hc4) rfl ?_
  refine gp_aR (j := i) (cs_ams hc4) (by decide) (by omega) (by omega) rfl ?_
  rw [(cs_am hc4 i (by omega)).2]
  have haS := (cs_am hc4 i (by omega)).1
  refine gp_cV haS.1 (gp_mono (c_setLongB (t := 0) haS hf (by rw [show (0 : Int64).toInt = 0 from rfl]; exact mg_pw 12)) ?_)
  rintro _ σ5 ⟨hF5, hb5⟩
  rw [show (0 : Int64).toInt = 0 from rfl] at hb5
  have hF50 := Fr_then hF4 hF5 (fun x hx => by unfold bP at hx; unfold exP; omega)
  have hc5 := cs_fr hc hF50
  have hH5 := tbH_fr hH4 hF5 (by unfold bP; omega) (by unfold bP; omega) (by unfold bP; omega)
  have hC5 := tbC_fr hC4 hF5 (fun x a b => by unfold bP; omega)
  have hR5 := tbR_fr hR4 hF5 (fun x a b => by unfold bP; omega) (fun r hr => by unfold bP; omega)
  have hX5 := tbX_fr hX4 hF5 h3 (by omega) (fun r c hc' hr => by unfold bP; omega)
  refine gp_rI (cs_tab hc5) rfl ?_
  rw [hH5.2.1, nI_add]
  refine gp_cV (cs_tab hc5) (gp_mono (c_seatRow hc5 (by omega) (by omega)) ?_)
  rintro _ σ6 rfl
  have hF6 : Fr (fun x => o + 36 ≤ x ∧ x ≤ o + 39) σ5 (tz_sA (tz_sA (tz_sA σ5 (o + 36) i (nI (j + i))) (o + 38) (j + i) (nI i)) (o + 39) (j + i) 1) := Fr_trans (Fr_trans (Fr_sA (by omega)) (Fr_sA (by omega))) (Fr_sA (by omega))
  have hF60 := Fr_then hF50 hF6 (fun x hx => by unfold exP; omega)
  have hH6 := tbH_fr hH5 hF6 (by omega) (by omega) (by omega)
  have hX6 := tbX_fr hX5 hF6 h3 (by omega) (fun r c hc' hr => by omega)
  have hC6 : tbC (tz_sA (tz_sA (tz_sA σ5 (o + 36) i (nI (j + i))) (o + 38) (j + i) (nI i)) (o + 39) (j + i) 1) o j := by
    intro c hcj
    show (tz_L σ5 (o + 35) c).toInt = 0 ∧ tz_u2 (tz_u2 (tz_u2 (tz_A σ5) (o + 36) i (nI (j + i))) (o + 38) (j + i) (nI i)) (o + 39) (j + i) 1 (o + 37) c = _ ∧ tz_u2 (tz_u2 (tz_u2 (tz_A σ5) (o + 36) i (nI (j + i))) (o + 38) (j + i) (nI i)) (o + 39) (j + i) 1 (o + 38) c = _ ∧ tz_u2 (tz_u2 (tz_u2 (tz_A σ5) (o + 36) i (nI (j + i))) (o + 38) (j + i) (nI i)) (o + 39) (j + i) 1 (o + 39) c = 0
    have := hC5 c hcj
    have z : c ≠ j + i := by omega
    simp [tz_u2, z, this]
  have hR6 : tbR (tz_sA (tz_sA (tz_sA σ5 (o + 36) i (nI (j + i))) (o + 38) (j + i) (nI i)) (o + 39) (j + i) 1) o j (i + 1) := by
    intro r hri
    refine ⟨?_, ?_⟩
    · by_cases z : r = i
      · subst z; exact Bz_fr hb5 hF6 (by omega) (by omega)
      · exact Bz_fr (hR5 r (by omega)).1 hF6 (by omega) (by omega)
    · show tz_u2 (tz_u2 (tz_u2 (tz_A σ5) (o + 36) i (nI (j + i))) (o + 38) (j + i) (nI i)) (o + 39) (j + i) 1 (o + 36) r = _ ∧ tz_u2 (tz_u2 (tz_u2 (tz_A σ5) (o + 36) i (nI (j + i))) (o + 38) (j + i) (nI i)) (o + 39) (j + i) 1 (o + 38) (j + r) = _ ∧ tz_u2 (tz_u2 (tz_u2 (tz_A σ5) (o + 36) i (nI (j + i))) (o + 38) (j + i) (nI i)) (o + 39) (j + i) 1 (o + 39) (j + r) = 1
      by_cases z : r = i
      · subst z; simp [tz_u2]
      · have := (hR5 r (by omega)).2
        simp [tz_u2, z, this]
  generalize tz_sA (tz_sA (tz_sA σ5 (o + 36) i (nI (j + i))) (o + 38) (j + i) (nI i)) (o + 39) (j + i) 1 = σ6 at *
  unfold X9_begin_L86
  refine gp_loop (I := fun (τ : Int32) (σ' : tz_S) => ∃ k, τ = nI k ∧ k ≤ j ∧ Fr (fun x => exP o x ∧ x ≠ o + 30 ∧ x ≠ o + 31) σ σ' ∧ tbH σ' o j m ∧ tbC σ' o j ∧ tbR σ' o j (i + 1) ∧ tbX σ' o j i k A) (fun τ _ => 100 - τ.toNatClampNeg) ?_ f _ _ ⟨0, rfl, Nat.zero_le _, hF60, hH6, hC6, hR6, hX6⟩ (by omega)
  clear hF4 hH4 hC4 hc4 hR4 hX4 hF5 hb5 hF50 hc5 hH5 hC5 hR5 hX5 hF6 hF60 hH6 hX6 hC6 hR6 haS σ6 σ5 σ4
  rintro K2 l3 σ4 ⟨k, rfl, hk, hF4, hH4, hC4, hR4, hX4⟩ hK2
  show gp (X9_begin_L86_body f (fun l2 => K l2) (some (o + 32)) (some (o + 1)) (nI i) (fun l3 => K2 l3) (nI k)) σ4 _
  unfold X9_begin_L86_body
  have hc4 := cs_fr hc hF4
  refine gp_rI (cs_tab hc4) rfl ?_
  rw [hH4.2.1]
  refine gp_if (fun hkj => ?_) (fun hkj => ?_)
  · rw [nI_leI (by omega) (by omega)] at hkj
    refine gp_let ?_
    rw [nI_1]
    refine hK _ _ ⟨i + 1, rfl, by omega, hF4, hH4, hC4, hR4, fun r c hc' hr => hX4 r c hc' (by omega)⟩ (by rw [nI_clamp (by omega), nI_clamp (by omega)]; omega)
  rw [nI_leI (by omega) (by omega)] at hkj
  refine gp_cV (cs_tab hc4) (gp_mono (c_cell hc4 (by omega) (by omega)) ?_)
  rintro _ σ0 ⟨h0, rfl⟩
  rw [h0]
  clear h0 σ0
  refine gp_rR (cs_rows hc4) rfl ?_
  refine gp_aR (j := i) (cs_grid hc4) (by decide) (by omega) (by omega) rfl ?_
  rw [(cs_line hc4 i (by omega)).2]
  refine gp_aI (j := k) (cs_line hc4 i (by omega)).1 (by decide) (by omega) (by omega) rfl ?_
  have hAv := hwr σ4 hF4 i k (by omega) (by omega)
  have hAb := hA i k (by omega) (by omega)
  have hce := (cs_cell hc4 (10 * i + k) (by omega)).1
  have hAe : ((tz_A σ4 (o + 3 + i) k).toInt64).toInt = A i k := by rw [Int32.toInt_toInt64, hAv]
  refine gp_cV hce.1 (gp_mono (c_setLongB hce hf (by rw [hAe]; have := mg_pmono (show 1 ≤ 8 by omega); omega)) ?_)
  rintro _ σ5 ⟨hF5, hb5⟩
  rw [hAe] at hb5
  refine gp_let ?_
  rw [nI_1]
  refine hK2 _ _ ⟨k + 1, rfl, by omega, Fr_then hF4 hF5 (fun x hx => by unfold bP at hx; unfold exP; omega), tbH_fr hH4 hF5 (by unfold bP; omega) (by unfold bP; omega) (by unfold bP; omega), tbC_fr hC4 hF5 (fun x a b => by unfold bP; omega), tbR_fr hR4 hF5 (fun x a b => by unfold bP; omega) (fun r hr => by unfold bP; omega), ?_⟩ (by rw [nI_clamp (by omega), nI_clamp (by omega)]; omega)
  intro r c hcj hr
  by_cases z : r = i ∧ c = k
  · rw [z.1, z.2]; exact hb5
  · exact Bz_fr (hX4 r c hcj (by omega)) hF5 (by unfold bP; omega) (by unfold bP; omega)
end BG
