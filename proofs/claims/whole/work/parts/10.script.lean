/-! ===== the script, the law's end ===== -/
def pz_scr (L : Nat) (xs : Nat → Int32) (i : Int32) : pz_H → Option Int32 := fun _ => if i < 0 ∨ L ≤ i.toNatClampNeg then none else some (xs i.toNatClampNeg)
def pz_none {ρ : Type} : pz_C ρ := fun _ => none
def pz_scX (X : pz_X) (b L : Nat) (xs : Nat → Int32) : Prop := va_X b L xs (pz_xs X) (pz_xs X).heap ∧ b < pz_xB X
section PZ7
variable {X : pz_X} {Qx : Option Value → pz_H → State → Prop} {J : pz_J} {ρ : Type} {rv : ρ → Option Value} {pc : Nat} {lv : List (Nat × Value)} {st : List Value}
theorem pz_none_ok : pz_Sm X Qx J rv pc lv st pz_none := fun h x hm => by cases hm
theorem pz_sld {b L : Nat} {xs : Nat → Int32} {i : Int32} {K : Int32 → pz_C ρ} (hX : pz_scX X b L xs) (d : decode J.1 pc = .ok (.iaload, 1)) (kk : ∀ x, pz_Sm X Qx J rv (pc + 1) lv (.int x :: st) (K x)) : pz_Sm X Qx J rv pc lv (.int i :: va_rf (some b) :: st) (pz_gB (pz_scr L xs i) K) := by
  intro h y hm
  simp only [pz_gB, pz_scr] at hm
  by_cases hi : i < 0 ∨ L ≤ i.toNatClampNeg
  · simp [hi] at hm
  · simp only [hi, if_false] at hm
    obtain ⟨g1, g2⟩ := kk _ h y hm
    refine ⟨g1, fun A H locs cells slots ls hI hl' => ?_⟩
    obtain ⟨⟨scr, h1, h2, h3, h4, h5⟩, hb⟩ := hX
    have hlt : i.toNatClampNeg < L := Nat.not_le.mp fun q => hi (Or.inr q)
    exact W.iald (v := .int (xs i.toNatClampNeg)) A.1 A.2.1 (by rw [hI.2.2.1 b hb]; exact h1) h2 h3 (by rw [h4]; exact hi) (h5 _ hlt) rfl rfl d (g2 A H locs cells slots ls hI hl')
theorem pz_sln {b L : Nat} {xs : Nat → Int32} {K : Int32 → pz_C ρ} (hX : pz_scX X b L xs) (d : decode J.1 pc = .ok (.arraylength, 1)) (kk : pz_Sm X Qx J rv (pc + 1) lv (.int (nI L) :: st) (K (nI L))) : pz_Sm X Qx J rv pc lv (va_rf (some b) :: st) (pz_let (nI L) K) := by
  intro h y hm
  obtain ⟨g1, g2⟩ := kk h y hm
  refine ⟨g1, fun A H locs cells slots ls hI hl' => ?_⟩
  obtain ⟨⟨scr, h1, h2, h3, h4, h5⟩, hb⟩ := hX
  exact W.alen (n := Int32.ofNat L) A.1 A.2.1 (by rw [hI.2.2.1 b hb]; exact h1) h2 (by rw [h4] <;> rfl) rfl rfl d (g2 A H locs cells slots ls hI hl')
end PZ7
