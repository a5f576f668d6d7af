/-! ===== Tree ===== -/
def eN : Option Nat → Int32 := fun x => match x with
  | none => -2
  | some k => nI k
def lfA (o i : Nat) : Nat := o + 418 + 162 * i
def ups {α : Type} (f : Nat → α) (k : Nat) (v : α) : Nat → α := fun j => if j = k then v else f j
theorem ups_s {α : Type} (f : Nat → α) (k : Nat) (v : α) : ups f k v k = v := if_pos rfl
theorem ups_n {α : Type} (f : Nat → α) {k j : Nat} (v : α) (h : j ≠ k) : ups f k v j = f j := if_neg h
theorem eN_neg {x : Option Nat} (h : ∀ k, x = some k → k < 2 ^ 31) : eN x < 0 ↔ x = none := by
  cases x with
  | none => exact ⟨fun _ => rfl, fun _ => by decide⟩
  | some k => exact ⟨fun q => absurd q (nI_pos (h k rfl)), fun q => by cases q⟩
theorem eN_eq {x : Option Nat} {k : Nat} (h : ∀ k, x = some k → k < 2 ^ 31) (hk : k < 2 ^ 31) : eN x = nI k ↔ x = some k := by
  cases x with
  | none =>
    refine ⟨fun q => ?_, fun q => by cases q⟩
    have : (eN none).toInt = (nI k).toInt := by rw [q]
    rw [nI_toInt hk, show (eN none).toInt = -2 from rfl] at this
    omega
  | some j =>
    have : eN (some j) = nI j := rfl
    rw [this, nI_eq (h j rfl) hk]
    simp
def trV (σ : tz_S) (o q K lc : Nat) (up fi se : Nat → Option Nat) (vr : Nat → Nat) (fo to : Nat → Int) (cd : Nat → Bool) (ln : Nat → Nat) (op : Option Nat) : Prop :=
  (tz_F σ (o + 312) 10 = nI K ∧ tz_F σ (o + 312) 9 = nI lc ∧ tz_F σ (o + 312) 11 = eN op ∧ K ≤ 301 ∧ lc ≤ q ∧ q ≤ 151) ∧
  (tz_nc σ = o + 418 + 162 * q ∧ (∀ i, i < 151 → tz_R σ (o + 321) i = if i < q then some (lfA o i) else none) ∧ ∀ i, i < q → lfSh σ (lfA o i)) ∧
  (∀ k, k < K → tz_A σ (o + 313) k = eN (up k) ∧ tz_A σ (o + 314) k = eN (fi k) ∧ tz_A σ (o + 315) k = eN (se k) ∧ (tz_A σ (o + 319) k = if cd k = true then 1 else 0) ∧ tz_A σ (o + 320) k = nI (ln k)) ∧
  ∀ k, k < K → fi k ≠ none → tz_A σ (o + 316) k = nI (vr k) ∧ (tz_L σ (o + 317) k).toInt = fo k ∧ (tz_L σ (o + 318) k).toInt = to k
/-- references of the tree lead to nodes -/
def trW (K lc : Nat) (up fi se : Nat → Option Nat) (ln : Nat → Nat) : Prop := ∀ k, k < K → (∀ p, up k = some p → p < k) ∧ (∀ p, fi k = some p → p < K) ∧ (∀ p, se k = some p → p < K) ∧ ln k < lc
def trP (o : Nat) : Nat → Prop := fun x => o + 312 ≤ x ∧ x ≤ o + 320
theorem trV_fr {P : Nat → Prop} {σ σ1 : tz_S} {o q K lc : Nat} {up fi se : Nat → Option Nat} {vr : Nat → Nat} {fo to : Nat → Int} {cd : Nat → Bool} {ln : Nat → Nat} {op : Option Nat} (h : trV σ o q K lc up fi se vr fo to cd ln op) (hf : Fr P σ σ1) (hP : ∀ x, o + 312 ≤ x → x ≤ o + 320 → ¬ P x) : trV σ1 o q K lc up fi se vr fo to cd ln op := by
  obtain ⟨⟨h1, h2, h3, h4⟩, ⟨h5, h6, h7⟩, h8, h9⟩ := h
  refine ⟨⟨?_, ?_, ?_, h4⟩, ⟨by rw [hf.1]; exact h5, by rw [Fr_R hf]; exact h6, fun i hi => lfSh_fr (h7 i hi) hf⟩, ?_, ?_⟩
  · rw [Fr_F hf (hP _ (by omega) (by omega))]; exact h1
  · rw [Fr_F hf (hP _ (by omega) (by omega))]; exact h2
  · rw [Fr_F hf (hP _ (by omega) (by omega))]; exact h3
  · rw [Fr_A hf (hP (o + 313) (by omega) (by omega)), Fr_A hf (hP (o + 314) (by omega) (by omega)), Fr_A hf (hP (o + 315) (by omega) (by omega)), Fr_A hf (hP (o + 319) (by omega) (by omega)), Fr_A hf (hP (o + 320) (by omega) (by omega))]; exact h8
  · rw [Fr_A hf (hP (o + 316) (by omega) (by omega)), Fr_L hf (hP (o + 317) (by omega) (by omega)), Fr_L hf (hP (o + 318) (by omega) (by omega))]; exact h9
section TR
variable {f o N q K lc : Nat} {σ : tz_S} {up fi se : Nat → Option Nat} {vr : Nat → Nat} {fo to : Nat → Int} {cd : Nat → Bool} {ln : Nat → Nat} {op : Option Nat}
theorem c_has {x : Int32} (hc : cSh σ o N) (ht : trV σ o q K lc up fi se vr fo to cd ln op) : gp (X10_has f (some (o + 312)) x) σ (fun y σ' => σ' = σ ∧ y = if 0 ≤ x.toInt ∧ x.toInt < K then 1 else 0) := by
  obtain ⟨⟨h1, h2, h3, h4, -⟩, -⟩ := ht
  unfold X10_has X10_has_b16 X10_has_b17
  refine gp_if (fun h => ?_) (fun h => ?_)
  · rw [i32_lt0] at h
    refine gp_zz (Or.inl rfl) (gp_ret ⟨rfl, ?_⟩)
    rw [if_neg (by omega)]
  rw [i32_lt0] at h
  refine gp_rI (cs_tree hc) rfl ?_
  rw [h1]
  refine gp_if (fun h' => ?_) (fun h' => ?_)
  · rw [i32_le (by omega)] at h'
    refine gp_zz (Or.inl rfl) (gp_ret ⟨rfl, ?_⟩)
    rw [if_neg (by omega)]
  · rw [i32_le (by omega)] at h'
    refine gp_zz (Or.inr rfl) (gp_ret ⟨rfl, ?_⟩)
    rw [if_pos (by omega)]
theorem c_hasN {k : Nat} (hc : cSh σ o N) (ht : trV σ o q K lc up fi se vr fo to cd ln op) (hk : k < K) : gp (X10_has f (some (o + 312)) (nI k)) σ (fun y σ' => σ' = σ ∧ y = 1) := by
  have hK := ht.1.2.2.2.1
  refine gp_mono (c_has hc ht) ?_
  rintro y σ' ⟨h1, h2⟩
  rw [if_pos (by rw [nI_toInt (by omega)]; omega)] at h2
  exact ⟨h1, h2⟩
theorem c_has0 (hc : cSh σ o N) (ht : trV σ o q K lc up fi se vr fo to cd ln op) : gp (X10_has f (some (o + 312)) (-2)) σ (fun y σ' => σ' = σ ∧ y = 0) := by
  refine gp_mono (c_has hc ht) ?_
  rintro y σ' ⟨h1, h2⟩
  rw [if_neg (by rw [show (-2 : Int32).toInt = -2 from rfl]; omega)] at h2
  exact ⟨h1, h2⟩
theorem c_isSplit {k : Nat} (hc : cSh σ o N) (ht : trV σ o q K lc up fi se vr fo to cd ln op) (hw : trW K lc up fi se ln) (hk : k < K) : gp (X10_isSplit f (some (o + 312)) (nI k)) σ (fun y σ' => σ' = σ ∧ y = if fi k = none then 0 else 1) := by
  obtain ⟨⟨h1, h2, h3, h4, -⟩, -, h8, -⟩ := ht
  obtain ⟨-, a2, -⟩ := h8 k hk
  unfold X10_isSplit X10_isSplit_b14
  refine gp_rR (cs_tree hc) rfl ?_
  refine gp_aI (j := k) (cs_first hc) (by decide) (by omega) (by omega) rfl ?_
  rw [a2]
  have hb : ∀ j, fi k = some j → j < 2 ^ 31 := fun j hj => by have := (hw k hk).2.1 j hj; omega
  refine gp_if (fun h => ?_) (fun h => ?_)
  · rw [eN_neg hb] at h
    exact gp_zz (Or.inl rfl) (gp_ret ⟨rfl, by rw [if_pos h]⟩)
  · rw [eN_neg hb] at h
    exact gp_zz (Or.inr rfl) (gp_ret ⟨rfl, by rw [if_neg h]⟩)
theorem c_leafOf {x : Int32} (hc : cSh σ o N) (ht : trV σ o q K lc up fi se vr fo to cd ln op) (hw : trW K lc up fi se ln) : gp (X10_leafOf f (some (o + 312)) x) σ (fun y σ' => σ' = σ ∧ ((∃ k, x = nI k ∧ k < K ∧ fi k = none ∧ y = some (lfA o (ln k))) ∨ (y = none ∧ ∀ k, x = nI k → k < 2 ^ 31 → k < K → fi k ≠ none))) := by
  obtain ⟨⟨h1, h2, h3, h4, h5, h6⟩, ⟨-, g2, -⟩, h8, -⟩ := id ht
  unfold X10_leafOf X10_leafOf_b30 X10_leafOf_b31
  refine gp_cV (cs_tree hc) (gp_mono (c_has hc ht) ?_)
  rintro y σ1 ⟨z1, hy⟩
  rw [z1]
  clear z1 σ1
  refine gp_if (fun h => ?_) (fun h => ?_)
  · have := ite0 hy h
    refine gp_ret ⟨rfl, Or.inr ⟨rfl, fun k hk h31 hkK => ?_⟩⟩
    rw [hk, nI_toInt h31] at this
    omega
  · obtain ⟨b1, b2⟩ := ite1 hy h
    obtain ⟨k, rfl, k31, hkx⟩ := i32_nat b1
    have hk : k < K := by omega
    obtain ⟨a1, a2, a3, a4, a5⟩ := h8 k hk
    refine gp_cV (cs_tree hc) (gp_mono (c_isSplit hc ht hw hk) ?_)
    rintro y2 σ1 ⟨z1, hy2⟩
    rw [z1]
    clear z1 σ1
    refine gp_if (fun hz => ?_) (fun hz => ?_)
    · have hfk : fi k = none := by
        by_cases z : fi k = none
        · exact z
        · rw [if_neg z, hz] at hy2; exact absurd hy2 (by decide)
      have hln := (hw k hk).2.2.2
      refine gp_rR (cs_tree hc) rfl ?_
      refine gp_rR (cs_tree hc) rfl ?_
      refine gp_aI (j := k) (cs_lnum hc) (by decide) (by omega) (by omega) rfl ?_
      rw [a5]
      refine gp_aR (j := ln k) (cs_leaves hc) (by decide) (by omega) (by omega) rfl ?_
      rw [g2 _ (by omega), if_pos (by omega)]
      exact gp_ret ⟨rfl, Or.inl ⟨k, rfl, hk, hfk, rfl⟩⟩
    · have hfk : fi k ≠ none := by
        intro z
        rw [if_pos z] at hy2
        exact hz hy2
      refine gp_ret ⟨rfl, Or.inr ⟨rfl, fun j hj h31 _ => ?_⟩⟩
      rw [nI_eq k31 h31] at hj
      rw [← hj]
      exact hfk
theorem c_treeClear (hc : cSh σ o N) (ht : trV σ o q K lc up fi se vr fo to cd ln op) : gp (X10_clear f (some (o + 312))) σ (fun _ σ' => Fr (fun x => x = o + 312) σ σ' ∧ trV σ' o q 0 0 up fi se vr fo to cd ln none) := by
  obtain ⟨⟨h1, h2, h3, h4, h5, h6⟩, g, h8, h9⟩ := ht
  unfold X10_clear
  refine gp_wI (cs_tree hc) rfl ?_
  have hc1 : cSh (tz_sF σ (o + 312) 10 0) o N := hc
  refine gp_wI (cs_tree hc1) rfl ?_
  have hc2 : cSh (tz_sF (tz_sF σ (o + 312) 10 0) (o + 312) 9 0) o N := hc
  refine gp_wI (cs_tree hc2) rfl ?_
  refine gp_ret ⟨Fr_trans (Fr_trans (Fr_sF rfl) (Fr_sF rfl)) (Fr_sF rfl), ⟨?_, ?_, ?_, by omega, by omega, h6⟩, g, fun k hk => absurd hk (Nat.not_lt_zero _), fun k hk => absurd hk (Nat.not_lt_zero _)⟩
  · show tz_u2 (tz_u2 (tz_u2 (tz_F σ) (o + 312) 10 0) (o + 312) 9 0) (o + 312) 11 (-2) (o + 312) 10 = nI 0
    simp [tz_u2]
    rfl
  · show tz_u2 (tz_u2 (tz_u2 (tz_F σ) (o + 312) 10 0) (o + 312) 9 0) (o + 312) 11 (-2) (o + 312) 9 = nI 0
    simp [tz_u2]
    rfl
  · show tz_u2 (tz_u2 (tz_u2 (tz_F σ) (o + 312) 10 0) (o + 312) 9 0) (o + 312) 11 (-2) (o + 312) 11 = -2
    simp [tz_u2]
theorem c_setSplitAt {k x : Nat} {at1 : Int64} (hc : cSh σ o N) (ht : trV σ o q K lc up fi se vr fo to cd ln op) (hk : k < K) (hfk : fi k = none) : gp (X10_setSplitAt f (some (o + 312)) (nI k) (nI x) at1) σ (fun _ σ' => Fr (fun x => o + 316 ≤ x ∧ x ≤ o + 318) σ σ' ∧ trV σ' o q K lc up fi se (ups vr k x) (ups fo k at1.toInt) (ups to k at1.toInt) cd ln op ∧ tz_A σ' (o + 316) k = nI x ∧ (tz_L σ' (o + 317) k).toInt = at1.toInt ∧ (tz_L σ' (o + 318) k).toInt = at1.toInt) := by
  obtain ⟨⟨h1, h2, h3, h4, h5, h6⟩, g, h8, h9⟩ := id ht
  unfold X10_setSplitAt X10_setSplitAt_b29
  refine gp_cV (cs_tree hc) (gp_mono (c_hasN hc ht hk) ?_)
  rintro y σ1 ⟨z1, hy⟩
  rw [z1, hy]
  clear z1 σ1
  refine gp_f (by decide) ?_
  refine gp_rR (cs_tree hc) rfl ?_
  refine gp_sI (j := k) (cs_variable hc) (by decide) (by omega) (by omega) rfl ?_
  have hc1 : cSh (tz_sA σ (o + 316) k (nI x)) o N := hc
  refine gp_rR (cs_tree hc1) rfl ?_
  refine gp_sL (j := k) (cs_found hc1) (by omega) (by omega) rfl ?_
  have hc2 : cSh (tz_sL (tz_sA σ (o + 316) k (nI x)) (o + 317) k at1) o N := hc
  refine gp_rR (cs_tree hc2) rfl ?_
  refine gp_sL (j := k) (cs_told hc2) (by omega) (by omega) rfl ?_
  have hF : Fr (fun x => o + 316 ≤ x ∧ x ≤ o + 318) σ (tz_sL (tz_sL (tz_sA σ (o + 316) k (nI x)) (o + 317) k at1) (o + 318) k at1) := Fr_trans (Fr_trans (Fr_sA (by omega)) (Fr_sL (by omega))) (Fr_sL (by omega))
  refine gp_ret ⟨hF, ⟨⟨h1, h2, h3, h4, h5, h6⟩, ⟨g.1, g.2.1, g.2.2⟩, ?_, ?_⟩, ?_, ?_, ?_⟩
  · rw [Fr_A hF (x := o + 313) (by omega), Fr_A hF (x := o + 314) (by omega), Fr_A hF (x := o + 315) (by omega), Fr_A hF (x := o + 319) (by omega), Fr_A hF (x := o + 320) (by omega)]
    exact h8
  · intro j hj hfj
    have hjk : j ≠ k := fun z => hfj (by rw [z]; exact hfk)
    rw [ups_n _ _ hjk, ups_n _ _ hjk, ups_n _ _ hjk]
    show tz_u2 (tz_A σ) (o + 316) k (nI x) (o + 316) j = _ ∧ (tz_u2 (tz_u2 (tz_L σ) (o + 317) k at1) (o + 318) k at1 (o + 317) j).toInt = _ ∧ (tz_u2 (tz_u2 (tz_L σ) (o + 317) k at1) (o + 318) k at1 (o + 318) j).toInt = _
    have := h9 j hj hfj
    simp [tz_u2, hjk, this]
  · exact tz_u2_same _ _ _ _
  · show (tz_u2 (tz_u2 (tz_L σ) (o + 317) k at1) (o + 318) k at1 (o + 317) k).toInt = _
    simp [tz_u2]
  · show (tz_u2 (tz_u2 (tz_L σ) (o + 317) k at1) (o + 318) k at1 (o + 318) k).toInt = _
    simp [tz_u2]
end TR
