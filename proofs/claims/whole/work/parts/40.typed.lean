/-! ===== THE TYPED HEAP: shapes, int fields, arrays by kind; all later reasoning is over it ===== -/
/-- an object: its class, its fields (some r: a reference, none: an int); an array: its kind, its length -/
abbrev tz_K : Type := (Nat × List (Option (Option Nat))) ⊕ (Nat × Nat)
/-- cells, slots, shapes, int fields, int arrays, long arrays, reference arrays -/
abbrev tz_S : Type := Nat × Nat × (Nat → Option tz_K) × (Nat → Nat → Int32) × (Nat → Nat → Int32) × (Nat → Nat → Int64) × (Nat → Nat → Option Nat)
abbrev tz_nc (σ : tz_S) : Nat := σ.1
abbrev tz_ns (σ : tz_S) : Nat := σ.2.1
abbrev tz_sh (σ : tz_S) : Nat → Option tz_K := σ.2.2.1
abbrev tz_F (σ : tz_S) : Nat → Nat → Int32 := σ.2.2.2.1
abbrev tz_A (σ : tz_S) : Nat → Nat → Int32 := σ.2.2.2.2.1
abbrev tz_L (σ : tz_S) : Nat → Nat → Int64 := σ.2.2.2.2.2.1
abbrev tz_R (σ : tz_S) : Nat → Nat → Option Nat := σ.2.2.2.2.2.2
def tz_fv (F : Nat → Int32) : Nat → List (Option (Option Nat)) → List Value
  | _, [] => []
  | k, none :: l => .int (F k) :: tz_fv F (k + 1) l
  | k, some r :: l => va_rf r :: tz_fv F (k + 1) l
/-- which kind of contents -/
def tz_ct (t : Nat) (A : Nat → Int32) (L : Nat → Int64) (R : Nat → Option Nat) : (Nat → Int32) ⊕ (Nat → Int64) ⊕ (Nat → UInt32) ⊕ (Nat → UInt64) ⊕ (Nat → Option Nat) := if t < 2 then .inl A else if t = 2 then .inr (.inl L) else .inr (.inr (.inr (.inr R)))
def tz_cl (k : Option tz_K) (F A : Nat → Int32) (L : Nat → Int64) (R : Nat → Option Nat) : Option pz_E := match k with
  | none => none
  | some (.inl o) => some (.inr (o.1, tz_fv F 0 o.2))
  | some (.inr o) => some (.inl (o.1, o.2, tz_ct o.1 A L R))
def tz_cell (σ : tz_S) (a : Nat) : Option pz_E := tz_cl (tz_sh σ a) (tz_F σ a) (tz_A σ a) (tz_L σ a) (tz_R σ a)
def tz_h (σ : tz_S) : pz_H := (tz_nc σ, tz_ns σ, tz_cell σ)
def tz_u2 {α : Type} (f : Nat → Nat → α) (a k : Nat) (v : α) : Nat → Nat → α := fun b j => if b = a ∧ j = k then v else f b j
theorem tz_u2_same {α : Type} (f : Nat → Nat → α) (a k : Nat) (v : α) : tz_u2 f a k v a k = v := by simp [tz_u2]
theorem tz_u2_ne {α : Type} (f : Nat → Nat → α) {a k b j : Nat} (v : α) (h : b ≠ a ∨ j ≠ k) : tz_u2 f a k v b j = f b j := by
  unfold tz_u2
  rw [if_neg]
  rintro ⟨h1, h2⟩
  rcases h with h | h
  · exact h h1
  · exact h h2
theorem tz_u2_upd (f : Nat → Nat → Int32) (a k : Nat) (v : Int32) : tz_u2 f a k v a = upd (f a) k v := by funext j; simp [tz_u2, upd]
theorem tz_u2_updL (f : Nat → Nat → Int64) (a k : Nat) (v : Int64) : tz_u2 f a k v a = vp_updL (f a) k v := by funext j; simp [tz_u2, vp_updL]
theorem tz_u2_up {α : Type} (f : Nat → Nat → α) (a k : Nat) (v : α) : tz_u2 f a k v a = va_up (f a) k v := by funext j; simp [tz_u2, va_up]
theorem tz_u2_row {α : Type} (f : Nat → Nat → α) (a k : Nat) (v : α) {b : Nat} (h : b ≠ a) : tz_u2 f a k v b = f b := by
  funext j
  exact tz_u2_ne f v (Or.inl h)
def tz_sF (σ : tz_S) (a k : Nat) (x : Int32) : tz_S := (tz_nc σ, tz_ns σ, tz_sh σ, tz_u2 (tz_F σ) a k x, tz_A σ, tz_L σ, tz_R σ)
def tz_sA (σ : tz_S) (a k : Nat) (x : Int32) : tz_S := (tz_nc σ, tz_ns σ, tz_sh σ, tz_F σ, tz_u2 (tz_A σ) a k x, tz_L σ, tz_R σ)
def tz_sL (σ : tz_S) (a k : Nat) (x : Int64) : tz_S := (tz_nc σ, tz_ns σ, tz_sh σ, tz_F σ, tz_A σ, tz_u2 (tz_L σ) a k x, tz_R σ)
def tz_sR (σ : tz_S) (a k : Nat) (x : Option Nat) : tz_S := (tz_nc σ, tz_ns σ, tz_sh σ, tz_F σ, tz_A σ, tz_L σ, tz_u2 (tz_R σ) a k x)
def tz_sS (σ : tz_S) (a : Nat) (k : tz_K) : tz_S := (tz_nc σ, tz_ns σ, va_up (tz_sh σ) a (some k), tz_F σ, tz_A σ, tz_L σ, tz_R σ)
theorem tz_fv_at (F : Nat → Int32) : ∀ (l : List (Option (Option Nat))) (k j : Nat), (tz_fv F k l)[j]? = (l[j]?).map (fun q => match q with
    | none => Value.int (F (k + j))
    | some r => va_rf r)
  | [], k, j => by simp [tz_fv]
  | none :: l, k, 0 => by simp [tz_fv]
  | some r :: l, k, 0 => by simp [tz_fv]
  | none :: l, k, j + 1 => by
    simp only [tz_fv, List.getElem?_cons_succ]
    rw [tz_fv_at F l (k + 1) j, show k + 1 + j = k + (j + 1) by omega]
  | some r :: l, k, j + 1 => by
    simp only [tz_fv, List.getElem?_cons_succ]
    rw [tz_fv_at F l (k + 1) j, show k + 1 + j = k + (j + 1) by omega]
theorem tz_fv_len (F : Nat → Int32) : ∀ (l : List (Option (Option Nat))) (k : Nat), (tz_fv F k l).length = l.length
  | [], k => rfl
  | none :: l, k => by simp [tz_fv, tz_fv_len F l (k + 1)]
  | some r :: l, k => by simp [tz_fv, tz_fv_len F l (k + 1)]
theorem tz_fv_congr {F G : Nat → Int32} : ∀ (l : List (Option (Option Nat))) (k : Nat), (∀ j, k ≤ j → F j = G j) → tz_fv F k l = tz_fv G k l
  | [], k, _ => rfl
  | none :: l, k, h => by simp [tz_fv, h k (Nat.le_refl k), tz_fv_congr l (k + 1) (fun j hj => h j (by omega))]
  | some r :: l, k, h => by simp [tz_fv, tz_fv_congr l (k + 1) (fun j hj => h j (by omega))]
theorem tz_fv_setI (F : Nat → Int32) (x : Int32) : ∀ (l : List (Option (Option Nat))) (k j : Nat), l[j]? = some none → (tz_fv F k l).set j (.int x) = tz_fv (fun i => if i = k + j then x else F i) k l
  | [], k, j, h => by simp at h
  | none :: l, k, 0, h => by
    simp only [tz_fv, List.set_cons_zero, Nat.add_zero, if_true]
    exact congrArg _ (tz_fv_congr l (k + 1) (fun i hi => (if_neg (by omega)).symm))
  | some r :: l, k, 0, h => by simp at h
  | none :: l, k, j + 1, h => by
    simp only [tz_fv, List.set_cons_succ]
    rw [tz_fv_setI F x l (k + 1) j (by simpa using h), if_neg (by omega), show k + 1 + j = k + (j + 1) by omega]
  | some r :: l, k, j + 1, h => by
    simp only [tz_fv, List.set_cons_succ]
    rw [tz_fv_setI F x l (k + 1) j (by simpa using h), show k + 1 + j = k + (j + 1) by omega]
theorem tz_fv_setR (F : Nat → Int32) (r : Option Nat) : ∀ (l : List (Option (Option Nat))) (k j : Nat), (tz_fv F k l).set j (va_rf r) = tz_fv F k (l.set j (some r))
  | [], k, j => by simp [tz_fv]
  | none :: l, k, 0 => by simp [tz_fv]
  | some q :: l, k, 0 => by simp [tz_fv]
  | none :: l, k, j + 1 => by simp [tz_fv, tz_fv_setR F r l (k + 1) j]
  | some q :: l, k, j + 1 => by simp [tz_fv, tz_fv_setR F r l (k + 1) j]
section TZ
variable {σ : tz_S} {a ci k t n : Nat} {lay : List (Option (Option Nat))}
theorem tz_ob (hs : tz_sh σ a = some (.inl (ci, lay))) : pz_ob ci (some a) (tz_h σ) = some (tz_fv (tz_F σ a) 0 lay) := by
  simp [pz_ob, tz_h, tz_cell, tz_cl, hs]
theorem tz_rI (hs : tz_sh σ a = some (.inl (ci, lay))) (hk : lay[k]? = some none) : pz_rI ci k (some a) (tz_h σ) = some (tz_F σ a k) := by
  simp [pz_rI, pz_fd, tz_ob hs, tz_fv_at, hk, pz_asI]
theorem tz_rR {r : Option Nat} (hs : tz_sh σ a = some (.inl (ci, lay))) (hk : lay[k]? = some (some r)) : pz_rR ci k (some a) (tz_h σ) = some r := by
  simp only [pz_rR, pz_fd, tz_ob hs, tz_fv_at, hk, Option.map_some]
  cases r <;> rfl
theorem tz_up_cell {σ' : tz_S} {e : pz_E} (h1 : ∀ b, b ≠ a → tz_cell σ' b = tz_cell σ b) (h2 : tz_cell σ' a = some e) (hn : tz_nc σ' = tz_nc σ) (hm : tz_ns σ' = tz_ns σ) : pz_set (tz_h σ) a e = tz_h σ' := by
  show (tz_nc σ, tz_ns σ, va_up (tz_cell σ) a (some e)) = (tz_nc σ', tz_ns σ', tz_cell σ')
  rw [hn, hm]
  congr 2
  funext b
  by_cases hb : b = a
  · subst hb
    simp [va_up, h2]
  · simp [va_up, hb, h1 b hb]
theorem tz_wI {x : Int32} (hs : tz_sh σ a = some (.inl (ci, lay))) (hk : lay[k]? = some none) : pz_wF ci k (some a) (.int x) (tz_h σ) = some (tz_h (tz_sF σ a k x)) := by
  have hl : k < lay.length := (List.getElem?_eq_some_iff.mp hk).1
  simp only [pz_wF, tz_ob hs, tz_fv_len, hl, if_true]
  refine congrArg some (tz_up_cell ?_ ?_ rfl rfl)
  · intro b hb
    show tz_cl _ (tz_u2 (tz_F σ) a k x b) _ _ _ = tz_cl _ _ _ _ _
    rw [tz_u2_row _ _ _ _ hb]
    rfl
  · show tz_cl (tz_sh σ a) (tz_u2 (tz_F σ) a k x a) _ _ _ = _
    rw [hs]
    simp only [tz_cl]
    rw [tz_fv_setI _ _ _ _ _ hk]
    congr 3
    refine tz_fv_congr _ _ (fun j _ => ?_)
    simp [tz_u2]
theorem tz_wR {r : Option Nat} (hs : tz_sh σ a = some (.inl (ci, lay))) (hk : k < lay.length) : pz_wF ci k (some a) (va_rf r) (tz_h σ) = some (tz_h (tz_sS σ a (.inl (ci, lay.set k (some r))))) := by
  simp only [pz_wF, tz_ob hs, tz_fv_len, hk, if_true]
  refine congrArg some (tz_up_cell ?_ ?_ rfl rfl)
  · intro b hb
    show tz_cl (va_up (tz_sh σ) a _ b) _ _ _ _ = tz_cl _ _ _ _ _
    rw [va_up_ne _ _ hb]
    rfl
  · show tz_cl (va_up (tz_sh σ) a _ a) _ _ _ _ = _
    rw [va_up_self]
    simp only [tz_cl]
    rw [tz_fv_setR]
    rfl
theorem tz_ar (hs : tz_sh σ a = some (.inr (t, n))) : pz_ar t (some a) (tz_h σ) = some (n, tz_ct t (tz_A σ a) (tz_L σ a) (tz_R σ a)) := by
  simp [pz_ar, tz_h, tz_cell, tz_cl, hs]
theorem tz_len (hs : tz_sh σ a = some (.inr (t, n))) : pz_len t (some a) (tz_h σ) = some (nI n) := by
  simp [pz_len, tz_ar hs, nI]
theorem tz_aI {i : Int32} (hs : tz_sh σ a = some (.inr (t, n))) (ht : t < 2) (hi : vp_in i n) : pz_aI t (some a) i (tz_h σ) = some (tz_A σ a i.toNatClampNeg) := by
  have hi' : ¬ (i < 0 ∨ n ≤ i.toNatClampNeg) := hi
  simp [pz_aI, tz_ar hs, tz_ct, ht, hi']
theorem tz_aL {i : Int32} (hs : tz_sh σ a = some (.inr (2, n))) (hi : vp_in i n) : pz_aL 2 (some a) i (tz_h σ) = some (tz_L σ a i.toNatClampNeg) := by
  have hi' : ¬ (i < 0 ∨ n ≤ i.toNatClampNeg) := hi
  simp [pz_aL, tz_ar hs, tz_ct, hi']
theorem tz_aR {i : Int32} (hs : tz_sh σ a = some (.inr (t, n))) (ht : 2 < t) (hi : vp_in i n) : pz_aR t (some a) i (tz_h σ) = some (tz_R σ a i.toNatClampNeg) := by
  have hi' : ¬ (i < 0 ∨ n ≤ i.toNatClampNeg) := hi
  simp [pz_aR, tz_ar hs, tz_ct, show ¬ t < 2 by omega, show ¬ t = 2 by omega, hi']
theorem tz_stI {i x : Int32} (hs : tz_sh σ a = some (.inr (t, n))) (ht : t < 2) (hi : vp_in i n) : pz_sI t (some a) i x (tz_h σ) = some (tz_h (tz_sA σ a i.toNatClampNeg x)) := by
  have hi' : ¬ (i < 0 ∨ n ≤ i.toNatClampNeg) := hi
  simp only [pz_sI, tz_ar hs, tz_ct, ht, if_true, hi', if_false, pz_uA]
  refine congrArg some (tz_up_cell ?_ ?_ rfl rfl)
  · intro b hb
    show tz_cl _ _ (tz_u2 (tz_A σ) a i.toNatClampNeg x b) _ _ = tz_cl _ _ _ _ _
    rw [tz_u2_row _ _ _ _ hb]
    rfl
  · show tz_cl (tz_sh σ a) _ (tz_u2 (tz_A σ) a i.toNatClampNeg x a) _ _ = _
    rw [hs]
    simp only [tz_cl, tz_ct, ht, if_true]
    rw [tz_u2_upd]
theorem tz_stZ {i x : Int32} (hs : tz_sh σ a = some (.inr (1, n))) (hi : vp_in i n) (hx : x = 0 ∨ x = 1) : pz_sZ 1 (some a) i x (tz_h σ) = some (tz_h (tz_sA σ a i.toNatClampNeg x)) := by
  have hz : vp_nar .boolean x = x := by rcases hx with rfl | rfl <;> rfl
  have hi' : ¬ (i < 0 ∨ n ≤ i.toNatClampNeg) := hi
  simp only [pz_sZ, tz_ar hs, tz_ct, show (1 : Nat) < 2 by decide, if_true, hi', if_false, pz_uA, hz]
  refine congrArg some (tz_up_cell ?_ ?_ rfl rfl)
  · intro b hb
    show tz_cl _ _ (tz_u2 (tz_A σ) a i.toNatClampNeg x b) _ _ = tz_cl _ _ _ _ _
    rw [tz_u2_row _ _ _ _ hb]
    rfl
  · show tz_cl (tz_sh σ a) _ (tz_u2 (tz_A σ) a i.toNatClampNeg x a) _ _ = _
    rw [hs]
    simp only [tz_cl, tz_ct, show (1 : Nat) < 2 by decide, if_true]
    rw [tz_u2_upd]
theorem tz_stL {i : Int32} {x : Int64} (hs : tz_sh σ a = some (.inr (2, n))) (hi : vp_in i n) : pz_sL 2 (some a) i x (tz_h σ) = some (tz_h (tz_sL σ a i.toNatClampNeg x)) := by
  have hi' : ¬ (i < 0 ∨ n ≤ i.toNatClampNeg) := hi
  simp only [pz_sL, tz_ar hs, tz_ct, show ¬ (2 : Nat) < 2 by decide, if_true, hi', if_false, pz_uA]
  refine congrArg some (tz_up_cell ?_ ?_ rfl rfl)
  · intro b hb
    show tz_cl _ _ _ (tz_u2 (tz_L σ) a i.toNatClampNeg x b) _ = tz_cl _ _ _ _ _
    rw [tz_u2_row _ _ _ _ hb]
    rfl
  · show tz_cl (tz_sh σ a) _ _ (tz_u2 (tz_L σ) a i.toNatClampNeg x a) _ = _
    rw [hs]
    simp only [tz_cl, tz_ct, show ¬ (2 : Nat) < 2 by decide, if_true, if_false]
    rw [tz_u2_updL]
theorem tz_stR {i : Int32} {v cv : Nat} {lv : List (Option (Option Nat))} (hs : tz_sh σ a = some (.inr (t, n))) (ht : 2 < t) (hv : tz_sh σ v = some (.inl (cv, lv))) (hi : vp_in i n) : pz_sR t cv (some a) i (some v) (tz_h σ) = some (tz_h (tz_sR σ a i.toNatClampNeg (some v))) := by
  have hi' : ¬ (i < 0 ∨ n ≤ i.toNatClampNeg) := hi
  simp only [pz_sR, tz_ob hv, tz_ar hs, tz_ct, show ¬ t < 2 by omega, show ¬ t = 2 by omega, if_false, hi', pz_uA]
  refine congrArg some (tz_up_cell ?_ ?_ rfl rfl)
  · intro b hb
    show tz_cl _ _ _ _ (tz_u2 (tz_R σ) a i.toNatClampNeg (some v) b) = tz_cl _ _ _ _ _
    rw [tz_u2_row _ _ _ _ hb]
    rfl
  · show tz_cl (tz_sh σ a) _ _ _ (tz_u2 (tz_R σ) a i.toNatClampNeg (some v) a) = _
    rw [hs]
    simp only [tz_cl, tz_ct, show ¬ t < 2 by omega, show ¬ t = 2 by omega, if_false]
    rw [tz_u2_up]
end TZ
/-! ===== what holds behind a computation ===== -/
def gp {ρ : Type} (m : pz_C ρ) (σ : tz_S) (Q : ρ → tz_S → Prop) : Prop := ∃ (r : ρ) (σ' : tz_S), m (tz_h σ) = some (r, tz_h σ') ∧ Q r σ'
section WP
variable {ρ α : Type} {m m1 m2 : pz_C ρ} {σ : tz_S} {Q Q' : ρ → tz_S → Prop}
theorem gp_mono (h : gp m σ Q) (hQ : ∀ r σ', Q r σ' → Q' r σ') : gp m σ Q' := by
  obtain ⟨r, s, e, q⟩ := h
  exact ⟨r, s, e, hQ r s q⟩
theorem gp_ret {r : ρ} (h : Q r σ) : gp (pz_ret r) σ Q := ⟨r, σ, rfl, h⟩
theorem gp_let {e : α} {K : α → pz_C ρ} (k : gp (K e) σ Q) : gp (pz_let e K) σ Q := k
theorem gp_gB {g : pz_H → Option α} {K : α → pz_C ρ} {x : α} (hg : g (tz_h σ) = some x) (k : gp (K x) σ Q) : gp (pz_gB g K) σ Q := by
  obtain ⟨r, s, e, q⟩ := k
  exact ⟨r, s, by simp only [pz_gB, hg]; exact e, q⟩
theorem gp_uB {u : pz_H → Option pz_H} {σ' : tz_S} (hu : u (tz_h σ) = some (tz_h σ')) (k : gp m σ' Q) : gp (pz_uB u m) σ Q := by
  obtain ⟨r, s, e, q⟩ := k
  exact ⟨r, s, by simp only [pz_uB, hu]; exact e, q⟩
theorem gp_cB {f : pz_C α} {K : α → pz_C ρ} (h : gp f σ (fun x σ' => gp (K x) σ' Q)) : gp (pz_cB f K) σ Q := by
  obtain ⟨x, s, e, r, s', e', q⟩ := h
  exact ⟨r, s', by simp only [pz_cB, e]; exact e', q⟩
theorem gp_cV {f : pz_C α} {K : α → pz_C ρ} {ci a : Nat} {lay : List (Option (Option Nat))} (hs : tz_sh σ a = some (.inl (ci, lay))) (h : gp f σ (fun x σ' => gp (K x) σ' Q)) : gp (pz_cV ci (some a) f K) σ Q := gp_gB (tz_ob hs) (gp_cB h)
theorem gp_if {c : Prop} [Decidable c] (h1 : c → gp m1 σ Q) (h2 : ¬ c → gp m2 σ Q) : gp (pz_if c m1 m2) σ Q := by
  by_cases hc : c
  · obtain ⟨r, s, e, q⟩ := h1 hc
    exact ⟨r, s, by simp only [pz_if, hc, if_true]; exact e, q⟩
  · obtain ⟨r, s, e, q⟩ := h2 hc
    exact ⟨r, s, by simp only [pz_if, hc, if_false]; exact e, q⟩
theorem gp_t {c : Prop} [Decidable c] (hc : c) (h1 : gp m1 σ Q) : gp (pz_if c m1 m2) σ Q := gp_if (fun _ => h1) (fun q => absurd hc q)
theorem gp_f {c : Prop} [Decidable c] (hc : ¬ c) (h2 : gp m2 σ Q) : gp (pz_if c m1 m2) σ Q := gp_if (fun q => absurd q hc) (fun _ => h2)
theorem gp_zz {x : Int32} (hx : x = 0 ∨ x = 1) (h : gp m σ Q) : gp (pz_zz x m) σ Q := by
  obtain ⟨r, s, e, q⟩ := h
  exact ⟨r, s, by simp only [pz_zz, hx, if_true]; exact e, q⟩
theorem gp_nn {a : Nat} (h : gp m σ Q) : gp (pz_nn (some a) m) σ Q := by
  obtain ⟨r, s, e, q⟩ := h
  exact ⟨r, s, by simp only [pz_nn, Option.isSome_some, if_true]; exact e, q⟩
/-- reads and writes -/
theorem gp_rI {ci k a : Nat} {lay : List (Option (Option Nat))} {K : Int32 → pz_C ρ} (hs : tz_sh σ a = some (.inl (ci, lay))) (hk : lay[k]? = some none) (h : gp (K (tz_F σ a k)) σ Q) : gp (pz_gB (pz_rI ci k (some a)) K) σ Q := gp_gB (tz_rI hs hk) h
theorem gp_rR {ci k a : Nat} {lay : List (Option (Option Nat))} {r : Option Nat} {K : Option Nat → pz_C ρ} (hs : tz_sh σ a = some (.inl (ci, lay))) (hk : lay[k]? = some (some r)) (h : gp (K r) σ Q) : gp (pz_gB (pz_rR ci k (some a)) K) σ Q := gp_gB (tz_rR hs hk) h
theorem gp_wI {ci k a : Nat} {lay : List (Option (Option Nat))} {x : Int32} (hs : tz_sh σ a = some (.inl (ci, lay))) (hk : lay[k]? = some none) (h : gp m (tz_sF σ a k x) Q) : gp (pz_uB (pz_wF ci k (some a) (.int x)) m) σ Q := gp_uB (tz_wI hs hk) h
theorem gp_wR {ci k a : Nat} {lay : List (Option (Option Nat))} {r : Option Nat} (hs : tz_sh σ a = some (.inl (ci, lay))) (hk : k < lay.length) (h : gp m (tz_sS σ a (.inl (ci, lay.set k (some r)))) Q) : gp (pz_uB (pz_wF ci k (some a) (va_rf r)) m) σ Q := gp_uB (tz_wR hs hk) h
theorem gp_len {t n a : Nat} {K : Int32 → pz_C ρ} (hs : tz_sh σ a = some (.inr (t, n))) (h : gp (K (nI n)) σ Q) : gp (pz_gB (pz_len t (some a)) K) σ Q := gp_gB (tz_len hs) h
theorem gp_aI {t n a j : Nat} {i : Int32} {K : Int32 → pz_C ρ} (hs : tz_sh σ a = some (.inr (t, n))) (ht : t < 2) (hj : j < n) (hn : n < 2 ^ 31) (hi : i = nI j) (h : gp (K (tz_A σ a j)) σ Q) : gp (pz_gB (pz_aI t (some a) i) K) σ Q := by
  subst hi
  have e := tz_aI hs ht (vp_in_nI hj hn)
  rw [nI_clamp (by omega)] at e
  exact gp_gB e h
theorem gp_aL {n a j : Nat} {i : Int32} {K : Int64 → pz_C ρ} (hs : tz_sh σ a = some (.inr (2, n))) (hj : j < n) (hn : n < 2 ^ 31) (hi : i = nI j) (h : gp (K (tz_L σ a j)) σ Q) : gp (pz_gB (pz_aL 2 (some a) i) K) σ Q := by
  subst hi
  have e := tz_aL hs (vp_in_nI hj hn)
  rw [nI_clamp (by omega)] at e
  exact gp_gB e h
theorem gp_aR {t n a j : Nat} {i : Int32} {K : Option Nat → pz_C ρ} (hs : tz_sh σ a = some (.inr (t, n))) (ht : 2 < t) (hj : j < n) (hn : n < 2 ^ 31) (hi : i = nI j) (h : gp (K (tz_R σ a j)) σ Q) : gp (pz_gB (pz_aR t (some a) i) K) σ Q := by
  subst hi
  have e := tz_aR hs ht (vp_in_nI hj hn)
  rw [nI_clamp (by omega)] at e
  exact gp_gB e h
theorem gp_sI {t n a j : Nat} {i x : Int32} (hs : tz_sh σ a = some (.inr (t, n))) (ht : t < 2) (hj : j < n) (hn : n < 2 ^ 31) (hi : i = nI j) (h : gp m (tz_sA σ a j x) Q) : gp (pz_uB (pz_sI t (some a) i x) m) σ Q := by
  subst hi
  have e := tz_stI (x := x) hs ht (vp_in_nI hj hn)
  rw [nI_clamp (by omega)] at e
  exact gp_uB e h
theorem gp_sZ {n a j : Nat} {i x : Int32} (hs : tz_sh σ a = some (.inr (1, n))) (hj : j < n) (hn : n < 2 ^ 31) (hi : i = nI j) (hx : x = 0 ∨ x = 1) (h : gp m (tz_sA σ a j x) Q) : gp (pz_uB (pz_sZ 1 (some a) i x) m) σ Q := by
  subst hi
  have e := tz_stZ (x := x) hs (vp_in_nI hj hn) hx
  rw [nI_clamp (by omega)] at e
  exact gp_uB e h
theorem gp_sL {n a j : Nat} {i : Int32} {x : Int64} (hs : tz_sh σ a = some (.inr (2, n))) (hj : j < n) (hn : n < 2 ^ 31) (hi : i = nI j) (h : gp m (tz_sL σ a j x) Q) : gp (pz_uB (pz_sL 2 (some a) i x) m) σ Q := by
  subst hi
  have e := tz_stL (x := x) hs (vp_in_nI hj hn)
  rw [nI_clamp (by omega)] at e
  exact gp_uB e h
theorem gp_sR {t n a j v cv : Nat} {lv : List (Option (Option Nat))} {i : Int32} (hs : tz_sh σ a = some (.inr (t, n))) (ht : 2 < t) (hv : tz_sh σ v = some (.inl (cv, lv))) (hj : j < n) (hn : n < 2 ^ 31) (hi : i = nI j) (h : gp m (tz_sR σ a j (some v)) Q) : gp (pz_uB (pz_sR t cv (some a) i (some v)) m) σ Q := by
  subst hi
  have e := tz_stR hs ht hv (vp_in_nI hj hn)
  rw [nI_clamp (by omega)] at e
  exact gp_uB e h
theorem gp_dvL {x y : Int64} {K : Int64 → pz_C ρ} (hy : y ≠ 0) (h : gp (K (x / y)) σ Q) : gp (pz_gB (pz_dvL x y) K) σ Q := gp_gB (by simp [pz_dvL, hy]) h
theorem gp_rmL {x y : Int64} {K : Int64 → pz_C ρ} (hy : y ≠ 0) (h : gp (K (x - x / y * y)) σ Q) : gp (pz_gB (pz_rmL x y) K) σ Q := gp_gB (by simp [pz_rmL, hy]) h
theorem gp_dvI {x y : Int32} {K : Int32 → pz_C ρ} (hy : y ≠ 0) (h : gp (K (x / y)) σ Q) : gp (pz_gB (pz_dvI x y) K) σ Q := gp_gB (by simp [pz_dvI, hy]) h
theorem gp_rmI {x y : Int32} {K : Int32 → pz_C ρ} (hy : y ≠ 0) (h : gp (K (x - x / y * y)) σ Q) : gp (pz_gB (pz_rmI x y) K) σ Q := gp_gB (by simp [pz_rmI, hy]) h
/-- a loop: what holds at its head, and what falls -/
theorem gp_loop {τ : Type} {body : (τ → pz_C ρ) → τ → pz_C ρ} (I : τ → tz_S → Prop) (μ : τ → tz_S → Nat) (step : ∀ (K : τ → pz_C ρ) (s : τ) (σ : tz_S), I s σ → (∀ s' σ', I s' σ' → μ s' σ' < μ s σ → gp (K s') σ' Q) → gp (body K s) σ Q) : ∀ (n : Nat) (s : τ) (σ : tz_S), I s σ → μ s σ < n → gp (pz_loop body n s) σ Q
  | 0, _, _, _, h => absurd h (Nat.not_lt_zero _)
  | n + 1, s, σ, hI, h => step (pz_loop body n) s σ hI (fun s' σ' h' hm => gp_loop I μ step n s' σ' h' (by omega))
end WP
