/-! ===== bounds from paths ===== -/
def oU (a : Option Int) (v : Int) : Prop := ∃ u, a = some u ∧ u ≤ v
def oL (a : Option Int) (v : Int) : Prop := ∃ u, a = some u ∧ v ≤ u
theorem oU_none {v : Int} : ¬ oU none v := fun ⟨_, h, _⟩ => by cases h
theorem oL_none {v : Int} : ¬ oL none v := fun ⟨_, h, _⟩ => by cases h
theorem oU_some {a v : Int} : oU (some a) v ↔ a ≤ v := ⟨fun ⟨_, h, h2⟩ => by cases h; exact h2, fun h => ⟨a, rfl, h⟩⟩
theorem oL_some {a v : Int} : oL (some a) v ↔ v ≤ a := ⟨fun ⟨_, h, h2⟩ => by cases h; exact h2, fun h => ⟨a, rfl, h⟩⟩
theorem oU_ext {a b : Option Int} (h : ∀ v, oU a v ↔ oU b v) : a = b := by
  cases a with
  | none =>
    cases b with
    | none => rfl
    | some y => exact absurd ((h y).2 ⟨y, rfl, Int.le_refl _⟩) oU_none
  | some x =>
    cases b with
    | none => exact absurd ((h x).1 ⟨x, rfl, Int.le_refl _⟩) oU_none
    | some y =>
      have h1 := (h x).1 ⟨x, rfl, Int.le_refl _⟩
      have h2 := (h y).2 ⟨y, rfl, Int.le_refl _⟩
      rw [oU_some] at h1 h2
      rw [show x = y by omega]
theorem oL_ext {a b : Option Int} (h : ∀ v, oL a v ↔ oL b v) : a = b := by
  cases a with
  | none =>
    cases b with
    | none => rfl
    | some y => exact absurd ((h y).2 ⟨y, rfl, Int.le_refl _⟩) oL_none
  | some x =>
    cases b with
    | none => exact absurd ((h x).1 ⟨x, rfl, Int.le_refl _⟩) oL_none
    | some y =>
      have h1 := (h x).1 ⟨x, rfl, Int.le_refl _⟩
      have h2 := (h y).2 ⟨y, rfl, Int.le_refl _⟩
      rw [oL_some] at h1 h2
      rw [show x = y by omega]
theorem tU_iff {a : Option Int} {b v : Int} : oU (tU a b) v ↔ oU a v ∨ b ≤ v := by
  cases a with
  | none =>
    show oU (some b) v ↔ _
    rw [oU_some]
    exact ⟨Or.inr, fun h => h.elim (fun z => absurd z oU_none) id⟩
  | some x =>
    show oU (some (min x b)) v ↔ _
    rw [oU_some, oU_some]
    omega
theorem tL_iff {a : Option Int} {b v : Int} : oL (tL a b) v ↔ oL a v ∨ v ≤ b := by
  cases a with
  | none =>
    show oL (some b) v ↔ _
    rw [oL_some]
    exact ⟨Or.inr, fun h => h.elim (fun z => absurd z oL_none) id⟩
  | some x =>
    show oL (some (max x b)) v ↔ _
    rw [oL_some, oL_some]
    omega
section PB
variable {vr : Nat → Nat} {at1 : Nat → Int} {x : Nat}
theorem fU_iff {v : Int} : ∀ {l : List (Nat × Bool)} {a : Option Int}, oU (fU vr at1 x l a) v ↔ oU a v ∨ ∃ s, (s, true) ∈ l ∧ vr s = x ∧ at1 s ≤ v
  | [], a => by
    show oU a v ↔ _
    exact ⟨Or.inl, fun h => h.elim id (fun ⟨_, w, _⟩ => absurd w (List.not_mem_nil))⟩
  | (s, b) :: l, a => by
    show oU (fU vr at1 x l (if b = true ∧ vr s = x then tU a (at1 s) else a)) v ↔ _
    rw [fU_iff]
    by_cases z : b = true ∧ vr s = x
    · rw [if_pos z, tU_iff]
      obtain ⟨rfl, z2⟩ := z
      constructor
      · rintro ((h | h) | ⟨t, h1, h2⟩)
        · exact Or.inl h
        · exact Or.inr ⟨s, List.mem_cons_self, z2, h⟩
        · exact Or.inr ⟨t, List.mem_cons_of_mem _ h1, h2⟩
      · rintro (h | ⟨t, h1, h2, h3⟩)
        · exact Or.inl (Or.inl h)
        · rcases List.mem_cons.1 h1 with e | e
          · cases e
            exact Or.inl (Or.inr h3)
          · exact Or.inr ⟨t, e, h2, h3⟩
    · rw [if_neg z]
      constructor
      · rintro (h | ⟨t, h1, h2⟩)
        · exact Or.inl h
        · exact Or.inr ⟨t, List.mem_cons_of_mem _ h1, h2⟩
      · rintro (h | ⟨t, h1, h2, h3⟩)
        · exact Or.inl h
        · rcases List.mem_cons.1 h1 with e | e
          · cases e
            exact absurd ⟨rfl, h2⟩ z
          · exact Or.inr ⟨t, e, h2, h3⟩
theorem fL_iff {v : Int} : ∀ {l : List (Nat × Bool)} {a : Option Int}, oL (fL vr at1 x l a) v ↔ oL a v ∨ ∃ s, (s, false) ∈ l ∧ vr s = x ∧ v ≤ at1 s + 1
  | [], a => by
    show oL a v ↔ _
    exact ⟨Or.inl, fun h => h.elim id (fun ⟨_, w, _⟩ => absurd w (List.not_mem_nil))⟩
  | (s, b) :: l, a => by
    show oL (fL vr at1 x l (if b = false ∧ vr s = x then tL a (at1 s + 1) else a)) v ↔ _
    rw [fL_iff]
    by_cases z : b = false ∧ vr s = x
    · rw [if_pos z, tL_iff]
      obtain ⟨rfl, z2⟩ := z
      constructor
      · rintro ((h | h) | ⟨t, h1, h2⟩)
        · exact Or.inl h
        · exact Or.inr ⟨s, List.mem_cons_self, z2, h⟩
        · exact Or.inr ⟨t, List.mem_cons_of_mem _ h1, h2⟩
      · rintro (h | ⟨t, h1, h2, h3⟩)
        · exact Or.inl (Or.inl h)
        · rcases List.mem_cons.1 h1 with e | e
          · cases e
            exact Or.inl (Or.inr h3)
          · exact Or.inr ⟨t, e, h2, h3⟩
    · rw [if_neg z]
      constructor
      · rintro (h | ⟨t, h1, h2⟩)
        · exact Or.inl h
        · exact Or.inr ⟨t, List.mem_cons_of_mem _ h1, h2⟩
      · rintro (h | ⟨t, h1, h2, h3⟩)
        · exact Or.inl h
        · rcases List.mem_cons.1 h1 with e | e
          · cases e
            exact absurd ⟨rfl, h2⟩ z
          · exact Or.inr ⟨t, e, h2, h3⟩
theorem fU_some {l : List (Nat × Bool)} {u : Int} (h : fU vr at1 x l none = some u) : ∃ s, (s, true) ∈ l ∧ vr s = x ∧ at1 s = u := by
  have h1 : oU (fU vr at1 x l none) u := ⟨u, h, Int.le_refl _⟩
  rw [fU_iff] at h1
  rcases h1 with h1 | ⟨s, a1, a2, a3⟩
  · exact absurd h1 oU_none
  · have h2 : oU (fU vr at1 x l none) (at1 s) := fU_iff.2 (Or.inr ⟨s, a1, a2, Int.le_refl _⟩)
    rw [h, oU_some] at h2
    exact ⟨s, a1, a2, by omega⟩
theorem fL_some {l : List (Nat × Bool)} {u : Int} (h : fL vr at1 x l none = some u) : ∃ s, (s, false) ∈ l ∧ vr s = x ∧ at1 s + 1 = u := by
  have h1 : oL (fL vr at1 x l none) u := ⟨u, h, Int.le_refl _⟩
  rw [fL_iff] at h1
  rcases h1 with h1 | ⟨s, a1, a2, a3⟩
  · exact absurd h1 oL_none
  · have h2 : oL (fL vr at1 x l none) (at1 s + 1) := fL_iff.2 (Or.inr ⟨s, a1, a2, Int.le_refl _⟩)
    rw [h, oL_some] at h2
    exact ⟨s, a1, a2, by omega⟩
theorem fU_c {l : List (Nat × Bool)} {s : Nat} {b : Bool} {v : Int} : oU (fU vr at1 x ((s, b) :: l) none) v ↔ (b = true ∧ vr s = x ∧ at1 s ≤ v) ∨ oU (fU vr at1 x l none) v := by
  rw [fU_iff, fU_iff]
  constructor
  · rintro (h | ⟨t, h1, h2, h3⟩)
    · exact absurd h oU_none
    · rcases List.mem_cons.1 h1 with e | e
      · cases e
        exact Or.inl ⟨rfl, h2, h3⟩
      · exact Or.inr (Or.inr ⟨t, e, h2, h3⟩)
  · rintro (⟨rfl, h2, h3⟩ | h | ⟨t, h1, h2⟩)
    · exact Or.inr ⟨s, List.mem_cons_self, h2, h3⟩
    · exact absurd h oU_none
    · exact Or.inr ⟨t, List.mem_cons_of_mem _ h1, h2⟩
theorem fL_c {l : List (Nat × Bool)} {s : Nat} {b : Bool} {v : Int} : oL (fL vr at1 x ((s, b) :: l) none) v ↔ (b = false ∧ vr s = x ∧ v ≤ at1 s + 1) ∨ oL (fL vr at1 x l none) v := by
  rw [fL_iff, fL_iff]
  constructor
  · rintro (h | ⟨t, h1, h2, h3⟩)
    · exact absurd h oL_none
    · rcases List.mem_cons.1 h1 with e | e
      · cases e
        exact Or.inl ⟨rfl, h2, h3⟩
      · exact Or.inr (Or.inr ⟨t, e, h2, h3⟩)
  · rintro (⟨rfl, h2, h3⟩ | h | ⟨t, h1, h2⟩)
    · exact Or.inr ⟨s, List.mem_cons_self, h2, h3⟩
    · exact absurd h oL_none
    · exact Or.inr ⟨t, List.mem_cons_of_mem _ h1, h2⟩
theorem fU_sub {l l2 : List (Nat × Bool)} {v : Int} (h : ∀ e, e ∈ l → e ∈ l2) (hu : oU (fU vr at1 x l none) v) : oU (fU vr at1 x l2 none) v := by
  rw [fU_iff] at *
  exact hu.imp id (fun ⟨t, h1, h2⟩ => ⟨t, h _ h1, h2⟩)
theorem fL_sub {l l2 : List (Nat × Bool)} {v : Int} (h : ∀ e, e ∈ l → e ∈ l2) (hu : oL (fL vr at1 x l none) v) : oL (fL vr at1 x l2 none) v := by
  rw [fL_iff] at *
  exact hu.imp id (fun ⟨t, h1, h2⟩ => ⟨t, h _ h1, h2⟩)
theorem fU_cong {vr2 : Nat → Nat} {at2 : Nat → Int} {l : List (Nat × Bool)} (h : ∀ s b, (s, b) ∈ l → vr s = vr2 s ∧ at1 s = at2 s) : fU vr at1 x l none = fU vr2 at2 x l none := by
  refine oU_ext fun v => ?_
  rw [fU_iff, fU_iff]
  refine ⟨fun w => w.imp id ?_, fun w => w.imp id ?_⟩
  · rintro ⟨s, h1, h2, h3⟩
    obtain ⟨e1, e2⟩ := h s _ h1
    exact ⟨s, h1, by omega, by omega⟩
  · rintro ⟨s, h1, h2, h3⟩
    obtain ⟨e1, e2⟩ := h s _ h1
    exact ⟨s, h1, by omega, by omega⟩
theorem fL_cong {vr2 : Nat → Nat} {at2 : Nat → Int} {l : List (Nat × Bool)} (h : ∀ s b, (s, b) ∈ l → vr s = vr2 s ∧ at1 s = at2 s) : fL vr at1 x l none = fL vr2 at2 x l none := by
  refine oL_ext fun v => ?_
  rw [fL_iff, fL_iff]
  refine ⟨fun w => w.imp id ?_, fun w => w.imp id ?_⟩
  · rintro ⟨s, h1, h2, h3⟩
    obtain ⟨e1, e2⟩ := h s _ h1
    exact ⟨s, h1, by omega, by omega⟩
  · rintro ⟨s, h1, h2, h3⟩
    obtain ⟨e1, e2⟩ := h s _ h1
    exact ⟨s, h1, by omega, by omega⟩
end PB
/-! ===== paths in a tree ===== -/
section PT
variable {K : Nat} {up fi se up2 fi2 : Nat → Option Nat}
theorem pt_cong (hw : ∀ k, k < K → ∀ p, up k = some p → p < k) {k : Nat} (h : ∀ j, j ≤ k → up2 j = up j ∧ ∀ s, up j = some s → (fi2 s = some j ↔ fi s = some j)) (hk : k < K) : pt up2 fi2 k = pt up fi k := by
  induction k using Nat.strongRecOn with
  | ind k ih =>
    obtain ⟨h1, h2⟩ := h k (Nat.le_refl _)
    cases hu : up k with
    | none => rw [pt_none hu, pt_none (h1.trans hu)]
    | some s =>
      have hs := hw k hk s hu
      have hw2 : ∀ j, j < k + 1 → ∀ p, up2 j = some p → p < j := fun j hj p hp => hw j (by omega) p (by rw [← (h j (by omega)).1]; exact hp)
      rw [pt_some hw hk hu, pt_some hw2 (by omega) (h1.trans hu), ih s hs (fun j hj => h j (by omega)) (by omega)]
      congr 2
      exact decide_eq_decide.2 (h2 s hu)
theorem pt_lt (hw : ∀ k, k < K → ∀ p, up k = some p → p < k) {k s : Nat} {b : Bool} (hk : k < K) (h : (s, b) ∈ pt up fi k) : s < k := by
  induction k using Nat.strongRecOn with
  | ind k ih =>
    cases hu : up k with
    | none => rw [pt_none hu] at h; exact absurd h (List.not_mem_nil)
    | some t =>
      have ht := hw k hk t hu
      rw [pt_some hw hk hu] at h
      rcases List.mem_cons.1 h with e | e
      · cases e; exact ht
      · have := ih t ht (by omega) e
        omega
theorem pt_mem (hw : ∀ k, k < K → ∀ p, up k = some p → p < k) {P : Nat → Prop} (hP : ∀ k, k < K → ∀ p, up k = some p → P p) {k s : Nat} {b : Bool} (hk : k < K) (h : (s, b) ∈ pt up fi k) : P s := by
  induction k using Nat.strongRecOn with
  | ind k ih =>
    cases hu : up k with
    | none => rw [pt_none hu] at h; exact absurd h (List.not_mem_nil)
    | some t =>
      have ht := hw k hk t hu
      rw [pt_some hw hk hu] at h
      rcases List.mem_cons.1 h with e | e
      · cases e; exact hP k hk _ hu
      · exact ih t ht (by omega) e
/-- the last split that waits -/
theorem lwt_pt (hw : ∀ k, k < K → ∀ p, up k = some p → p < k) {k s : Nat} (hk : k < K) (h : lwt se (pt up fi k) = some s) : s < k ∧ se s = none ∧ ∃ l b, pt up fi k = l ++ (s, b) :: pt up fi s ∧ ∀ e, e ∈ l → se e.1 ≠ none := by
  induction k using Nat.strongRecOn with
  | ind k ih =>
    cases hu : up k with
    | none => rw [pt_none hu] at h; cases h
    | some t =>
      have ht := hw k hk t hu
      rw [pt_some hw hk hu] at h ⊢
      simp only [lwt] at h
      by_cases z : se t = none
      · rw [if_pos z] at h
        cases h
        exact ⟨ht, z, [], _, rfl, fun e he => absurd he (List.not_mem_nil)⟩
      · rw [if_neg z] at h
        obtain ⟨a1, a2, l, b, a3, a4⟩ := ih t ht (by omega) h
        refine ⟨by omega, a2, (t, decide (fi t = some k)) :: l, b, by rw [a3]; rfl, fun e he => ?_⟩
        rcases List.mem_cons.1 he with w | w
        · rw [w]; exact z
        · exact a4 e w
theorem lwt_none : ∀ {l : List (Nat × Bool)}, lwt se l = none → ∀ e, e ∈ l → se e.1 ≠ none
  | [], _, e, he => absurd he (List.not_mem_nil)
  | (s, b) :: l, h, e, he => by
    simp only [lwt] at h
    by_cases z : se s = none
    · rw [if_pos z] at h; cases h
    · rw [if_neg z] at h
      rcases List.mem_cons.1 he with w | w
      · rw [w]; exact z
      · exact lwt_none h e w
def cT : List (Nat × Bool) → Nat
  | [] => 0
  | (_, b) :: l => (if b = true then 1 else 0) + cT l
theorem cT_app : ∀ (l l2 : List (Nat × Bool)), cT (l ++ l2) = cT l + cT l2
  | [], l2 => by show cT l2 = 0 + cT l2; omega
  | (s, b) :: l, l2 => by
    show (if b = true then 1 else 0) + cT (l ++ l2) = (if b = true then 1 else 0) + cT l + cT l2
    rw [cT_app l l2]
    omega
theorem cT_0 : ∀ {l : List (Nat × Bool)}, (∀ s b, (s, b) ∈ l → b = false) → cT l = 0
  | [], _ => rfl
  | (s, b) :: l, h => by
    show (if b = true then 1 else 0) + cT l = 0
    rw [h s b List.mem_cons_self, cT_0 (fun s b hb => h s b (List.mem_cons_of_mem _ hb))]
    rfl
end PT
