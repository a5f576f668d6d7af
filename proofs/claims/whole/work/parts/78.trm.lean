/-! ===== the tree's own laws, and how they are kept ===== -/
def stA (n K lc : Nat) (up fi se : Nat → Option Nat) (vr : Nat → Nat) (fo to : Nat → Int) (ln : Nat → Nat) : Prop := ∀ j, j < K → (∀ p, up j = some p → p < j ∧ fi p ≠ none) ∧ (∀ p, fi j = some p → p < K) ∧ (∀ p, se j = some p → p < K ∧ fi j ≠ none) ∧ ln j < lc ∧ (fi j ≠ none → vr j < n ∧ (-1000000000000000000 ≤ fo j ∧ fo j ≤ 1000000000000000000) ∧ (-1000000000000000000 ≤ to j ∧ to j ≤ 1000000000000000000))
def stB (K : Nat) (up fi : Nat → Option Nat) (vr : Nat → Nat) (fo : Nat → Int) : Prop := ∀ j, j < K → fi j ≠ none → (∀ v, oU (fU vr fo (vr j) (pt up fi j) none) v → fo j + 1 ≤ v) ∧ ∀ v, oL (fL vr fo (vr j) (pt up fi j) none) v → v ≤ fo j
def stO (K lc spl : Nat) (up fi se : Nat → Option Nat) (ln : Nat → Nat) (k : Nat) : Prop := k + 1 = K ∧ fi k = none ∧ ln k + 1 = lc ∧ K = spl + lc ∧ lc + cT (pt up fi k) = spl + 1 ∧ (∀ s b, (s, b) ∈ pt up fi k → (b = true ↔ se s = none)) ∧ (pt up fi k).length ≤ 24 ∧ spl ≤ 150
section TM
variable {n K lc spl k : Nat} {up fi se : Nat → Option Nat} {vr : Nat → Nat} {fo to : Nat → Int} {ln : Nat → Nat}
theorem stA_w (h : stA n K lc up fi se vr fo to ln) : trW K lc up fi se ln := fun j hj => by
  obtain ⟨h1, h2, h3, h4, -⟩ := h j hj
  exact ⟨fun p hp => (h1 p hp).1, h2, fun p hp => (h3 p hp).1, h4⟩
theorem stA_up (h : stA n K lc up fi se vr fo to ln) : ∀ k, k < K → ∀ p, up k = some p → p < k := fun j hj p hp => ((h j hj).1 p hp).1
theorem stA_par (h : stA n K lc up fi se vr fo to ln) : ∀ j p, j < K → up j = some p → fi p ≠ none := fun j p hj hp => ((h j hj).1 p hp).2
theorem stA_mem (h : stA n K lc up fi se vr fo to ln) {j s : Nat} {b : Bool} (hj : j < K) (hs : (s, b) ∈ pt up fi j) : s < j ∧ fi s ≠ none :=
  ⟨pt_lt (stA_up h) hj hs, pt_mem (P := fun p => fi p ≠ none) (stA_up h) (fun k hk p hp => stA_par h k p hk hp) hj hs⟩
/-- bounds of a path don't cross -/
theorem stB_bd (h : stA n K lc up fi se vr fo to ln) (hb : stB K up fi vr fo) {x : Nat} {u l : Int} : ∀ {k : Nat}, k < K → oU (fU vr fo x (pt up fi k) none) u → oL (fL vr fo x (pt up fi k) none) l → l ≤ u := by
  intro k
  induction k using Nat.strongRecOn with
  | ind k ih =>
    intro hk h1 h2
    cases hu : up k with
    | none =>
      rw [pt_none hu] at h1
      exact absurd h1 oU_none
    | some s =>
      obtain ⟨hs, hfs⟩ := (h k hk).1 s hu
      obtain ⟨b1, b2⟩ := hb s (by omega) hfs
      rw [pt_some (stA_up h) hk hu] at h1 h2
      rw [fU_c] at h1
      rw [fL_c] at h2
      rcases h1 with ⟨x1, x2, x3⟩ | x1
      · rcases h2 with ⟨y1, y2, y3⟩ | y1
        · rw [x1] at y1; cases y1
        · rw [← x2] at y1
          have := b2 l y1
          omega
      · rcases h2 with ⟨y1, y2, y3⟩ | y1
        · rw [← y2] at x1
          have := b1 u x1
          omega
        · exact ih s hs (by omega) x1 y1
/-- every bound is a split's -/
theorem st_U (h : stA n K lc up fi se vr fo to ln) {x : Nat} {u : Int} (hk : k < K) (hu : fU vr fo x (pt up fi k) none = some u) : -1000000000000000000 ≤ u ∧ u ≤ 1000000000000000000 := by
  obtain ⟨s, h1, h2, h3⟩ := fU_some hu
  obtain ⟨a1, a2⟩ := stA_mem h hk h1
  have := ((h s (by omega)).2.2.2.2 a2).2.1
  omega
theorem st_L (h : stA n K lc up fi se vr fo to ln) {x : Nat} {u : Int} (hk : k < K) (hu : fL vr fo x (pt up fi k) none = some u) : -1000000000000000000 ≤ u ∧ u ≤ 1000000000000000001 := by
  obtain ⟨s, h1, h2, h3⟩ := fL_some hu
  obtain ⟨a1, a2⟩ := stA_mem h hk h1
  have := ((h s (by omega)).2.2.2.2 a2).2.1
  omega
/-! a split -/
theorem sp_pt (h : stA n K lc up fi se vr fo to ln) (hfk : fi k = none) {j : Nat} (hj : j < K) : pt (ups up K (some k)) (ups (ups fi k (some K)) K none) j = pt up fi j := by
  refine pt_cong (stA_up h) (fun i hi => ⟨ups_n _ _ (by omega), fun s hs => ?_⟩) hj
  obtain ⟨a1, a2⟩ := (h i (by omega)).1 s hs
  have e : s ≠ k := fun e => a2 (by rw [e]; exact hfk)
  rw [ups_n _ _ (show s ≠ K by omega), ups_n _ _ e]
theorem sp_up (h : stA n K lc up fi se vr fo to ln) (hk : k < K) : ∀ j, j < K + 1 → ∀ p, ups up K (some k) j = some p → p < j := by
  intro j hj p hp
  by_cases z : j = K
  · rw [z, ups_s] at hp
    cases hp
    omega
  · rw [ups_n _ _ z] at hp
    exact stA_up h j (by omega) p hp
theorem sp_ptK (h : stA n K lc up fi se vr fo to ln) (hk : k < K) (hfk : fi k = none) : pt (ups up K (some k)) (ups (ups fi k (some K)) K none) K = (k, true) :: pt up fi k := by
  rw [pt_some (sp_up h hk) (by omega) (ups_s _ _ _), sp_pt h hfk hk, ups_n _ _ (show k ≠ K by omega), ups_s]
  simp
theorem sp_fi (hk : k < K) {j : Nat} (hj : j < K + 1) : ups (ups fi k (some K)) K none j ≠ none ↔ j ≠ K ∧ (j = k ∨ fi j ≠ none) := by
  by_cases z : j = K
  · rw [z, ups_s]; simp
  · rw [ups_n _ _ z]
    by_cases y : j = k
    · rw [y, ups_s]; simp [show k ≠ K by omega]
    · rw [ups_n _ _ y]; simp [z, y]
theorem sp_A {x : Nat} {f : Int} (h : stA n K lc up fi se vr fo to ln) (hk : k < K) (hfk : fi k = none) (hx : x < n) (hf : -1000000000000000000 ≤ f ∧ f ≤ 1000000000000000000) : stA n (K + 1) lc (ups up K (some k)) (ups (ups fi k (some K)) K none) (ups se K none) (ups vr k x) (ups fo k f) (ups to k f) (ups ln K (ln k)) := by
  intro j hj
  refine ⟨?_, ?_, ?_, ?_, ?_⟩
  · intro p hp
    have hpj := sp_up h hk j hj p hp
    refine ⟨hpj, (sp_fi hk (by omega)).2 ⟨by omega, ?_⟩⟩
    by_cases z : j = K
    · rw [z, ups_s] at hp
      cases hp
      exact Or.inl rfl
    · rw [ups_n _ _ z] at hp
      exact Or.inr (stA_par h j p (by omega) hp)
  · intro p hp
    by_cases z : j = K
    · rw [z, ups_s] at hp; cases hp
    · rw [ups_n _ _ z] at hp
      by_cases y : j = k
      · rw [y, ups_s] at hp; cases hp; omega
      · rw [ups_n _ _ y] at hp
        have := (h j (by omega)).2.1 p hp
        omega
  · intro p hp
    by_cases z : j = K
    · rw [z, ups_s] at hp; cases hp
    · rw [ups_n _ _ z] at hp
      have := (h j (by omega)).2.2.1 p hp
      exact ⟨by omega, (sp_fi hk hj).2 ⟨z, Or.inr this.2⟩⟩
  · by_cases z : j = K
    · rw [z, ups_s]; exact (h k hk).2.2.2.1
    · rw [ups_n _ _ z]; exact (h j (by omega)).2.2.2.1
  · intro hfj
    obtain ⟨z, y⟩ := (sp_fi hk hj).1 hfj
    by_cases w : j = k
    · rw [w, ups_s, ups_s, ups_s]; exact ⟨hx, hf, hf⟩
    · rw [ups_n _ _ w, ups_n _ _ w, ups_n _ _ w]
      exact (h j (by omega)).2.2.2.2 (y.resolve_left w)
theorem sp_B {x : Nat} {f : Int} (h : stA n K lc up fi se vr fo to ln) (hb : stB K up fi vr fo) (hk : k < K) (hfk : fi k = none) (hu : ∀ v, oU (fU vr fo x (pt up fi k) none) v → f + 1 ≤ v) (hl : ∀ v, oL (fL vr fo x (pt up fi k) none) v → v ≤ f) : stB (K + 1) (ups up K (some k)) (ups (ups fi k (some K)) K none) (ups vr k x) (ups fo k f) := by
  intro j hj hfj
  obtain ⟨z, y⟩ := (sp_fi hk hj).1 hfj
  have hjK : j < K := by omega
  have hmem : ∀ s b, (s, b) ∈ pt up fi j → ups vr k x s = vr s ∧ ups fo k f s = fo s := fun s b hs => by
    obtain ⟨a1, a2⟩ := stA_mem h hjK hs
    have e : s ≠ k := fun e => a2 (by rw [e]; exact hfk)
    exact ⟨ups_n _ _ e, ups_n _ _ e⟩
  rw [sp_pt h hfk hjK, fU_cong hmem, fL_cong hmem]
  by_cases w : j = k
  · rw [w, ups_s, ups_s]; exact ⟨hu, hl⟩
  · rw [ups_n _ _ w, ups_n _ _ w]
    exact hb j hjK (y.resolve_left w)
theorem sp_O (h : stA n K lc up fi se vr fo to ln) (ho : stO K lc spl up fi se ln k) (hl : (pt up fi k).length < 24) (hs : spl < 150) : stO (K + 1) lc (spl + 1) (ups up K (some k)) (ups (ups fi k (some K)) K none) (ups se K none) (ups ln K (ln k)) K := by
  obtain ⟨o1, o2, o3, o4, o5, o6, o7, o8⟩ := ho
  have hk : k < K := by omega
  have hse : se k = none := by
    cases hh : se k with
    | none => rfl
    | some p => exact absurd o2 ((h k hk).2.2.1 p hh).2
  refine ⟨rfl, ups_s _ _ _, by rw [ups_s]; exact o3, by omega, ?_, ?_, ?_, by omega⟩
  · rw [sp_ptK h hk o2]
    show lc + (1 + cT (pt up fi k)) = _
    omega
  · rw [sp_ptK h hk o2]
    intro s b hs2
    rcases List.mem_cons.1 hs2 with e | e
    · cases e
      rw [ups_n _ _ (show k ≠ K by omega), hse]
      simp
    · have := (stA_mem h hk e).1
      rw [ups_n _ _ (show s ≠ K by omega)]
      exact o6 s b e
  · rw [sp_ptK h hk o2, List.length_cons]
    omega
/-! a leaf with a room of its own -/
theorem ad_up {u : Option Nat} (h : stA n K lc up fi se vr fo to ln) (hu : ∀ s, u = some s → s < K ∧ fi s ≠ none) : ∀ j, j < K + 1 → ∀ p, ups up K u j = some p → p < j := by
  intro j hj p hp
  by_cases z : j = K
  · rw [z, ups_s] at hp
    have := (hu p hp).1
    omega
  · rw [ups_n _ _ z] at hp
    exact stA_up h j (by omega) p hp
theorem ad_pt {u : Option Nat} (h : stA n K lc up fi se vr fo to ln) {j : Nat} (hj : j < K) : pt (ups up K u) (ups fi K none) j = pt up fi j := by
  refine pt_cong (stA_up h) (fun i hi => ⟨ups_n _ _ (by omega), fun s hs => ?_⟩) hj
  have := stA_up h i (by omega) s hs
  rw [ups_n _ _ (show s ≠ K by omega)]
theorem ad_ptK {s : Nat} (h : stA n K lc up fi se vr fo to ln) (hs : s < K) (hfs : fi s ≠ none) : pt (ups up K (some s)) (ups fi K none) K = (s, false) :: pt up fi s := by
  rw [pt_some (ad_up h (fun j hj => by cases hj; exact ⟨hs, hfs⟩)) (by omega) (ups_s _ _ _), ad_pt h hs, ups_n _ _ (show s ≠ K by omega)]
  have : fi s ≠ some K := fun e => by
    have := (h s hs).2.1 K e
    omega
  simp [this]
theorem ad_A {u : Option Nat} (h : stA n K lc up fi se vr fo to ln) (hu : ∀ s, u = some s → s < K ∧ fi s ≠ none) : stA n (K + 1) (lc + 1) (ups up K u) (ups fi K none) (fun k => if k = K then none else if u = some k then some K else se k) vr fo to (ups ln K lc) := by
  intro j hj
  refine ⟨?_, ?_, ?_, ?_, ?_⟩
  · intro p hp
    have hpj := ad_up h hu j hj p hp
    refine ⟨hpj, ?_⟩
    rw [ups_n _ _ (show p ≠ K by omega)]
    by_cases z : j = K
    · rw [z, ups_s] at hp
      exact (hu p hp).2
    · rw [ups_n _ _ z] at hp
      exact stA_par h j p (by omega) hp
  · intro p hp
    by_cases z : j = K
    · rw [z, ups_s] at hp; cases hp
    · rw [ups_n _ _ z] at hp
      have := (h j (by omega)).2.1 p hp
      omega
  · intro p hp
    by_cases z : j = K
    · simp only [if_pos z] at hp; cases hp
    · simp only [if_neg z] at hp
      rw [ups_n _ _ z]
      by_cases y : u = some j
      · rw [if_pos y] at hp
        cases hp
        exact ⟨by omega, (hu j y).2⟩
      · rw [if_neg y] at hp
        have := (h j (by omega)).2.2.1 p hp
        exact ⟨by omega, this.2⟩
  · by_cases z : j = K
    · rw [z, ups_s]; omega
    · rw [ups_n _ _ z]
      have := (h j (by omega)).2.2.2.1
      omega
  · intro hfj
    by_cases z : j = K
    · rw [z, ups_s] at hfj; exact absurd rfl hfj
    · rw [ups_n _ _ z] at hfj
      exact (h j (by omega)).2.2.2.2 hfj
theorem ad_B {u : Option Nat} (h : stA n K lc up fi se vr fo to ln) (hb : stB K up fi vr fo) : stB (K + 1) (ups up K u) (ups fi K none) vr fo := by
  intro j hj hfj
  by_cases z : j = K
  · rw [z, ups_s] at hfj; exact absurd rfl hfj
  · rw [ups_n _ _ z] at hfj
    rw [ad_pt h (show j < K by omega)]
    exact hb j (by omega) hfj
theorem ad_O {s : Nat} (h : stA n K lc up fi se vr fo to ln) (ho : stO K lc spl up fi se ln k) (hl : lwt se (pt up fi k) = some s) : s < K ∧ fi s ≠ none ∧ lc ≤ spl ∧ (∀ e, e ∈ pt up fi s → e ∈ pt up fi k) ∧ stO (K + 1) (lc + 1) spl (ups up K (some s)) (ups fi K none) (fun j => if j = K then none else if some s = some j then some K else se j) (ups ln K lc) K := by
  obtain ⟨o1, o2, o3, o4, o5, o6, o7, o8⟩ := ho
  have hk : k < K := by omega
  obtain ⟨a1, a2, l, b, a3, a4⟩ := lwt_pt (stA_up h) hk hl
  have hin : (s, b) ∈ pt up fi k := by rw [a3]; simp
  have hsub : ∀ e, e ∈ pt up fi s → e ∈ pt up fi k := fun e he => by rw [a3]; simp [he]
  have hfs := (stA_mem h hk hin).2
  have hsK : s < K := by omega
  have hb : b = true := (o6 s b hin).2 a2
  have hc : cT (pt up fi k) = 1 + cT (pt up fi s) := by
    rw [a3, cT_app, cT_0]
    · show 0 + ((if b = true then 1 else 0) + cT (pt up fi s)) = _
      rw [if_pos hb]
      omega
    · intro t d ht
      have h1 := a4 (t, d) ht
      have h2 := o6 t d (by rw [a3]; simp [ht])
      cases d with
      | false => rfl
      | true => exact absurd (h2.1 rfl) h1
  have hlen : (pt up fi s).length < (pt up fi k).length := by rw [a3]; simp; omega
  refine ⟨hsK, hfs, by omega, hsub, rfl, ups_s _ _ _, by rw [ups_s], by omega, ?_, ?_, ?_, o8⟩
  · rw [ad_ptK h hsK hfs]
    show lc + 1 + (0 + cT (pt up fi s)) = _
    omega
  · rw [ad_ptK h hsK hfs]
    intro t d ht
    rcases List.mem_cons.1 ht with e | e
    · cases e
      simp [show s ≠ K by omega]
    · have := (stA_mem h hsK e).1
      simp only [if_neg (show t ≠ K by omega)]
      rw [if_neg (fun w => by cases w; omega)]
      exact o6 t d (hsub _ e)
  · rw [ad_ptK h hsK hfs, List.length_cons]
    omega
end TM
