/-! ===== the path from a node up ===== -/
def pth (up fi : Nat → Option Nat) : Nat → Nat → List (Nat × Bool)
  | 0, _ => []
  | g + 1, k => match up k with
    | none => []
    | some s => (s, decide (fi s = some k)) :: pth up fi g s
def pt (up fi : Nat → Option Nat) (k : Nat) : List (Nat × Bool) := pth up fi (k + 1) k
theorem pth_fuel {up fi : Nat → Option Nat} {K : Nat} (hw : ∀ k, k < K → ∀ p, up k = some p → p < k) : ∀ (g h k : Nat), k < K → k < g → k < h → pth up fi g k = pth up fi h k
  | 0, _, _, _, h, _ => absurd h (Nat.not_lt_zero _)
  | _ + 1, 0, _, _, _, h => absurd h (Nat.not_lt_zero _)
  | g + 1, h + 1, k, hk, hg, hh => by
    simp only [pth]
    cases hu : up k with
    | none => rfl
    | some s =>
      have hs := hw k hk s hu
      simp only
      rw [pth_fuel hw g h s (by omega) (by omega) (by omega)]
theorem pt_none {up fi : Nat → Option Nat} {k : Nat} (hu : up k = none) : pt up fi k = [] := by
  simp only [pt, pth, hu]
theorem pt_some {up fi : Nat → Option Nat} {K k s : Nat} (hw : ∀ k, k < K → ∀ p, up k = some p → p < k) (hk : k < K) (hu : up k = some s) : pt up fi k = (s, decide (fi s = some k)) :: pt up fi s := by
  have hs := hw k hk s hu
  unfold pt
  rw [pth]
  simp only [hu]
  rw [pth_fuel hw k (s + 1) s (by omega) (by omega) (by omega)]
theorem pt_len {up fi : Nat → Option Nat} {K : Nat} (hw : ∀ k, k < K → ∀ p, up k = some p → p < k) : ∀ (k : Nat), k < K → (pt up fi k).length ≤ k := by
  intro k
  induction k using Nat.strongRecOn with
  | ind k ih =>
    intro hk
    cases hu : up k with
    | none => rw [pt_none hu]; simp
    | some s =>
      have hs := hw k hk s hu
      rw [pt_some hw hk hu, List.length_cons]
      have := ih s hs (by omega)
      omega
def tU (u : Option Int) (v : Int) : Option Int := match u with
  | none => some v
  | some a => some (min a v)
def tL (u : Option Int) (v : Int) : Option Int := match u with
  | none => some v
  | some a => some (max a v)
def fU (vr : Nat → Nat) (at1 : Nat → Int) (x : Nat) : List (Nat × Bool) → Option Int → Option Int
  | [], a => a
  | (s, b) :: l, a => fU vr at1 x l (if b = true ∧ vr s = x then tU a (at1 s) else a)
def fL (vr : Nat → Nat) (at1 : Nat → Int) (x : Nat) : List (Nat × Bool) → Option Int → Option Int
  | [], a => a
  | (s, b) :: l, a => fL vr at1 x l (if b = false ∧ vr s = x then tL a (at1 s + 1) else a)
def lwt (se : Nat → Option Nat) : List (Nat × Bool) → Option Nat
  | [] => none
  | (s, _) :: l => if se s = none then some s else lwt se l
/-! ===== Bounds ===== -/
def bnSh (σ : tz_S) (B : Nat) : Prop := tz_sh σ B = some (.inl (1, [some (some (B + 1)), some (some (B + 2)), some (some (B + 3)), some (some (B + 4))])) ∧ tz_sh σ (B + 1) = some (.inr (1, 22)) ∧ tz_sh σ (B + 2) = some (.inr (1, 22)) ∧ tz_sh σ (B + 3) = some (.inr (2, 22)) ∧ tz_sh σ (B + 4) = some (.inr (2, 22))
theorem bnSh_fr {P : Nat → Prop} {σ σ1 : tz_S} {B : Nat} (h : bnSh σ B) (hf : Fr P σ σ1) : bnSh σ1 B := by
  unfold bnSh at *
  rw [Fr_sh hf]
  exact h
theorem cs_bn1 {σ : tz_S} {o N : Nat} (h : cSh σ o N) : bnSh σ (o + 323) := ⟨cs_bnd h, cs_hup h, cs_hlo h, cs_up h, cs_lo h⟩
theorem cs_bn2 {σ : tz_S} {o N : Nat} (h : cSh σ o N) : bnSh σ (o + 331) := ⟨cs_jbnd h, cs_jhup h, cs_jhlo h, cs_jup h, cs_jlo h⟩
def bp (σ : tz_S) (B p : Nat) (u l : Option Int) : Prop := (tz_A σ (B + 1) p = if u = none then 0 else 1) ∧ (tz_A σ (B + 2) p = if l = none then 0 else 1) ∧ (∀ v, u = some v → (tz_L σ (B + 3) p).toInt = v) ∧ ∀ v, l = some v → (tz_L σ (B + 4) p).toInt = v
def bnP (B : Nat) : Nat → Prop := fun x => B + 1 ≤ x ∧ x ≤ B + 4
theorem bp_fr {P : Nat → Prop} {σ σ1 : tz_S} {B p : Nat} {u l : Option Int} (h : bp σ B p u l) (hf : Fr P σ σ1) (hP : ∀ x, B + 1 ≤ x → x ≤ B + 4 → ¬ P x) : bp σ1 B p u l := by
  unfold bp at *
  rw [Fr_A hf (hP (B + 1) (by omega) (by omega)), Fr_A hf (hP (B + 2) (by omega) (by omega)), Fr_L hf (hP (B + 3) (by omega) (by omega)), Fr_L hf (hP (B + 4) (by omega) (by omega))]
  exact h
section BN
variable {f B n : Nat} {σ : tz_S} {ub lb : Nat → Option Int}
theorem c_tightenUpper {x : Nat} {v : Int64} (hs : bnSh σ B) (hx : x < 22) (hb : ∀ p, p < 22 → (p = x ∨ p < n) → bp σ B p (ub p) (lb p)) : gp (X1_tightenUpper f (some B) (nI x) v) σ (fun _ σ' => Fr (bnP B) σ σ' ∧ (∀ p, p < 22 → (p = x ∨ p < n) → bp σ' B p (if p = x then tU (ub p) v.toInt else ub p) (lb p)) ∧ ∀ p, p ≠ x → tz_A σ' (B + 1) p = tz_A σ (B + 1) p ∧ tz_A σ' (B + 2) p = tz_A σ (B + 2) p ∧ tz_L σ' (B + 3) p = tz_L σ (B + 3) p ∧ tz_L σ' (B + 4) p = tz_L σ (B + 4) p) := by
  obtain ⟨s1, s2, s3, s4, s5⟩ := id hs
  obtain ⟨b1, b2, b3, b4⟩ := hb x hx (Or.inl rfl)
  have fin : ∀ w : Int64, (tU (ub x) v.toInt = some w.toInt) → gp (X1_tightenUpper_b28 f (some B) (nI x) (some (B + 3)) (nI x) w) σ (fun _ σ' => Fr (bnP B) σ σ' ∧ (∀ p, p < 22 → (p = x ∨ p < n) → bp σ' B p (if p = x then tU (ub p) v.toInt else ub p) (lb p)) ∧ ∀ p, p ≠ x → tz_A σ' (B + 1) p = tz_A σ (B + 1) p ∧ tz_A σ' (B + 2) p = tz_A σ (B + 2) p ∧ tz_L σ' (B + 3) p = tz_L σ (B + 3) p ∧ tz_L σ' (B + 4) p = tz_L σ (B + 4) p) := by
    intro w hw
    unfold X1_tightenUpper_b28
    refine gp_sL (j := x) s4 (by omega) (by omega) rfl ?_
    have s1' : tz_sh (tz_sL σ (B + 3) x w) B = some (.inl (1, [some (some (B + 1)), some (some (B + 2)), some (some (B + 3)), some (some (B + 4))])) := s1
    refine gp_rR s1' rfl ?_
    refine gp_sZ (σ := tz_sL σ (B + 3) x w) (j := x) s2 (by omega) (by omega) rfl (Or.inr rfl) ?_
    refine gp_ret ⟨Fr_trans (Fr_sL (by unfold bnP; omega)) (Fr_sA (by unfold bnP; omega)), ?_, ?_⟩
    · intro p hp hpn
      show tz_u2 (tz_A σ) (B + 1) x 1 (B + 1) p = _ ∧ tz_u2 (tz_A σ) (B + 1) x 1 (B + 2) p = _ ∧ (∀ v', _ → (tz_u2 (tz_L σ) (B + 3) x w (B + 3) p).toInt = v') ∧ ∀ v', _ → (tz_u2 (tz_L σ) (B + 3) x w (B + 4) p).toInt = v'
      rw [tz_u2_ne (tz_A σ) (b := B + 2) _ (Or.inl (by omega)), tz_u2_ne (tz_L σ) (b := B + 4) _ (Or.inl (by omega))]
      by_cases z : p = x
      · subst z
        rw [tz_u2_same, tz_u2_same, if_pos rfl, hw]
        exact ⟨by simp, b2, fun v' h => by cases h; rfl, b4⟩
      · rw [tz_u2_ne _ _ (Or.inr z), tz_u2_ne _ _ (Or.inr z), if_neg z]
        exact hb p hp hpn
    · intro p hp
      show tz_u2 (tz_A σ) (B + 1) x 1 (B + 1) p = _ ∧ tz_u2 (tz_A σ) (B + 1) x 1 (B + 2) p = _ ∧ tz_u2 (tz_L σ) (B + 3) x w (B + 3) p = _ ∧ tz_u2 (tz_L σ) (B + 3) x w (B + 4) p = _
      rw [tz_u2_ne _ _ (Or.inr hp), tz_u2_ne _ _ (Or.inr hp), tz_u2_ne _ _ (Or.inr hp), tz_u2_ne _ _ (Or.inr hp)]
      exact ⟨rfl, rfl, rfl, rfl⟩
  unfold X1_tightenUpper
  refine gp_rR s1 rfl ?_
  refine gp_rR s1 rfl ?_
  refine gp_aI (j := x) s2 (by decide) (by omega) (by omega) rfl ?_
  rw [b1]
  cases hu : ub x with
  | none =>
    rw [hu] at fin
    exact gp_t (by simp) (fin v rfl)
  | some a =>
    rw [hu] at fin b3
    rw [if_neg (by simp)]
    refine gp_f (by decide) ?_
    refine gp_rR s1 rfl ?_
    refine gp_aL (j := x) s4 (by omega) (by omega) rfl ?_
    have ha := b3 a rfl
    generalize tz_L σ (B + 3) x = w at ha ⊢
    refine fin _ ?_
    show some (min a v.toInt) = _
    by_cases z : v < w
    · rw [if_pos z]
      rw [Int64.lt_iff_toInt_lt] at z
      rw [Int.min_def, if_neg (by omega)]
    · rw [if_neg z]
      rw [Int64.lt_iff_toInt_lt] at z
      rw [Int.min_def, if_pos (by omega), ha]
theorem c_tightenLower {x : Nat} {v : Int64} (hs : bnSh σ B) (hx : x < 22) (hb : ∀ p, p < 22 → (p = x ∨ p < n) → bp σ B p (ub p) (lb p)) : gp (X1_tightenLower f (some B) (nI x) v) σ (fun _ σ' => Fr (bnP B) σ σ' ∧ (∀ p, p < 22 → (p = x ∨ p < n) → bp σ' B p (ub p) (if p = x then tL (lb p) v.toInt else lb p)) ∧ ∀ p, p ≠ x → tz_A σ' (B + 1) p = tz_A σ (B + 1) p ∧ tz_A σ' (B + 2) p = tz_A σ (B + 2) p ∧ tz_L σ' (B + 3) p = tz_L σ (B + 3) p ∧ tz_L σ' (B + 4) p = tz_L σ (B + 4) p) := by
  obtain ⟨s1, s2, s3, s4, s5⟩ := id hs
  obtain ⟨b1, b2, b3, b4⟩ := hb x hx (Or.inl rfl)
  have fin : ∀ w : Int64, (tL (lb x) v.toInt = some w.toInt) → gp (X1_tightenLower_b28 f (some B) (nI x) (some (B + 4)) (nI x) w) σ (fun _ σ' => Fr (bnP B) σ σ' ∧ (∀ p, p < 22 → (p = x ∨ p < n) → bp σ' B p (ub p) (if p = x then tL (lb p) v.toInt else lb p)) ∧ ∀ p, p ≠ x → tz_A σ' (B + 1) p = tz_A σ (B + 1) p ∧ tz_A σ' (B + 2) p = tz_A σ (B + 2) p ∧ tz_L σ' (B + 3) p = tz_L σ (B + 3) p ∧ tz_L σ' (B + 4) p = tz_L σ (B + 4) p) := by
    intro w hw
    unfold X1_tightenLower_b28
    refine gp_sL (j := x) s5 (by omega) (by omega) rfl ?_
    have s1' : tz_sh (tz_sL σ (B + 4) x w) B = some (.inl (1, [some (some (B + 1)), some (some (B + 2)), some (some (B + 3)), some (some (B + 4))])) := s1
    refine gp_rR s1' rfl ?_
    refine gp_sZ (σ := tz_sL σ (B + 4) x w) (j := x) s3 (by omega) (by omega) rfl (Or.inr rfl) ?_
    refine gp_ret ⟨Fr_trans (Fr_sL (by unfold bnP; omega)) (Fr_sA (by unfold bnP; omega)), ?_, ?_⟩
    · intro p hp hpn
      show tz_u2 (tz_A σ) (B + 2) x 1 (B + 1) p = _ ∧ tz_u2 (tz_A σ) (B + 2) x 1 (B + 2) p = _ ∧ (∀ v', _ → (tz_u2 (tz_L σ) (B + 4) x w (B + 3) p).toInt = v') ∧ ∀ v', _ → (tz_u2 (tz_L σ) (B + 4) x w (B + 4) p).toInt = v'
      rw [tz_u2_ne (tz_A σ) (b := B + 1) _ (Or.inl (by omega)), tz_u2_ne (tz_L σ) (b := B + 3) _ (Or.inl (by omega))]
      by_cases z : p = x
      · subst z
        rw [tz_u2_same, tz_u2_same, if_pos rfl, hw]
        exact ⟨b1, by simp, b3, fun v' h => by cases h; rfl⟩
      · rw [tz_u2_ne _ _ (Or.inr z), tz_u2_ne _ _ (Or.inr z), if_neg z]
        exact hb p hp hpn
    · intro p hp
      show tz_u2 (tz_A σ) (B + 2) x 1 (B + 1) p = _ ∧ tz_u2 (tz_A σ) (B + 2) x 1 (B + 2) p = _ ∧ tz_u2 (tz_L σ) (B + 4) x w (B + 3) p = _ ∧ tz_u2 (tz_L σ) (B + 4) x w (B + 4) p = _
      rw [tz_u2_ne _ _ (Or.inr hp), tz_u2_ne _ _ (Or.inr hp), tz_u2_ne _ _ (Or.inr hp), tz_u2_ne _ _ (Or.inr hp)]
      exact ⟨rfl, rfl, rfl, rfl⟩
  unfold X1_tightenLower
  refine gp_rR s1 rfl ?_
  refine gp_rR s1 rfl ?_
  refine gp_aI (j := x) s3 (by decide) (by omega) (by omega) rfl ?_
  rw [b2]
  cases hu : lb x with
  | none =>
    rw [hu] at fin
    exact gp_t (by simp) (fin v rfl)
  | some a =>
    rw [hu] at fin b4
    rw [if_neg (by simp)]
    refine gp_f (by decide) ?_
    refine gp_rR s1 rfl ?_
    refine gp_aL (j := x) s5 (by omega) (by omega) rfl ?_
    have ha := b4 a rfl
    generalize tz_L σ (B + 4) x = w at ha ⊢
    refine fin _ ?_
    show some (max a v.toInt) = _
    by_cases z : v < w
    · rw [if_pos z]
      rw [Int64.lt_iff_toInt_lt] at z
      rw [Int.max_def, if_neg (by omega), ha]
    · rw [if_neg z]
      rw [Int64.lt_iff_toInt_lt] at z
      rw [Int.max_def, if_pos (by omega)]
end BN
