/-! ===== Judge: leaves ===== -/
def rsR (kd : Nat → Nat) (mp : Nat → Int × Int) (r : Nat) : Bool := (decide ((mp r).1 < 0) && decide (kd r = 0)) || (decide (0 < (mp r).1) && decide (kd r = 1))
def rsV (ub lb : Nat → Option Int) (mp : Nat → Int × Int) (x : Nat) : Bool := (decide ((mp (12 + x)).1 < 0) || (decide (0 < (mp (12 + x)).1) && decide (ub x = none))) || (decide (0 < (mp (22 + x)).1) || (decide ((mp (22 + x)).1 < 0) && decide (lb x = none)))
def cvW (m : Nat) (A : Nat → Nat → Int) (x i : Nat) : Int := if i < m then A i x else if i = 12 + x ∨ i = 22 + x then 1 else 0
def cvB (m : Nat) (A : Nat → Nat → Int) (mp : Nat → Int × Int) (x : Nat) : Bool := decide (sgT 32 (cvW m A x) mp 0 ≠ 0)
def bzW (n m : Nat) (bb : Nat → Int) (ub lb : Nat → Option Int) (i : Nat) : Int := if i < m then bb i else if 12 ≤ i ∧ i < 12 + n then (ub (i - 12)).getD 0 else if 22 ≤ i ∧ i < 22 + n then (lb (i - 22)).getD 0 else 0
def gdL (n m : Nat) (A : Nat → Nat → Int) (kd : Nat → Nat) (bb : Nat → Int) (ub lb : Nat → Option Int) (mp : Nat → Int × Int) : Bool := decide (fst1 (rsR kd mp) m = none ∧ fst1 (rsV ub lb mp) n = none) && (decide (fst1 (cvB m A mp) n = none) && decide (sgT 32 (bzW n m bb ub lb) mp 0 = -1))
theorem lf_ps {σ : tz_S} {o l : Nat} {mp : Nat → Int × Int} (h1 : lfSh σ l) (h2 : lfV σ l mp) (hl : o + 340 < l) : psV σ o (l + 1) 32 8 (fun i => l + 2 + 5 * i) mp := ⟨h1.2.1, fun i hi => ⟨(h1.2.2 i hi).2, h2 i hi, by show o + 340 < l + 2 + 5 * i; omega⟩⟩
theorem e70 : (10000000 : Nat) ^ 10 = 10 ^ 70 := by decide
theorem jd_lf {f g : Nat → Int × Int} {w : Nat → Int} (h : lfI f g) (hw : ∀ i, i < 32 → -1000000000000000001 ≤ w i ∧ w i ≤ 1000000000000000001) : jdP 32 w f := by
  refine ⟨by decide, fun i hi => ?_, h.2⟩
  obtain ⟨a1, -, -, -, -, a6, a7⟩ := h.1 i hi
  have h1 := hw i hi
  rw [e70] at a6 a7
  have h2 : (w i).natAbs ≤ 10 ^ 19 := by
    have : (10 : Nat) ^ 19 = 10000000000000000000 := by decide
    omega
  exact ⟨a1, by omega, p10_m a6 (by omega), p10_m (p10_mul h2 a6) (by omega), by omega⟩
section JL
variable {f o N n m l : Nat} {σ : tz_S} {A : Nat → Nat → Int} {kd : Nat → Nat} {bb dr : Nat → Int} {wh : Nat → Bool} {mp mq : Nat → Int × Int} {ub lb : Nat → Option Int}
theorem isg_n {v : Int} : (isg v < 0 ↔ v < 0) ∧ (isg v ≤ 0 ↔ v ≤ 0) ∧ (0 < isg v ↔ 0 < v) ∧ (0 ≤ isg v ↔ 0 ≤ v) := by
  rcases isg_cases v with z | z | z
  · rw [z.2]; exact ⟨⟨fun h => absurd h (by decide), fun h => by omega⟩, ⟨fun h => absurd h (by decide), fun h => by omega⟩, ⟨fun _ => z.1, fun _ => by decide⟩, ⟨fun _ => by omega, fun _ => by decide⟩⟩
  · rw [z.2]; exact ⟨⟨fun _ => z.1, fun _ => by decide⟩, ⟨fun _ => by omega, fun _ => by decide⟩, ⟨fun h => absurd h (by decide), fun h => by omega⟩, ⟨fun h => absurd h (by decide), fun h => by omega⟩⟩
  · rw [z.2]; exact ⟨⟨fun h => absurd h (by decide), fun h => by omega⟩, ⟨fun _ => by omega, fun _ => by decide⟩, ⟨fun h => absurd h (by decide), fun h => by omega⟩, ⟨fun _ => by omega, fun _ => by decide⟩⟩
set_option maxHeartbeats 1000000 in
theorem c_haveRightSigns (hc : cSh σ o N) (hr : rwI n m A kd bb dr) (hw : rwV σ o n m A kd bb wh dr) (hl1 : lfSh σ l) (hl2 : lfV σ l mp) (hb : ∀ x, x < n → bp σ (o + 331) x (ub x) (lb x)) (hf : 2000 ≤ f) :
    gp (X4_haveRightSigns f (some (o + 328)) (some l)) σ (fun y σ' => σ' = σ ∧ y = if fst1 (rsR kd mp) m = none ∧ fst1 (rsV ub lb mp) n = none then 1 else 0) := by
  have hn := hr.1.1
  have hm := hr.1.2
  unfold X4_haveRightSigns X4_haveRightSigns_L2
  refine gp_loop (I := fun (τ : Int32) (σ' : tz_S) => ∃ i, τ = nI i ∧ i ≤ m ∧ σ' = σ ∧ ∀ p, p < i → rsR kd mp p = false) (fun τ _ => 100 - τ.toNatClampNeg) ?_ f _ _ ⟨0, rfl, Nat.zero_le _, rfl, fun x hx => absurd hx (Nat.not_lt_zero _)⟩ (by omega)
  rintro K l2 σ1 ⟨i, rfl, hi, hσ, h1⟩ hK
  rw [hσ]
  clear hσ σ1
  show gp (X4_haveRightSigns_L2_body f (some (o + 328)) (some l) (fun l2 => K l2) (nI i)) σ _
  unfold X4_haveRightSigns_L2_body
  refine gp_rR (cs_judge hc) rfl ?_
  refine gp_rI (cs_rows hc) rfl ?_
  rw [hw.1.2.1]
  refine gp_if (fun z => ?_) (fun z => ?_)
  · rw [nI_leI (by omega) (by omega)] at z
    have hnone : fst1 (rsR kd mp) m = none := fst1_none (fun p hp => h1 p (by omega))
    rw [hnone]
    clear hK K h1 z hi i
    unfold X4_haveRightSigns_L69
    refine gp_loop (I := fun (τ : Int32) (σ' : tz_S) => ∃ i, τ = nI i ∧ i ≤ n ∧ σ' = σ ∧ ∀ p, p < i → rsV ub lb mp p = false) (fun τ _ => 100 - τ.toNatClampNeg) ?_ f _ _ ⟨0, rfl, Nat.zero_le _, rfl, fun x hx => absurd hx (Nat.not_lt_zero _)⟩ (by omega)
    rintro K l2 σ1 ⟨i, rfl, hi, hσ, h1⟩ hK
    rw [hσ]
    clear hσ σ1
    show gp (X4_haveRightSigns_L69_body f (some (o + 328)) (some l) (fun l2 => K l2) (nI i)) σ _
    unfold X4_haveRightSigns_L69_body
    refine gp_rR (cs_judge hc) rfl ?_
    refine gp_rI (cs_rows hc) rfl ?_
    rw [hw.1.1]
    refine gp_if (fun z => ?_) (fun z => ?_)
    · rw [nI_leI (by omega) (by omega)] at z
      refine gp_zz (Or.inr rfl) (gp_ret ⟨rfl, ?_⟩)
      rw [if_pos ⟨rfl, fst1_none (fun p hp => h1 p (by omega))⟩]
    rw [nI_leI (by omega) (by omega)] at z
    have bad : rsV ub lb mp i = true → gp (X4_haveRightSigns_b155 f) σ (fun y σ' => σ' = σ ∧ y = if (none : Option Nat) = none ∧ fst1 (rsV ub lb mp) n = none then 1 else 0) := by
      intro q
      unfold X4_haveRightSigns_b155
      refine gp_zz (Or.inl rfl) (gp_ret ⟨rfl, ?_⟩)
      rw [fst1_some h1 q (by omega), if_neg (by simp)]
    have nxt : rsV ub lb mp i = false → gp (X4_haveRightSigns_b157 f (fun l2 => K l2) (some (o + 328)) (some l) (nI i)) σ (fun y σ' => σ' = σ ∧ y = if (none : Option Nat) = none ∧ fst1 (rsV ub lb mp) n = none then 1 else 0) := by
      intro q
      unfold X4_haveRightSigns_b157
      refine gp_let ?_
      rw [nI_1]
      refine hK _ _ ⟨i + 1, rfl, by omega, rfl, fun p hp => ?_⟩ (by rw [nI_clamp (by omega), nI_clamp (by omega)]; omega)
      by_cases e : p = i
      · rw [e]; exact q
      · exact h1 p (by omega)
    have hz1 := hl2 (12 + i) (by omega)
    have hz2 := hl2 (22 + i) (by omega)
    obtain ⟨s1, s2, s3, s4, s5⟩ := cs_bn2 hc
    obtain ⟨b1, b2, -, -⟩ := hb i (by omega)
    refine gp_rR hl1.1 rfl ?_
    refine gp_aR (j := 12 + i) hl1.2.1 (by decide) (by omega) (by omega) (by rw [show (12 : Int32) = nI 12 from rfl, nI_add]) ?_
    rw [(hl1.2.2 (12 + i) (by omega)).2]
    refine gp_rR hz1.1 rfl ?_
    refine gp_rI (Bz_cl hz1.2.1) rfl ?_
    rw [Bz_sign hz1.2.1]
    refine gp_rR hl1.1 rfl ?_
    refine gp_aR (j := 22 + i) hl1.2.1 (by decide) (by omega) (by omega) (by rw [show (22 : Int32) = nI 22 from rfl, nI_add]) ?_
    rw [(hl1.2.2 (22 + i) (by omega)).2]
    refine gp_rR hz2.1 rfl ?_
    refine gp_rI (Bz_cl hz2.2.1) rfl ?_
    rw [Bz_sign hz2.2.1]
    refine gp_if (fun y => ?_) (fun y => ?_)
    · rw [isg_n.1] at y
      refine bad ?_
      unfold rsV
      simp [y]
    rw [isg_n.1] at y
    have low : ¬ (0 < (mp (12 + i)).1 ∧ ub i = none) → gp (X4_haveRightSigns_b133 f (fun l2 => K l2) (some (o + 328)) (some l) (nI i) (isg (mp (22 + i)).1)) σ (fun y σ' => σ' = σ ∧ y = if (none : Option Nat) = none ∧ fst1 (rsV ub lb mp) n = none then 1 else 0) := by
      intro q
      unfold X4_haveRightSigns_b133
      refine gp_if (fun x => ?_) (fun x => ?_)
      · rw [isg_n.2.2.1] at x
        refine bad ?_
        unfold rsV
        simp [x]
      rw [isg_n.2.2.1] at x
      refine gp_if (fun v => ?_) (fun v => ?_)
      · rw [isg_n.2.2.2] at v
        refine nxt ?_
        unfold rsV
        simp only [Bool.or_eq_false_iff, Bool.and_eq_false_iff, decide_eq_false_iff_not]
        refine ⟨⟨y, ?_⟩, x, Or.inl (by omega)⟩
        by_cases w : 0 < (mp (12 + i)).1
        · exact Or.inr (fun e => q ⟨w, e⟩)
        · exact Or.inl w
      rw [isg_n.2.2.2] at v
      refine gp_rR (cs_judge hc) rfl ?_
      refine gp_rR s1 rfl ?_
      refine gp_aI (j := i) s3 (by decide) (by omega) (by omega) rfl ?_
      rw [b2]
      by_cases e : lb i = none
      · rw [if_pos e]
        refine gp_t rfl (bad ?_)
        unfold rsV
        simp [e, show (mp (22 + i)).1 < 0 by omega]
      · rw [if_neg e]
        refine gp_f (by decide) (nxt ?_)
        unfold rsV
        simp only [Bool.or_eq_false_iff, Bool.and_eq_false_iff, decide_eq_false_iff_not]
        refine ⟨⟨y, ?_⟩, x, Or.inr e⟩
        by_cases w : 0 < (mp (12 + i)).1
        · exact Or.inr (fun e => q ⟨w, e⟩)
        · exact Or.inl w
    refine gp_if (fun x => ?_) (fun x => ?_)
    · rw [isg_n.2.1] at x
      exact low (fun w => by omega)
    rw [isg_n.2.1] at x
    refine gp_rR (cs_judge hc) rfl ?_
    refine gp_rR s1 rfl ?_
    refine gp_aI (j := i) s2 (by decide) (by omega) (by omega) rfl ?_
    rw [b1]
    by_cases e : ub i = none
    · rw [if_pos e]
      refine gp_t rfl (bad ?_)
      unfold rsV
      simp [e, show 0 < (mp (12 + i)).1 by omega]
    · rw [if_neg e]
      exact gp_f (by decide) (low (fun w => e w.2))
  rw [nI_leI (by omega) (by omega)] at z
  have him : i < m := by omega
  have hkd := hw.2.2.1 i him
  have hz := hl2 i (by omega)
  have bad : rsR kd mp i = true → gp (X4_haveRightSigns_b59 f) σ (fun y σ' => σ' = σ ∧ y = if fst1 (rsR kd mp) m = none ∧ fst1 (rsV ub lb mp) n = none then 1 else 0) := by
    intro q
    unfold X4_haveRightSigns_b59
    refine gp_zz (Or.inl rfl) (gp_ret ⟨rfl, ?_⟩)
    rw [fst1_some h1 q him, if_neg (by simp)]
  have nxt : rsR kd mp i = false → gp (X4_haveRightSigns_b61 f (fun l2 => K l2) (some (o + 328)) (some l) (nI i)) σ (fun y σ' => σ' = σ ∧ y = if fst1 (rsR kd mp) m = none ∧ fst1 (rsV ub lb mp) n = none then 1 else 0) := by
    intro q
    unfold X4_haveRightSigns_b61
    refine gp_let ?_
    rw [nI_1]
    refine hK _ _ ⟨i + 1, rfl, by omega, rfl, fun p hp => ?_⟩ (by rw [nI_clamp (by omega), nI_clamp (by omega)]; omega)
    by_cases e : p = i
    · rw [e]; exact q
    · exact h1 p (by omega)
  refine gp_rR hl1.1 rfl ?_
  refine gp_aR (j := i) hl1.2.1 (by decide) (by omega) (by omega) rfl ?_
  rw [(hl1.2.2 i (by omega)).2]
  refine gp_rR hz.1 rfl ?_
  refine gp_rI (Bz_cl hz.2.1) rfl ?_
  rw [Bz_sign hz.2.1]
  have rest : ¬ ((mp i).1 < 0 ∧ kd i = 0) → gp (X4_haveRightSigns_b42 f (fun l2 => K l2) (some (o + 328)) (some l) (nI i) (isg (mp i).1)) σ (fun y σ' => σ' = σ ∧ y = if fst1 (rsR kd mp) m = none ∧ fst1 (rsV ub lb mp) n = none then 1 else 0) := by
    intro q
    have qq : (mp i).1 < 0 → kd i ≠ 0 := fun a b => q ⟨a, b⟩
    unfold X4_haveRightSigns_b42
    refine gp_if (fun x => ?_) (fun x => ?_)
    · rw [isg_n.2.1] at x
      refine nxt ?_
      unfold rsR
      simp only [Bool.or_eq_false_iff, Bool.and_eq_false_iff, decide_eq_false_iff_not]
      refine ⟨?_, Or.inl (by omega)⟩
      by_cases w : (mp i).1 < 0
      · exact Or.inr (qq w)
      · exact Or.inl w
    rw [isg_n.2.1] at x
    refine gp_rR (cs_judge hc) rfl ?_
    refine gp_rR (cs_rows hc) rfl ?_
    refine gp_aI (j := i) (cs_kinds hc) (by decide) (by omega) (by omega) rfl ?_
    rw [hkd.1]
    refine gp_if (fun v => ?_) (fun v => ?_)
    · rw [show (1 : Int32) = nI 1 from rfl, nI_eq (by omega) (by omega)] at v
      refine bad ?_
      unfold rsR
      simp [v, show 0 < (mp i).1 by omega]
    · rw [show (1 : Int32) = nI 1 from rfl, nI_eq (by omega) (by omega)] at v
      refine nxt ?_
      unfold rsR
      simp only [Bool.or_eq_false_iff, Bool.and_eq_false_iff, decide_eq_false_iff_not]
      exact ⟨Or.inl (by omega), Or.inr v⟩
  refine gp_if (fun x => ?_) (fun x => ?_)
  · rw [isg_n.2.2.2] at x
    exact rest (fun w => by omega)
  rw [isg_n.2.2.2] at x
  refine gp_rR (cs_judge hc) rfl ?_
  refine gp_rR (cs_rows hc) rfl ?_
  refine gp_aI (j := i) (cs_kinds hc) (by decide) (by omega) (by omega) rfl ?_
  rw [hkd.1]
  refine gp_if (fun v => ?_) (fun v => ?_)
  · rw [show (0 : Int32) = nI 0 from rfl, nI_eq (by omega) (by omega)] at v
    refine bad ?_
    unfold rsR
    simp [v, show (mp i).1 < 0 by omega]
  · rw [show (0 : Int32) = nI 0 from rfl, nI_eq (by omega) (by omega)] at v
    exact rest (fun w => v w.2)
end JL
