/-! ===== Big, Fraction, Leaf made anew; Leaf.clear, ofPlace ===== -/
theorem Gr_new {P Q : Nat → Prop} {σ σ1 σ2 : tz_S} (h1 : Gr P σ σ1) (h2 : Fr Q σ1 σ2) (hQ : ∀ x, Q x → P x ∨ tz_nc σ ≤ x) : Gr P σ σ2 := by
  refine ⟨by rw [h2.1]; exact h1.1, by rw [h2.2.1]; exact h1.2.1, fun x hx => ?_⟩
  obtain ⟨a1, a2⟩ := h1.2.2 x hx
  refine ⟨by rw [Fr_sh h2]; exact a1, fun hp => ?_⟩
  obtain ⟨c1, c2, c3, c4⟩ := a2 hp
  have hq : ¬ Q x := fun hq => by
    rcases hQ x hq with z | z
    · exact hp z
    · omega
  exact ⟨by rw [Fr_F h2 hq]; exact c1, by rw [Fr_A h2 hq]; exact c2, by rw [Fr_L h2 hq]; exact c3, by rw [Fr_R h2]; exact c4⟩
theorem Gr_sS {P : Nat → Prop} {σ σ1 : tz_S} {a : Nat} {k : tz_K} (h1 : Gr P σ σ1) (ha : tz_nc σ ≤ a) : Gr P σ (tz_sS σ1 a k) := by
  refine ⟨h1.1, h1.2.1, fun x hx => ?_⟩
  obtain ⟨a1, a2⟩ := h1.2.2 x hx
  exact ⟨(sS_shn (by omega)).trans a1, a2⟩
theorem Gr_sRn {P : Nat → Prop} {σ σ1 : tz_S} {a k : Nat} {v : Option Nat} (h1 : Gr P σ σ1) (ha : P a ∨ tz_nc σ ≤ a) : Gr P σ (tz_sR σ1 a k v) := by
  refine ⟨h1.1, h1.2.1, fun x hx => ?_⟩
  obtain ⟨a1, a2⟩ := h1.2.2 x hx
  refine ⟨a1, fun hp => ?_⟩
  obtain ⟨c1, c2, c3, c4⟩ := a2 hp
  refine ⟨c1, c2, c3, (tz_u2_row _ _ _ _ (fun e => ?_)).trans c4⟩
  rcases ha with z | z
  · rw [e] at hp; exact hp z
  · omega
/-- what was there before, at an address that isn't changed -/
theorem bSh_gro {P : Nat → Prop} {σ σ1 : tz_S} {a b n : Nat} (h : bSh σ a b n) (hg : Gr P σ σ1) (ha : a < tz_nc σ) (hb : b < tz_nc σ) : bSh σ1 a b n := bSh_gr h (hg.2.2 a ha).1 (hg.2.2 b hb).1
theorem Bz_gro {P : Nat → Prop} {σ σ1 : tz_S} {a n : Nat} {v : Int} (h : Bz σ a n v) (hg : Gr P σ σ1) (ha : a + 1 < tz_nc σ) (h1 : ¬ P a) (h2 : ¬ P (a + 1)) : Bz σ1 a n v := by
  obtain ⟨k, b1, b2, b3, b4⟩ := h
  obtain ⟨q1, q2⟩ := hg.2.2 a (by omega)
  obtain ⟨r1, r2⟩ := hg.2.2 (a + 1) (by omega)
  obtain ⟨c1, c2, c3, c4⟩ := q2 h1
  obtain ⟨d1, d2, d3, d4⟩ := r2 h2
  exact ⟨k, bSh_gr b1 q1 r1, b2, by rw [c1]; exact b3, by rw [c1, d2]; exact b4⟩
theorem Fz_gro {P : Nat → Prop} {σ σ1 : tz_S} {f n : Nat} {p q : Int} (h : Fz σ f n p q) (hg : Gr P σ σ1) (ha : f + 4 < tz_nc σ) (hP : ∀ x, f + 1 ≤ x → x ≤ f + 4 → ¬ P x) : Fz σ1 f n p q := ⟨(hg.2.2 f (by omega)).1.trans h.1, Bz_gro h.2.1 hg (by omega) (hP _ (by omega) (by omega)) (hP _ (by omega) (by omega)), Bz_gro h.2.2 hg (by omega) (hP _ (by omega) (by omega)) (hP _ (by omega) (by omega))⟩
section MK
variable {ρ : Type} {f : Nat} {σ : tz_S} {Q : ρ → tz_S → Prop}
def noP : Nat → Prop := fun _ => False
theorem gp_newBig {n : Nat} {i : Int32} {R : Option Nat → pz_C ρ} (hn : 0 < n) (hn2 : n < 1000) (hi : i = nI n) (h : ∀ σ', Gr noP σ σ' → tz_nc σ' = tz_nc σ + 2 → tz_ns σ' = tz_ns σ + 3 + n → Bz σ' (tz_nc σ) n 0 → gp (R (some (tz_nc σ))) σ' Q) :
    gp (pz_new 0 3 [.null, .int 0, .int 0] fun x => pz_nn x <| pz_cB (X0_init f x i) fun _ => R x) σ Q := by
  refine gp_new (lay := [some none, none, none]) rfl (gp_nn (gp_cB ?_))
  unfold X0_init X0_init_b14
  refine gp_nn ?_
  refine gp_f (by rw [hi]; exact nI_nle (by omega) (by omega)) ?_
  refine gp_newI (n := n) (by decide) (by omega) hi ?_
  have e1 : tz_nc (tz_al σ 3 (.inl (0, [some none, none, none]))) = tz_nc σ + 1 := rfl
  rw [e1]
  have s1 : tz_sh (tz_al (tz_al σ 3 (.inl (0, [some none, none, none]))) n (.inr (0, n))) (tz_nc σ) = some (.inl (0, [some none, none, none])) := (al_shn (by rw [e1]; omega)).trans al_sh
  refine gp_wR (r := some (tz_nc σ + 1)) s1 (by decide) (gp_ret ?_)
  refine h _ (Gr_sS (Gr_trans Gr_al Gr_al) (Nat.le_refl _)) rfl rfl ⟨0, ⟨sS_sh, (sS_shn (by omega)).trans al_sh, hn2⟩, Nat.zero_le _, ?_, ?_⟩
  · show tz_F (tz_al (tz_al σ 3 (.inl (0, [some none, none, none]))) n (.inr (0, n))) (tz_nc σ) 1 = 0
    show va_up (va_up (tz_F σ) (tz_nc σ) (fun _ => 0)) (tz_nc σ + 1) (fun _ => 0) (tz_nc σ) 1 = 0
    rw [va_up_ne _ _ (by omega), va_up_self]
  · refine ⟨fun j hj => absurd hj (Nat.not_lt_zero _), fun h => absurd h (Nat.lt_irrefl _), ?_, ?_, ?_⟩
    all_goals
      have e : tz_F (tz_sS (tz_al (tz_al σ 3 (.inl (0, [some none, none, none]))) n (.inr (0, n))) (tz_nc σ) (.inl (0, [some none, none, none].set 0 (some (some (tz_nc σ + 1)))))) (tz_nc σ) 2 = 0 := by
        show va_up (va_up (tz_F σ) (tz_nc σ) (fun _ => 0)) (tz_nc σ + 1) (fun _ => 0) (tz_nc σ) 2 = 0
        rw [va_up_ne _ _ (by omega), va_up_self]
      rw [e]
    · exact Or.inl rfl
    · simp
    · rfl
set_option maxHeartbeats 1000000 in
theorem gp_newFr {n : Nat} {i : Int32} {R : Option Nat → pz_C ρ} (hf : 2000 ≤ f) (hn : 0 < n) (hn2 : n < 1000) (hi : i = nI n) (h : ∀ σ', Gr noP σ σ' → tz_nc σ' = tz_nc σ + 5 → tz_ns σ' = tz_ns σ + 8 + 2 * n → Fz σ' (tz_nc σ) n 0 1 → gp (R (some (tz_nc σ))) σ' Q) :
    gp (pz_new 3 2 [.null, .null] fun x => pz_nn x <| pz_cB (X3_init f x i) fun _ => R x) σ Q := by
  refine gp_new (lay := [some none, some none]) rfl (gp_nn (gp_cB ?_))
  unfold X3_init
  refine gp_nn ?_
  have G1 : Gr noP σ (tz_al σ 2 (.inl (3, [some none, some none]))) := Gr_al
  have s1 : tz_sh (tz_al σ 2 (.inl (3, [some none, some none]))) (tz_nc σ) = some (.inl (3, [some none, some none])) := al_sh
  have c1 : tz_nc (tz_al σ 2 (.inl (3, [some none, some none]))) = tz_nc σ + 1 := rfl
  have d1 : tz_ns (tz_al σ 2 (.inl (3, [some none, some none]))) = tz_ns σ + 2 := rfl
  generalize tz_al σ 2 (.inl (3, [some none, some none])) = σ1 at *
  refine gp_newBig hn hn2 hi ?_
  rintro σ2 G2 c2 d2 b2
  rw [c1] at c2 b2 ⊢
  have s2 : tz_sh σ2 (tz_nc σ) = some (.inl (3, [some none, some none])) := (G2.2.2 _ (by omega)).1.trans s1
  refine gp_wR (r := some (tz_nc σ + 1)) s2 (by decide) ?_
  have G3 : Gr noP σ (tz_sS σ2 (tz_nc σ) (.inl (3, [some (some (tz_nc σ + 1)), some none]))) := Gr_sS (Gr_trans G1 G2) (Nat.le_refl _)
  have s3 : tz_sh (tz_sS σ2 (tz_nc σ) (.inl (3, [some (some (tz_nc σ + 1)), some none]))) (tz_nc σ) = some (.inl (3, [some (some (tz_nc σ + 1)), some none])) := sS_sh
  have c3 : tz_nc (tz_sS σ2 (tz_nc σ) (.inl (3, [some (some (tz_nc σ + 1)), some none]))) = tz_nc σ + 3 := c2
  have d3 : tz_ns (tz_sS σ2 (tz_nc σ) (.inl (3, [some (some (tz_nc σ + 1)), some none]))) = tz_ns σ + 2 + 3 + n := by rw [← d1]; exact d2
  have b3 : Bz (tz_sS σ2 (tz_nc σ) (.inl (3, [some (some (tz_nc σ + 1)), some none]))) (tz_nc σ + 1) n 0 := by
    obtain ⟨k, q1, q2, q3, q4⟩ := b2
    exact ⟨k, bSh_gr q1 (sS_shn (by omega)) (sS_shn (by omega)), q2, q3, q4⟩
  show gp _ (tz_sS σ2 (tz_nc σ) (.inl (3, [some (some (tz_nc σ + 1)), some none]))) _
  generalize tz_sS σ2 (tz_nc σ) (.inl (3, [some (some (tz_nc σ + 1)), some none])) = σ3 at *
  refine gp_newBig hn hn2 hi ?_
  rintro σ4 G4 c4 d4 b4
  rw [c3] at c4 b4 ⊢
  have s4 : tz_sh σ4 (tz_nc σ) = some (.inl (3, [some (some (tz_nc σ + 1)), some none])) := (G4.2.2 _ (by omega)).1.trans s3
  have b34 := Bz_gro b3 G4 (by omega) (fun z => z) (fun z => z)
  refine gp_wR (r := some (tz_nc σ + 3)) s4 (Nat.lt_succ_self 1) ?_
  have G5 : Gr noP σ (tz_sS σ4 (tz_nc σ) (.inl (3, [some (some (tz_nc σ + 1)), some (some (tz_nc σ + 3))]))) := Gr_sS (Gr_trans G3 G4) (Nat.le_refl _)
  have s5 : tz_sh (tz_sS σ4 (tz_nc σ) (.inl (3, [some (some (tz_nc σ + 1)), some (some (tz_nc σ + 3))]))) (tz_nc σ) = some (.inl (3, [some (some (tz_nc σ + 1)), some (some (tz_nc σ + 3))])) := sS_sh
  have c5 : tz_nc (tz_sS σ4 (tz_nc σ) (.inl (3, [some (some (tz_nc σ + 1)), some (some (tz_nc σ + 3))]))) = tz_nc σ + 5 := c4
  have d5 : tz_ns (tz_sS σ4 (tz_nc σ) (.inl (3, [some (some (tz_nc σ + 1)), some (some (tz_nc σ + 3))]))) = tz_ns σ + 8 + 2 * n := by
    show tz_ns σ4 = _
    omega
  have b5 : Bz (tz_sS σ4 (tz_nc σ) (.inl (3, [some (some (tz_nc σ + 1)), some (some (tz_nc σ + 3))]))) (tz_nc σ + 1) n 0 := by
    obtain ⟨k, q1, q2, q3, q4⟩ := b34
    exact ⟨k, bSh_gr q1 (sS_shn (by omega)) (sS_shn (by omega)), q2, q3, q4⟩
  have e5 : Bz (tz_sS σ4 (tz_nc σ) (.inl (3, [some (some (tz_nc σ + 1)), some (some (tz_nc σ + 3))]))) (tz_nc σ + 3) n 0 := by
    obtain ⟨k, q1, q2, q3, q4⟩ := b4
    exact ⟨k, bSh_gr q1 (sS_shn (by omega)) (sS_shn (by omega)), q2, q3, q4⟩
  show gp _ (tz_sS σ4 (tz_nc σ) (.inl (3, [some (some (tz_nc σ + 1)), some (some (tz_nc σ + 3))]))) _
  generalize tz_sS σ4 (tz_nc σ) (.inl (3, [some (some (tz_nc σ + 1)), some (some (tz_nc σ + 3))])) = σ5 at *
  refine gp_rR s5 rfl ?_
  have h1p : (1 : Int) < 1000000000 ^ n := by
    have := mg_pmono (show 1 ≤ n by omega)
    rw [Int.pow_one] at this
    omega
  refine gp_cV (Bz_cl e5) (gp_mono (c_setLongB (t := 1) (Bz_sh e5) hf (by rw [show (1 : Int64).toInt = 1 from rfl]; exact h1p)) ?_)
  rintro _ σ6 ⟨hF6, b6⟩
  rw [show (1 : Int64).toInt = 1 from rfl] at b6
  refine gp_ret (h σ6 (Gr_new G5 hF6 (fun x hx => by unfold bP at hx; omega)) (by rw [hF6.1]; exact c5) (by rw [hF6.2.1]; exact d5) ⟨by rw [Fr_sh hF6]; exact s5, Bz_fr b5 hF6 (by unfold bP; omega) (by unfold bP; omega), b6⟩)
end MK
/-- a leaf at an address -/
def lfSh (σ : tz_S) (l : Nat) : Prop := tz_sh σ l = some (.inl (5, [some (some (l + 1))])) ∧ tz_sh σ (l + 1) = some (.inr (4, 32)) ∧ ∀ i, i < 32 → fSh σ (l + 2 + 5 * i) 8 ∧ tz_R σ (l + 1) i = some (l + 2 + 5 * i)
def lfV (σ : tz_S) (l : Nat) (mp : Nat → Int × Int) : Prop := ∀ i, i < 32 → Fz σ (l + 2 + 5 * i) 8 (mp i).1 (mp i).2
def lfP (l : Nat) : Nat → Prop := fun x => l + 2 ≤ x ∧ x ≤ l + 161
theorem lfSh_fr {P : Nat → Prop} {σ σ1 : tz_S} {l : Nat} (h : lfSh σ l) (hf : Fr P σ σ1) : lfSh σ1 l := by
  unfold lfSh fSh bSh at *
  rw [Fr_sh hf, Fr_R hf]
  exact h
theorem lfV_fr {P : Nat → Prop} {σ σ1 : tz_S} {l : Nat} {mp : Nat → Int × Int} (h : lfV σ l mp) (hf : Fr P σ σ1) (hP : ∀ x, l + 2 ≤ x → x ≤ l + 161 → ¬ P x) : lfV σ1 l mp := fun i hi => Fz_fr (h i hi) hf (fun x h1 h2 => hP x (by omega) (by omega))
theorem lfSh_gro {P : Nat → Prop} {σ σ1 : tz_S} {l : Nat} (h : lfSh σ l) (hg : Gr P σ σ1) (hl : l + 162 ≤ tz_nc σ) (hP : ¬ P (l + 1)) : lfSh σ1 l := ⟨(hg.2.2 _ (by omega)).1.trans h.1, (hg.2.2 _ (by omega)).1.trans h.2.1, fun i hi => ⟨fSh_gr (h.2.2 i hi).1 (fun x hx => (hg.2.2 x (by omega)).1), by rw [((hg.2.2 (l + 1) (by omega)).2 hP).2.2.2]; exact (h.2.2 i hi).2⟩⟩
theorem lfV_gro {P : Nat → Prop} {σ σ1 : tz_S} {l : Nat} {mp : Nat → Int × Int} (h : lfV σ l mp) (hg : Gr P σ σ1) (hl : l + 162 ≤ tz_nc σ) (hP : ∀ x, l + 2 ≤ x → x ≤ l + 161 → ¬ P x) : lfV σ1 l mp := fun i hi => Fz_gro (h i hi) hg (by omega) (fun x h1 h2 => hP x (by omega) (by omega))
section LF
variable {f l : Nat} {σ : tz_S}
theorem c_leafClear (h : lfSh σ l) (hf : 2000 ≤ f) : gp (X5_clear f (some l)) σ (fun _ σ' => Fr (lfP l) σ σ' ∧ lfV σ' l (fun _ => (0, 1))) := by
  unfold X5_clear X5_clear_L2
  refine gp_loop (I := fun (τ : Int32) (σ' : tz_S) => ∃ i, τ = nI i ∧ i ≤ 32 ∧ Fr (lfP l) σ σ' ∧ ∀ j, j < i → Fz σ' (l + 2 + 5 * j) 8 0 1) (fun τ _ => 100 - τ.toNatClampNeg) ?_ f _ _ ⟨0, rfl, Nat.zero_le _, Fr_refl, fun j hj => absurd hj (Nat.not_lt_zero _)⟩ (by omega)
  rintro K l1 σ1 ⟨i, rfl, hi, hF1, h1⟩ hK
  show gp (X5_clear_L2_body f (some l) (fun l1 => K l1) (nI i)) σ1 _
  unfold X5_clear_L2_body
  obtain ⟨a1, a2, a3⟩ := lfSh_fr h hF1
  refine gp_rR a1 rfl ?_
  refine gp_len a2 ?_
  refine gp_if (fun z => ?_) (fun z => ?_)
  · rw [nI_leI (by omega) (by omega)] at z
    exact gp_ret ⟨hF1, fun j hj => h1 j (by omega)⟩
  · rw [nI_leI (by omega) (by omega)] at z
    refine gp_rR a1 rfl ?_
    refine gp_aR (j := i) a2 (by decide) (by omega) (by omega) rfl ?_
    rw [(a3 i (by omega)).2]
    have hs := (a3 i (by omega)).1
    have hp := mg_pmono (show 1 ≤ 8 by omega)
    refine gp_cV hs.1 (gp_mono (c_setSmall (x := 0) (y := 1) hs hf (by rw [show (0 : Int64).toInt = 0 from rfl]; exact mg_pw 8) (by rw [show (1 : Int64).toInt = 1 from rfl]; omega)) ?_)
    rintro _ σ2 ⟨hF2, hz2⟩
    refine gp_let ?_
    rw [nI_1]
    refine hK _ _ ⟨i + 1, rfl, by omega, Fr_then hF1 hF2 (fun x hx => by unfold fP at hx; unfold lfP; omega), ?_⟩ (by rw [nI_clamp (by omega), nI_clamp (by omega)]; omega)
    intro j hj
    by_cases zz : j = i
    · subst zz; exact hz2
    · exact Fz_fr (h1 j (by omega)) hF2 (fun x q1 q2 => by unfold fP; omega)
theorem c_ofPlaceR {n p : Nat} {s : Int32} (h : lfSh σ l) (hp : n ≤ p) (hpn : p < n + 12) (hn : n ≤ 10) : gp (X5_ofPlace f (some l) (nI p) (nI n) s) σ (fun x σ' => σ' = σ ∧ x = some (l + 2 + 5 * (p - n))) := by
  unfold X5_ofPlace
  refine gp_f (by rw [nI_ltI (by omega) (by omega)]; omega) ?_
  refine gp_rR h.1 rfl ?_
  refine gp_aR (j := p - n) h.2.1 (by decide) (by omega) (by omega) (pk_sub (by omega)) ?_
  exact gp_ret ⟨rfl, (h.2.2 _ (by omega)).2⟩
theorem c_ofPlaceV {n p : Nat} {s : Int32} (h : lfSh σ l) (hp : p < n) (hn : n ≤ 10) : gp (X5_ofPlace f (some l) (nI p) (nI n) s) σ (fun x σ' => σ' = σ ∧ x = some (l + 2 + 5 * ((if 0 < s.toInt then 12 else 22) + p))) := by
  unfold X5_ofPlace X5_ofPlace_b39
  refine gp_t (by rw [nI_ltI (by omega) (by omega)]; omega) ?_
  refine gp_if (fun z => ?_) (fun z => ?_)
  · rw [Int32.le_iff_toInt_le, show (0 : Int32).toInt = 0 from rfl] at z
    refine gp_rR h.1 rfl ?_
    refine gp_aR (j := 22 + p) h.2.1 (by decide) (by omega) (by omega) (by rw [show (22 : Int32) = nI 22 from rfl, nI_add]) ?_
    refine gp_ret ⟨rfl, ?_⟩
    rw [if_neg (by omega)]
    exact (h.2.2 _ (by omega)).2
  · rw [Int32.le_iff_toInt_le, show (0 : Int32).toInt = 0 from rfl] at z
    refine gp_rR h.1 rfl ?_
    refine gp_aR (j := 12 + p) h.2.1 (by decide) (by omega) (by omega) (by rw [show (12 : Int32) = nI 12 from rfl, nI_add]) ?_
    refine gp_ret ⟨rfl, ?_⟩
    rw [if_pos (by omega)]
    exact (h.2.2 _ (by omega)).2
end LF
