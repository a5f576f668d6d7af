/-! ===== what is made anew ===== -/
def tz_al (σ : tz_S) (N : Nat) (k : tz_K) : tz_S := (tz_nc σ + 1, tz_ns σ + N, va_up (tz_sh σ) (tz_nc σ) (some k), va_up (tz_F σ) (tz_nc σ) (fun _ => 0), va_up (tz_A σ) (tz_nc σ) (fun _ => 0), va_up (tz_L σ) (tz_nc σ) (fun _ => 0), va_up (tz_R σ) (tz_nc σ) (fun _ => none))
section AL
variable {ρ : Type} {σ : tz_S} {Q : ρ → tz_S → Prop}
theorem tz_al_cell {N : Nat} {k : tz_K} {e : pz_E} (he : tz_cl (some k) (fun _ => 0) (fun _ => 0) (fun _ => 0) (fun _ => none) = some e) : pz_mk (tz_h σ) N e = tz_h (tz_al σ N k) := by
  show (tz_nc σ + 1, tz_ns σ + N, va_up (tz_cell σ) (tz_nc σ) (some e)) = (tz_nc σ + 1, tz_ns σ + N, tz_cell (tz_al σ N k))
  congr 2
  funext b
  by_cases hb : b = tz_nc σ
  · subst hb
    rw [va_up_self]
    show some e = tz_cl (va_up (tz_sh σ) (tz_nc σ) (some k) (tz_nc σ)) (va_up (tz_F σ) (tz_nc σ) (fun _ => 0) (tz_nc σ)) (va_up (tz_A σ) (tz_nc σ) (fun _ => 0) (tz_nc σ)) (va_up (tz_L σ) (tz_nc σ) (fun _ => 0) (tz_nc σ)) (va_up (tz_R σ) (tz_nc σ) (fun _ => none) (tz_nc σ))
    rw [va_up_self, va_up_self, va_up_self, va_up_self, va_up_self, he]
  · rw [va_up_ne _ _ hb]
    show _ = tz_cl (va_up (tz_sh σ) (tz_nc σ) (some k) b) (va_up (tz_F σ) (tz_nc σ) (fun _ => 0) b) (va_up (tz_A σ) (tz_nc σ) (fun _ => 0) b) (va_up (tz_L σ) (tz_nc σ) (fun _ => 0) b) (va_up (tz_R σ) (tz_nc σ) (fun _ => none) b)
    rw [va_up_ne _ _ hb, va_up_ne _ _ hb, va_up_ne _ _ hb, va_up_ne _ _ hb, va_up_ne _ _ hb]
    rfl
theorem gp_new {ci N : Nat} {fs : List Value} {lay : List (Option (Option Nat))} {K : Option Nat → pz_C ρ} (hl : tz_fv (fun _ => 0) 0 lay = fs) (h : gp (K (some (tz_nc σ))) (tz_al σ N (.inl (ci, lay))) Q) : gp (pz_new ci N fs K) σ Q := by
  obtain ⟨r, s, e, q⟩ := h
  refine ⟨r, s, ?_, q⟩
  show K (some (tz_nc σ)) (pz_mk (tz_h σ) N (.inr (ci, fs))) = _
  rw [tz_al_cell (k := .inl (ci, lay)) (by simp [tz_cl, hl])]
  exact e
theorem gp_newI {t n : Nat} {i : Int32} {K : Option Nat → pz_C ρ} (ht : t < 2) (hn : n ≤ 67108864) (hi : i = nI n) (h : gp (K (some (tz_nc σ))) (tz_al σ n (.inr (t, n))) Q) : gp (pz_newI t i K) σ Q := by
  obtain ⟨r, s, e, q⟩ := h
  subst hi
  refine ⟨r, s, ?_, q⟩
  have hc : ¬ (nI n < 0 ∨ 67108864 < (nI n).toNatClampNeg) := by
    rw [nI_clamp (by omega)]
    rintro (z | z)
    · exact nI_pos (by omega) z
    · omega
  simp only [pz_newI, hc, if_false]
  rw [nI_clamp (by omega)]
  show K (some (tz_nc σ)) (pz_mk (tz_h σ) n (.inl (t, n, .inl (fun _ => 0)))) = _
  rw [tz_al_cell (k := .inr (t, n)) (by simp [tz_cl, tz_ct, ht])]
  exact e
theorem gp_newL {n : Nat} {i : Int32} {K : Option Nat → pz_C ρ} (hn : n ≤ 67108864) (hi : i = nI n) (h : gp (K (some (tz_nc σ))) (tz_al σ n (.inr (2, n))) Q) : gp (pz_newL 2 i K) σ Q := by
  obtain ⟨r, s, e, q⟩ := h
  subst hi
  refine ⟨r, s, ?_, q⟩
  have hc : ¬ (nI n < 0 ∨ 67108864 < (nI n).toNatClampNeg) := by
    rw [nI_clamp (by omega)]
    rintro (z | z)
    · exact nI_pos (by omega) z
    · omega
  simp only [pz_newL, hc, if_false]
  rw [nI_clamp (by omega)]
  show K (some (tz_nc σ)) (pz_mk (tz_h σ) n (.inl (2, n, .inr (.inl (fun _ => 0))))) = _
  rw [tz_al_cell (k := .inr (2, n)) (by simp [tz_cl, tz_ct])]
  exact e
theorem gp_newR {t n : Nat} {i : Int32} {K : Option Nat → pz_C ρ} (ht : 2 < t) (hn : n ≤ 67108864) (hi : i = nI n) (h : gp (K (some (tz_nc σ))) (tz_al σ n (.inr (t, n))) Q) : gp (pz_newR t i K) σ Q := by
  obtain ⟨r, s, e, q⟩ := h
  subst hi
  refine ⟨r, s, ?_, q⟩
  have hc : ¬ (nI n < 0 ∨ 67108864 < (nI n).toNatClampNeg) := by
    rw [nI_clamp (by omega)]
    rintro (z | z)
    · exact nI_pos (by omega) z
    · omega
  simp only [pz_newR, hc, if_false]
  rw [nI_clamp (by omega)]
  show K (some (tz_nc σ)) (pz_mk (tz_h σ) n (.inl (t, n, .inr (.inr (.inr (.inr (fun _ => none))))))) = _
  rw [tz_al_cell (k := .inr (t, n)) (by simp [tz_cl, tz_ct, show ¬ t < 2 by omega, show ¬ t = 2 by omega])]
  exact e
end AL
/-! ===== growth: what lay there stays, but at P ===== -/
def Gr (P : Nat → Prop) (σ σ' : tz_S) : Prop := tz_nc σ ≤ tz_nc σ' ∧ tz_ns σ ≤ tz_ns σ' ∧ ∀ x, x < tz_nc σ → tz_sh σ' x = tz_sh σ x ∧ (¬ P x → tz_F σ' x = tz_F σ x ∧ tz_A σ' x = tz_A σ x ∧ tz_L σ' x = tz_L σ x ∧ tz_R σ' x = tz_R σ x)
section GR
variable {P Q : Nat → Prop} {σ σ1 σ2 : tz_S}
theorem Gr_refl : Gr P σ σ := ⟨Nat.le_refl _, Nat.le_refl _, fun _ _ => ⟨rfl, fun _ => ⟨rfl, rfl, rfl, rfl⟩⟩⟩
theorem Gr_trans (h1 : Gr P σ σ1) (h2 : Gr P σ1 σ2) : Gr P σ σ2 := by
  refine ⟨Nat.le_trans h1.1 h2.1, Nat.le_trans h1.2.1 h2.2.1, fun x hx => ?_⟩
  obtain ⟨a1, a2⟩ := h1.2.2 x hx
  obtain ⟨b1, b2⟩ := h2.2.2 x (Nat.lt_of_lt_of_le hx h1.1)
  refine ⟨b1.trans a1, fun hp => ?_⟩
  obtain ⟨c1, c2, c3, c4⟩ := a2 hp
  obtain ⟨d1, d2, d3, d4⟩ := b2 hp
  exact ⟨d1.trans c1, d2.trans c2, d3.trans c3, d4.trans c4⟩
theorem Gr_mono (h : Gr P σ σ1) (hPQ : ∀ x, x < tz_nc σ → P x → Q x) : Gr Q σ σ1 := ⟨h.1, h.2.1, fun x hx => ⟨(h.2.2 x hx).1, fun hq => (h.2.2 x hx).2 (fun hp => hq (hPQ x hx hp))⟩⟩
theorem Gr_of_Fr (h : Fr P σ σ1) : Gr P σ σ1 := ⟨Nat.le_of_eq h.1.symm, Nat.le_of_eq h.2.1.symm, fun x _ => ⟨by rw [Fr_sh h], fun hp => ⟨Fr_F h hp, Fr_A h hp, Fr_L h hp, by rw [Fr_R h]⟩⟩⟩
theorem Gr_al {N : Nat} {k : tz_K} : Gr P σ (tz_al σ N k) := ⟨Nat.le_succ _, Nat.le_add_right _ _, fun x hx => ⟨va_up_ne _ _ (by omega), fun _ => ⟨va_up_ne _ _ (by omega), va_up_ne _ _ (by omega), va_up_ne _ _ (by omega), va_up_ne _ _ (by omega)⟩⟩⟩
theorem Gr_sR {a k : Nat} {v : Option Nat} (h : P a) : Gr P σ (tz_sR σ a k v) := ⟨Nat.le_refl _, Nat.le_refl _, fun x _ => ⟨rfl, fun hp => ⟨rfl, rfl, rfl, tz_u2_row _ _ _ _ (fun e => hp (by rw [e]; exact h))⟩⟩⟩
theorem Gr_then (h1 : Gr P σ σ1) (h2 : Fr Q σ1 σ2) (hQ : ∀ x, Q x → P x) : Gr P σ σ2 := Gr_trans h1 (Gr_of_Fr (Fr_mono h2 hQ))
end GR
theorem al_sh {σ : tz_S} {N : Nat} {k : tz_K} : tz_sh (tz_al σ N k) (tz_nc σ) = some k := va_up_self _ _ _
theorem al_shn {σ : tz_S} {N x : Nat} {k : tz_K} (h : x ≠ tz_nc σ) : tz_sh (tz_al σ N k) x = tz_sh σ x := va_up_ne _ _ h
theorem al_F {σ : tz_S} {N : Nat} {k : tz_K} : tz_F (tz_al σ N k) (tz_nc σ) = fun _ => 0 := va_up_self _ _ _
theorem al_A {σ : tz_S} {N : Nat} {k : tz_K} : tz_A (tz_al σ N k) (tz_nc σ) = fun _ => 0 := va_up_self _ _ _
theorem al_L {σ : tz_S} {N : Nat} {k : tz_K} : tz_L (tz_al σ N k) (tz_nc σ) = fun _ => 0 := va_up_self _ _ _
theorem al_R {σ : tz_S} {N : Nat} {k : tz_K} : tz_R (tz_al σ N k) (tz_nc σ) = fun _ => none := va_up_self _ _ _
theorem sS_shn {σ : tz_S} {a x : Nat} {k : tz_K} (h : x ≠ a) : tz_sh (tz_sS σ a k) x = tz_sh σ x := va_up_ne _ _ h
theorem sS_sh {σ : tz_S} {a : Nat} {k : tz_K} : tz_sh (tz_sS σ a k) a = some k := va_up_self _ _ _
