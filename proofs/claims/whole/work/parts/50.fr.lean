/-! ===== frames: what a method leaves alone ===== -/
def Fr (P : Nat → Prop) (σ σ' : tz_S) : Prop := tz_nc σ' = tz_nc σ ∧ tz_ns σ' = tz_ns σ ∧ tz_sh σ' = tz_sh σ ∧ tz_R σ' = tz_R σ ∧ ∀ x, ¬ P x → tz_F σ' x = tz_F σ x ∧ tz_A σ' x = tz_A σ x ∧ tz_L σ' x = tz_L σ x
section FR
variable {P Q : Nat → Prop} {σ σ1 σ2 : tz_S}
theorem Fr_refl : Fr P σ σ := ⟨rfl, rfl, rfl, rfl, fun _ _ => ⟨rfl, rfl, rfl⟩⟩
theorem Fr_trans (h1 : Fr P σ σ1) (h2 : Fr P σ1 σ2) : Fr P σ σ2 := by
  obtain ⟨a1, a2, a3, a5, a4⟩ := h1
  obtain ⟨b1, b2, b3, b5, b4⟩ := h2
  refine ⟨b1.trans a1, b2.trans a2, b3.trans a3, b5.trans a5, fun x hx => ?_⟩
  obtain ⟨c1, c2, c3⟩ := a4 x hx
  obtain ⟨d1, d2, d3⟩ := b4 x hx
  exact ⟨d1.trans c1, d2.trans c2, d3.trans c3⟩
theorem Fr_mono (h : Fr P σ σ1) (hPQ : ∀ x, P x → Q x) : Fr Q σ σ1 := ⟨h.1, h.2.1, h.2.2.1, h.2.2.2.1, fun x hx => h.2.2.2.2 x (fun hp => hx (hPQ x hp))⟩
/-- one more step, with what it changes -/
theorem Fr_then (h1 : Fr P σ σ1) (h2 : Fr Q σ1 σ2) (hQ : ∀ x, Q x → P x) : Fr P σ σ2 := Fr_trans h1 (Fr_mono h2 hQ)
theorem Fr_sh (h : Fr P σ σ1) : tz_sh σ1 = tz_sh σ := h.2.2.1
theorem Fr_F (h : Fr P σ σ1) {x : Nat} (hx : ¬ P x) : tz_F σ1 x = tz_F σ x := (h.2.2.2.2 x hx).1
theorem Fr_A (h : Fr P σ σ1) {x : Nat} (hx : ¬ P x) : tz_A σ1 x = tz_A σ x := (h.2.2.2.2 x hx).2.1
theorem Fr_L (h : Fr P σ σ1) {x : Nat} (hx : ¬ P x) : tz_L σ1 x = tz_L σ x := (h.2.2.2.2 x hx).2.2
theorem Fr_R (h : Fr P σ σ1) : tz_R σ1 = tz_R σ := h.2.2.2.1
theorem Fr_sF {a k : Nat} {v : Int32} (h : P a) : Fr P σ (tz_sF σ a k v) := ⟨rfl, rfl, rfl, rfl, fun x hx => ⟨tz_u2_row _ _ _ _ (fun e => hx (by rw [e]; exact h)), rfl, rfl⟩⟩
theorem Fr_sA {a k : Nat} {v : Int32} (h : P a) : Fr P σ (tz_sA σ a k v) := ⟨rfl, rfl, rfl, rfl, fun x hx => ⟨rfl, tz_u2_row _ _ _ _ (fun e => hx (by rw [e]; exact h)), rfl⟩⟩
theorem Fr_sL {a k : Nat} {v : Int64} (h : P a) : Fr P σ (tz_sL σ a k v) := ⟨rfl, rfl, rfl, rfl, fun x hx => ⟨rfl, rfl, tz_u2_row _ _ _ _ (fun e => hx (by rw [e]; exact h))⟩⟩
theorem Fr_rowA {b : Nat} {f : Nat → Int32} (h : P b) : Fr P σ (tz_rowA σ b f) := ⟨rfl, rfl, rfl, rfl, fun x hx => ⟨rfl, tz_rowA_ne σ f (fun e => hx (by rw [e]; exact h)), rfl⟩⟩
theorem Fr_rowL {b : Nat} {f : Nat → Int64} (h : P b) : Fr P σ (tz_rowL σ b f) := ⟨rfl, rfl, rfl, rfl, fun x hx => ⟨rfl, rfl, tz_rowL_ne σ f (fun e => hx (by rw [e]; exact h))⟩⟩
theorem Fr_bPut {a b k : Nat} {f : Nat → Int32} {sg : Int32} (ha : P a) (hb : P b) : Fr P σ (bPut σ a b f k sg) := ⟨rfl, rfl, rfl, rfl, fun x hx => ⟨funext fun i => bPut_Fn (fun e => hx (by rw [e]; exact ha)), bPut_An (fun e => hx (by rw [e]; exact hb)), rfl⟩⟩
theorem Fr_sPut {s l u : Nat} {g : Nat → Int64} (hs : P s) (hl : P l) : Fr P σ (sPut σ s l g u) := ⟨rfl, rfl, rfl, rfl, fun x hx => ⟨funext fun i => sPut_Fn (fun e => hx (by rw [e]; exact hs)), rfl, tz_rowL_ne σ g (fun e => hx (by rw [e]; exact hl))⟩⟩
end FR
/-- a number at an address: its limbs lie behind it -/
def Bz (σ : tz_S) (a n : Nat) (v : Int) : Prop := ∃ k, BigV σ a (a + 1) n k v
def Sz (σ : tz_S) (s N u : Nat) (S : Int) : Prop := SumV σ s (s + 1) N u S
section BZ
variable {P : Nat → Prop} {σ σ1 : tz_S} {a n s N u : Nat} {v S : Int}
theorem bSh_fr {b : Nat} (h : bSh σ a b n) (hf : Fr P σ σ1) : bSh σ1 a b n := by
  unfold bSh at *
  rw [Fr_sh hf]
  exact h
theorem sSh_fr {l : Nat} (h : sSh σ s l N) (hf : Fr P σ σ1) : sSh σ1 s l N := by
  unfold sSh at *
  rw [Fr_sh hf]
  exact h
theorem dSh_fr {d : Nat} (h : dSh σ d N) (hf : Fr P σ σ1) : dSh σ1 d N := by
  unfold dSh bSh at *
  rw [Fr_sh hf]
  exact h
theorem BigV_fr {b k : Nat} (h : BigV σ a b n k v) (hf : Fr P σ σ1) (h1 : ¬ P a) (h2 : ¬ P b) : BigV σ1 a b n k v := by
  obtain ⟨b1, b2, b3, b4⟩ := h
  refine ⟨bSh_fr b1 hf, b2, ?_, ?_⟩
  · rw [Fr_F hf h1]; exact b3
  · rw [Fr_F hf h1, Fr_A hf h2]; exact b4
theorem Bz_fr (h : Bz σ a n v) (hf : Fr P σ σ1) (h1 : ¬ P a) (h2 : ¬ P (a + 1)) : Bz σ1 a n v := by
  obtain ⟨k, h⟩ := h
  exact ⟨k, BigV_fr h hf h1 h2⟩
theorem Sz_fr (h : Sz σ s N u S) (hf : Fr P σ σ1) (h1 : ¬ P s) (h2 : ¬ P (s + 1)) : Sz σ1 s N u S := by
  obtain ⟨b1, b2, b3⟩ := h
  refine ⟨sSh_fr b1 hf, ?_, ?_⟩
  · rw [Fr_F hf h1]; exact b2
  · rw [Fr_L hf h2]; exact b3
theorem Bz_sh (h : Bz σ a n v) : bSh σ a (a + 1) n := by obtain ⟨k, h⟩ := h; exact h.1
theorem Bz_sign (h : Bz σ a n v) : tz_F σ a 2 = isg v := by obtain ⟨k, h⟩ := h; exact BigV_sign h
theorem Bz_cl (h : Bz σ a n v) : tz_sh σ a = some (.inl (0, [some (some (a + 1)), none, none])) := (Bz_sh h).1
theorem Bz_lt (h : Bz σ a n v) : (v.natAbs : Int) < 1000000000 ^ n := by
  obtain ⟨k, h⟩ := h
  have h1 := (BigV_size h).1
  have h2 := mg_pmono h.2.1
  omega
theorem Bz_bPut {k : Nat} {f : Nat → Int32} {sg : Int32} (hB : bSh σ a (a + 1) n) (hk : k ≤ n) (h : bN f k sg v) : Bz (bPut σ a (a + 1) f k sg) a n v := ⟨k, BigV_put hB hk h⟩
end BZ
