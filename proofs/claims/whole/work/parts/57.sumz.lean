/-! ===== Sum, by frames ===== -/
section SZ
variable {n s N u a b nb nb2 m m2 : Nat} {σ : tz_S} {S v v2 : Int}
theorem c_clearS (h : Sz σ s N u S) (hn : 2000 ≤ n) : gp (X8_clear n (some s)) σ (fun _ σ' => Fr (bP s) σ σ' ∧ Sz σ' s N 0 0) := by
  refine gp_mono (c_clear h hn) ?_
  rintro _ σ' ⟨g, rfl, h1, h2⟩
  exact ⟨Fr_sPut (Or.inl rfl) (Or.inr rfl), SumV_put h.1 h1 h2⟩
theorem c_addTimesS {t : Int64} (h : Sz σ s N u S) (hB : Bz σ a nb v) (hn : 2000 ≤ n) (ht : -9223372036854775808 < t.toInt) (hv : (v.natAbs : Int) < 1000000000 ^ m) (hr1 : u + 4 ≤ N) (hr2 : m + 6 ≤ N) :
    gp (X8_addTimes n (some s) (some a) t) σ (fun _ σ' => Fr (bP s) σ σ' ∧ ∃ u', u' ≤ max u (m + 2) + 3 ∧ Sz σ' s N u' (S + t.toInt * v)) := by
  obtain ⟨k, hB⟩ := hB
  have hk := BigV_le hB hv
  refine gp_mono (c_addTimes h hB hn ht hr1 (by omega)) ?_
  rintro _ σ' ⟨g, u', rfl, h1, h2, h3⟩
  exact ⟨Fr_sPut (Or.inl rfl) (Or.inr rfl), u', by omega, SumV_put h.1 h1 h3⟩
theorem c_addProductS {turn : Int32} (h : Sz σ s N u S) (hB : Bz σ a nb v) (hB2 : Bz σ b nb2 v2) (hn : 2000 ≤ n) (ht : turn = 0 ∨ turn = 1 ∨ turn = -1) (hv : (v.natAbs : Int) < 1000000000 ^ m) (hv2 : (v2.natAbs : Int) < 1000000000 ^ m2) (hr : max u m + m2 + 1 ≤ N) :
    gp (X8_addProduct n (some s) (some a) (some b) turn) σ (fun _ σ' => Fr (bP s) σ σ' ∧ ∃ u', u' ≤ max u m + m2 ∧ Sz σ' s N u' (S + turn.toInt * v * v2)) := by
  obtain ⟨k, hB⟩ := hB
  obtain ⟨k2, hB2⟩ := hB2
  have hk := BigV_le hB hv
  have hk2 := BigV_le hB2 hv2
  refine gp_mono (c_addProduct h hB hB2 hn ht (by omega)) ?_
  rintro _ σ' ⟨g, u', rfl, h1, h2, h3⟩
  exact ⟨Fr_sPut (Or.inl rfl) (Or.inr rfl), u', by omega, SumV_put h.1 h1 h3⟩
theorem c_signNowS (h : Sz σ s N u S) (hn : 2000 ≤ n) : gp (X8_signNow n (some s)) σ (fun r σ' => σ' = σ ∧ r = isg S) := c_signNow h hn
theorem c_storeS (h : Sz σ s N u S) (hB : bSh σ a (a + 1) nb) (hn : 2000 ≤ n) (hS : (S.natAbs : Int) < 1000000000 ^ nb) : gp (X8_store n (some s) (some a)) σ (fun _ σ' => Fr (bP a) σ σ' ∧ Bz σ' a nb S) := by
  refine gp_mono (c_store h hB hn ⟨by omega, by omega⟩) ?_
  rintro _ σ' ⟨f, k, rfl, hk, hb⟩
  exact ⟨Fr_bPut (Or.inl rfl) (Or.inr rfl), ⟨k, BigV_put hB hk hb⟩⟩
theorem Sz_cl (h : Sz σ s N u S) : tz_sh σ s = some (.inl (8, [some (some (s + 1)), none])) := h.1.1
end SZ
theorem nI_mul (a b : Nat) : nI a * nI b = nI (a * b) := by simp [nI]
/-- the sum may hold anything -/
def smOk (σ : tz_S) (s N : Nat) : Prop := ∃ u S, Sz σ s N u S
theorem smOk_fr {P : Nat → Prop} {σ σ1 : tz_S} {s N : Nat} (h : smOk σ s N) (hf : Fr P σ σ1) (h1 : ¬ P s) (h2 : ¬ P (s + 1)) : smOk σ1 s N := by
  obtain ⟨u, S, h⟩ := h
  exact ⟨u, S, Sz_fr h hf h1 h2⟩
theorem smOk_cl {σ : tz_S} {s N : Nat} (h : smOk σ s N) : tz_sh σ s = some (.inl (8, [some (some (s + 1)), none])) := by
  obtain ⟨u, S, h⟩ := h
  exact h.1.1
/-! ===== Tableau: what it holds ===== -/
def tbV (σ : tz_S) (o n m : Nat) (D : Int) (T : Nat → Nat → Int) (am va : Nat → Int) (bs cl : Nat → Nat) : Prop :=
  (tz_F σ (o + 32) 13 = nI m ∧ tz_F σ (o + 32) 14 = nI n ∧ n ≤ 10 ∧ m ≤ 12) ∧
  Bz σ (o + 40) 8 D ∧ (∀ r c, r < m → c < n → Bz σ (o + 48 + 2 * (10 * r + c)) 8 (T r c)) ∧ (∀ r, r < m → Bz σ (o + 288 + 2 * r) 12 (am r)) ∧
  (∀ c, c < n → (tz_L σ (o + 35) c).toInt = va c) ∧
  (∀ r, r < m → tz_A σ (o + 36) r = nI (bs r) ∧ bs r < n + m ∧ tz_A σ (o + 38) (bs r) = nI r ∧ tz_A σ (o + 39) (bs r) = 1) ∧
  (∀ c, c < n → tz_A σ (o + 37) c = nI (cl c) ∧ cl c < n + m ∧ tz_A σ (o + 38) (cl c) = nI c ∧ tz_A σ (o + 39) (cl c) = 0)
theorem tbV_fr {P : Nat → Prop} {σ σ1 : tz_S} {o n m : Nat} {D : Int} {T : Nat → Nat → Int} {am va : Nat → Int} {bs cl : Nat → Nat} (h : tbV σ o n m D T am va bs cl) (hf : Fr P σ σ1) (hP : ∀ x, o + 32 ≤ x → x ≤ o + 41 → ¬ P x) (hP2 : ∀ x, o + 48 ≤ x → x ≤ o + 311 → ¬ P x) : tbV σ1 o n m D T am va bs cl := by
  obtain ⟨⟨h1, h2, h3, h3'⟩, h4, h5, h6, h7, h8, h9⟩ := h
  refine ⟨⟨?_, ?_, h3, h3'⟩, ?_, ?_, ?_, ?_, ?_, ?_⟩
  · rw [Fr_F hf (hP _ (by omega) (by omega))]; exact h1
  · rw [Fr_F hf (hP _ (by omega) (by omega))]; exact h2
  · exact Bz_fr h4 hf (hP _ (by omega) (by omega)) (hP _ (by omega) (by omega))
  · exact fun r c hr hc => Bz_fr (h5 r c hr hc) hf (hP2 _ (by omega) (by omega)) (hP2 _ (by omega) (by omega))
  · exact fun r hr => Bz_fr (h6 r hr) hf (hP2 _ (by omega) (by omega)) (hP2 _ (by omega) (by omega))
  · rw [Fr_L hf (hP _ (by omega) (by omega))]; exact h7
  · rw [Fr_A hf (hP (o + 36) (by omega) (by omega)), Fr_A hf (hP (o + 38) (by omega) (by omega)), Fr_A hf (hP (o + 39) (by omega) (by omega))]; exact h8
  · rw [Fr_A hf (hP (o + 37) (by omega) (by omega)), Fr_A hf (hP (o + 38) (by omega) (by omega)), Fr_A hf (hP (o + 39) (by omega) (by omega))]; exact h9
section TB
variable {f o N n m : Nat} {σ : tz_S} {D : Int} {T : Nat → Nat → Int} {am va : Nat → Int} {bs cl : Nat → Nat}
theorem c_cell {r c : Nat} (hc : cSh σ o N) (hr : r < 12) (hc2 : c < 10) : gp (X9_cell f (some (o + 32)) (nI r) (nI c)) σ (fun x σ' => σ' = σ ∧ x = some (o + 48 + 2 * (10 * r + c))) := by
  unfold X9_cell
  refine gp_rR (cs_tab hc) rfl ?_
  refine gp_aR (j := 10 * r + c) (cs_cells hc) (by decide) (by omega) (by omega) (by rw [show (10 : Int32) = nI 10 from rfl, nI_mul, nI_add, Nat.mul_comm]) ?_
  exact gp_ret ⟨rfl, (cs_cell hc _ (by omega)).2⟩
theorem c_rowOfR {r : Nat} (hc : cSh σ o N) (ht : tbV σ o n m D T am va bs cl) (hr : r < m) : gp (X9_rowOf f (some (o + 32)) (nI (bs r))) σ (fun x σ' => σ' = σ ∧ x = nI r) := by
  obtain ⟨⟨h1, h2, h3, h3'⟩, h4, h5, h6, h7, h8, h9⟩ := ht
  obtain ⟨a1, a2, a3, a4⟩ := h8 r hr
  unfold X9_rowOf X9_rowOf_b20
  refine gp_rR (cs_tab hc) rfl ?_
  refine gp_aI (j := bs r) (cs_isb hc) (by decide) (by omega) (by omega) rfl ?_
  rw [a4]
  refine gp_f (by decide) ?_
  refine gp_rR (cs_tab hc) rfl ?_
  refine gp_aI (j := bs r) (cs_lines hc) (by decide) (by omega) (by omega) rfl ?_
  exact gp_ret ⟨rfl, a3⟩
theorem c_rowOfC {c : Nat} (hc : cSh σ o N) (ht : tbV σ o n m D T am va bs cl) (hr : c < n) : gp (X9_rowOf f (some (o + 32)) (nI (cl c))) σ (fun x σ' => σ' = σ ∧ x = -2) := by
  obtain ⟨⟨h1, h2, h3, h3'⟩, h4, h5, h6, h7, h8, h9⟩ := ht
  obtain ⟨a1, a2, a3, a4⟩ := h9 c hr
  unfold X9_rowOf X9_rowOf_b20
  refine gp_rR (cs_tab hc) rfl ?_
  refine gp_aI (j := cl c) (cs_isb hc) (by decide) (by omega) (by omega) rfl ?_
  rw [a4]
  refine gp_t (by decide) ?_
  exact gp_ret ⟨rfl, rfl⟩
theorem c_columnOfR {r : Nat} (hc : cSh σ o N) (ht : tbV σ o n m D T am va bs cl) (hr : r < m) : gp (X9_columnOf f (some (o + 32)) (nI (bs r))) σ (fun x σ' => σ' = σ ∧ x = -2) := by
  obtain ⟨⟨h1, h2, h3, h3'⟩, h4, h5, h6, h7, h8, h9⟩ := ht
  obtain ⟨a1, a2, a3, a4⟩ := h8 r hr
  unfold X9_columnOf X9_columnOf_b20
  refine gp_rR (cs_tab hc) rfl ?_
  refine gp_aI (j := bs r) (cs_isb hc) (by decide) (by omega) (by omega) rfl ?_
  rw [a4]
  refine gp_f (by decide) ?_
  exact gp_ret ⟨rfl, rfl⟩
theorem c_columnOfC {c : Nat} (hc : cSh σ o N) (ht : tbV σ o n m D T am va bs cl) (hr : c < n) : gp (X9_columnOf f (some (o + 32)) (nI (cl c))) σ (fun x σ' => σ' = σ ∧ x = nI c) := by
  obtain ⟨⟨h1, h2, h3, h3'⟩, h4, h5, h6, h7, h8, h9⟩ := ht
  obtain ⟨a1, a2, a3, a4⟩ := h9 c hr
  unfold X9_columnOf X9_columnOf_b20
  refine gp_rR (cs_tab hc) rfl ?_
  refine gp_aI (j := cl c) (cs_isb hc) (by decide) (by omega) (by omega) rfl ?_
  rw [a4]
  refine gp_t (by decide) ?_
  refine gp_rR (cs_tab hc) rfl ?_
  refine gp_aI (j := cl c) (cs_lines hc) (by decide) (by omega) (by omega) rfl ?_
  exact gp_ret ⟨rfl, a3⟩
theorem c_places (hc : cSh σ o N) (ht : tbV σ o n m D T am va bs cl) : gp (X9_places f (some (o + 32))) σ (fun x σ' => σ' = σ ∧ x = nI (n + m)) := by
  obtain ⟨⟨h1, h2, h3, h3'⟩, -⟩ := ht
  unfold X9_places
  refine gp_rI (cs_tab hc) rfl ?_
  refine gp_rI (cs_tab hc) rfl ?_
  rw [h1, h2]
  exact gp_ret ⟨rfl, nI_add n m⟩
theorem c_compareAmount {r : Nat} {b : Int64} (hc : cSh σ o N) (ht : tbV σ o n m D T am va bs cl) (hs : smOk σ (o + 30) N) (hf : 2000 ≤ f) (hr : r < m) (hb : -9223372036854775808 < b.toInt) :
    gp (X9_compareAmount f (some (o + 32)) (nI r) b) σ (fun x σ' => Fr (bP (o + 30)) σ σ' ∧ x = isg (am r - b.toInt * D) ∧ ∃ u, u ≤ 20 ∧ Sz σ' (o + 30) N u (am r - b.toInt * D)) := by
  have hN := cs_N hc
  obtain ⟨u0, S0, hs⟩ := hs
  obtain ⟨⟨h1, h2, h3, h3'⟩, h4, h5, h6, h7, h8, h9⟩ := ht
  have hb2 := az_hi64 b
  unfold X9_compareAmount
  refine gp_rR (cs_tab hc) rfl ?_
  refine gp_cV hs.1.1 (gp_mono (c_clearS hs hf) ?_)
  rintro _ σ1 ⟨hF1, hS1⟩
  have hc1 := cs_fr hc hF1
  have ha1 := Bz_fr (h6 r hr) hF1 (by unfold bP; omega) (by unfold bP; omega)
  have hD1 := Bz_fr h4 hF1 (by unfold bP; omega) (by unfold bP; omega)
  refine gp_rR (cs_tab hc1) rfl ?_
  refine gp_rR (cs_tab hc1) rfl ?_
  refine gp_aR (j := r) (cs_ams hc1) (by decide) (by omega) (by omega) rfl ?_
  rw [(cs_am hc1 r (by omega)).2]
  refine gp_cV hS1.1.1 (gp_mono (c_addTimesS (t := 1) hS1 ha1 hf (by decide) (Bz_lt ha1) (by omega) (by omega)) ?_)
  rintro _ σ2 ⟨hF2, u2, hu2, hS2⟩
  have hc2 := cs_fr hc1 hF2
  have hD2 := Bz_fr hD1 hF2 (by unfold bP; omega) (by unfold bP; omega)
  refine gp_rR (cs_tab hc2) rfl ?_
  refine gp_rR (cs_tab hc2) rfl ?_
  have hnb : (-b).toInt = -b.toInt := az_lneg hb
  refine gp_cV hS2.1.1 (gp_mono (c_addTimesS (t := -b) hS2 hD2 hf (by rw [hnb]; omega) (Bz_lt hD2) (by omega) (by omega)) ?_)
  rintro _ σ3 ⟨hF3, u3, hu3, hS3⟩
  have hc3 := cs_fr hc2 hF3
  refine gp_rR (cs_tab hc3) rfl ?_
  have e : 0 + (1 : Int64).toInt * am r + (-b).toInt * D = am r - b.toInt * D := by rw [hnb, show (1 : Int64).toInt = 1 from rfl, Int.neg_mul]; omega
  rw [e] at hS3
  refine gp_cV hS3.1.1 (gp_mono (c_signNowS hS3 hf) ?_)
  rintro x σ4 ⟨h4', hx⟩
  rw [h4']
  exact gp_ret ⟨Fr_trans (Fr_trans hF1 hF2) hF3, hx, u3, by omega, hS3⟩
end TB
