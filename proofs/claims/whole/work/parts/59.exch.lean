/-! ===== Tableau: turnRow, exchange ===== -/
theorem c_sgn {σ : tz_S} {a n : Nat} {v : Int} {g : Int32} (h : Bz σ a n v) (hg : g = 1 ∨ g = -1) : Fr (bP a) σ (tz_sF σ a 2 (isg v * g)) ∧ Bz (tz_sF σ a 2 (isg v * g)) a n (v * g.toInt) := by
  refine ⟨Fr_sF (Or.inl rfl), ?_⟩
  have hs := Bz_sign h
  obtain ⟨k, h1, h2, h3, h4, h5, h6, h7, h8⟩ := h
  refine ⟨k, h1, h2, ?_, ?_⟩
  · show tz_u2 (tz_F σ) a 2 (isg v * g) a 1 = _
    rw [tz_u2_ne _ _ (Or.inr (by decide))]
    exact h3
  · show bN (tz_A σ (a + 1)) k (tz_u2 (tz_F σ) a 2 (isg v * g) a 2) (v * g.toInt)
    rw [tz_u2_same]
    rw [hs] at h6 h7 h8
    refine ⟨h4, h5, ?_, ?_, ?_⟩
    · rcases h6 with q | q | q <;> rcases hg with w | w <;> rw [q, w] <;> decide
    · rw [← h7]
      rcases h6 with q | q | q <;> rcases hg with w | w <;> rw [q, w] <;> decide
    · have e : (isg v * g).toInt = (isg v).toInt * g.toInt := by rcases h6 with q | q | q <;> rcases hg with w | w <;> rw [q, w] <;> decide
      generalize isg v = sg at e h8
      rw [e, h8, Int.mul_right_comm]
section TB2
variable {f o N n m : Nat} {σ σ1 : tz_S} {D : Int} {T T2 : Nat → Nat → Int} {am am2 va va2 : Nat → Int} {bs cl : Nat → Nat}
theorem tbV_cong (h : tbV σ o n m D T am va bs cl) (h1 : ∀ r c, r < m → c < n → T r c = T2 r c) (h2 : ∀ r, r < m → am r = am2 r) (h3 : ∀ c, c < n → va c = va2 c) : tbV σ o n m D T2 am2 va2 bs cl := by
  obtain ⟨h0, h4, h5, h6, h7, h8, h9⟩ := h
  exact ⟨h0, h4, fun r c hr hc => by rw [← h1 r c hr hc]; exact h5 r c hr hc, fun r hr => by rw [← h2 r hr]; exact h6 r hr, fun c hc => by rw [← h3 c hc]; exact h7 c hc, h8, h9⟩
/-- one cell is changed, one amount -/
theorem tbV_cell {i j : Nat} {x : Int} (h : tbV σ o n m D T am va bs cl) (hj : j < 10) (hi : i < 12) (hf : Fr (crP o (o + 48 + 2 * (10 * i + j))) σ σ1) (hx : Bz σ1 (o + 48 + 2 * (10 * i + j)) 8 x) : tbV σ1 o n m D (fun r c => if r = i ∧ c = j then x else T r c) am va bs cl := by
  obtain ⟨⟨h1, h2, h3, h3'⟩, h4, h5, h6, h7, h8, h9⟩ := h
  refine ⟨⟨?_, ?_, h3, h3'⟩, ?_, ?_, ?_, ?_, ?_, ?_⟩
  · rw [Fr_F hf (by unfold crP; omega)]; exact h1
  · rw [Fr_F hf (by unfold crP; omega)]; exact h2
  · exact Bz_fr h4 hf (by unfold crP; omega) (by unfold crP; omega)
  · intro r c hr hc
    by_cases z : r = i ∧ c = j
    · simp only [z, and_self, if_true]
      exact hx
    · simp only [z, if_false]
      exact Bz_fr (h5 r c hr hc) hf (by unfold crP; omega) (by unfold crP; omega)
  · exact fun r hr => Bz_fr (h6 r hr) hf (by unfold crP; omega) (by unfold crP; omega)
  · rw [Fr_L hf (by unfold crP; omega)]; exact h7
  · rw [Fr_A hf (x := o + 36) (by unfold crP; omega), Fr_A hf (x := o + 38) (by unfold crP; omega), Fr_A hf (x := o + 39) (by unfold crP; omega)]; exact h8
  · rw [Fr_A hf (x := o + 37) (by unfold crP; omega), Fr_A hf (x := o + 38) (by unfold crP; omega), Fr_A hf (x := o + 39) (by unfold crP; omega)]; exact h9
theorem tbV_am {i : Nat} {x : Int} (h : tbV σ o n m D T am va bs cl) (hi : i < 12) (hf : Fr (crP o (o + 288 + 2 * i)) σ σ1) (hx : Bz σ1 (o + 288 + 2 * i) 12 x) : tbV σ1 o n m D T (fun r => if r = i then x else am r) va bs cl := by
  obtain ⟨⟨h1, h2, h3, h3'⟩, h4, h5, h6, h7, h8, h9⟩ := h
  refine ⟨⟨?_, ?_, h3, h3'⟩, ?_, ?_, ?_, ?_, ?_, ?_⟩
  · rw [Fr_F hf (by unfold crP; omega)]; exact h1
  · rw [Fr_F hf (by unfold crP; omega)]; exact h2
  · exact Bz_fr h4 hf (by unfold crP; omega) (by unfold crP; omega)
  · exact fun r c hr hc => Bz_fr (h5 r c hr hc) hf (by unfold crP; omega) (by unfold crP; omega)
  · intro r hr
    by_cases z : r = i
    · simp only [z, if_true]
      exact hx
    · simp only [z, if_false]
      exact Bz_fr (h6 r hr) hf (by unfold crP; omega) (by unfold crP; omega)
  · rw [Fr_L hf (by unfold crP; omega)]; exact h7
  · rw [Fr_A hf (x := o + 36) (by unfold crP; omega), Fr_A hf (x := o + 38) (by unfold crP; omega), Fr_A hf (x := o + 39) (by unfold crP; omega)]; exact h8
  · rw [Fr_A hf (x := o + 37) (by unfold crP; omega), Fr_A hf (x := o + 38) (by unfold crP; omega), Fr_A hf (x := o + 39) (by unfold crP; omega)]; exact h9
theorem tbV_common {x : Int} (h : tbV σ o n m D T am va bs cl) (hf : Fr (bP (o + 40)) σ σ1) (hx : Bz σ1 (o + 40) 8 x) : tbV σ1 o n m x T am va bs cl := by
  obtain ⟨⟨h1, h2, h3, h3'⟩, h4, h5, h6, h7, h8, h9⟩ := h
  refine ⟨⟨?_, ?_, h3, h3'⟩, hx, ?_, ?_, ?_, ?_, ?_⟩
  · rw [Fr_F hf (by unfold bP; omega)]; exact h1
  · rw [Fr_F hf (by unfold bP; omega)]; exact h2
  · exact fun r c hr hc => Bz_fr (h5 r c hr hc) hf (by unfold bP; omega) (by unfold bP; omega)
  · exact fun r hr => Bz_fr (h6 r hr) hf (by unfold bP; omega) (by unfold bP; omega)
  · rw [Fr_L hf (by unfold bP; omega)]; exact h7
  · rw [Fr_A hf (x := o + 36) (by unfold bP; omega), Fr_A hf (x := o + 38) (by unfold bP; omega), Fr_A hf (x := o + 39) (by unfold bP; omega)]; exact h8
  · rw [Fr_A hf (x := o + 37) (by unfold bP; omega), Fr_A hf (x := o + 38) (by unfold bP; omega), Fr_A hf (x := o + 39) (by unfold bP; omega)]; exact h9
/-- what an exchange may change -/
def exP (o : Nat) : Nat → Prop := fun x => o + 20 ≤ x ∧ x ≤ o + 311
theorem exP_cr {i : Nat} (h1 : o + 48 ≤ i) (h2 : i ≤ o + 310) : ∀ x, crP o i x → exP o x := fun x hx => by unfold crP at hx; unfold exP; omega
theorem exP_b {i : Nat} (h1 : o + 20 ≤ i) (h2 : i ≤ o + 310) : ∀ x, bP i x → exP o x := fun x hx => by unfold bP at hx; unfold exP; omega
theorem exP_cb {i : Nat} : ∀ x, bP i x → crP o i x := fun x hx => by unfold bP at hx; unfold crP; omega
end TB2
theorem turn_neg {g : Int32} (hg : g = 1 ∨ g = -1) : (-g).toInt = -g.toInt ∧ (-g = 1 ∨ -g = -1) ∧ (g.toInt = 1 ∨ g.toInt = -1) := by
  rcases hg with h | h <;> rw [h] <;> decide
section TB3
variable {f o N n m r c : Nat} {σ : tz_S} {D p miss : Int} {T : Nat → Nat → Int} {am va : Nat → Int} {bs cl : Nat → Nat} {g : Int32}
set_option maxHeartbeats 1000000 in
theorem c_turnRow (hc : cSh σ o N) (ht : tbV σ o n m D T am va bs cl) (hs : smOk σ (o + 30) N) (hf : 2000 ≤ f) (hr : r < m) (hcn : c < n) (hp0 : T r c ≠ 0) (hmi : Bz σ (o + 42) 12 miss) (hva : -4000000000000000000 < va c ∧ va c < 4000000000000000000)
    (hg : g = isg (T r c)) (hal : ((g.toInt * va c * T r c - g.toInt * miss).natAbs : Int) < 1000000000 ^ 12) :
    gp (X9_turnRow f (some (o + 32)) (nI r) (nI c)) σ (fun _ σ' => Fr (exP o) σ σ' ∧ smOk σ' (o + 30) N ∧ tbV σ' o n m (T r c * g.toInt) (fun i j => if i = r ∧ j = c then D * g.toInt else if i = r then T i j * (-g.toInt) else T i j) (fun i => if i = r then g.toInt * va c * T r c - g.toInt * miss else am i) va bs cl) := by
  have hN := cs_N hc
  have hgg : g = 1 ∨ g = -1 := by rw [hg]; exact isg_ne hp0
  obtain ⟨hg1, hg2, hg3⟩ := turn_neg hgg
  obtain ⟨⟨h1, h2, h3, h3'⟩, h4, h5, h6, h7, h8, h9⟩ := id ht
  unfold X9_turnRow
  refine gp_cV (cs_tab hc) (gp_mono (c_cell hc (by omega) (by omega)) ?_)
  rintro _ σ0 ⟨h0, rfl⟩
  rw [h0]
  clear h0 σ0
  have hpv := h5 r c hr hcn
  refine gp_rI (Bz_cl hpv) rfl ?_
  rw [Bz_sign hpv, ← hg]
  obtain ⟨u0, S0, hs0⟩ := hs
  refine gp_rR (cs_tab hc) rfl ?_
  refine gp_cV hs0.1.1 (gp_mono (c_clearS hs0 hf) ?_)
  rintro _ σ1 ⟨hF1, hS1⟩
  have hc1 := cs_fr hc hF1
  have hpv1 := Bz_fr hpv hF1 (by unfold bP; omega) (by unfold bP; omega)
  have hmi1 := Bz_fr hmi hF1 (by unfold bP; omega) (by unfold bP; omega)
  refine gp_rR (cs_tab hc1) rfl ?_
  refine gp_rR (cs_tab hc1) rfl ?_
  refine gp_aL (j := c) (cs_rest hc1) (by omega) (by omega) rfl ?_
  have hrc : (tz_L σ1 (o + 35) c).toInt = va c := by rw [Fr_L hF1 (by unfold bP; omega)]; exact h7 c hcn
  generalize tz_L σ1 (o + 35) c = w at hrc ⊢
  have e1 : (g.toInt64 * w).toInt = g.toInt * va c := by
    rw [az_lmul, Int32.toInt_toInt64, hrc]
    · rw [Int32.toInt_toInt64, hrc]; rcases hg3 with z | z <;> rw [z] <;> omega
    · rw [Int32.toInt_toInt64, hrc]; rcases hg3 with z | z <;> rw [z] <;> omega
  refine gp_cV hS1.1.1 (gp_mono (c_addTimesS (t := g.toInt64 * w) hS1 hpv1 hf (by rw [e1]; rcases hg3 with z | z <;> rw [z] <;> omega) (Bz_lt hpv1) (by omega) (by omega)) ?_)
  rintro _ σ2 ⟨hF2, u2, hu2, hS2⟩
  have hc2 := cs_fr hc1 hF2
  have hmi2 := Bz_fr hmi1 hF2 (by unfold bP; omega) (by unfold bP; omega)
  refine gp_rR (cs_tab hc2) rfl ?_
  refine gp_rR (cs_tab hc2) rfl ?_
  have e2 : ((-g).toInt64).toInt = -g.toInt := by rw [Int32.toInt_toInt64, hg1]
  refine gp_cV hS2.1.1 (gp_mono (c_addTimesS (t := (-g).toInt64) hS2 hmi2 hf (by rw [e2]; omega) (Bz_lt hmi2) (by omega) (by omega)) ?_)
  rintro _ σ3 ⟨hF3, u3, hu3, hS3⟩
  have hc3 := cs_fr hc2 hF3
  rw [e1, e2, show 0 + g.toInt * va c * T r c + -g.toInt * miss = g.toInt * va c * T r c - g.toInt * miss by rw [Int.neg_mul]; omega] at hS3
  generalize g.toInt * va c * T r c - g.toInt * miss = A at hal hS3 ⊢
  refine gp_rR (cs_tab hc3) rfl ?_
  refine gp_rR (cs_tab hc3) rfl ?_
  refine gp_aR (j := r) (cs_ams hc3) (by decide) (by omega) (by omega) rfl ?_
  rw [(cs_am hc3 r (by omega)).2]
  refine gp_cV hS3.1.1 (gp_mono (c_storeS hS3 (cs_am hc3 r (by omega)).1 hf hal) ?_)
  rintro _ σ4 ⟨hF4, hb4⟩
  have hF4' : Fr (crP o (o + 288 + 2 * r)) σ σ4 := Fr_trans (Fr_mono (Fr_trans (Fr_trans hF1 hF2) hF3) (fun y hy => by unfold bP at hy; unfold crP; omega)) (Fr_mono hF4 exP_cb)
  have hc4 := cs_fr hc hF4'
  have ht4 := tbV_am ht (by omega) hF4' hb4
  have hS4 : smOk σ4 (o + 30) N := ⟨_, _, Sz_fr hS3 hF4 (by unfold bP; omega) (by unfold bP; omega)⟩
  have hF40 : Fr (exP o) σ σ4 := Fr_mono hF4' (exP_cr (by omega) (by omega))
  unfold X9_turnRow_L69
  refine gp_loop (I := fun (τ : Int32) (σ' : tz_S) => ∃ k, τ = nI k ∧ k ≤ n ∧ Fr (exP o) σ σ' ∧ cSh σ' o N ∧ smOk σ' (o + 30) N ∧ tbV σ' o n m D (fun i j => if i = r ∧ j < k ∧ j ≠ c then T i j * (-g.toInt) else T i j) (fun i => if i = r then A else am i) va bs cl) (fun τ _ => 100 - τ.toNatClampNeg) ?_ f _ _ ⟨0, rfl, Nat.zero_le _, hF40, hc4, hS4, tbV_cong ht4 (fun i j hi hj => by simp) (fun _ _ => rfl) (fun _ _ => rfl)⟩ (by omega)
  rintro K l5 σ' ⟨k, rfl, hk, hF5, hc5, hs5, ht5⟩ hK
  show gp (X9_turnRow_L69_body f (some (o + 32)) (nI r) (nI c) (some (o + 48 + 2 * (10 * r + c))) g (fun l5 => K l5) (nI k)) σ' _
  unfold X9_turnRow_L69_body
  refine gp_rI (cs_tab hc5) rfl ?_
  rw [ht5.1.2.1]
  have next : ∀ σ6, Fr (exP o) σ σ6 → cSh σ6 o N → smOk σ6 (o + 30) N → k + 1 ≤ n → tbV σ6 o n m D (fun i j => if i = r ∧ j < k + 1 ∧ j ≠ c then T i j * (-g.toInt) else T i j) (fun i => if i = r then A else am i) va bs cl → gp (X9_turnRow_b102 f (fun l5 => K l5) (some (o + 32)) (nI r) (nI c) (some (o + 48 + 2 * (10 * r + c))) g (nI k)) σ6 (fun _ σ' => Fr (exP o) σ σ' ∧ smOk σ' (o + 30) N ∧ tbV σ' o n m (T r c * g.toInt) (fun i j => if i = r ∧ j = c then D * g.toInt else if i = r then T i j * (-g.toInt) else T i j) (fun i => if i = r then A else am i) va bs cl) := by
    intro σ6 q1 q2 q3 q4 q5
    unfold X9_turnRow_b102
    refine gp_let ?_
    rw [nI_1]
    exact hK _ _ ⟨k + 1, rfl, q4, q1, q2, q3, q5⟩ (by rw [nI_clamp (by omega), nI_clamp (by omega)]; omega)
  refine gp_if (fun hk2 => ?_) (fun hk2 => ?_)
  · clear next
    rw [nI_leI (by omega) (by omega)] at hk2
    have hkn : k = n := by omega
    subst hkn
    obtain ⟨-, i4, i5, -, -, -, -⟩ := id ht5
    have hpv5 : Bz σ' (o + 48 + 2 * (10 * r + c)) 8 (T r c) := by
      have := i5 r c hr hcn
      simp only [ne_eq, not_true_eq_false, and_false, if_false] at this
      exact this
    refine gp_rR (cs_tab hc5) rfl ?_
    refine gp_rR (cs_tab hc5) rfl ?_
    refine gp_cV (cs_kept hc5).1 (gp_mono (c_setB (turn := g) (cs_kept hc5) i4 hf (Bz_lt i4) (Or.inr hgg)) ?_)
    rintro _ σ6 ⟨hF6, hb6⟩
    have hc6 := cs_fr hc5 hF6
    have ht6 := tbV_fr ht5 hF6 (fun x a b => by unfold bP; omega) (fun x a b => by unfold bP; omega)
    have hpv6 := Bz_fr hpv5 hF6 (by unfold bP; omega) (by unfold bP; omega)
    refine gp_rR (cs_tab hc6) rfl ?_
    refine gp_cV (cs_common hc6).1 (gp_mono (c_setB (turn := g) (cs_common hc6) hpv6 hf (Bz_lt hpv6) (Or.inr hgg)) ?_)
    rintro _ σ7 ⟨hF7, hb7⟩
    have hc7 := cs_fr hc6 hF7
    have ht7 := tbV_common ht6 hF7 hb7
    have hb67 := Bz_fr hb6 hF7 (by unfold bP; omega) (by unfold bP; omega)
    refine gp_rR (cs_tab hc7) rfl ?_
    have hpS := (cs_cell hc7 (10 * r + c) (by omega)).1
    refine gp_cV hpS.1 (gp_mono (c_setB (turn := 1) hpS hb67 hf (Bz_lt hb67) (Or.inr (Or.inl rfl))) ?_)
    rintro _ σ8 ⟨hF8, hb8⟩
    rw [show (1 : Int32).toInt = 1 from rfl, Int.mul_one] at hb8
    refine gp_ret ⟨?_, ?_, ?_⟩
    · exact Fr_then (Fr_then (Fr_then hF5 hF6 (exP_b (by omega) (by omega))) hF7 (exP_b (by omega) (by omega))) hF8 (exP_b (by omega) (by omega))
    · exact smOk_fr (smOk_fr (smOk_fr hs5 hF6 (by unfold bP; omega) (by unfold bP; omega)) hF7 (by unfold bP; omega) (by unfold bP; omega)) hF8 (by unfold bP; omega) (by unfold bP; omega)
    · refine tbV_cong (tbV_cell ht7 (by omega) (by omega) (Fr_mono hF8 exP_cb) hb8) ?_ (fun _ _ => rfl) (fun _ _ => rfl)
      intro i j hi hj
      by_cases z1 : i = r
      · by_cases z2 : j = c
        · simp [z1, z2]
        · simp [z1, z2, hj]
      · simp [z1]
  · rw [nI_leI (by omega) (by omega)] at hk2
    refine gp_if (fun hkc => ?_) (fun hkc => ?_)
    · rw [nI_eq (by omega) (by omega)] at hkc
      refine next σ' hF5 hc5 hs5 (by omega) (tbV_cong ht5 ?_ (fun _ _ => rfl) (fun _ _ => rfl))
      intro i j hi hj
      have e : (i = r ∧ j < k ∧ j ≠ c) = (i = r ∧ j < k + 1 ∧ j ≠ c) := propext ⟨fun h => ⟨h.1, by omega, h.2.2⟩, fun h => ⟨h.1, by omega, h.2.2⟩⟩
      simp only [e]
    · rw [nI_eq (by omega) (by omega)] at hkc
      refine gp_cV (cs_tab hc5) (gp_mono (c_cell hc5 (by omega) (by omega)) ?_)
      rintro _ σ0 ⟨h0, rfl⟩
      rw [h0]
      clear h0 σ0
      obtain ⟨-, i4, i5, -, -, -, -⟩ := id ht5
      have hpk : Bz σ' (o + 48 + 2 * (10 * r + k)) 8 (T r k) := by
        have := i5 r k hr (by omega)
        simp only [Nat.lt_irrefl, false_and, and_false, if_false] at this
        exact this
      refine gp_rI (Bz_cl hpk) rfl ?_
      rw [Bz_sign hpk]
      refine gp_wI (Bz_cl hpk) rfl ?_
      obtain ⟨q1, q2⟩ := c_sgn hpk hg2
      rw [hg1] at q2
      refine next _ (Fr_then hF5 q1 (exP_b (by omega) (by omega))) (cs_fr hc5 q1) (smOk_fr hs5 q1 (by unfold bP; omega) (by unfold bP; omega)) (by omega) (tbV_cong (tbV_cell ht5 (by omega) (by omega) (Fr_mono q1 exP_cb) q2) ?_ (fun _ _ => rfl) (fun _ _ => rfl))
      intro i j hi hj
      by_cases z1 : i = r
      · by_cases z2 : j = k
        · simp [z1, z2, hkc]
        · have e : (j < k ∧ ¬ j = c) = (j < k + 1 ∧ ¬ j = c) := propext ⟨fun h => ⟨by omega, h.2⟩, fun h => ⟨by omega, h.2⟩⟩
          simp [z1, z2, e]
      · simp [z1]
end TB3
