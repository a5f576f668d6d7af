/-! ===== Sum: clear, addTimes, addProduct, signNow; a Big is a number ===== -/
def sPut (σ : tz_S) (s l : Nat) (g : Nat → Int64) (u : Nat) : tz_S := tz_sF (tz_rowL σ l g) s 1 (nI u)
def SumV (σ : tz_S) (s l N u : Nat) (S : Int) : Prop := sSh σ s l N ∧ tz_F σ s 1 = nI u ∧ sOk N (tz_L σ l) u ∧ mg (dL (tz_L σ l)) N = S
def bN (f : Nat → Int32) (k : Nat) (sg : Int32) (v : Int) : Prop := (∀ j, j < k → 0 ≤ dI f j ∧ dI f j < 1000000000) ∧ (0 < k → dI f (k - 1) ≠ 0) ∧ (sg = 0 ∨ sg = 1 ∨ sg = -1) ∧ (sg = 0 ↔ k = 0) ∧ v = sg.toInt * mg (dI f) k
def BigV (σ : tz_S) (a b n k : Nat) (v : Int) : Prop := bSh σ a b n ∧ k ≤ n ∧ tz_F σ a 1 = nI k ∧ bN (tz_A σ b) k (tz_F σ a 2) v
theorem sPut_sh {σ : tz_S} {s l : Nat} {g : Nat → Int64} {u : Nat} : tz_sh (sPut σ s l g u) = tz_sh σ := rfl
theorem sPut_A {σ : tz_S} {s l : Nat} {g : Nat → Int64} {u : Nat} : tz_A (sPut σ s l g u) = tz_A σ := rfl
theorem sPut_L {σ : tz_S} {s l : Nat} {g : Nat → Int64} {u : Nat} : tz_L (sPut σ s l g u) l = g := tz_rowL_at σ l g
theorem sPut_F {σ : tz_S} {s l : Nat} {g : Nat → Int64} {u : Nat} : tz_F (sPut σ s l g u) s 1 = nI u := tz_u2_same _ _ _ _
theorem sPut_Fn {σ : tz_S} {s l a k : Nat} {g : Nat → Int64} {u : Nat} (h : a ≠ s) : tz_F (sPut σ s l g u) a k = tz_F σ a k := tz_u2_ne _ _ (Or.inl h)
theorem sPut_put {σ : tz_S} {s l : Nat} {g g' : Nat → Int64} {u u' : Nat} : sPut (sPut σ s l g u) s l g' u' = sPut σ s l g' u' := by
  show ((_, _, _, tz_u2 (tz_u2 (tz_F σ) s 1 (nI u)) s 1 (nI u'), _, (fun x => if x = l then g' else (fun x => if x = l then g else tz_L σ x) x), _) : tz_S) = (_, _, _, tz_u2 (tz_F σ) s 1 (nI u'), _, (fun x => if x = l then g' else tz_L σ x), _)
  have e1 : tz_u2 (tz_u2 (tz_F σ) s 1 (nI u)) s 1 (nI u') = tz_u2 (tz_F σ) s 1 (nI u') := by
    funext y i
    simp only [tz_u2]
    split <;> rfl
  have e2 : (fun x => if x = l then g' else (fun x => if x = l then g else tz_L σ x) x) = (fun x => if x = l then g' else tz_L σ x) := by
    funext x
    by_cases h : x = l <;> simp [h]
  rw [e1, e2]
  rfl
theorem sSh_put {σ : tz_S} {s l N : Nat} {g : Nat → Int64} {u : Nat} (h : sSh σ s l N) : sSh (sPut σ s l g u) s l N := h
theorem sS_ne {σ : tz_S} {s l N a b n : Nat} (hS : sSh σ s l N) (hB : bSh σ a b n) : a ≠ s := by
  intro h
  have h1 := hB.1
  rw [h, hS.1] at h1
  simp at h1
theorem BigV_sPut {σ : tz_S} {s l N a b n k u : Nat} {g : Nat → Int64} {v : Int} (hS : sSh σ s l N) (hB : BigV σ a b n k v) : BigV (sPut σ s l g u) a b n k v := by
  have hne := sS_ne hS hB.1
  obtain ⟨h1, h2, h3, h4⟩ := hB
  exact ⟨h1, h2, by rw [sPut_Fn hne]; exact h3, by rw [sPut_Fn hne]; exact h4⟩
theorem SumV_put {σ : tz_S} {s l N u : Nat} {g : Nat → Int64} {S : Int} (hS : sSh σ s l N) (h1 : sOk N g u) (h2 : mg (dL g) N = S) : SumV (sPut σ s l g u) s l N u S := ⟨hS, sPut_F, by rw [sPut_L]; exact h1, by rw [sPut_L]; exact h2⟩
theorem sPut_self {σ : tz_S} {s l N u : Nat} {S : Int} (h : SumV σ s l N u S) : sPut σ s l (tz_L σ l) u = σ := by
  unfold sPut
  rw [tz_rowL_self]
  exact tz_sF_self h.2.1
set_option maxHeartbeats 1000000 in
theorem c_clear {n s l N u : Nat} {S : Int} {σ : tz_S} (hV : SumV σ s l N u S) (hn : 2000 ≤ n) : gp (X8_clear n (some s)) σ (fun _ σ' => ∃ g, σ' = sPut σ s l g 0 ∧ sOk N g 0 ∧ mg (dL g) N = 0) := by
  obtain ⟨hS, hu, ⟨o1, o2, o3⟩, -⟩ := hV
  have hN := hS.2.2
  unfold X8_clear X8_clear_L2
  refine gp_loop (I := fun (τ : Int32) (σ' : tz_S) => ∃ (g : Nat → Int64) (j : Nat), σ' = tz_rowL σ l g ∧ τ = nI j ∧ j ≤ u ∧ (∀ i, i < j → g i = 0) ∧ ∀ i, j ≤ i → g i = tz_L σ l i) (fun τ _ => 200 - τ.toNatClampNeg) ?_ n _ _ ⟨tz_L σ l, 0, (tz_rowL_self σ l).symm, rfl, Nat.zero_le _, fun i h => absurd h (Nat.not_lt_zero _), fun i _ => rfl⟩ (by omega)
  rintro K l1 σ' ⟨g, j, rfl, rfl, hj, h1, h2⟩ hK
  show gp (X8_clear_L2_body n (some s) (fun l1 => K l1) (nI j)) (tz_rowL σ l g) _
  unfold X8_clear_L2_body
  refine gp_rI (σ := tz_rowL σ l g) hS.1 rfl ?_
  rw [show tz_F (tz_rowL σ l g) s 1 = nI u from hu]
  refine gp_if (fun hc => ?_) (fun hc => ?_)
  · rw [nI_leI (by omega) (by omega)] at hc
    refine gp_wI (σ := tz_rowL σ l g) hS.1 rfl ?_
    have hz : ∀ i, i < N → g i = 0 := fun i hi => by
      by_cases hij : i < j
      · exact h1 i hij
      · rw [h2 i (by omega)]
        exact o3 i (by omega) hi
    refine gp_ret ⟨g, rfl, ⟨Nat.zero_le _, fun i hi => by rw [hz i hi]; decide, fun i _ hi => hz i hi⟩, ?_⟩
    rw [mg_congr (e := fun _ => 0) (fun i hi => by show (g i).toInt = 0; rw [hz i hi]; rfl), mg_zero]
  · rw [nI_leI (by omega) (by omega)] at hc
    refine gp_rR (σ := tz_rowL σ l g) hS.1 rfl ?_
    refine gp_sL (σ := tz_rowL σ l g) (j := j) hS.2.1 (by omega) (by omega) rfl ?_
    rw [tz_rowL_put]
    refine gp_let ?_
    rw [nI_1]
    refine hK _ _ ⟨_, j + 1, rfl, rfl, by omega, ?_, ?_⟩ (by rw [nI_clamp (by omega), nI_clamp (by omega)]; omega)
    · intro i hi
      by_cases hij : i = j
      · subst hij; exact pk_uLs
      · rw [pk_uLn hij]; exact h1 i (by omega)
    · intro i hi
      rw [pk_uLn (by omega)]
      exact h2 i (by omega)
/-- addShifted, in these words -/
theorem c_addS2 {n s l N a b nb k u sh : Nat} {σ : tz_S} {t : Int64} {S v : Int} (hV : SumV σ s l N u S) (hB : BigV σ a b nb k v) (hn : 2000 ≤ n) (ht : -1000000000 < t.toInt ∧ t.toInt < 1000000000) (hr1 : u + 1 ≤ N) (hr2 : sh + k + 1 ≤ N) :
    gp (X8_addShifted n (some s) (some a) t (nI sh)) σ (fun _ σ' => ∃ (g : Nat → Int64) (u' : Nat), σ' = sPut σ s l g u' ∧ sOk N g u' ∧ u' ≤ max u (sh + k) + 1 ∧ mg (dL g) N = S + t.toInt * mg (dI (tz_A σ b)) k * 1000000000 ^ sh) := by
  obtain ⟨h1, h2, h3, h4⟩ := hV
  rw [← h4]
  exact c_addS h1 hB.1 hn hB.2.2.1 hB.2.1 hB.2.2.2.1 h2 h3 ht hr1 hr2
theorem rg_3 (S T r x m P : Int) (h : S + x * m * P = T) : S + r * m * P + (x - r) * m * P = T := by grind
theorem rg_4 (q m P : Int) : q * 1000000000 * m * P = q * m * (P * 1000000000) := by grind
set_option maxHeartbeats 1000000 in
theorem c_addTimes {n s l N a b nb k u : Nat} {σ : tz_S} {t : Int64} {S v : Int} (hV : SumV σ s l N u S) (hB : BigV σ a b nb k v) (hn : 2000 ≤ n) (ht : -9223372036854775808 < t.toInt) (hr1 : u + 4 ≤ N) (hr2 : k + 6 ≤ N) :
    gp (X8_addTimes n (some s) (some a) t) σ (fun _ σ' => ∃ (g : Nat → Int64) (u' : Nat), σ' = sPut σ s l g u' ∧ sOk N g u' ∧ u' ≤ max u (k + 2) + 3 ∧ mg (dL g) N = S + t.toInt * v) := by
  have hS := hV.1
  have hN := hS.2.2
  have hB0 := hB
  obtain ⟨b1, b2, b3, b4, b5, b6, b7, b8⟩ := hB
  unfold X8_addTimes
  refine gp_rI b1.1 rfl ?_
  refine gp_let ?_
  have hsg : (tz_F σ a 2).toInt = 0 ∨ (tz_F σ a 2).toInt = 1 ∨ (tz_F σ a 2).toInt = -1 := by
    rcases b6 with h | h | h <;> rw [h] <;> decide
  have et := az_hi64 t
  have hm : (t * (tz_F σ a 2).toInt64).toInt = t.toInt * (tz_F σ a 2).toInt := by
    have e : (tz_F σ a 2).toInt64.toInt = (tz_F σ a 2).toInt := Int32.toInt_toInt64 _
    rw [az_lmul (by rw [e]; rcases hsg with h | h | h <;> rw [h] <;> omega) (by rw [e]; rcases hsg with h | h | h <;> rw [h] <;> omega), e]
  generalize ht1 : t * (tz_F σ a 2).toInt64 = t1 at hm ⊢
  have hT : t1.toInt * mg (dI (tz_A σ b)) k = t.toInt * v := by rw [hm, b8]; exact Int.mul_assoc _ _ _
  unfold X8_addTimes_L12
  refine gp_loop (I := fun (τ : Int64 × Int32) (σ' : tz_S) => ∃ (g : Nat → Int64) (u' i : Nat), σ' = sPut σ s l g u' ∧ sOk N g u' ∧ u' ≤ max u (k + 2) + i ∧ τ.2 = nI i ∧ i ≤ 3 ∧ mg (dL g) N + τ.1.toInt * mg (dI (tz_A σ b)) k * 1000000000 ^ i = S + t.toInt * v ∧ (i = 0 ∨ (-9223372037 < τ.1.toInt ∧ τ.1.toInt < 9223372037)) ∧ (i = 0 ∨ i = 1 ∨ (-10 < τ.1.toInt ∧ τ.1.toInt < 10)) ∧ (i = 3 → τ.1.toInt = 0)) (fun τ _ => 10 - τ.2.toNatClampNeg) ?_ n _ _ ⟨tz_L σ l, u, 0, (sPut_self hV).symm, hV.2.2.1, by omega, rfl, by omega, by rw [hV.2.2.2]; show S + t1.toInt * _ * 1 = _; rw [Int.mul_one, hT], Or.inl rfl, Or.inl rfl, fun h => absurd h (by decide)⟩ (by omega)
  rintro K ⟨c, l6⟩ σ' ⟨g, u', i, rfl, ho, hu', h6, hi, hv, hc1, hc2, hc3⟩ hK
  simp only at h6 hv hc1 hc2 hc3 hK
  subst h6
  show gp (X8_addTimes_L12_body n (some s) (some a) (fun l4 l6 => K (l4, l6)) c (nI i)) (sPut σ s l g u') _
  unfold X8_addTimes_L12_body X8_addTimes_b52
  have fin : c.toInt = 0 → ∃ (g' : Nat → Int64) (u'' : Nat), sPut σ s l g u' = sPut σ s l g' u'' ∧ sOk N g' u'' ∧ u'' ≤ max u (k + 2) + 3 ∧ mg (dL g') N = S + t.toInt * v := fun h => ⟨g, u', rfl, ho, by omega, by rw [← hv, h]; simp⟩
  refine gp_if (fun h3 => ?_) (fun h3 => ?_)
  · rw [show (3 : Int32) = nI 3 from rfl, nI_leI (by omega) (by omega)] at h3
    exact gp_ret (fin (hc3 (by omega)))
  · rw [show (3 : Int32) = nI 3 from rfl, nI_leI (by omega) (by omega)] at h3
    refine gp_if (fun h0 => ?_) (fun h0 => ?_)
    · rw [lg_cmp_eq] at h0
      exact gp_ret (fin (by rw [h0]; rfl))
    · clear fin
      refine gp_rmL az_B0 ?_
      obtain ⟨q, r, e1, e2, e3, e4, e5, e6, e7⟩ := az_lB c
      generalize c - c / 1000000000 * 1000000000 = cr at e2 ⊢
      obtain ⟨cq, hcq⟩ : ∃ z, c / 1000000000 = z := ⟨_, rfl⟩
      rw [hcq] at e1
      have hV' := SumV_put (u := u') hS ho rfl
      refine gp_cV (σ := sPut σ s l g u') hS.1 ?_
      refine gp_mono (c_addS2 (sh := i) hV' (BigV_sPut hS hB0) hn (by rw [e2]; exact ⟨e4, e5⟩) (by omega) (by omega)) ?_
      rintro _ σ2 ⟨g2, u2, rfl, o2, hu2, hv2⟩
      rw [sPut_put]
      refine gp_dvL az_B0 ?_
      rw [hcq]
      refine gp_let ?_
      rw [nI_1]
      refine hK (_, _) _ ⟨g2, u2, i + 1, rfl, o2, by omega, rfl, by omega, ?_, Or.inr ?_, ?_, ?_⟩ (by simp only; rw [nI_clamp (by omega), nI_clamp (by omega)]; omega)
      · simp only
        rw [hv2, e1, e2, sPut_A, mg_ps]
        have := rg_3 _ _ r _ _ _ hv
        rw [e3] at this
        rw [show q * 1000000000 + r - r = q * 1000000000 by omega, rg_4] at this
        exact this
      · simp only
        rw [e1]
        have := az_hi64 c
        have := az_lo64 c
        omega
      · simp only
        rw [e1]
        rcases hc1 with h | h
        · exact Or.inr (Or.inl (by omega))
        · exact Or.inr (Or.inr (by omega))
      · simp only
        rw [e1]
        intro hi3
        have : ¬ i = 0 := by omega
        have : ¬ i = 1 := by omega
        rcases hc2 with h | h | h
        · omega
        · omega
        · omega
theorem rg_5 (S w X d P m : Int) : S + w * m * X + w * d * m * P = S + w * m * (X + d * P) := by grind
set_option maxHeartbeats 1000000 in
theorem c_addProduct {n s l N a b nb k a2 b2 nb2 k2 u : Nat} {σ : tz_S} {turn : Int32} {S v v2 : Int} (hV : SumV σ s l N u S) (hB : BigV σ a b nb k v) (hB2 : BigV σ a2 b2 nb2 k2 v2) (hn : 2000 ≤ n) (htn : turn = 0 ∨ turn = 1 ∨ turn = -1) (hr : max u k + k2 + 1 ≤ N) :
    gp (X8_addProduct n (some s) (some a) (some a2) turn) σ (fun _ σ' => ∃ (g : Nat → Int64) (u' : Nat), σ' = sPut σ s l g u' ∧ sOk N g u' ∧ u' ≤ max u k + k2 ∧ mg (dL g) N = S + turn.toInt * v * v2) := by
  have hS := hV.1
  have hN := hS.2.2
  obtain ⟨b1, b2', b3, b4, b5, b6, b7, b8⟩ := id hB
  obtain ⟨c1, c2, c3, c4, c5, c6, c7, c8⟩ := id hB2
  unfold X8_addProduct
  refine gp_rI b1.1 rfl ?_
  refine gp_rI c1.1 rfl ?_
  refine gp_let ?_
  have h1 : turn.toInt = 0 ∨ turn.toInt = 1 ∨ turn.toInt = -1 := by rcases htn with h | h | h <;> rw [h] <;> decide
  have h2 : (tz_F σ a 2).toInt = 0 ∨ (tz_F σ a 2).toInt = 1 ∨ (tz_F σ a 2).toInt = -1 := by rcases b6 with h | h | h <;> rw [h] <;> decide
  have h3 : (tz_F σ a2 2).toInt = 0 ∨ (tz_F σ a2 2).toInt = 1 ∨ (tz_F σ a2 2).toInt = -1 := by rcases c6 with h | h | h <;> rw [h] <;> decide
  have e1 : (turn * tz_F σ a 2).toInt = turn.toInt * (tz_F σ a 2).toInt := az_imul (by rcases h1 with h | h | h <;> rcases h2 with q | q | q <;> rw [h, q] <;> decide) (by rcases h1 with h | h | h <;> rcases h2 with q | q | q <;> rw [h, q] <;> decide)
  have e2 : (turn * tz_F σ a 2 * tz_F σ a2 2).toInt = turn.toInt * (tz_F σ a 2).toInt * (tz_F σ a2 2).toInt := by
    rw [az_imul (by rw [e1]; rcases h1 with h | h | h <;> rcases h2 with q | q | q <;> rcases h3 with z | z | z <;> rw [h, q, z] <;> decide) (by rw [e1]; rcases h1 with h | h | h <;> rcases h2 with q | q | q <;> rcases h3 with z | z | z <;> rw [h, q, z] <;> decide), e1]
  have e3 : (turn * tz_F σ a 2 * tz_F σ a2 2).toInt64.toInt = turn.toInt * (tz_F σ a 2).toInt * (tz_F σ a2 2).toInt := by rw [Int32.toInt_toInt64, e2]
  generalize hw : (turn * tz_F σ a 2 * tz_F σ a2 2).toInt64 = w at e3 ⊢
  have hw3 : w.toInt = 0 ∨ w.toInt = 1 ∨ w.toInt = -1 := by
    rw [e3]
    rcases h1 with h | h | h <;> rcases h2 with q | q | q <;> rcases h3 with z | z | z <;> rw [h, q, z] <;> decide
  have hT : w.toInt * mg (dI (tz_A σ b)) k * mg (dI (tz_A σ b2)) k2 = turn.toInt * v * v2 := by
    rw [e3, b8, c8]
    generalize mg (dI (tz_A σ b)) k = X
    generalize mg (dI (tz_A σ b2)) k2 = Y
    generalize turn.toInt = p1
    generalize (tz_F σ a 2).toInt = p2
    generalize (tz_F σ a2 2).toInt = p3
    grind
  have hself := (sPut_self hV).symm
  refine gp_if (fun h0 => ?_) (fun h0 => ?_)
  · rw [lg_cmp_eq] at h0
    refine gp_ret ⟨tz_L σ l, u, hself, hV.2.2.1, by omega, ?_⟩
    rw [hV.2.2.2, ← hT, h0]
    show S = S + 0 * _ * _
    simp
  · unfold X8_addProduct_L25
    refine gp_loop (I := fun (τ : Int32) (σ' : tz_S) => ∃ (g : Nat → Int64) (u' i : Nat), σ' = sPut σ s l g u' ∧ sOk N g u' ∧ u' ≤ max u k + i ∧ τ = nI i ∧ i ≤ k2 ∧ mg (dL g) N = S + w.toInt * mg (dI (tz_A σ b)) k * mg (dI (tz_A σ b2)) i) (fun τ _ => 1000 - τ.toNatClampNeg) ?_ n _ _ ⟨tz_L σ l, u, 0, hself, hV.2.2.1, by omega, rfl, by omega, by rw [hV.2.2.2]; show S = S + _ * 0; simp⟩ (by omega)
    rintro K l6 σ' ⟨g, u', i, rfl, ho, hu', rfl, hi, hv⟩ hK
    show gp (X8_addProduct_L25_body n (some s) (some a) (some a2) w (fun l6 => K l6) (nI i)) (sPut σ s l g u') _
    unfold X8_addProduct_L25_body
    have hB2' := BigV_sPut (g := g) (u := u') hS hB2
    have hnb := c1.2.2
    refine gp_rI (σ := sPut σ s l g u') c1.1 rfl ?_
    rw [show tz_F (sPut σ s l g u') a2 1 = nI k2 from hB2'.2.2.1]
    refine gp_if (fun hc => ?_) (fun hc => ?_)
    · rw [nI_leI (by omega) (by omega)] at hc
      have hik : i = k2 := by omega
      subst hik
      exact gp_ret ⟨g, u', rfl, ho, by omega, by rw [hv, hT]⟩
    · rw [nI_leI (by omega) (by omega)] at hc
      refine gp_rR (σ := sPut σ s l g u') c1.1 rfl ?_
      refine gp_aI (σ := sPut σ s l g u') (j := i) c1.2.1 (by decide) (by omega) (by omega) rfl ?_
      rw [sPut_A]
      have hd := c4 i (by omega)
      have em : (w * (tz_A σ b2 i).toInt64).toInt = w.toInt * dI (tz_A σ b2) i := by
        have e : (tz_A σ b2 i).toInt64.toInt = dI (tz_A σ b2) i := Int32.toInt_toInt64 _
        rw [az_lmul (by rw [e]; rcases hw3 with h | h | h <;> rw [h] <;> omega) (by rw [e]; rcases hw3 with h | h | h <;> rw [h] <;> omega), e]
      have hV' := SumV_put (u := u') hS ho rfl
      refine gp_cV (σ := sPut σ s l g u') hS.1 ?_
      refine gp_mono (c_addS2 (sh := i) hV' (BigV_sPut hS hB) hn (by rw [em]; rcases hw3 with h | h | h <;> rw [h] <;> omega) (by omega) (by omega)) ?_
      rintro _ σ2 ⟨g2, u2, rfl, o2, hu2, hv2⟩
      rw [sPut_put]
      refine gp_let ?_
      rw [nI_1]
      refine hK _ _ ⟨g2, u2, i + 1, rfl, o2, by omega, rfl, by omega, ?_⟩ (by rw [nI_clamp (by omega), nI_clamp (by omega)]; omega)
      rw [hv2, hv, em, sPut_A]
      exact rg_5 _ _ _ _ _ _
