/-! ===== Division: divideByLimbs, its digits ===== -/
theorem rg_22 (A H V P L Wn q : Int) (h : A = H * V * (P * 1000000000) + (L + P * Wn)) : A = (q + 1000000000 * H) * V * P + (L + P * (Wn - q * V)) := by grind
theorem rg_23 (a s : Int) (h : 0 < s) {Q b Y R : Int} (h1 : a * s = Q * (b * s) + Y) (h2 : R = a - Q * b) : Y = R * s := by grind
theorem tz_rowAL (σ : tz_S) (b c : Nat) (f : Nat → Int32) (g g' : Nat → Int64) : tz_rowL (tz_rowA (tz_rowL σ c g) b f) c g' = tz_rowA (tz_rowL σ c g') b f := by
  refine tz_eqL (σ := tz_rowA σ b f) (funext fun y => ?_)
  show (if y = c then g' else (if y = c then g else tz_L σ y)) = if y = c then g' else tz_L σ y
  by_cases h : y = c <;> simp [h]
theorem divq (W V : Int) (hV : 0 < V) : ∃ q : Int, q * V ≤ W ∧ W < q * V + V := by
  have h1 := Int.mul_ediv_add_emod W V
  have h2 := Int.emod_nonneg W (show V ≠ 0 by omega)
  have h3 := Int.emod_lt_of_pos W hV
  exact ⟨W / V, by rw [Int.mul_comm]; omega, by rw [Int.mul_comm]; omega⟩
theorem divq0 {q V W : Int} (hV : 0 < V) (h : W < q * V + V) (hW : 0 ≤ W) : 0 ≤ q := by
  rcases Int.lt_or_le q 0 with h1 | h1
  · have : q * V ≤ (-1) * V := Int.mul_le_mul_of_nonneg_right (by omega) (by omega)
    omega
  · exact h1
theorem divqB {q V W : Int} (hV : 0 < V) (h : q * V ≤ W) (hW : W < 1000000000 * V) : q < 1000000000 := by
  rcases Int.lt_or_le q 1000000000 with h1 | h1
  · exact h1
  · have : 1000000000 * V ≤ q * V := Int.mul_le_mul_of_nonneg_right h1 (by omega)
    omega
theorem mul_ltP {X Y P : Int} (hP : 0 < P) (h : X < Y) : P * X + P ≤ P * Y := by
  have h1 : P * (X + 1) ≤ P * Y := Int.mul_le_mul_of_nonneg_left (by omega) (by omega)
  rw [Int.mul_add] at h1
  omega
set_option maxHeartbeats 4000000 in
theorem c_dl54 {n d N m tp : Nat} {σ : tz_S} {s : Int64} {av bv : Int} (hd : dSh σ d N) (hn : 2000 ≤ n) (hk : tp + (m + 2) ≤ N) (hs : 0 < s.toInt ∧ s.toInt < 1000000000)
    (hw : ∀ i, i ≤ tp + (m + 2) → 0 ≤ dL (tz_L σ (d + 9)) i ∧ dL (tz_L σ (d + 9)) i < 1000000000) (hv : ∀ i, i < m + 2 → 0 ≤ dL (tz_L σ (d + 10)) i ∧ dL (tz_L σ (d + 10)) i < 1000000000)
    (hA : mg (dL (tz_L σ (d + 9))) (tp + (m + 2) + 1) = av * s.toInt) (hV : mg (dL (tz_L σ (d + 10))) (m + 2) = bv * s.toInt) (hbv : 0 < bv) (hv1 : 500000000 ≤ dL (tz_L σ (d + 10)) (m + 1))
    (hX : mg (wn (tz_L σ (d + 9)) (tp + 1)) (m + 2) < bv * s.toInt) :
    gp (X2_divideByLimbs_L54 n (some d) (nI (m + 2)) (nI tp) s (nI tp)) σ (fun _ σ' => ∃ (W : Nat → Int64) (fq : Nat → Int32) (kq : Nat) (sq : Int32) (fr : Nat → Int32) (kr : Nat) (sr : Int32), σ' = bPut (bPut (tz_rowL σ (d + 9) W) (d + 1) (d + 2) fq kq sq) (d + 3) (d + 4) fr kr sr ∧ kq ≤ N ∧ kr ≤ N ∧ bN fq kq sq (av / bv) ∧ bN fr kr sr (av % bv)) := by
  have hd0 := hd
  obtain ⟨d1, d2, d3, d4, d5, d6, d7, d8⟩ := hd
  have hVp : 0 < bv * s.toInt := Int.mul_pos hbv hs.1
  generalize hVe : bv * s.toInt = V at hV hX hVp
  generalize hAe : av * s.toInt = A at hA
  have hVlt := (mg_abs (d := dL (tz_L σ (d + 10))) (k := m + 2) (fun j hj => ⟨by have := (hv j (by omega)).1; omega, (hv j (by omega)).2⟩)).2
  rw [hV] at hVlt
  unfold X2_divideByLimbs_L54
  refine gp_loop (I := fun (τ : Int32) (σ' : tz_S) => ∃ (W : Nat → Int64) (f : Nat → Int32) (j : Nat), σ' = tz_rowA (tz_rowL σ (d + 9) W) (d + 2) f ∧ τ = nI j - 1 ∧ j ≤ tp + 1 ∧ (∀ i, i ≤ tp + (m + 2) → 0 ≤ dL W i ∧ dL W i < 1000000000) ∧ (∀ i, j ≤ i → i < tp + 1 → 0 ≤ dI f i ∧ dI f i < 1000000000) ∧ mg (wn W j) (m + 2) < V ∧ A = mgh (dI f) j (tp + 1) * V * 1000000000 ^ j + mg (dL W) (j + (m + 2))) (fun τ _ => (τ + 1).toNatClampNeg) ?_ n _ _ ⟨tz_L σ (d + 9), tz_A σ (d + 2), tp + 1, by rw [tz_rowL_self, tz_rowA_self], (nI_pred tp).symm, Nat.le_refl _, hw, fun i h1 h2 => absurd h2 (by omega), hX, by rw [mgh_top, show tp + 1 + (m + 2) = tp + (m + 2) + 1 by omega, hA]; omega⟩ (by rw [nI_1, nI_clamp (by omega)]; omega)
  rintro K l7 σ' ⟨W, f, j, rfl, h7, hj, hWr, hf, hXj, hval⟩ hK
  subst h7
  show gp (X2_divideByLimbs_L54_body n (some d) (nI (m + 2)) (nI tp) s (fun l7 => K l7) (nI j - 1)) (tz_rowA (tz_rowL σ (d + 9) W) (d + 2) f) _
  unfold X2_divideByLimbs_L54_body
  have hdS : dSh (tz_rowA (tz_rowL σ (d + 9) W) (d + 2) f) d N := hd0
  have hW9 : tz_L (tz_rowA (tz_rowL σ (d + 9) W) (d + 2) f) (d + 9) = W := tz_rowL_at σ (d + 9) W
  have hW10 : tz_L (tz_rowA (tz_rowL σ (d + 9) W) (d + 2) f) (d + 10) = tz_L σ (d + 10) := tz_rowL_ne σ W (by omega)
  cases j with
  | zero =>
    refine gp_t (by decide) ?_
    rw [mgh_zero, Int.pow_zero, Int.mul_one, Nat.zero_add] at hval
    have hXj' : mg (dL W) (m + 2) < V := by
      have : mg (wn W 0) (m + 2) = mg (dL W) (m + 2) := mg_congr (fun i _ => by show dL W (0 + i) = _; rw [Nat.zero_add])
      rw [← this]; exact hXj
    have hY0 := mg_nn (d := dL W) (k := m + 2) (fun i hi => (hWr i (by omega)).1)
    refine gp_rR (σ := tz_rowA (tz_rowL σ (d + 9) W) (d + 2) f) d1 rfl ?_
    rw [nI_1]
    refine gp_cB (gp_mono (c_trim (σ := tz_rowA (tz_rowL σ (d + 9) W) (d + 2) f) (m := tp + 1) d2 hn (by omega) (by rw [tz_rowA_at]; exact fun i hi => hf i (by omega) hi)) ?_)
    rintro _ σ2 ⟨kq, sq, rfl, hkq, hbq⟩
    rw [tz_rowA_at] at hbq ⊢
    rw [bPut_rowA]
    refine gp_let ?_
    have hR : mg (dL W) (m + 2) = (av - mg (dI f) (tp + 1) * bv) * s.toInt := by
      refine rg_23 av s.toInt hs.1 (Q := mg (dI f) (tp + 1)) (b := bv) ?_ rfl
      rw [hAe, hVe]
      exact hval
    have hqr := nat_divmod (A := av) (D := bv) (Q := mg (dI f) (tp + 1)) (R := av - mg (dI f) (tp + 1) * bv) hbv (by omega) (by
      rcases Int.lt_or_le (av - mg (dI f) (tp + 1) * bv) 0 with h | h
      · have h2 : (av - mg (dI f) (tp + 1) * bv) * s.toInt ≤ (-1) * s.toInt := Int.mul_le_mul_of_nonneg_right (by omega) (by omega)
        rw [← hR] at h2
        omega
      · exact h) (by
      rcases Int.lt_or_le (av - mg (dI f) (tp + 1) * bv) bv with h | h
      · exact h
      · have h2 : bv * s.toInt ≤ (av - mg (dI f) (tp + 1) * bv) * s.toInt := Int.mul_le_mul_of_nonneg_right (by omega) (by omega)
        rw [← hR, hVe] at h2
        omega)
    refine gp_mono (c_dl109 (σ := bPut (tz_rowL σ (d + 9) W) (d + 1) (d + 2) f kq sq) (m := m + 2) (R := av - mg (dI f) (tp + 1) * bv) hd0 hn (by omega) hs (by
      show ∀ i, i < m + 2 → 0 ≤ dL (tz_L (tz_rowL σ (d + 9) W) (d + 9)) i ∧ dL (tz_L (tz_rowL σ (d + 9) W) (d + 9)) i < 1000000000
      rw [tz_rowL_at]
      exact fun i hi => hWr i (by omega)) (by
      show mg (dL (tz_L (tz_rowL σ (d + 9) W) (d + 9))) (m + 2) = _
      rw [tz_rowL_at]
      exact hR)) ?_
    rintro _ σ3 ⟨fr, kr, sr, rfl, hkr, hbr⟩
    exact ⟨W, f, kq, sq, fr, kr, sr, rfl, by omega, hkr, by rw [hqr.1]; exact hbq, by rw [hqr.2]; exact hbr⟩
  | succ p =>
    rw [nI_pred]
    refine gp_f (nI_pos (by omega)) ?_
    refine gp_rR (σ := tz_rowA (tz_rowL σ (d + 9) W) (d + 2) f) d1 rfl ?_
    refine gp_rR (σ := tz_rowA (tz_rowL σ (d + 9) W) (d + 2) f) d2.1 rfl ?_
    -- the window and its quotient
    have hWn : mg (wn W p) (m + 2 + 1) = dL W p + 1000000000 * mg (wn W (p + 1)) (m + 2) := by
      rw [mg_low]
      congr 2
      exact mg_congr (fun i _ => by show dL W (p + (1 + i)) = dL W (p + 1 + i); rw [show p + (1 + i) = p + 1 + i by omega])
    have hp0 := hWr p (by omega)
    have hnn : 0 ≤ mg (wn W (p + 1)) (m + 2) := mg_nn (fun i hi => (hWr (p + 1 + i) (by omega)).1)
    have hWlt : mg (wn W p) (m + 2 + 1) < 1000000000 * V := by rw [hWn]; have := mul_ltP (P := 1000000000) (by decide) hXj; omega
    have hWge : 0 ≤ mg (wn W p) (m + 2 + 1) := by rw [hWn]; omega
    have hsplit : mg (dL W) (p + 1 + (m + 2)) = mg (dL W) p + 1000000000 ^ p * mg (wn W p) (m + 2 + 1) := by
      rw [show p + 1 + (m + 2) = p + (m + 2 + 1) by omega]
      exact mg_add
    generalize hWe : mg (wn W p) (m + 2 + 1) = Wn at hWlt hWge hsplit
    obtain ⟨q, hq1, hq2⟩ := divq Wn V hVp
    have hq0 := divq0 hVp hq2 hWge
    have hqB := divqB hVp hq1 hWlt
    refine gp_cV (σ := tz_rowA (tz_rowL σ (d + 9) W) (d + 2) f) d1 (gp_mono (c_guess (p := p) (m := m) (V := V) (W := Wn) (q := q) hdS hn (by omega) (by rw [hW9]; exact fun i hi => hWr (p + i) (by omega)) (by rw [hW10]; exact hv) (by rw [hW9]; exact hWe) (by rw [hW10]; exact hV) (by rw [hW10]; exact hv1) hq1 hq2 hq0 hqB) ?_)
    rintro g σ2 ⟨rfl, hg1, hg2⟩
    refine gp_cV (σ := tz_rowA (tz_rowL σ (d + 9) W) (d + 2) f) d1 (gp_mono (c_takeAway (p := p) (m := m + 2) (V := V) (W := Wn) (q := q) (g := g) hdS hn (by omega) (by omega) (by rw [hW9]; exact fun i hi => hWr (p + i) (by omega)) (by rw [hW10]; exact hv) (by rw [hW9]; exact hWe) (by rw [hW10]; exact hV) hq1 hq2 hg1 ⟨hg2, by omega⟩) ?_)
    rintro x σ3 ⟨hx, w, rfl, hw1, hw2, hw3, hw4⟩
    rw [hW9] at hw1 hw2
    rw [tz_rowAL]
    refine gp_sI (σ := tz_rowA (tz_rowL σ (d + 9) w) (d + 2) f) (j := p) d2.2.1 (by decide) (by omega) (by omega) rfl ?_
    rw [tz_rowA_put]
    refine gp_let ?_
    have hxl : x.toInt32.toInt = q := by rw [az_l2iB (by rw [hx]; exact hq0) (by rw [hx]; exact hqB), hx]
    generalize x.toInt32 = y at hxl ⊢
    rw [← Int32.sub_eq_add_neg]
    have hrest : mg (wn w p) (m + 2 + 1) < V := by rw [hw4]; omega
    have htop : dL w (p + (m + 2)) = 0 := by
      have h1 := hw3 (m + 2) (Nat.le_refl _)
      have h2 := mg_nn (d := wn w p) (k := m + 2) (fun i hi => (hw3 i (by omega)).1)
      have h3 : mg (wn w p) (m + 2 + 1) = mg (wn w p) (m + 2) + dL w (p + (m + 2)) * 1000000000 ^ (m + 2) := rfl
      have hP := mg_pw (m + 2)
      exact az_z1 hP h1.1 (by omega)
    have hw5 : mg (wn w p) (m + 2) = Wn - q * V := by
      have h3 : mg (wn w p) (m + 2 + 1) = mg (wn w p) (m + 2) + dL w (p + (m + 2)) * 1000000000 ^ (m + 2) := rfl
      rw [htop, Int.zero_mul, Int.add_zero] at h3
      rw [← h3]
      exact hw4
    refine hK _ _ ⟨w, _, p, rfl, rfl, by omega, ?_, ?_, ?_, ?_⟩ ?_
    · intro i hi
      rcases Nat.lt_or_ge i p with h | h
      · show 0 ≤ (w i).toInt ∧ (w i).toInt < 1000000000
        rw [hw1 i h]
        exact hWr i hi
      · rcases Nat.lt_or_ge (p + (m + 2)) i with h2 | h2
        · show 0 ≤ (w i).toInt ∧ (w i).toInt < 1000000000
          rw [hw2 i h2]
          exact hWr i hi
        · have := hw3 (i - p) (by omega)
          rw [show wn w p (i - p) = dL w i by show dL w (p + (i - p)) = _; rw [show p + (i - p) = i by omega]] at this
          exact this
    · intro i h1 h2
      by_cases hip : i = p
      · subst hip; rw [dI_upd]; simp only [if_true]; rw [hxl]; exact ⟨hq0, hqB⟩
      · rw [dI_upd]; simp only [hip, if_false]; exact hf i (by omega) h2
    · rw [hw5]; omega
    · have e1 : mg (dL w) (p + (m + 2)) = mg (dL W) p + 1000000000 ^ p * (Wn - q * V) := by
        rw [mg_add, mg_congr (k := p) (d := dL w) (e := dL W) (fun i hi => by show (w i).toInt = (W i).toInt; rw [hw1 i hi])]
        congr 2
      rw [e1, mgh_step (dI (upd f p y)) (by omega)]
      rw [mgh_congr (d := dI (upd f p y)) (e := dI f) (fun i h1 h2 => by rw [dI_upd]; simp only [show ¬ i = p by omega, if_false])]
      rw [show dI (upd f p y) p = q by rw [dI_upd]; simp only [if_true]; exact hxl]
      refine rg_22 _ _ _ _ _ _ _ ?_
      rw [hval, hsplit, mg_ps]
    · rw [show nI p - 1 + 1 = nI p from Int32.sub_add_cancel _ _, show nI (p + 1) - 1 + 1 = nI (p + 1) from Int32.sub_add_cancel _ _, nI_clamp (by omega), nI_clamp (by omega)]
      omega
