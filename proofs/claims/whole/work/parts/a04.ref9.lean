/-! ===== the reference: divide ===== -/
theorem mg_hi0 {d : Nat → Int} {N c : Nat} (h : ∀ j, j < N → 0 ≤ d j ∧ d j < 1000000000) (hc : mg d N < 1000000000 ^ c) : ∀ i, c ≤ i → i < N → d i = 0 := by
  intro i h1 h2
  have e := mg_dig h i
  rw [if_pos h2] at e
  have hm := mg_pmono h1
  rw [← e, Int.ediv_eq_zero_of_lt (mg_lt h).1 (Int.lt_of_lt_of_le hc hm)]
  rfl
def dvI (σ : tz_S) (M t pl R n : Nat) (Y V : Int) (j : Nat) (σ' : tz_S) : Prop := Pq M t (R + n + 2) σ σ' ∧ tz_F σ' M 35 = nI (R + n + 2) ∧ (∀ i, i < n + 1 → 0 ≤ dI (tz_A σ' (M + 20)) (R + 1 + i) ∧ dI (tz_A σ' (M + 20)) (R + 1 + i) < 1000000000) ∧ (∀ i, i < pl → 0 ≤ dI (tz_A σ' (M + 20)) (t + 1 + i) ∧ dI (tz_A σ' (M + 20)) (t + 1 + i) < 1000000000) ∧ (∀ i, i < j → i < pl → dI (tz_A σ' (M + 20)) (t + 1 + i) = 0) ∧ mg (fun i => dI (tz_A σ' (M + 20)) (R + 1 + i)) (n + 1) < Y * 1000000000 ^ j ∧ mg (fun i => dI (tz_A σ' (M + 20)) (R + 1 + i)) (n + 1) + Y * mg (fun i => dI (tz_A σ' (M + 20)) (t + 1 + i)) pl = V
/-- the window of the rest -/
theorem dv_win {a : Nat → Int32} {R n m j : Nat} {Y : Int} (hd : ∀ i, i < n + 1 → 0 ≤ dI a (R + 1 + i) ∧ dI a (R + 1 + i) < 1000000000) (hj : j + m ≤ n) (hYm : Y < 1000000000 ^ m) (hr : mg (fun i => dI a (R + 1 + i)) (n + 1) < Y * 1000000000 ^ (j + 1)) : mg (fun i => dI a (R + 1 + i)) (n + 1) = mg (fun i => dI a (R + 1 + i)) j + 1000000000 ^ j * mg (fun k => dI a (R + j + 1 + k)) (m + 1) ∧ (∀ i, j + m + 1 ≤ i → i < n + 1 → dI a (R + 1 + i) = 0) := by
  have hpw := mg_pw (j + 1)
  have hb : mg (fun i => dI a (R + 1 + i)) (n + 1) < 1000000000 ^ (j + m + 1) := by
    have e : (1000000000 : Int) ^ (j + m + 1) = 1000000000 ^ m * 1000000000 ^ (j + 1) := by rw [← Int.pow_add]; congr 1; omega
    rw [e]
    have := Int.mul_le_mul_of_nonneg_right (show Y ≤ 1000000000 ^ m by omega) (show 0 ≤ (1000000000 : Int) ^ (j + 1) by omega)
    omega
  have hz := mg_hi0 (d := fun i => dI a (R + 1 + i)) hd hb
  refine ⟨?_, hz⟩
  obtain ⟨d, hd2⟩ : ∃ d, n + 1 = j + (m + 1) + d := ⟨n - j - m, by omega⟩
  rw [hd2, mg_z (fun i h1 h2 => hz i (by omega) (by omega)), mg_add]
  congr 2
  exact mg_congr (fun k _ => by show dI a (R + 1 + (j + k)) = dI a (R + j + 1 + k); rw [show R + 1 + (j + k) = R + j + 1 + k by omega])
theorem dv_wlt {L W Y P B : Int} (hP : 0 < P) (hL : 0 ≤ L) (h : L + P * W < Y * (P * B)) : W < B * Y := by
  have h2 : P * W < P * (B * Y) := by
    have : Y * (P * B) = P * (B * Y) := by grind
    omega
  exact Int.lt_of_mul_lt_mul_left h2 (by omega)
theorem dv_nxt {L W Y P q : Int} (hP : 0 < P) (hL : L < P) (hq : W - q * Y < Y) : L + P * (W - q * Y) < Y * P := by
  have := Int.mul_le_mul_of_nonneg_left (show W - q * Y ≤ Y - 1 by omega) (show 0 ≤ P by omega)
  have e : P * (Y - 1) = Y * P - P := by grind
  omega
theorem rg_dv2 (L P W q Y Q V : Int) (h : L + P * W + Y * Q = V) : L + P * (W - q * Y) + Y * (Q + (q - 0) * P) = V := by grind
set_option maxHeartbeats 1000000 in
theorem dv_step {σ σ1 σ2 : tz_S} {M t pl R n m j : Nat} {Y V q : Int} {d : Int32} (h : dvI σ M t pl R n Y V (j + 1) σ1) (hR : R = t + pl + 1) (hj : j < pl) (hpl : pl + m = n + 1) (hY0 : 0 < Y) (hYm : Y < 1000000000 ^ m)
    (hP : Pq M (R + j + 1) (R + j + m + 2) σ1 σ2) (hF : tz_F σ2 M = tz_F σ1 M) (hd2 : ∀ k, k < m + 1 → 0 ≤ dI (tz_A σ2 (M + 20)) (R + j + 1 + k) ∧ dI (tz_A σ2 (M + 20)) (R + j + 1 + k) < 1000000000) (hq : q = mg (fun k => dI (tz_A σ1 (M + 20)) (R + j + 1 + k)) (m + 1) / Y) (hq0 : 0 ≤ q ∧ q < 1000000000) (hw : mg (fun k => dI (tz_A σ2 (M + 20)) (R + j + 1 + k)) (m + 1) = mg (fun k => dI (tz_A σ1 (M + 20)) (R + j + 1 + k)) (m + 1) - q * Y) (hdq : d.toInt = q) : dvI σ M t pl R n Y V j (tz_sA σ2 (M + 20) (t + 1 + j) d) := by
  obtain ⟨g1, g2, g3, g4, g5, g6, g7⟩ := h
  have hPj := mg_pw j
  obtain ⟨w1, w2⟩ := dv_win (m := m) g3 (by omega) hYm g6
  have eo : ∀ i, (i < R + 1 + j ∨ R + 1 + j + m < i) → tz_A σ2 (M + 20) i = tz_A σ1 (M + 20) i := fun i hi => hP.2.2 i (by omega)
  have er : ∀ i, i ≠ t + 1 + j → tz_A (tz_sA σ2 (M + 20) (t + 1 + j) d) (M + 20) i = tz_A σ2 (M + 20) i := fun i hi => tz_u2_ne _ _ (Or.inr hi)
  have en : tz_A (tz_sA σ2 (M + 20) (t + 1 + j) d) (M + 20) (t + 1 + j) = d := tz_u2_same _ _ _ _
  have hlow := mg_lt (d := fun i => dI (tz_A σ1 (M + 20)) (R + 1 + i)) (k := j) (fun i hi => g3 i (by omega))
  have hemod : mg (fun k => dI (tz_A σ1 (M + 20)) (R + j + 1 + k)) (m + 1) - q * Y < Y := by
    rw [hq]
    have h1 := Int.mul_ediv_add_emod (mg (fun k => dI (tz_A σ1 (M + 20)) (R + j + 1 + k)) (m + 1)) Y
    have h2 := Int.emod_lt_of_pos (mg (fun k => dI (tz_A σ1 (M + 20)) (R + j + 1 + k)) (m + 1)) hY0
    rw [Int.mul_comm] at h1
    omega
  have hrem : mg (fun i => dI (tz_A (tz_sA σ2 (M + 20) (t + 1 + j) d) (M + 20)) (R + 1 + i)) (n + 1) = mg (fun i => dI (tz_A σ1 (M + 20)) (R + 1 + i)) j + 1000000000 ^ j * (mg (fun k => dI (tz_A σ1 (M + 20)) (R + j + 1 + k)) (m + 1) - q * Y) := by
    rw [← hw]
    obtain ⟨e, he2⟩ : ∃ e, n + 1 = j + (m + 1) + e := ⟨n - j - m, by omega⟩
    rw [he2, mg_z (fun i h1 h2 => by show (tz_A (tz_sA σ2 (M + 20) (t + 1 + j) d) (M + 20) (R + 1 + i)).toInt = 0; rw [er _ (by omega), eo _ (by omega)]; exact w2 i (by omega) (by omega)), mg_add]
    congr 1
    · exact mg_congr (fun i hi => by show (tz_A (tz_sA σ2 (M + 20) (t + 1 + j) d) (M + 20) (R + 1 + i)).toInt = _; rw [er _ (by omega), eo _ (by omega)])
    · congr 1
      exact mg_congr (fun k hk => by show (tz_A (tz_sA σ2 (M + 20) (t + 1 + j) d) (M + 20) (R + 1 + (j + k))).toInt = _; rw [er _ (by omega), show R + 1 + (j + k) = R + j + 1 + k by omega])
  have eqd : ∀ i, i < pl → dI (tz_A (tz_sA σ2 (M + 20) (t + 1 + j) d) (M + 20)) (t + 1 + i) = if i = j then q else dI (tz_A σ1 (M + 20)) (t + 1 + i) := fun i hi => by
    by_cases z : i = j
    · rw [if_pos z, z]
      show (tz_A (tz_sA σ2 (M + 20) (t + 1 + j) d) (M + 20) (t + 1 + j)).toInt = q
      rw [en]; exact hdq
    · rw [if_neg z]
      show (tz_A (tz_sA σ2 (M + 20) (t + 1 + j) d) (M + 20) (t + 1 + i)).toInt = _
      rw [er _ (by omega), eo _ (by omega)]
  refine ⟨Pq_trans g1 (Pq_trans (Pq_mono hP (by omega) (by omega)) (Pq_cell (by omega) (by omega))), ?_, fun i hi => ?_, fun i hi => ?_, fun i h1 h2 => ?_, ?_, ?_⟩
  · show tz_F σ2 M 35 = _
    rw [hF]; exact g2
  · show 0 ≤ (tz_A (tz_sA σ2 (M + 20) (t + 1 + j) d) (M + 20) (R + 1 + i)).toInt ∧ (tz_A (tz_sA σ2 (M + 20) (t + 1 + j) d) (M + 20) (R + 1 + i)).toInt < 1000000000
    rw [er _ (by omega)]
    by_cases z : j ≤ i ∧ i ≤ j + m
    · have := hd2 (i - j) (by omega)
      rw [show R + j + 1 + (i - j) = R + 1 + i by omega] at this
      exact this
    · rw [eo _ (by omega)]; exact g3 i hi
  · rw [eqd i hi]
    by_cases z : i = j
    · rw [if_pos z]; exact hq0
    · rw [if_neg z]; exact g4 i hi
  · rw [eqd i h2, if_neg (by omega)]; exact g5 i (by omega) h2
  · rw [hrem]
    exact dv_nxt hPj hlow.2 hemod
  · rw [hrem, mg_congr eqd, mg_upd (d := fun i => dI (tz_A σ1 (M + 20)) (t + 1 + i)) hj]
    have e0 : dI (tz_A σ1 (M + 20)) (t + 1 + j) = 0 := g5 j (by omega) hj
    rw [e0]
    rw [w1] at g7
    exact rg_dv2 _ _ _ _ _ _ _ g7
