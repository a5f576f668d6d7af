/-! ===== the reference: digit, divide ===== -/
theorem dg_bnd {W Y head low yl yt P L H : Int} (hP : 0 < P) (hW : W = low + head * P) (h1 : 0 ≤ low) (h2 : low < P) (hY : Y = yl + yt * P) (h3 : 0 ≤ yl) (h4 : yl < P) (h5 : 1 ≤ yt) (h6 : 0 ≤ head) (hL : L * (yt + 1) ≤ head) (hL0 : 0 ≤ L) (hH : head < (H + 1) * yt) (hH0 : 0 ≤ H) : L * Y ≤ W ∧ W < (H + 1) * Y := by
  have a1 : L * Y ≤ L * ((yt + 1) * P) := Int.mul_le_mul_of_nonneg_left (by rw [hY, Int.add_mul, Int.one_mul]; omega) hL0
  have a2 : L * ((yt + 1) * P) = L * (yt + 1) * P := by rw [Int.mul_assoc]
  have a3 : L * (yt + 1) * P ≤ head * P := Int.mul_le_mul_of_nonneg_right hL (by omega)
  have b1 : (head + 1) * P ≤ (H + 1) * yt * P := Int.mul_le_mul_of_nonneg_right (by omega) (by omega)
  have b2 : (H + 1) * yt * P = (H + 1) * (yt * P) := by rw [Int.mul_assoc]
  have b3 : (H + 1) * (yt * P) ≤ (H + 1) * Y := Int.mul_le_mul_of_nonneg_left (by omega) (by omega)
  have b4 : (head + 1) * P = head * P + P := by rw [Int.add_mul, Int.one_mul]
  omega
theorem dv_pos {x y : Int64} (hx : 0 ≤ x.toInt) (hy : 0 < y.toInt) : ∃ q, (x / y).toInt = q ∧ 0 ≤ q ∧ q * y.toInt ≤ x.toInt ∧ x.toInt < (q + 1) * y.toInt := by
  refine ⟨x.toInt / y.toInt, ?_, Int.ediv_nonneg hx (by omega), Int.ediv_mul_le _ (by omega), ?_⟩
  · rw [az_ldiv (fun e => by rw [e] at hy; exact absurd hy (by decide)), Int.tdiv_eq_ediv_of_nonneg hx]
  · exact Int.lt_ediv_add_one_mul_self _ hy
theorem hd64 {x y : Int32} (hx : 0 ≤ x.toInt ∧ x.toInt < 1000000000) (hy : 0 ≤ y.toInt ∧ y.toInt < 1000000000) : (Int32.toInt64 x * 1000000000 + Int32.toInt64 y).toInt = x.toInt * 1000000000 + y.toInt := by
  have e1 : (Int32.toInt64 x * 1000000000).toInt = x.toInt * 1000000000 := by
    rw [az_lmul (by rw [Int32.toInt_toInt64, az_B]; omega) (by rw [Int32.toInt_toInt64, az_B]; omega), Int32.toInt_toInt64, az_B]
  rw [az_ladd (by rw [e1, Int32.toInt_toInt64]; omega) (by rw [e1, Int32.toInt_toInt64]; omega), e1, Int32.toInt_toInt64]
theorem inc64 {x : Int32} (hx : 0 ≤ x.toInt ∧ x.toInt < 1000000000) : (Int32.toInt64 x + 1).toInt = x.toInt + 1 := by
  rw [az_ladd (by rw [Int32.toInt_toInt64, show (1 : Int64).toInt = 1 from rfl]; omega) (by rw [Int32.toInt_toInt64, show (1 : Int64).toInt = 1 from rfl]; omega), Int32.toInt_toInt64]
  rfl
theorem lh_le {L H y h : Int} (l3 : L * (y + 1) ≤ h) (q4 : h < (H + 1) * y) (l2 : 0 ≤ L) (hy : 0 < y) : L ≤ H := by
  have e : L * (y + 1) = L * y + L := by rw [Int.mul_add, Int.mul_one]
  have h2 : L * y < (H + 1) * y := by omega
  have := Int.lt_of_mul_lt_mul_right h2 (by omega)
  omega
section RH
variable {f M : Nat} {σ : tz_S}
theorem r_digit {p y m : Nat} (h : mSh σ M) (hm0 : 0 < m) (hm : m ≤ 400) (hp : p + m + 1 < 527200) (hy : y + m < 527200) (hpy : y + m < p + 1 ∨ p + m + 1 < y) (hd : ∀ k, k < m + 1 → 0 ≤ dI (tz_A σ (M + 20)) (p + 1 + k) ∧ dI (tz_A σ (M + 20)) (p + 1 + k) < 1000000000) (hyd : ∀ k, k < m → 0 ≤ dI (tz_A σ (M + 20)) (y + 1 + k) ∧ dI (tz_A σ (M + 20)) (y + 1 + k) < 1000000000) (hyt : dI (tz_A σ (M + 20)) (y + 1 + (m - 1)) ≠ 0)
    (hW : mg (fun k => dI (tz_A σ (M + 20)) (p + 1 + k)) (m + 1) < 1000000000 * mg (fun k => dI (tz_A σ (M + 20)) (y + 1 + k)) m) {rr jj : Nat} (hrj : rr + jj = p + 1) (hf : 2000 ≤ f) :
    gp (X12_digit f (some M) (nI rr) (nI jj) (nI y) (nI m)) σ (fun z σ' => z.toInt = mg (fun k => dI (tz_A σ (M + 20)) (p + 1 + k)) (m + 1) / mg (fun k => dI (tz_A σ (M + 20)) (y + 1 + k)) m ∧ (0 ≤ z.toInt ∧ z.toInt < 1000000000) ∧ Pq M (p + 1) (p + m + 2) σ σ' ∧ tz_F σ' M = tz_F σ M ∧ (∀ k, k < m + 1 → 0 ≤ dI (tz_A σ' (M + 20)) (p + 1 + k) ∧ dI (tz_A σ' (M + 20)) (p + 1 + k) < 1000000000) ∧ mg (fun k => dI (tz_A σ' (M + 20)) (p + 1 + k)) (m + 1) = mg (fun k => dI (tz_A σ (M + 20)) (p + 1 + k)) (m + 1) - z.toInt * mg (fun k => dI (tz_A σ (M + 20)) (y + 1 + k)) m) := by
  obtain ⟨c, rfl⟩ : ∃ c, m = c + 1 := ⟨m - 1, by omega⟩
  rw [show c + 1 - 1 = c by omega] at hyt
  have d1 := hd (c + 1) (by omega)
  have d2 := hd c (by omega)
  have y1 := hyd c (by omega)
  have lw := mg_lt (d := fun k => dI (tz_A σ (M + 20)) (p + 1 + k)) (k := c) (fun j hj => hd j (by omega))
  have ylw := mg_lt (d := fun k => dI (tz_A σ (M + 20)) (y + 1 + k)) (k := c) (fun j hj => hyd j (by omega))
  have hPc := mg_pw c
  have eW : mg (fun k => dI (tz_A σ (M + 20)) (p + 1 + k)) (c + 1 + 1) = mg (fun k => dI (tz_A σ (M + 20)) (p + 1 + k)) c + (dI (tz_A σ (M + 20)) (p + 1 + (c + 1)) * 1000000000 + dI (tz_A σ (M + 20)) (p + 1 + c)) * 1000000000 ^ c := by
    show mg (fun k => dI (tz_A σ (M + 20)) (p + 1 + k)) c + dI (tz_A σ (M + 20)) (p + 1 + c) * 1000000000 ^ c + dI (tz_A σ (M + 20)) (p + 1 + (c + 1)) * 1000000000 ^ (c + 1) = _
    rw [mg_ps]
    grind
  have eY : mg (fun k => dI (tz_A σ (M + 20)) (y + 1 + k)) (c + 1) = mg (fun k => dI (tz_A σ (M + 20)) (y + 1 + k)) c + dI (tz_A σ (M + 20)) (y + 1 + c) * 1000000000 ^ c := rfl
  have hY0 : 0 < mg (fun k => dI (tz_A σ (M + 20)) (y + 1 + k)) (c + 1) := by
    have : 1 * (1000000000 : Int) ^ c ≤ dI (tz_A σ (M + 20)) (y + 1 + c) * 1000000000 ^ c := Int.mul_le_mul_of_nonneg_right (by omega) (by omega)
    rw [eY]
    omega
  unfold X12_digit
  have ei1 : nI rr + nI jj + nI (c + 1) = nI (p + 1 + (c + 1)) := by rw [nI_add, nI_add, hrj]
  have ei2 : nI rr + nI jj + nI (c + 1) - 1 = nI (p + 1 + c) := by rw [ei1, show p + 1 + (c + 1) = p + 1 + c + 1 by omega, nI_p1]
  rw [ei2, ei1]
  refine gp_pl (j := p + 1 + (c + 1)) h (by omega) rfl ?_
  refine gp_pl (j := p + 1 + c) h (by omega) rfl ?_
  refine gp_let ?_
  have eh : (Int32.toInt64 (tz_A σ (M + 20) (p + 1 + (c + 1))) * 1000000000 + Int32.toInt64 (tz_A σ (M + 20) (p + 1 + c))).toInt = dI (tz_A σ (M + 20)) (p + 1 + (c + 1)) * 1000000000 + dI (tz_A σ (M + 20)) (p + 1 + c) := hd64 d1 d2
  generalize Int32.toInt64 (tz_A σ (M + 20) (p + 1 + (c + 1))) * 1000000000 + Int32.toInt64 (tz_A σ (M + 20) (p + 1 + c)) = hh at *
  have hh0 : 0 ≤ hh.toInt := by rw [eh]; omega
  rw [← eh] at eW
  have ey2 : tz_A σ (M + 20) (y + (c + 1)) = tz_A σ (M + 20) (y + 1 + c) := by rw [show y + (c + 1) = y + 1 + c by omega]
  refine gp_pl (j := y + (c + 1)) h (by omega) (nI_add y (c + 1)) ?_
  rw [ey2]
  have hyp : 0 < (Int32.toInt64 (tz_A σ (M + 20) (y + 1 + c))).toInt := by rw [Int32.toInt_toInt64]; show 0 < dI (tz_A σ (M + 20)) (y + 1 + c); omega
  have hyp1 : (Int32.toInt64 (tz_A σ (M + 20) (y + 1 + c)) + 1).toInt = dI (tz_A σ (M + 20)) (y + 1 + c) + 1 := inc64 y1
  refine gp_dvL (fun e => by rw [e] at hyp; exact absurd hyp (by decide)) ?_
  refine gp_pl (j := y + (c + 1)) h (by omega) (nI_add y (c + 1)) ?_
  rw [ey2]
  refine gp_dvL (fun e => by rw [e] at hyp1; rw [show (0 : Int64).toInt = 0 from rfl] at hyp1; omega) ?_
  obtain ⟨H, q1, q2, q3, q4⟩ := dv_pos hh0 hyp
  obtain ⟨L, l1, l2, l3, l4⟩ := dv_pos (y := Int32.toInt64 (tz_A σ (M + 20) (y + 1 + c)) + 1) hh0 (by rw [hyp1]; omega)
  rw [hyp1] at l3 l4
  rw [Int32.toInt_toInt64] at q3 q4
  obtain ⟨b1, b2⟩ := dg_bnd hPc eW lw.1 lw.2 eY ylw.1 ylw.2 (by omega) hh0 l3 l2 q4 q2
  have hLH : L ≤ H := lh_le l3 q4 l2 (by omega)
  generalize hh / Int32.toInt64 (tz_A σ (M + 20) (y + 1 + c)) = l7 at *
  generalize hh / (Int32.toInt64 (tz_A σ (M + 20) (y + 1 + c)) + 1) = l11 at *
  clear q3 q4 l3 l4 eh hh0 eW lw ylw hyp hyp1 ei1 ei2 d1 d2 y1
  have fin : ∀ lo hi : Int64, lo.toInt = min L 999999999 → hi.toInt = min H 999999999 → gp (X12_digit_b101 f (some M) (nI rr) (nI jj) (nI y) (nI (c + 1)) lo hi) σ (fun z σ' => z.toInt = mg (fun k => dI (tz_A σ (M + 20)) (p + 1 + k)) (c + 1 + 1) / mg (fun k => dI (tz_A σ (M + 20)) (y + 1 + k)) (c + 1) ∧ (0 ≤ z.toInt ∧ z.toInt < 1000000000) ∧ Pq M (p + 1) (p + (c + 1) + 2) σ σ' ∧ tz_F σ' M = tz_F σ M ∧ (∀ k, k < c + 1 + 1 → 0 ≤ dI (tz_A σ' (M + 20)) (p + 1 + k) ∧ dI (tz_A σ' (M + 20)) (p + 1 + k) < 1000000000) ∧ mg (fun k => dI (tz_A σ' (M + 20)) (p + 1 + k)) (c + 1 + 1) = mg (fun k => dI (tz_A σ (M + 20)) (p + 1 + k)) (c + 1 + 1) - z.toInt * mg (fun k => dI (tz_A σ (M + 20)) (y + 1 + k)) (c + 1)) := by
    intro lo hi e1 e2
    unfold X12_digit_b101
    refine r_search h hm hp hy hpy hd hyd hY0 (by omega) (by omega) (by omega) ?_ ?_ hrj hf
    · rw [e1]
      have := le_mulY hY0 (show min L 999999999 ≤ L by omega)
      omega
    · rw [e2]
      by_cases z : H ≤ 999999999
      · rw [show min H 999999999 = H by omega]; exact b2
      · rw [show min H 999999999 = 999999999 by omega]; exact hW
  unfold X12_digit_b82
  have e9 : (999999999 : Int64).toInt = 999999999 := by decide
  refine gp_if (fun z => ?_) (fun z => ?_)
  · have z' : l11.toInt ≤ 999999999 := by rw [lg_cmp_le, Int64.le_iff_toInt_le, e9] at z; exact z
    refine gp_if (fun w => ?_) (fun w => ?_)
    · have w' : l7.toInt ≤ 999999999 := by rw [lg_cmp_le, Int64.le_iff_toInt_le, e9] at w; exact w
      exact fin _ _ (by omega) (by omega)
    · have w' : ¬ l7.toInt ≤ 999999999 := by rw [lg_cmp_le, Int64.le_iff_toInt_le, e9] at w; exact w
      exact fin _ _ (by omega) (by omega)
  · have z' : ¬ l11.toInt ≤ 999999999 := by rw [lg_cmp_le, Int64.le_iff_toInt_le, e9] at z; exact z
    refine gp_if (fun w => ?_) (fun w => ?_)
    · have w' : l7.toInt ≤ 999999999 := by rw [lg_cmp_le, Int64.le_iff_toInt_le, e9] at w; exact w
      exact fin _ _ (by omega) (by omega)
    · have w' : ¬ l7.toInt ≤ 999999999 := by rw [lg_cmp_le, Int64.le_iff_toInt_le, e9] at w; exact w
      exact fin _ _ (by omega) (by omega)
end RH
