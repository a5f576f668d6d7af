/-! ===== ints and longs as whole numbers ===== -/
theorem az_bm64 {z : Int} (h1 : -9223372036854775808 ≤ z) (h2 : z < 9223372036854775808) : z.bmod (2 ^ 64) = z := Int.bmod_eq_of_le (by simpa using h1) (by simpa using h2)
theorem az_bm32 {z : Int} (h1 : -2147483648 ≤ z) (h2 : z < 2147483648) : z.bmod (2 ^ 32) = z := Int.bmod_eq_of_le (by simpa using h1) (by simpa using h2)
theorem az_lo64 (x : Int64) : -9223372036854775808 ≤ x.toInt := by have := Int64.le_toInt x; simpa using this
theorem az_hi64 (x : Int64) : x.toInt < 9223372036854775808 := by have := Int64.toInt_lt x; simpa using this
theorem az_lo32 (x : Int32) : -2147483648 ≤ x.toInt := by have := Int32.le_toInt x; simpa using this
theorem az_hi32 (x : Int32) : x.toInt < 2147483648 := by have := Int32.toInt_lt x; simpa using this
theorem az_ladd {x y : Int64} (h1 : -9223372036854775808 ≤ x.toInt + y.toInt) (h2 : x.toInt + y.toInt < 9223372036854775808) : (x + y).toInt = x.toInt + y.toInt := by rw [Int64.toInt_add, az_bm64 h1 h2]
theorem az_lsub {x y : Int64} (h1 : -9223372036854775808 ≤ x.toInt - y.toInt) (h2 : x.toInt - y.toInt < 9223372036854775808) : (x - y).toInt = x.toInt - y.toInt := by rw [Int64.toInt_sub, az_bm64 h1 h2]
theorem az_lmul {x y : Int64} (h1 : -9223372036854775808 ≤ x.toInt * y.toInt) (h2 : x.toInt * y.toInt < 9223372036854775808) : (x * y).toInt = x.toInt * y.toInt := by rw [Int64.toInt_mul, az_bm64 h1 h2]
theorem az_lneg {x : Int64} (h1 : -9223372036854775808 < x.toInt) : (-x).toInt = -x.toInt := by
  have := az_hi64 x
  rw [Int64.toInt_neg, az_bm64 (by omega) (by omega)]
theorem az_iadd {x y : Int32} (h1 : -2147483648 ≤ x.toInt + y.toInt) (h2 : x.toInt + y.toInt < 2147483648) : (x + y).toInt = x.toInt + y.toInt := by rw [Int32.toInt_add, az_bm32 h1 h2]
theorem az_isub {x y : Int32} (h1 : -2147483648 ≤ x.toInt - y.toInt) (h2 : x.toInt - y.toInt < 2147483648) : (x - y).toInt = x.toInt - y.toInt := by rw [Int32.toInt_sub, az_bm32 h1 h2]
theorem az_imul {x y : Int32} (h1 : -2147483648 ≤ x.toInt * y.toInt) (h2 : x.toInt * y.toInt < 2147483648) : (x * y).toInt = x.toInt * y.toInt := by rw [Int32.toInt_mul, az_bm32 h1 h2]
theorem az_ineg {x : Int32} (h1 : -2147483648 < x.toInt) : (-x).toInt = -x.toInt := by
  have := az_hi32 x
  rw [Int32.toInt_neg, az_bm32 (by omega) (by omega)]
theorem az_l2i {x : Int64} (h1 : -2147483648 ≤ x.toInt) (h2 : x.toInt < 2147483648) : x.toInt32.toInt = x.toInt := by rw [Int64.toInt_toInt32, az_bm32 h1 h2]
/-- the base -/
theorem az_B : (1000000000 : Int64).toInt = 1000000000 := by decide
theorem az_B0 : (1000000000 : Int64) ≠ 0 := by decide
theorem az_Bm : (1000000000 : Int64) ≠ -1 := by decide
theorem az_ldiv {x y : Int64} (hy : y ≠ -1) : (x / y).toInt = x.toInt.tdiv y.toInt := Int64.toInt_div_of_ne_right x y hy
/-- a division that cuts towards 0, with what is left -/
theorem az_td (a b : Int) (hb : 0 < b) : ∃ q r : Int, a.tdiv b = q ∧ a = q * b + r ∧ -b < r ∧ r < b ∧ (0 ≤ a → 0 ≤ r ∧ 0 ≤ q) ∧ (a ≤ 0 → r ≤ 0 ∧ q ≤ 0) := by
  refine ⟨a.tdiv b, a.tmod b, rfl, ?_, Int.lt_tmod_of_pos a hb, Int.tmod_lt_of_pos a hb, fun h => ⟨Int.tmod_nonneg b h, Int.tdiv_nonneg h (by omega)⟩, fun h => ?_⟩
  · have := Int.mul_tdiv_add_tmod a b
    rw [Int.mul_comm] at this
    exact this.symm
  · have h1 := Int.tmod_nonneg b (show 0 ≤ -a by omega)
    rw [Int.neg_tmod] at h1
    have h2 := Int.tdiv_nonneg (show 0 ≤ -a by omega) (show 0 ≤ b by omega)
    rw [Int.neg_tdiv] at h2
    exact ⟨by omega, by omega⟩
/-- a long over the base: quotient and rest -/
theorem az_lB (x : Int64) : ∃ q r : Int, (x / 1000000000).toInt = q ∧ (x - x / 1000000000 * 1000000000).toInt = r ∧ x.toInt = q * 1000000000 + r ∧ -1000000000 < r ∧ r < 1000000000 ∧ (0 ≤ x.toInt → 0 ≤ r ∧ 0 ≤ q) ∧ (x.toInt ≤ 0 → r ≤ 0 ∧ q ≤ 0) := by
  obtain ⟨q, r, h1, h2, h3, h4, h5, h6⟩ := az_td x.toInt 1000000000 (by decide)
  have hq : (x / 1000000000).toInt = q := by rw [az_ldiv az_Bm, az_B, h1]
  have e1 := az_lo64 x
  have e2 := az_hi64 x
  have hm : (x / 1000000000 * 1000000000).toInt = q * 1000000000 := by
    have := az_lmul (x := x / 1000000000) (y := 1000000000) (by rw [hq, az_B]; omega) (by rw [hq, az_B]; omega)
    rw [this, hq, az_B]
  have hr : (x - x / 1000000000 * 1000000000).toInt = r := by
    have := az_lsub (x := x) (y := x / 1000000000 * 1000000000) (by rw [hm]; omega) (by rw [hm]; omega)
    rw [this, hm]
    omega
  exact ⟨q, r, hq, hr, h2, h3, h4, h5, h6⟩
theorem az_lz {x : Int64} : x.toInt = 0 ↔ x = 0 := by
  rw [show (0 : Int) = (0 : Int64).toInt from rfl, Int64.toInt_inj]
theorem az_iz {x : Int32} : x.toInt = 0 ↔ x = 0 := by
  rw [show (0 : Int) = (0 : Int32).toInt from rfl, Int32.toInt_inj]
theorem az_nIt {n : Nat} (h : n < 2 ^ 31) : (nI n).toInt = (n : Int) := nI_toInt h
/-! ===== limbs ===== -/
def mg (d : Nat → Int) : Nat → Int
  | 0 => 0
  | k + 1 => mg d k + d k * 1000000000 ^ k
theorem mg_congr {d e : Nat → Int} : ∀ {k : Nat}, (∀ j, j < k → d j = e j) → mg d k = mg e k
  | 0, _ => rfl
  | k + 1, h => by simp only [mg]; rw [mg_congr (fun j hj => h j (by omega)), h k (by omega)]
theorem mg_pw (k : Nat) : (0 : Int) < 1000000000 ^ k := Int.pow_pos (by decide)
theorem mg_ps (k : Nat) : (1000000000 : Int) ^ (k + 1) = 1000000000 ^ k * 1000000000 := by rw [Int.pow_succ]
/-- all limbs within the base either way: the sum is below the next power -/
theorem mg_abs {d : Nat → Int} : ∀ {k : Nat}, (∀ j, j < k → -1000000000 < d j ∧ d j < 1000000000) → -(1000000000 ^ k) < mg d k ∧ mg d k < 1000000000 ^ k
  | 0, _ => by simp [mg]
  | k + 1, h => by
    obtain ⟨h1, h2⟩ := mg_abs (k := k) (fun j hj => h j (by omega))
    obtain ⟨h3, h4⟩ := h k (by omega)
    have hp := mg_pw k
    simp only [mg, mg_ps]
    have e1 : d k * 1000000000 ^ k ≤ 999999999 * 1000000000 ^ k := Int.mul_le_mul_of_nonneg_right (by omega) (by omega)
    have e2 : (-999999999) * 1000000000 ^ k ≤ d k * 1000000000 ^ k := Int.mul_le_mul_of_nonneg_right (by omega) (by omega)
    generalize (1000000000 : Int) ^ k = P at *
    constructor <;> omega
theorem mg_nn {d : Nat → Int} : ∀ {k : Nat}, (∀ j, j < k → 0 ≤ d j) → 0 ≤ mg d k
  | 0, _ => by simp [mg]
  | k + 1, h => by
    have h1 := mg_nn (k := k) (fun j hj => h j (by omega))
    have h2 := Int.mul_nonneg (h k (by omega)) (Int.le_of_lt (mg_pw k))
    simp only [mg]
    omega
/-- the highest limb that isn't 0 has the sum's sign -/
theorem mg_top {d : Nat → Int} {k : Nat} (h : ∀ j, j < k → -1000000000 < d j ∧ d j < 1000000000) : (0 < d k → 0 < mg d (k + 1)) ∧ (d k < 0 → mg d (k + 1) < 0) := by
  obtain ⟨h1, h2⟩ := mg_abs h
  have hp := mg_pw k
  simp only [mg]
  constructor
  · intro h3
    have e1 : 1 * 1000000000 ^ k ≤ d k * 1000000000 ^ k := Int.mul_le_mul_of_nonneg_right (by omega) (by omega)
    omega
  · intro h3
    have e1 : d k * 1000000000 ^ k ≤ (-1) * 1000000000 ^ k := Int.mul_le_mul_of_nonneg_right (by omega) (by omega)
    omega
theorem mg_z {d : Nat → Int} {k : Nat} : ∀ {m : Nat}, (∀ j, k ≤ j → j < k + m → d j = 0) → mg d (k + m) = mg d k
  | 0, _ => rfl
  | m + 1, h => by
    show mg d (k + m) + d (k + m) * _ = _
    rw [mg_z (m := m) (fun j h1 h2 => h j h1 (by omega)), h (k + m) (by omega) (by omega)]
    omega
theorem mg_zero {k : Nat} : mg (fun _ => 0) k = 0 := by
  have := mg_z (d := fun _ => 0) (k := 0) (m := k) (fun _ _ _ => rfl)
  rw [Nat.zero_add] at this
  rw [this]
  rfl
theorem mg_neg {d : Nat → Int} : ∀ {k : Nat}, mg (fun j => -d j) k = -mg d k
  | 0 => by simp [mg]
  | k + 1 => by simp only [mg]; rw [mg_neg, Int.neg_mul, Int.neg_add]
/-- a limb is changed -/
theorem mg_upd {d : Nat → Int} {i : Nat} {x : Int} : ∀ {k : Nat}, i < k → mg (fun j => if j = i then x else d j) k = mg d k + (x - d i) * 1000000000 ^ i
  | 0, h => absurd h (Nat.not_lt_zero _)
  | k + 1, h => by
    simp only [mg]
    by_cases hk : k = i
    · subst hk
      rw [mg_congr (e := d) (fun j hj => if_neg (Nat.ne_of_lt hj)), if_pos rfl, Int.sub_mul]
      omega
    · rw [mg_upd (k := k) (by omega), if_neg hk]
      omega
/-- low limbs and high limbs -/
theorem mg_add {d : Nat → Int} {k : Nat} : ∀ {m : Nat}, mg d (k + m) = mg d k + 1000000000 ^ k * mg (fun j => d (k + j)) m
  | 0 => by simp [mg]
  | m + 1 => by
    show mg d (k + m) + d (k + m) * 1000000000 ^ (k + m) = _
    rw [mg_add (m := m), Int.pow_add]
    simp only [mg]
    rw [Int.mul_add, Int.add_assoc, Int.mul_left_comm]
/-- two rows of limbs with one value are one row -/
theorem mg_inj {d e : Nat → Int} : ∀ {k : Nat}, (∀ j, j < k → 0 ≤ d j ∧ d j < 1000000000) → (∀ j, j < k → 0 ≤ e j ∧ e j < 1000000000) → mg d k = mg e k → ∀ j, j < k → d j = e j
  | 0, _, _, _, j, hj => absurd hj (Nat.not_lt_zero _)
  | k + 1, hd, he, h, j, hj => by
    simp only [mg] at h
    have a1 := mg_nn (fun j hj => (hd j (by omega : j < k + 1)).1) (k := k)
    have a2 := mg_nn (fun j hj => (he j (by omega : j < k + 1)).1) (k := k)
    have b1 := (mg_abs (d := d) (k := k) (fun j hj => ⟨by have := (hd j (by omega)).1; omega, (hd j (by omega)).2⟩)).2
    have b2 := (mg_abs (d := e) (k := k) (fun j hj => ⟨by have := (he j (by omega)).1; omega, (he j (by omega)).2⟩)).2
    have hp := mg_pw k
    have hk : d k = e k := by
      rcases Int.lt_trichotomy (d k) (e k) with q | q | q
      · have e1 : (d k + 1) * 1000000000 ^ k ≤ e k * 1000000000 ^ k := Int.mul_le_mul_of_nonneg_right (by omega) (by omega)
        rw [Int.add_mul] at e1
        omega
      · exact q
      · have e1 : (e k + 1) * 1000000000 ^ k ≤ d k * 1000000000 ^ k := Int.mul_le_mul_of_nonneg_right (by omega) (by omega)
        rw [Int.add_mul] at e1
        omega
    by_cases hjk : j = k
    · rw [hjk]; exact hk
    · rw [hk] at h
      exact mg_inj (k := k) (fun j hj => hd j (by omega)) (fun j hj => he j (by omega)) (by omega) j (by omega)
/-- at least the power below the highest limb -/
theorem mg_ge {d : Nat → Int} {k : Nat} (h : ∀ j, j < k + 1 → 0 ≤ d j) (hk : d k ≠ 0) : 1000000000 ^ k ≤ mg d (k + 1) := by
  have h1 := mg_nn (k := k) (fun j hj => h j (by omega))
  have h2 := h k (by omega)
  have hp := mg_pw k
  have e1 : 1 * 1000000000 ^ k ≤ d k * 1000000000 ^ k := Int.mul_le_mul_of_nonneg_right (by omega) (by omega)
  simp only [mg]
  omega
theorem mg_pmono {a b : Nat} (h : a ≤ b) : (1000000000 : Int) ^ a ≤ 1000000000 ^ b := by
  obtain ⟨c, rfl⟩ := Nat.le.dest h
  rw [Int.pow_add]
  have h1 := mg_pw a
  have h2 := mg_pw c
  have e1 : (1000000000 : Int) ^ a * 1 ≤ 1000000000 ^ a * 1000000000 ^ c := Int.mul_le_mul_of_nonneg_left (by omega) (by omega)
  omega
