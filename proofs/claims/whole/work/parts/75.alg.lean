/-! ===== alternating products of vectors of integers ===== -/
def gx : Nat → (Nat → Int) → (Nat → Int) → Nat → Int
  | 0, _, _ => fun _ => 0
  | n + 1, v, a => fun k => if k % 2 = 0 then gx n (fun i => v (i + 1)) (fun i => a (2 * i)) (k / 2) else v 0 * a (2 * (k / 2)) - gx n (fun i => v (i + 1)) (fun i => a (2 * i + 1)) (k / 2)
theorem gx_even (n : Nat) (v a : Nat → Int) (i : Nat) : gx (n + 1) v a (2 * i) = gx n (fun i => v (i + 1)) (fun i => a (2 * i)) i := by
  show (if (2 * i) % 2 = 0 then _ else _) = _
  rw [if_pos (by omega), show 2 * i / 2 = i by omega]
theorem gx_odd (n : Nat) (v a : Nat → Int) (i : Nat) : gx (n + 1) v a (2 * i + 1) = v 0 * a (2 * i) - gx n (fun i => v (i + 1)) (fun i => a (2 * i + 1)) i := by
  show (if (2 * i + 1) % 2 = 0 then _ else _) = _
  rw [if_neg (by omega), show (2 * i + 1) / 2 = i by omega]
theorem nat_par (k : Nat) : (∃ i, k = 2 * i) ∨ ∃ i, k = 2 * i + 1 := by
  rcases Nat.mod_two_eq_zero_or_one k with h | h
  · exact Or.inl ⟨k / 2, by omega⟩
  · exact Or.inr ⟨k / 2, by omega⟩
theorem rg_gx1 (x y p q r s v : Int) : v * (x * p + y * q) - (x * r + y * s) = x * (v * p - r) + y * (v * q - s) := by grind
theorem rg_gx2 (x y p q r s v : Int) : (x * p + y * q) * v - (x * r + y * s) = x * (p * v - r) + y * (q * v - s) := by grind
theorem gx_linA (x y : Int) : ∀ (n : Nat) (v a b : Nat → Int) (k : Nat), gx n v (fun i => x * a i + y * b i) k = x * gx n v a k + y * gx n v b k
  | 0, _, _, _, _ => by simp [gx]
  | n + 1, v, a, b, k => by
    rcases nat_par k with ⟨i, rfl⟩ | ⟨i, rfl⟩
    · rw [gx_even, gx_even, gx_even]
      exact gx_linA x y n _ _ _ _
    · rw [gx_odd, gx_odd, gx_odd, gx_linA x y n _ (fun i => a (2 * i + 1)) (fun i => b (2 * i + 1))]
      exact rg_gx1 ..
theorem gx_linV (x y : Int) : ∀ (n : Nat) (v w a : Nat → Int) (k : Nat), gx n (fun i => x * v i + y * w i) a k = x * gx n v a k + y * gx n w a k
  | 0, _, _, _, _ => by simp [gx]
  | n + 1, v, w, a, k => by
    rcases nat_par k with ⟨i, rfl⟩ | ⟨i, rfl⟩
    · rw [gx_even, gx_even, gx_even]
      exact gx_linV x y n _ _ _ _
    · rw [gx_odd, gx_odd, gx_odd, gx_linV x y n (fun i => v (i + 1)) (fun i => w (i + 1))]
      exact rg_gx2 ..
theorem gx_0 (n : Nat) (v : Nat → Int) (k : Nat) : gx n v (fun _ => 0) k = 0 := by
  have := gx_linA 0 0 n v (fun _ => 0) (fun _ => 0) k
  simpa using this
theorem gx_cong : ∀ {n : Nat} {v w : Nat → Int} (a : Nat → Int), (∀ i, i < n → v i = w i) → gx n v a = gx n w a
  | 0, _, _, _, _ => rfl
  | n + 1, v, w, a, h => by
    funext k
    rcases nat_par k with ⟨i, rfl⟩ | ⟨i, rfl⟩
    · rw [gx_even, gx_even, gx_cong _ (fun j hj => h (j + 1) (by omega))]
    · rw [gx_odd, gx_odd, gx_cong _ (fun j hj => h (j + 1) (by omega)), h 0 (by omega)]
theorem rg_gx3 (v w p q r : Int) : v * p - (w * q + -1 * -r) = -(w * q - (v * p + -1 * r)) := by grind
theorem gx_anti : ∀ (n : Nat) (v w a : Nat → Int) (k : Nat), gx n v (gx n w a) k = -gx n w (gx n v a) k
  | 0, _, _, _, _ => by simp [gx]
  | n + 1, v, w, a, k => by
    have e1 : ∀ u : Nat → Int, (fun i => gx (n + 1) u a (2 * i)) = gx n (fun i => u (i + 1)) (fun i => a (2 * i)) := fun u => funext fun i => gx_even n u a i
    have e2 : ∀ u : Nat → Int, (fun i => gx (n + 1) u a (2 * i + 1)) = fun i => u 0 * a (2 * i) + -1 * gx n (fun i => u (i + 1)) (fun i => a (2 * i + 1)) i := fun u => funext fun i => by rw [gx_odd]; omega
    rcases nat_par k with ⟨i, rfl⟩ | ⟨i, rfl⟩
    · rw [gx_even, gx_even, e1, e1]
      exact gx_anti n _ _ _ _
    · rw [gx_odd, gx_odd, gx_even, gx_even, e2, e2, gx_linA, gx_linA, gx_anti n (fun i => v (i + 1)) (fun i => w (i + 1)) (fun i => a (2 * i + 1))]
      exact rg_gx3 ..
theorem gx_self (n : Nat) (v a : Nat → Int) (k : Nat) : gx n v (gx n v a) k = 0 := by
  have := gx_anti n v v a k
  omega
/-- the product of c vectors in dimension n -/
def wq (n : Nat) : Nat → (Nat → Nat → Int) → Nat → Int
  | 0, _ => fun k => if k = 0 then 1 else 0
  | c + 1, f => gx n (f 0) (wq n c (fun i => f (i + 1)))
theorem wq_cong {n : Nat} : ∀ {c : Nat} {f g : Nat → Nat → Int}, (∀ i, i < c → ∀ k, k < n → f i k = g i k) → wq n c f = wq n c g
  | 0, _, _, _ => rfl
  | c + 1, f, g, h => by
    show gx n (f 0) (wq n c (fun i => f (i + 1))) = gx n (g 0) (wq n c (fun i => g (i + 1)))
    rw [wq_cong (f := fun i => f (i + 1)) (g := fun i => g (i + 1)) (fun i hi => h (i + 1) (by omega)), gx_cong _ (h 0 (by omega))]
theorem wq_lin {n : Nat} (x y : Int) (v w : Nat → Int) : ∀ {c j : Nat} (f : Nat → Nat → Int) (t : Nat), j < c → wq n c (ups f j (fun k => x * v k + y * w k)) t = x * wq n c (ups f j v) t + y * wq n c (ups f j w) t
  | 0, _, _, _, h => absurd h (Nat.not_lt_zero _)
  | c + 1, 0, f, t, _ => by
    have e : ∀ u, (fun i => ups f 0 u (i + 1)) = fun i => f (i + 1) := fun u => funext fun i => ups_n _ _ (by omega)
    have e0 : ∀ u, ups f 0 u 0 = u := fun u => ups_s _ _ _
    show gx n (ups f 0 _ 0) (wq n c (fun i => ups f 0 _ (i + 1))) t = x * gx n (ups f 0 v 0) (wq n c (fun i => ups f 0 v (i + 1))) t + y * gx n (ups f 0 w 0) (wq n c (fun i => ups f 0 w (i + 1))) t
    rw [e, e, e, e0, e0, e0]
    exact gx_linV x y n v w _ t
  | c + 1, j + 1, f, t, h => by
    have e : ∀ u, (fun i => ups f (j + 1) u (i + 1)) = ups (fun i => f (i + 1)) j u := fun u => funext fun i => by
      by_cases z : i = j
      · rw [z, ups_s, ups_s]
      · rw [ups_n _ _ z, ups_n _ _ (by omega)]
    have e0 : ∀ u, ups f (j + 1) u 0 = f 0 := fun u => ups_n _ _ (by omega)
    show gx n (ups f (j + 1) _ 0) (wq n c (fun i => ups f (j + 1) _ (i + 1))) t = x * gx n (ups f (j + 1) v 0) (wq n c (fun i => ups f (j + 1) v (i + 1))) t + y * gx n (ups f (j + 1) w 0) (wq n c (fun i => ups f (j + 1) w (i + 1))) t
    rw [e, e, e, e0, e0, e0]
    have ih : wq n c (ups (fun i => f (i + 1)) j fun k => x * v k + y * w k) = fun t => x * wq n c (ups (fun i => f (i + 1)) j v) t + y * wq n c (ups (fun i => f (i + 1)) j w) t := funext fun t => wq_lin x y v w (fun i => f (i + 1)) t (by omega)
    rw [ih]
    exact gx_linA x y n _ _ _ t
theorem wq_mem {n : Nat} (v : Nat → Int) : ∀ {c : Nat} (f : Nat → Nat → Int) (i t : Nat), i < c → f i = v → gx n v (wq n c f) t = 0
  | 0, _, _, _, h, _ => absurd h (Nat.not_lt_zero _)
  | c + 1, f, 0, t, _, e => by
    show gx n v (gx n (f 0) _) t = 0
    rw [e]
    exact gx_self ..
  | c + 1, f, i + 1, t, h, e => by
    show gx n v (gx n (f 0) _) t = 0
    have : gx n v (wq n c (fun i => f (i + 1))) = fun _ => 0 := funext fun t => wq_mem v (fun i => f (i + 1)) i t (by omega) e
    rw [gx_anti, this, gx_0]
    rfl
theorem wq_dup {n : Nat} : ∀ {c : Nat} (f : Nat → Nat → Int) (i j t : Nat), i < j → j < c → f i = f j → wq n c f t = 0
  | 0, _, _, _, _, _, h, _ => absurd h (Nat.not_lt_zero _)
  | c + 1, f, 0, 0, _, h, _, _ => absurd h (Nat.lt_irrefl _)
  | c + 1, f, 0, j + 1, t, _, h, e => wq_mem (f 0) (fun i => f (i + 1)) j t (by omega) e.symm
  | c + 1, f, i + 1, 0, t, h, _, _ => absurd h (Nat.not_lt_zero _)
  | c + 1, f, i + 1, j + 1, t, hij, h, e => by
    have : wq n c (fun i => f (i + 1)) = fun _ => 0 := funext fun t => wq_dup (fun i => f (i + 1)) i j t (by omega) (by omega) e
    show gx n (f 0) (wq n c (fun i => f (i + 1))) t = 0
    rw [this, gx_0]
theorem wq_dup2 {n c : Nat} (f : Nat → Nat → Int) {i j : Nat} (t : Nat) (hij : i ≠ j) (hi : i < c) (hj : j < c) (e : f i = f j) : wq n c f t = 0 := by
  rcases Nat.lt_or_gt_of_ne hij with z | z
  · exact wq_dup f i j t z hj e
  · exact wq_dup f j i t z hi e.symm
/-! ===== sums ===== -/
def su : Nat → (Nat → Int) → Int
  | 0, _ => 0
  | c + 1, f => su c f + f c
theorem su_cong : ∀ {c : Nat} {f g : Nat → Int}, (∀ j, j < c → f j = g j) → su c f = su c g
  | 0, _, _, _ => rfl
  | c + 1, f, g, h => by
    show su c f + f c = su c g + g c
    rw [su_cong (fun j hj => h j (by omega)), h c (by omega)]
theorem rg_su (x y p q r s : Int) : x * p + y * q + (x * r + y * s) = x * (p + r) + y * (q + s) := by grind
theorem su_lin (x y : Int) : ∀ (c : Nat) (f g : Nat → Int), su c (fun j => x * f j + y * g j) = x * su c f + y * su c g
  | 0, _, _ => by simp [su]
  | c + 1, f, g => by
    show su c (fun j => x * f j + y * g j) + (x * f c + y * g c) = x * (su c f + f c) + y * (su c g + g c)
    rw [su_lin x y c f g]
    exact rg_su ..
theorem su_0 : ∀ (c : Nat), su c (fun _ => 0) = 0
  | 0 => rfl
  | c + 1 => by
    show su c (fun _ => 0) + 0 = 0
    rw [su_0 c]; rfl
theorem su_ups : ∀ {c : Nat} (f : Nat → Int) {j : Nat} (v : Int), j < c → su c (ups f j v) = su c f - f j + v
  | 0, _, _, _, h => absurd h (Nat.not_lt_zero _)
  | c + 1, f, j, v, h => by
    show su c (ups f j v) + ups f j v c = su c f + f c - f j + v
    by_cases z : j = c
    · subst z
      rw [ups_s, su_cong (g := f) (fun i hi => ups_n _ _ (by omega))]
      omega
    · rw [su_ups f v (by omega), ups_n _ _ (fun e => z e.symm)]
      omega
theorem su_one {c : Nat} (f : Nat → Int) {j : Nat} (hj : j < c) (h : ∀ i, i < c → i ≠ j → f i = 0) : su c f = f j := by
  have : su c f = su c (ups (fun _ => 0) j (f j)) := su_cong fun i hi => by
    by_cases z : i = j
    · rw [z, ups_s]
    · rw [ups_n _ _ z]; exact h i hi z
  rw [this, su_ups _ _ hj, su_0]
  omega
theorem su_le {B : Int} : ∀ {c : Nat} {f : Nat → Int}, (∀ j, j < c → ((f j).natAbs : Int) ≤ B) → ((su c f).natAbs : Int) ≤ c * B
  | 0, _, _ => by simp [su]
  | c + 1, f, h => by
    have h1 := su_le (c := c) (f := f) (fun j hj => h j (by omega))
    have h2 := h c (by omega)
    show ((su c f + f c).natAbs : Int) ≤ ((c + 1 : Nat) : Int) * B
    have e : ((c + 1 : Nat) : Int) * B = c * B + B := by rw [Int.natCast_add, Int.add_mul]; simp
    rw [e]
    omega
theorem wq_0 {n c : Nat} (f : Nat → Nat → Int) {j : Nat} (t : Nat) (hj : j < c) : wq n c (ups f j (fun _ => 0)) t = 0 := by
  have := wq_lin (n := n) 0 0 (fun _ => 0) (fun _ => 0) f t hj
  simpa using this
theorem wq_su {n c : Nat} (f : Nat → Nat → Int) {j : Nat} (t : Nat) (hj : j < c) (x : Nat → Int) (u : Nat → Nat → Int) : ∀ (d : Nat), wq n c (ups f j (fun k => su d (fun i => x i * u i k))) t = su d (fun i => x i * wq n c (ups f j (u i)) t)
  | 0 => wq_0 f t hj
  | d + 1 => by
    have := wq_lin (n := n) 1 (x d) (fun k => su d (fun i => x i * u i k)) (u d) f t hj
    simp only [Int.one_mul] at this
    show wq n c (ups f j (fun k => su d (fun i => x i * u i k) + x d * u d k)) t = su d _ + _
    rw [this, wq_su f t hj x u d]
/-- in a sum over the vectors themselves only one is left -/
theorem wq_pick {n c : Nat} (f : Nat → Nat → Int) {j : Nat} (t : Nat) (hj : j < c) (x : Nat → Int) : wq n c (ups f j (fun k => su c (fun i => x i * f i k))) t = x j * wq n c f t := by
  rw [wq_su f t hj x f c, su_one _ hj]
  · congr 1
    refine congrFun (wq_cong fun i _ k _ => ?_) t
    by_cases z : i = j
    · rw [z, ups_s]
    · rw [ups_n _ _ z]
  · intro i hi hij
    rw [wq_dup2 (ups f j (f i)) t (i := i) (j := j) hij hi hj (by rw [ups_s, ups_n _ _ hij])]
    omega
/-! ===== how large they are ===== -/
def nm : Nat → (Nat → Int) → Nat
  | 0, a => (a 0).natAbs
  | n + 1, a => nm n (fun i => a (2 * i)) + nm n (fun i => a (2 * i + 1))
def vn : Nat → (Nat → Int) → Nat
  | 0, _ => 0
  | n + 1, v => (v 0).natAbs + vn n (fun i => v (i + 1))
theorem nm_mul : ∀ (n : Nat) (x : Int) (a : Nat → Int), nm n (fun i => x * a i) = x.natAbs * nm n a
  | 0, x, a => Int.natAbs_mul _ _
  | n + 1, x, a => by
    show nm n (fun i => x * a (2 * i)) + nm n (fun i => x * a (2 * i + 1)) = x.natAbs * (nm n _ + nm n _)
    rw [nm_mul n x (fun i => a (2 * i)), nm_mul n x (fun i => a (2 * i + 1)), Nat.mul_add]
theorem nm_sub : ∀ (n : Nat) (a b : Nat → Int), nm n (fun i => a i - b i) ≤ nm n a + nm n b
  | 0, a, b => by show (a 0 - b 0).natAbs ≤ (a 0).natAbs + (b 0).natAbs; omega
  | n + 1, a, b => by
    have h1 := nm_sub n (fun i => a (2 * i)) (fun i => b (2 * i))
    have h2 := nm_sub n (fun i => a (2 * i + 1)) (fun i => b (2 * i + 1))
    show nm n (fun i => a (2 * i) - b (2 * i)) + nm n (fun i => a (2 * i + 1) - b (2 * i + 1)) ≤ (nm n (fun i => a (2 * i)) + nm n (fun i => a (2 * i + 1))) + (nm n (fun i => b (2 * i)) + nm n (fun i => b (2 * i + 1)))
    omega
theorem rg_nm (v w p q : Nat) : w * p + (v * p + w * q) ≤ (v + w) * (p + q) := by
  have : (v + w) * (p + q) = w * p + (v * p + w * q) + v * q := by grind
  omega
theorem nm_gx : ∀ (n : Nat) (v a : Nat → Int), nm n (gx n v a) ≤ vn n v * nm n a
  | 0, v, a => by simp [gx, nm, vn]
  | n + 1, v, a => by
    have e1 : (fun i => gx (n + 1) v a (2 * i)) = gx n (fun i => v (i + 1)) (fun i => a (2 * i)) := funext fun i => gx_even n v a i
    have e2 : (fun i => gx (n + 1) v a (2 * i + 1)) = fun i => v 0 * a (2 * i) - gx n (fun i => v (i + 1)) (fun i => a (2 * i + 1)) i := funext fun i => gx_odd n v a i
    have h1 := nm_gx n (fun i => v (i + 1)) (fun i => a (2 * i))
    have h2 := nm_gx n (fun i => v (i + 1)) (fun i => a (2 * i + 1))
    have h3 := nm_sub n (fun i => v 0 * a (2 * i)) (gx n (fun i => v (i + 1)) (fun i => a (2 * i + 1)))
    have h4 := nm_mul n (v 0) (fun i => a (2 * i))
    have h5 := rg_nm (v 0).natAbs (vn n fun i => v (i + 1)) (nm n fun i => a (2 * i)) (nm n fun i => a (2 * i + 1))
    show nm n (fun i => gx (n + 1) v a (2 * i)) + nm n (fun i => gx (n + 1) v a (2 * i + 1)) ≤ ((v 0).natAbs + vn n (fun i => v (i + 1))) * (nm n (fun i => a (2 * i)) + nm n (fun i => a (2 * i + 1)))
    rw [e1, e2]
    rw [h4] at h3
    omega
theorem nm_at : ∀ (n : Nat) (a : Nat → Int) (k : Nat), k < 2 ^ n → (a k).natAbs ≤ nm n a
  | 0, a, k, h => by
    rw [show k = 0 by simp at h; exact h]
    exact Nat.le_refl _
  | n + 1, a, k, h => by
    rw [Nat.pow_succ] at h
    show (a k).natAbs ≤ nm n (fun i => a (2 * i)) + nm n (fun i => a (2 * i + 1))
    rcases nat_par k with ⟨i, rfl⟩ | ⟨i, rfl⟩
    · have := nm_at n (fun i => a (2 * i)) i (by omega)
      omega
    · have := nm_at n (fun i => a (2 * i + 1)) i (by omega)
      omega
theorem nm_one : ∀ (n : Nat), nm n (fun k => if k = 0 then 1 else 0) = 1
  | 0 => rfl
  | n + 1 => by
    have e1 : (fun i : Nat => if 2 * i = 0 then (1 : Int) else 0) = fun k => if k = 0 then 1 else 0 := funext fun i => by
      by_cases z : i = 0
      · rw [z]
      · rw [if_neg z, if_neg (by omega)]
    have e2 : (fun i : Nat => if 2 * i + 1 = 0 then (1 : Int) else 0) = fun k => 0 * (if k = 0 then 1 else 0) := funext fun i => by
      rw [if_neg (by omega), Int.zero_mul]
    show nm n (fun i : Nat => if 2 * i = 0 then (1 : Int) else 0) + nm n (fun i : Nat => if 2 * i + 1 = 0 then (1 : Int) else 0) = 1
    rw [e1, e2, nm_mul, nm_one n]
    rfl
theorem nm_wq {n B : Nat} : ∀ {c : Nat} {f : Nat → Nat → Int}, (∀ i, i < c → vn n (f i) ≤ B) → nm n (wq n c f) ≤ B ^ c
  | 0, _, _ => by
    show nm n (fun k => if k = 0 then 1 else 0) ≤ 1
    rw [nm_one]
    exact Nat.le_refl _
  | c + 1, f, h => by
    have h1 := nm_gx n (f 0) (wq n c (fun i => f (i + 1)))
    have h2 := nm_wq (c := c) (f := fun i => f (i + 1)) (fun i hi => h (i + 1) (by omega))
    have h3 := Nat.mul_le_mul (h 0 (by omega)) h2
    rw [Nat.pow_succ, Nat.mul_comm (B ^ c) B]
    exact Nat.le_trans h1 h3
theorem vn_le {B : Nat} : ∀ {n : Nat} {v : Nat → Int}, (∀ i, i < n → (v i).natAbs ≤ B) → vn n v ≤ n * B
  | 0, _, _ => by simp [vn]
  | n + 1, v, h => by
    have h1 := vn_le (n := n) (v := fun i => v (i + 1)) (fun i hi => h (i + 1) (by omega))
    have h2 := h 0 (by omega)
    show (v 0).natAbs + vn n (fun i => v (i + 1)) ≤ (n + 1) * B
    rw [Nat.add_mul]
    omega
/-! ===== the unit vectors ===== -/
theorem gx_low (n : Nat) (v a : Nat → Int) (hv : v 0 = 0) (ha : ∀ i, a (2 * i + 1) = 0) : (∀ i, gx (n + 1) v a (2 * i + 1) = 0) ∧ ∀ i, gx (n + 1) v a (2 * i) = gx n (fun i => v (i + 1)) (fun i => a (2 * i)) i := by
  refine ⟨fun i => ?_, fun i => gx_even n v a i⟩
  rw [gx_odd, hv, show (fun i => a (2 * i + 1)) = fun _ => 0 from funext ha, gx_0]
  omega
theorem wq_low (n : Nat) : ∀ (c : Nat) (f : Nat → Nat → Int), (∀ i, i < c → f i 0 = 0) → (∀ t, wq (n + 1) c f (2 * t + 1) = 0) ∧ ∀ t, wq (n + 1) c f (2 * t) = wq n c (fun i k => f i (k + 1)) t
  | 0, f, _ => by
    refine ⟨fun t => ?_, fun t => ?_⟩
    · show (if 2 * t + 1 = 0 then (1 : Int) else 0) = 0
      rw [if_neg (by omega)]
    · show (if 2 * t = 0 then (1 : Int) else 0) = if t = 0 then 1 else 0
      by_cases z : t = 0
      · rw [z]
      · rw [if_neg z, if_neg (by omega)]
  | c + 1, f, h => by
    obtain ⟨h1, h2⟩ := wq_low n c (fun i => f (i + 1)) (fun i hi => h (i + 1) (by omega))
    obtain ⟨g1, g2⟩ := gx_low n (f 0) (wq (n + 1) c (fun i => f (i + 1))) (h 0 (by omega)) h1
    refine ⟨g1, fun t => ?_⟩
    show gx (n + 1) (f 0) (wq (n + 1) c (fun i => f (i + 1))) (2 * t) = gx n (fun k => f 0 (k + 1)) (wq n c (fun i k => f (i + 1) (k + 1))) t
    rw [g2, show (fun i => wq (n + 1) c (fun i => f (i + 1)) (2 * i)) = wq n c (fun i k => f (i + 1) (k + 1)) from funext h2]
def ut (i k : Nat) : Int := if k = i then 1 else 0
theorem wq_unit : ∀ (n : Nat), wq n n ut (2 ^ n - 1) = 1
  | 0 => rfl
  | n + 1 => by
    have hp : 0 < 2 ^ n := Nat.two_pow_pos n
    have e : 2 ^ (n + 1) - 1 = 2 * (2 ^ n - 1) + 1 := by rw [Nat.pow_succ]; omega
    obtain ⟨h1, h2⟩ := wq_low n n (fun i => ut (i + 1)) (fun i _ => if_neg (by omega))
    rw [e]
    show gx (n + 1) (ut 0) (wq (n + 1) n (fun i => ut (i + 1))) (2 * (2 ^ n - 1) + 1) = 1
    rw [gx_odd, show (fun i => wq (n + 1) n (fun i => ut (i + 1)) (2 * i + 1)) = fun _ => 0 from funext h1, gx_0, h2, show ut 0 0 = 1 from rfl]
    have e3 : wq n n (fun i k => ut (i + 1) (k + 1)) = wq n n ut := wq_cong fun i _ k _ => by
      unfold ut
      by_cases z : k = i
      · rw [if_pos z, if_pos (by omega)]
      · rw [if_neg z, if_neg (by omega)]
    rw [e3, wq_unit n]
    rfl
