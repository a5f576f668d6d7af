/-! ===== what a tableau is: cells are determinants ===== -/
def Wv (n : Nat) (A : Nat → Nat → Int) (p k : Nat) : Int := if p < n then ut p k else A (p - n) k
def pmI (n m : Nat) (bs cl : Nat → Nat) : Prop := (∀ r, r < m → bs r < n + m) ∧ (∀ c, c < n → cl c < n + m) ∧ (∀ r r', r < m → r' < m → bs r = bs r' → r = r') ∧ (∀ c c', c < n → c' < n → cl c = cl c' → c = c') ∧ (∀ r c, r < m → c < n → bs r ≠ cl c) ∧ plc n m bs cl
def tbI (n m : Nat) (A : Nat → Nat → Int) (D : Int) (T : Nat → Nat → Int) (bs cl : Nat → Nat) : Prop := 0 < D ∧ (∃ s : Int, (s = 1 ∨ s = -1) ∧ D = s * wq n n (fun j => Wv n A (cl j)) (2 ^ n - 1)) ∧ ∀ i, i < m → ∀ k, k < n → D * Wv n A (bs i) k = su n (fun j => T i j * Wv n A (cl j) k)
theorem su_mul (x : Int) : ∀ (c : Nat) (f : Nat → Int), su c (fun j => x * f j) = x * su c f
  | 0, _ => by simp [su]
  | c + 1, f => by
    show su c (fun j => x * f j) + x * f c = x * (su c f + f c)
    rw [su_mul x c f, Int.mul_add]
theorem wq_mul {n c : Nat} (x : Int) (v : Nat → Int) (f : Nat → Nat → Int) {j : Nat} (t : Nat) (hj : j < c) : wq n c (ups f j (fun k => x * v k)) t = x * wq n c (ups f j v) t := by
  have := wq_lin (n := n) x 0 v v f t hj
  rw [Int.zero_mul, Int.add_zero] at this
  rw [← this]
  refine congrFun (wq_cong fun i _ k _ => ?_) t
  by_cases z : i = j
  · rw [z, ups_s, ups_s]; omega
  · rw [ups_n _ _ z, ups_n _ _ z]
theorem wq_upc {n c : Nat} (f : Nat → Nat → Int) {j : Nat} (t : Nat) {v w : Nat → Int} (h : ∀ k, k < n → v k = w k) : wq n c (ups f j v) t = wq n c (ups f j w) t := by
  refine congrFun (wq_cong fun i _ k hk => ?_) t
  by_cases z : i = j
  · rw [z, ups_s, ups_s]; exact h k hk
  · rw [ups_n _ _ z, ups_n _ _ z]
theorem rg_cr {D T s d x : Int} (hs : s = 1 ∨ s = -1) (hD : D = s * d) (hp : 0 < D) (h : D * x = T * d) : T = s * x := by
  rcases hs with rfl | rfl
  · rw [Int.one_mul] at hD ⊢
    rw [hD] at h hp
    rw [Int.mul_comm T d] at h
    exact (Int.eq_of_mul_eq_mul_left (by omega) h).symm
  · have hd : d = -D := by omega
    rw [hd] at h
    have h2 : D * x = D * -T := by rw [h]; grind
    have := Int.eq_of_mul_eq_mul_left (by omega) h2
    omega
section PV
variable {n m r c : Nat} {A : Nat → Nat → Int} {D : Int} {T : Nat → Nat → Int} {bs cl : Nat → Nat} {va : Nat → Int}
theorem tb_cramer {s : Int} (hD0 : 0 < D) (hs : s = 1 ∨ s = -1) (hD : D = s * wq n n (fun j => Wv n A (cl j)) (2 ^ n - 1)) {i j : Nat} (hj : j < n) (hR : ∀ k, k < n → D * Wv n A (bs i) k = su n (fun j => T i j * Wv n A (cl j) k)) : T i j = s * wq n n (ups (fun j => Wv n A (cl j)) j (Wv n A (bs i))) (2 ^ n - 1) := by
  have e1 := wq_mul (n := n) D (Wv n A (bs i)) (fun j => Wv n A (cl j)) (2 ^ n - 1) hj
  rw [wq_upc _ _ hR, wq_pick (n := n) (fun j => Wv n A (cl j)) (2 ^ n - 1) hj (fun j => T i j)] at e1
  exact rg_cr hs hD hD0 e1.symm
theorem Wv_vn (hn : n ≤ 10) (hA : ∀ r x, r < m → x < n → -1000000 ≤ A r x ∧ A r x ≤ 1000000) {p : Nat} (hp : p < n + m) : vn n (Wv n A p) ≤ 10000000 := by
  have : vn n (Wv n A p) ≤ n * 1000000 := vn_le fun i hi => by
    unfold Wv
    by_cases z : p < n
    · rw [if_pos z]
      unfold ut
      by_cases y : i = p
      · rw [if_pos y]; decide
      · rw [if_neg y]; decide
    · rw [if_neg z]
      have := hA (p - n) i (by omega) hi
      omega
  omega
theorem pw_le (hn : n ≤ 10) : 10000000 ^ n ≤ 10000000 ^ 10 := Nat.pow_le_pow_right (by decide) hn
theorem tb_T (h : tbI n m A D T bs cl) (hp : pmI n m bs cl) (hn : n ≤ 10) (hA : ∀ r x, r < m → x < n → -1000000 ≤ A r x ∧ A r x ≤ 1000000) {i j : Nat} (hi : i < m) (hj : j < n) : (T i j).natAbs ≤ 10000000 ^ 10 := by
  obtain ⟨h0, ⟨s, hs, hD⟩, hR⟩ := h
  rw [tb_cramer h0 hs hD hj (hR i hi)]
  have h1 : nm n (wq n n (ups (fun j => Wv n A (cl j)) j (Wv n A (bs i)))) ≤ 10000000 ^ n := nm_wq fun a ha => by
    by_cases z : a = j
    · rw [z, ups_s]; exact Wv_vn hn hA (hp.1 i hi)
    · rw [ups_n _ _ z]; exact Wv_vn hn hA (hp.2.1 a ha)
  have h2 := nm_at n (wq n n (ups (fun j => Wv n A (cl j)) j (Wv n A (bs i)))) (2 ^ n - 1) (by have := Nat.two_pow_pos n; omega)
  have h3 := pw_le hn
  rw [Int.natAbs_mul, show s.natAbs = 1 by rcases hs with rfl | rfl <;> rfl]
  omega
theorem tb_D (h : tbI n m A D T bs cl) (hp : pmI n m bs cl) (hn : n ≤ 10) (hA : ∀ r x, r < m → x < n → -1000000 ≤ A r x ∧ A r x ≤ 1000000) : D.natAbs ≤ 10000000 ^ 10 := by
  obtain ⟨h0, ⟨s, hs, hD⟩, -⟩ := h
  rw [hD]
  have h1 : nm n (wq n n (fun j => Wv n A (cl j))) ≤ 10000000 ^ n := nm_wq fun a ha => Wv_vn hn hA (hp.2.1 a ha)
  have h2 := nm_at n (wq n n (fun j => Wv n A (cl j))) (2 ^ n - 1) (by have := Nat.two_pow_pos n; omega)
  have h3 := pw_le hn
  rw [Int.natAbs_mul, show s.natAbs = 1 by rcases hs with rfl | rfl <;> rfl]
  omega
theorem rg_u1 (D T p a b w f : Int) : D * T * w = (p * a - b * T + 0 * f) - 0 + (D * T * w - (p * a - b * T)) := by grind
def xU (D : Int) (T : Nat → Nat → Int) (r c i j : Nat) : Int := if j = c then D * T i c else T i j * T r c - T i c * T r j
theorem rg_pe (p q a b f : Int) : (a * p - q * b) * f = p * (a * f) + -q * (b * f) := by grind
theorem rg_pf (D p q w y : Int) : D * p * w = p * (D * w) + -q * (D * y) - 0 + D * q * y := by grind
/-- the row i in terms of the new columns -/
theorem ex_rel (hr : r < m) (hc : c < n) (hR : ∀ i, i < m → ∀ k, k < n → D * Wv n A (bs i) k = su n (fun j => T i j * Wv n A (cl j) k)) {i k : Nat} (hi : i < m) (hk : k < n) : D * T r c * Wv n A (bs i) k = su n (fun j => xU D T r c i j * ups (fun j => Wv n A (cl j)) c (Wv n A (bs r)) j k) := by
  have e : su n (fun j => xU D T r c i j * ups (fun j => Wv n A (cl j)) c (Wv n A (bs r)) j k) = su n (ups (fun j => T r c * (T i j * Wv n A (cl j) k) + -T i c * (T r j * Wv n A (cl j) k)) c (D * T i c * Wv n A (bs r) k)) := su_cong fun j _ => by
    unfold xU
    by_cases z : j = c
    · rw [z, ups_s, ups_s, if_pos rfl]
    · rw [ups_n _ _ z, ups_n _ _ z, if_neg z]
      exact rg_pe ..
  rw [e, su_ups _ _ hc, su_lin, ← hR i hi k hk, ← hR r hr k hk]
  have e2 : T r c * (T i c * Wv n A (cl c) k) + -T i c * (T r c * Wv n A (cl c) k) = 0 := by grind
  rw [e2]
  exact rg_pf ..
theorem rg_dv {D p s x u : Int} (hs : s = 1 ∨ s = -1) (hp : p ≠ 0) (h : D * p * x = u * (s * p)) : D * (s * x) = u := by
  have h2 : p * (D * (s * x)) = p * u := by
    rcases hs with rfl | rfl
    · grind
    · grind
  exact Int.eq_of_mul_eq_mul_left hp h2
theorem tb_new (h : tbI n m A D T bs cl) (hr : r < m) (hc : c < n) {s : Int} (hs : s = 1 ∨ s = -1) (hD : D = s * wq n n (fun j => Wv n A (cl j)) (2 ^ n - 1)) : wq n n (ups (fun j => Wv n A (cl j)) c (Wv n A (bs r))) (2 ^ n - 1) = s * T r c := by
  rw [tb_cramer h.1 hs hD hc (h.2.2 r hr)]
  rcases hs with rfl | rfl <;> omega
theorem tb_div (h : tbI n m A D T bs cl) (hr : r < m) (hc : c < n) (hp : T r c ≠ 0) {i j : Nat} (hi : i < m) (hj : j < n) (hjc : j ≠ c) : ∃ x, D * x = T i j * T r c - T i c * T r j := by
  obtain ⟨h0, ⟨s, hs, hD⟩, hR⟩ := id h
  have e1 := wq_mul (n := n) (D * T r c) (Wv n A (bs i)) (ups (fun j => Wv n A (cl j)) c (Wv n A (bs r))) (2 ^ n - 1) hj
  rw [wq_upc _ _ (fun k hk => ex_rel hr hc hR hi hk), wq_pick (n := n) (ups (fun j => Wv n A (cl j)) c (Wv n A (bs r))) (2 ^ n - 1) hj (fun j => xU D T r c i j), tb_new h hr hc hs hD] at e1
  have e2 := rg_dv hs hp e1.symm
  rw [show xU D T r c i j = T i j * T r c - T i c * T r j from if_neg hjc] at e2
  exact ⟨_, e2⟩
def xT (D : Int) (T : Nat → Nat → Int) (r c : Nat) (g : Int) : Nat → Nat → Int := fun i j => if i = r ∧ j = c then D * g else if i = r then T i j * (-g) else if j = c then T i j * g else g * (T i j * T r c - T i c * T r j) / D
theorem ex_mul (h : tbI n m A D T bs cl) (hr : r < m) (hc : c < n) (hp : T r c ≠ 0) (g : Int) {i j : Nat} (hi : i < m) (hj : j < n) (hir : i ≠ r) : D * xT D T r c g i j = g * xU D T r c i j := by
  have hD := h.1
  unfold xT xU
  rw [if_neg (by omega), if_neg hir]
  by_cases z : j = c
  · rw [if_pos z, if_pos z, z]; grind
  · rw [if_neg z, if_neg z]
    obtain ⟨x, hx⟩ := tb_div h hr hc hp hi hj z
    rw [← hx, show g * (D * x) = D * (g * x) by grind, Int.mul_ediv_cancel_left _ (by omega)]
theorem rg_x1 {D p g w S : Int} (h : D * S = g * (D * p * w)) (hD : 0 < D) : p * g * w = S := by
  have : D * (p * g * w) = D * S := by rw [h]; grind
  exact Int.eq_of_mul_eq_mul_left (by omega) this
theorem rg_x2 (g a b : Int) : a * (-g) * b = (-g) * (a * b) + 0 * (a * b) := by grind
theorem rg_x3 (D g p w f : Int) : p * g * f = (-g) * (D * w) + 0 * (D * w) - ((-g) * (p * f) + 0 * (p * f)) + D * g * w := by grind
theorem rg_x4 {s g p : Int} (hs : s = 1 ∨ s = -1) : p * g = g * s * (s * p) := by
  rcases hs with rfl | rfl <;> grind
theorem ups_if {α : Type} (f : Nat → α) (c : Nat) (v : α) (j : Nat) : ups f c v j = if j = c then v else f j := rfl
theorem tbI_ex {g : Int} (h : tbI n m A D T bs cl) (hr : r < m) (hc : c < n) (hp : T r c ≠ 0) (hg : g = 1 ∨ g = -1) (hg0 : 0 < T r c * g) : tbI n m A (T r c * g) (xT D T r c g) (fun i => if i = r then cl c else bs i) (fun j => if j = c then bs r else cl j) := by
  obtain ⟨h0, ⟨s, hs, hD⟩, hR⟩ := id h
  have hW : (fun j => Wv n A (if j = c then bs r else cl j)) = ups (fun j => Wv n A (cl j)) c (Wv n A (bs r)) := funext fun j => by
    by_cases z : j = c
    · rw [if_pos z, z, ups_s]
    · rw [if_neg z, ups_n _ _ z]
  refine ⟨hg0, ⟨g * s, ?_, ?_⟩, ?_⟩
  · rcases hs with rfl | rfl <;> rcases hg with rfl | rfl <;> decide
  · rw [hW, tb_new h hr hc hs hD]
    exact rg_x4 hs
  · intro i hi k hk
    have eW : ∀ j, Wv n A (if j = c then bs r else cl j) k = ups (fun j => Wv n A (cl j)) c (Wv n A (bs r)) j k := fun j => congrFun (congrFun hW j) k
    show T r c * g * Wv n A (if i = r then cl c else bs i) k = su n (fun j => xT D T r c g i j * Wv n A (if j = c then bs r else cl j) k)
    rw [su_cong (fun j _ => by rw [eW j])]
    by_cases z : i = r
    · rw [if_pos z, z]
      have e : su n (fun j => xT D T r c g r j * ups (fun j => Wv n A (cl j)) c (Wv n A (bs r)) j k) = su n (ups (fun j => (-g) * (T r j * Wv n A (cl j) k) + 0 * (T r j * Wv n A (cl j) k)) c (D * g * Wv n A (bs r) k)) := su_cong fun j _ => by
        unfold xT
        by_cases y : j = c
        · rw [y, ups_s, ups_s, if_pos ⟨rfl, rfl⟩]
        · rw [ups_n _ _ y, ups_n _ _ y, if_neg (fun w => y w.2), if_pos rfl]
          exact rg_x2 ..
      rw [e, su_ups _ _ hc, su_lin, ← hR r hr k hk]
      exact rg_x3 ..
    · rw [if_neg z]
      refine rg_x1 ?_ h0
      rw [ex_rel hr hc hR hi hk, ← su_mul, ← su_mul]
      refine su_cong fun j hj => ?_
      have := ex_mul h hr hc hp g hi hj z
      rw [← Int.mul_assoc, ← Int.mul_assoc, this]
theorem pmI_ex (hp : pmI n m bs cl) (hr : r < m) (hc : c < n) : pmI n m (fun i => if i = r then cl c else bs i) (fun j => if j = c then bs r else cl j) := by
  obtain ⟨h1, h2, h3, h4, h5, h6⟩ := hp
  refine ⟨?_, ?_, ?_, ?_, ?_, ?_⟩
  · intro i hi
    by_cases z : i = r
    · simp only [if_pos z]; exact h2 c hc
    · simp only [if_neg z]; exact h1 i hi
  · intro j hj
    by_cases z : j = c
    · simp only [if_pos z]; exact h1 r hr
    · simp only [if_neg z]; exact h2 j hj
  · intro i i' hi hi' e
    by_cases z : i = r <;> by_cases z' : i' = r
    · omega
    · simp only [if_pos z, if_neg z'] at e; exact absurd e.symm (h5 i' c hi' hc)
    · simp only [if_neg z, if_pos z'] at e; exact absurd e (h5 i c hi hc)
    · simp only [if_neg z, if_neg z'] at e; exact h3 i i' hi hi' e
  · intro j j' hj hj' e
    by_cases z : j = c <;> by_cases z' : j' = c
    · omega
    · simp only [if_pos z, if_neg z'] at e; exact absurd e (h5 r j' hr hj')
    · simp only [if_neg z, if_pos z'] at e; exact absurd e.symm (h5 r j hr hj)
    · simp only [if_neg z, if_neg z'] at e; exact h4 j j' hj hj' e
  · intro i j hi hj e
    by_cases z : i = r <;> by_cases z' : j = c
    · simp only [if_pos z, if_pos z'] at e; exact absurd e.symm (h5 r c hr hc)
    · simp only [if_pos z, if_neg z'] at e; exact z' (h4 c j hc hj e).symm
    · simp only [if_neg z, if_pos z'] at e; exact z (h3 i r hi hr e)
    · simp only [if_neg z, if_neg z'] at e; exact h5 i j hi hj e
  · intro p hpp
    rcases h6 p hpp with ⟨i, hi, e⟩ | ⟨j, hj, e⟩
    · by_cases z : i = r
      · exact Or.inr ⟨c, hc, by simp only [if_pos]; rw [← e, z]⟩
      · exact Or.inl ⟨i, hi, by simp only [if_neg z]; exact e⟩
    · by_cases z : j = c
      · exact Or.inl ⟨r, hr, by simp only [if_pos]; rw [← e, z]⟩
      · exact Or.inr ⟨j, hj, by simp only [if_neg z]; exact e⟩
/-! ===== amounts ===== -/
def amt (n : Nat) (T : Nat → Nat → Int) (va : Nat → Int) (i : Nat) : Int := su n (fun j => T i j * va j)
theorem rg_a1 (T p q a b v : Int) : (a * p - q * b) * v = p * (a * v) + -q * (b * v) := by grind
theorem rg_a2 (D p q a b v x g : Int) : g * (p * a + -q * b - (p * (q * v) + -q * (p * v)) + D * q * x) = g * (a * p - q * (b - x * D)) := by grind
theorem am_ex {g b : Int} (h : tbI n m A D T bs cl) (hr : r < m) (hc : c < n) (hp : T r c ≠ 0) {i : Nat} (hi : i < m) (hir : i ≠ r) : D * amt n (xT D T r c g) (ups va c b) i = g * (amt n T va i * T r c - T i c * (amt n T va r - b * D)) := by
  have e1 : su n (fun j => D * (xT D T r c g i j * ups va c b j)) = su n (fun j => g * (ups (fun j => T r c * (T i j * va j) + -T i c * (T r j * va j)) c (D * T i c * b) j)) := su_cong fun j hj => by
    have := ex_mul h hr hc hp g hi hj hir
    rw [← Int.mul_assoc, this]
    unfold xU
    by_cases z : j = c
    · rw [z, ups_s, ups_s, if_pos rfl, Int.mul_assoc]
    · rw [ups_n _ _ z, ups_n _ _ z, if_neg z, Int.mul_assoc, rg_a1 0]
  show D * su n (fun j => xT D T r c g i j * ups va c b j) = _
  rw [← su_mul, e1, su_mul, su_ups _ _ hc, su_lin]
  exact rg_a2 ..
theorem rg_a3 (D p g a v b : Int) : (-g) * a + 0 * a - ((-g) * (p * v) + 0 * (p * v)) + D * g * b = g * v * p - g * (a - b * D) := by grind
theorem am_exr {g b : Int} (hc : c < n) : amt n (xT D T r c g) (ups va c b) r = g * va c * T r c - g * (amt n T va r - b * D) := by
  have e1 : su n (fun j => xT D T r c g r j * ups va c b j) = su n (ups (fun j => (-g) * (T r j * va j) + 0 * (T r j * va j)) c (D * g * b)) := su_cong fun j _ => by
    unfold xT
    by_cases y : j = c
    · rw [y, ups_s, ups_s, if_pos ⟨rfl, rfl⟩]
    · rw [ups_n _ _ y, ups_n _ _ y, if_neg (fun w => y w.2), if_pos rfl]
      exact rg_x2 ..
  show su n (fun j => xT D T r c g r j * ups va c b j) = _
  rw [e1, su_ups _ _ hc, su_lin]
  exact rg_a3 ..
theorem am_mv {b : Int} (hc : c < n) (i : Nat) : amt n T (ups va c b) i = amt n T va i + (b - va c) * T i c := by
  have e1 : su n (fun j => T i j * ups va c b j) = su n (ups (fun j => T i j * va j) c (T i c * b)) := su_cong fun j _ => by
    by_cases y : j = c
    · rw [y, ups_s, ups_s]
    · rw [ups_n _ _ y, ups_n _ _ y]
  show su n (fun j => T i j * ups va c b j) = _
  rw [e1, su_ups _ _ hc]
  show amt n T va i - T i c * va c + T i c * b = _
  grind
def vaB (n : Nat) (va : Nat → Int) : Prop := ∀ c, c < n → -1000000000000000001 ≤ va c ∧ va c ≤ 1000000000000000001
theorem mul_nab {a b : Int} {x y : Nat} (ha : a.natAbs ≤ x) (hb : b.natAbs ≤ y) : (a * b).natAbs ≤ x * y := by
  rw [Int.natAbs_mul]
  exact Nat.mul_le_mul ha hb
theorem am_le (h : tbI n m A D T bs cl) (hp : pmI n m bs cl) (hn : n ≤ 10) (hA : ∀ r x, r < m → x < n → -1000000 ≤ A r x ∧ A r x ≤ 1000000) (hv : vaB n va) {i : Nat} (hi : i < m) : (amt n T va i).natAbs < 10 ^ 90 := by
  have h1 : ((amt n T va i).natAbs : Int) ≤ n * ((10000000 ^ 10 * 1000000000000000001 : Nat) : Int) := su_le fun j hj => by
    have a1 := tb_T h hp hn hA hi hj
    have a2 := hv j hj
    have := mul_nab a1 (show (va j).natAbs ≤ 1000000000000000001 by omega)
    omega
  have h2 : (n : Int) * ((10000000 ^ 10 * 1000000000000000001 : Nat) : Int) ≤ 10 * ((10000000 ^ 10 * 1000000000000000001 : Nat) : Int) := Int.mul_le_mul_of_nonneg_right (by omega) (by omega)
  have h3 : 10 * (10000000 ^ 10 * 1000000000000000001) < 10 ^ 90 := by decide
  omega
theorem tbI_0 (hn : n ≤ 10) : tbI n m A 1 A (fun r => n + r) (fun c => c) := by
  refine ⟨by decide, ⟨1, Or.inl rfl, ?_⟩, ?_⟩
  · rw [wq_cong (g := ut) (fun i hi k _ => by show Wv n A i k = _; unfold Wv; rw [if_pos hi]), wq_unit]
    rfl
  · intro i hi k hk
    show 1 * Wv n A (n + i) k = su n (fun j => A i j * Wv n A j k)
    rw [su_one _ hk]
    · unfold Wv ut
      rw [if_neg (by omega), if_pos hk, if_pos rfl, show n + i - n = i by omega]
      omega
    · intro j hj hjk
      unfold Wv ut
      rw [if_pos hj, if_neg (fun e => hjk e.symm)]
      omega
theorem pmI_0 : pmI n m (fun r => n + r) (fun c => c) := by
  refine ⟨fun r h => ?_, fun c h => ?_, fun r r' _ _ e => ?_, fun c c' _ _ e => ?_, fun r c _ h e => ?_, fun p h => ?_⟩
  · show n + r < n + m; omega
  · show c < n + m; omega
  · have : n + r = n + r' := e
    omega
  · exact e
  · have : n + r = c := e
    omega
  · by_cases z : p < n
    · exact Or.inr ⟨p, z, rfl⟩
    · exact Or.inl ⟨p - n, by omega, by show n + (p - n) = p; omega⟩
end PV
