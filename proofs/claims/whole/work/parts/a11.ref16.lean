/-! ===== the reference: exchange ===== -/
def clsV (σ : tz_S) (M n m : Nat) (C : Nat → Nat → Int) : Prop := ∀ r c, r < m → c < n → ∃ k, k ≤ 8 ∧ nV (tz_A σ (M + 20)) (16 + 16 * (10 * r + c)) k (C r c)
/-- only cells of the tableau have changed, of what lasts -/
def Xq (M : Nat) (σ σ' : tz_S) : Prop := Fr (fun x => x = M ∨ x = M + 20) σ σ' ∧ (∀ k, k ≠ 35 → k ≠ 36 → tz_F σ' M k = tz_F σ M k) ∧ ∀ i, i < 447200 → (i < 16 ∨ 1936 ≤ i) → tz_A σ' (M + 20) i = tz_A σ (M + 20) i
section RP
variable {f M t n m : Nat} {σ σ1 σ2 : tz_S} {C C2 T : Nat → Nat → Int}
theorem Xq_refl : Xq M σ σ := ⟨Fr_refl, fun _ _ _ => rfl, fun _ _ _ => rfl⟩
theorem Xq_pq {lo hi : Nat} (h1 : Xq M σ σ1) (h2 : Pq M lo hi σ1 σ2) (hh : (16 ≤ lo ∧ hi ≤ 1936) ∨ 447200 ≤ lo) : Xq M σ σ2 := ⟨Fr_trans h1.1 h2.1, fun k a b => (h2.2.1 k a b).trans (h1.2.1 k a b), fun i hi hx => (h2.2.2 i (by omega)).trans (h1.2.2 i hi hx)⟩
theorem cls_pq {lo hi : Nat} (h : clsV σ M n m C) (hp : Pq M lo hi σ σ1) (hlo : 447200 ≤ lo) (hn : n ≤ 10) (hm : m ≤ 12) : clsV σ1 M n m C := fun r c hr hc => by
  obtain ⟨k, k1, k2⟩ := h r c hr hc
  exact ⟨k, k1, nV_pq k2 hp (Or.inl (by omega))⟩
theorem cls_set {i j k : Nat} {v : Int} (h : clsV σ M n m C) (hp : Pq M (16 + 16 * (10 * i + j)) (16 + 16 * (10 * i + j) + k + 1) σ σ1) (hj : j < 10) (hn : n ≤ 10) (hk : k ≤ 8) (hv : nV (tz_A σ1 (M + 20)) (16 + 16 * (10 * i + j)) k v) : clsV σ1 M n m (fun r c => if r = i ∧ c = j then v else C r c) := fun r c hr hc => by
  by_cases z : r = i ∧ c = j
  · simp only [if_pos z]
    rw [z.1, z.2]
    exact ⟨k, hk, hv⟩
  · simp only [if_neg z]
    obtain ⟨k', k1, k2⟩ := h r c hr hc
    exact ⟨k', k1, nV_pq k2 hp (by omega)⟩
theorem cls_cong (h : clsV σ M n m C) (hc : ∀ r c, r < m → c < n → C r c = C2 r c) : clsV σ M n m C2 := fun r c hr hcn => by
  rw [← hc r c hr hcn]
  exact h r c hr hcn
/-- a cell is written from a number in scratch, turned or not -/
theorem r_cellPut {i j x k : Nat} {v : Int} (h : mSh σ M) (hv : nV (tz_A σ (M + 20)) x k v) (hk : k ≤ 8) (hx : 447200 ≤ x) (hx2 : x + k < 527200) (hi : i < 12) (hj : j < 10) (hf : 2000 ≤ f) : gp (X12_copyTo f (some M) (nI x) (nI (16 + 16 * (10 * i + j)))) σ (fun _ σ' => Pq M (16 + 16 * (10 * i + j)) (16 + 16 * (10 * i + j) + k + 1) σ σ' ∧ tz_F σ' M = tz_F σ M ∧ nV (tz_A σ' (M + 20)) (16 + 16 * (10 * i + j)) k v) :=
  r_copyTo h hv hx2 (by omega) (Or.inl (by omega)) hf
/-- what holds while the cells of the row i are made anew -/
def exI (σ : tz_S) (M n m t0 t1 kp kD : Nat) (P D : Int) (C : Nat → Nat → Int) (tp : Nat) (σ' : tz_S) : Prop := Xq M σ σ' ∧ tz_F σ' M 35 = nI tp ∧ t1 + kD < tp ∧ nV (tz_A σ' (M + 20)) t0 kp P ∧ nV (tz_A σ' (M + 20)) t1 kD D ∧ clsV σ' M n m C
theorem exI_pq {t0 t1 kp kD tp lo hi : Nat} {P D : Int} (h : exI σ M n m t0 t1 kp kD P D C tp σ1) (hp : Pq M lo hi σ1 σ2) (hlo : t1 + kD < lo) (h0 : 447200 ≤ t0) (h1 : t0 + kp < t1) (hn : n ≤ 10) (hm : m ≤ 12) {tp2 : Nat} (h35 : tz_F σ2 M 35 = nI tp2) (ht2 : t1 + kD < tp2) : exI σ M n m t0 t1 kp kD P D C tp2 σ2 := by
  obtain ⟨a1, a2, a3, a4, a5, a6⟩ := h
  exact ⟨Xq_pq a1 hp (Or.inr (by omega)), h35, ht2, nV_pq a4 hp (Or.inl (by omega)), nV_pq a5 hp (Or.inl (by omega)), cls_pq a6 hp (by omega) hn hm⟩
theorem exI_set {t0 t1 kp kD tp i j k : Nat} {P D v : Int} (h : exI σ M n m t0 t1 kp kD P D C tp σ1) (hp : Pq M (16 + 16 * (10 * i + j)) (16 + 16 * (10 * i + j) + k + 1) σ1 σ2) (hF : tz_F σ2 M = tz_F σ1 M) (h0 : 447200 ≤ t0) (h1 : t0 ≤ t1) (hi : i < 12) (hj : j < 10) (hn : n ≤ 10) (hk : k ≤ 8) (hv : nV (tz_A σ2 (M + 20)) (16 + 16 * (10 * i + j)) k v) : exI σ M n m t0 t1 kp kD P D (fun r c => if r = i ∧ c = j then v else C r c) tp σ2 := by
  obtain ⟨a1, a2, a3, a4, a5, a6⟩ := h
  exact ⟨Xq_pq a1 hp (Or.inl (by omega)), by rw [hF]; exact a2, a3, nV_pq a4 hp (Or.inr (by omega)), nV_pq a5 hp (Or.inr (by omega)), cls_set a6 hp hj hn hk hv⟩
end RP
section RQ
variable {f M n m : Nat} {σ : tz_S} {T : Nat → Nat → Int} {D : Int} {r c : Nat}
/-- the cells of all other rows -/
def xC (D : Int) (T : Nat → Nat → Int) (r c : Nat) (g : Int) (i j : Nat) : Nat → Nat → Int := fun a b => if a ≠ r ∧ (a < i ∨ (a = i ∧ b < j ∧ b ≠ c)) then xT D T r c g a b else T a b
theorem xC_row {g : Int} {i : Nat} (hir : i ≠ r) (a b : Nat) (hb : b < n) : (if a = i ∧ b = c then xT D T r c g i c else xC D T r c g i n a b) = xC D T r c g (i + 1) 0 a b := by
  by_cases z : a = i ∧ b = c
  · rw [if_pos z, z.1, z.2]
    unfold xC
    rw [if_pos ⟨hir, Or.inl (by omega)⟩]
  · rw [if_neg z]
    unfold xC
    by_cases y : a ≠ r ∧ (a < i ∨ (a = i ∧ b < n ∧ b ≠ c))
    · rw [if_pos y, if_pos ⟨y.1, Or.inl (by omega)⟩]
    · rw [if_neg y, if_neg (fun w => y ⟨w.1, by omega⟩)]
theorem xC_skip {g : Int} (a b : Nat) : xC D T r c g r 0 a b = xC D T r c g (r + 1) 0 a b := by
  unfold xC
  by_cases y : a ≠ r ∧ (a < r ∨ (a = r ∧ b < 0 ∧ b ≠ c))
  · rw [if_pos y, if_pos ⟨y.1, Or.inl (by omega)⟩]
  · rw [if_neg y, if_neg (fun w => y ⟨w.1, by omega⟩)]
theorem xC_cell {g : Int} {i j : Nat} (hir : i ≠ r) (hjc : j ≠ c) (a b : Nat) : (if a = i ∧ b = j then xT D T r c g i j else xC D T r c g i j a b) = xC D T r c g i (j + 1) a b := by
  by_cases z : a = i ∧ b = j
  · rw [if_pos z, z.1, z.2]
    unfold xC
    rw [if_pos ⟨hir, Or.inr ⟨rfl, by omega, hjc⟩⟩]
  · rw [if_neg z]
    unfold xC
    by_cases y : a ≠ r ∧ (a < i ∨ (a = i ∧ b < j ∧ b ≠ c))
    · rw [if_pos y, if_pos ⟨y.1, by omega⟩]
    · rw [if_neg y, if_neg (fun w => y ⟨w.1, by omega⟩)]
theorem xC_at {g : Int} {i : Nat} (a b : Nat) : xC D T r c g i c a b = xC D T r c g i (c + 1) a b := by
  unfold xC
  by_cases y : a ≠ r ∧ (a < i ∨ (a = i ∧ b < c ∧ b ≠ c))
  · rw [if_pos y, if_pos ⟨y.1, by omega⟩]
  · rw [if_neg y, if_neg (fun w => y ⟨w.1, by omega⟩)]
theorem xC_0 {g : Int} (a b : Nat) : xC D T r c g 0 0 a b = T a b := by
  unfold xC
  rw [if_neg (fun w => by omega)]
theorem xC_old {g : Int} {i j b : Nat} (hb : j ≤ b ∨ b = c) : xC D T r c g i j i b = T i b := by
  unfold xC
  rw [if_neg (fun w => by omega)]
theorem xC_r {g : Int} {i j b : Nat} : xC D T r c g i j r b = T r b := by
  unfold xC
  rw [if_neg (fun w => w.1 rfl)]
theorem xT_c {g : Int} {i : Nat} (hir : i ≠ r) : xT D T r c g i c = T i c * g := by
  unfold xT
  rw [if_neg (fun w => hir w.1), if_neg hir, if_pos rfl]
theorem xT_ij {A : Nat → Nat → Int} {bs cl : Nat → Nat} {g : Int} {i j : Nat} (h : tbI n m A D T bs cl) (hr : r < m) (hc : c < n) (hp : T r c ≠ 0) (hi : i < m) (hj : j < n) (hir : i ≠ r) (hjc : j ≠ c) : xT D T r c g i j = (T i j * T r c - T i c * T r j) / D * g := by
  obtain ⟨x, hx⟩ := tb_div h hr hc hp hi hj hjc
  have hD := h.1
  have e := ex_mul h hr hc hp g hi hj hir
  rw [show xU D T r c i j = T i j * T r c - T i c * T r j from if_neg hjc, ← hx] at e
  rw [← hx, Int.mul_ediv_cancel_left _ (by omega)]
  have e2 : D * xT D T r c g i j = D * (x * g) := by rw [e]; grind
  exact Int.eq_of_mul_eq_mul_left (by omega) e2
end RQ
