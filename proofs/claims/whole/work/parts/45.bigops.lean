/-! ===== Big's own methods ===== -/
theorem bPut_eq {σ : tz_S} {F F' A A' : Nat → Nat → Int32} (h1 : F = F') (h2 : A = A') : ((tz_nc σ, tz_ns σ, tz_sh σ, F, A, tz_L σ, tz_R σ) : tz_S) = (tz_nc σ, tz_ns σ, tz_sh σ, F', A', tz_L σ, tz_R σ) := by rw [h1, h2]
theorem bPut_len {σ : tz_S} {a b k k' : Nat} {f : Nat → Int32} {sg : Int32} : tz_sF (bPut σ a b f k sg) a 1 (nI k') = bPut σ a b f k' sg := by
  refine bPut_eq (funext fun y => funext fun i => ?_) rfl
  show tz_u2 (tz_u2 (tz_u2 (tz_F σ) a 1 (nI k)) a 2 sg) a 1 (nI k') y i = tz_u2 (tz_u2 (tz_F σ) a 1 (nI k')) a 2 sg y i
  simp only [tz_u2]
  by_cases h1 : y = a
  · by_cases h2 : i = 1
    · subst h1; subst h2; simp
    · simp [h1, h2]
  · simp [h1]
theorem bPut_sg {σ : tz_S} {a b k : Nat} {f : Nat → Int32} {sg sg' : Int32} : tz_sF (bPut σ a b f k sg) a 2 sg' = bPut σ a b f k sg' := by
  refine bPut_eq (funext fun y => funext fun i => ?_) rfl
  show tz_u2 (tz_u2 (tz_u2 (tz_F σ) a 1 (nI k)) a 2 sg) a 2 sg' y i = tz_u2 (tz_u2 (tz_F σ) a 1 (nI k)) a 2 sg' y i
  simp only [tz_u2]
  split <;> rfl
theorem bPut_row {σ : tz_S} {a b k j : Nat} {f : Nat → Int32} {sg x : Int32} : tz_sA (bPut σ a b f k sg) b j x = bPut σ a b (upd f j x) k sg := by
  refine bPut_eq rfl (funext fun y => ?_)
  show tz_u2 (fun z => if z = b then f else tz_A σ z) b j x y = (if y = b then upd f j x else tz_A σ y)
  by_cases h : y = b
  · subst h
    rw [tz_u2_upd, if_pos rfl, if_pos rfl]
  · rw [tz_u2_row _ _ _ _ h, if_neg h, if_neg h]
theorem bPut_start {σ : tz_S} {a b k : Nat} {sg : Int32} (h2 : tz_F σ a 2 = sg) (h1 : tz_F σ a 1 = nI k) : bPut σ a b (tz_A σ b) k sg = σ := by
  unfold bPut
  rw [tz_rowA_self, tz_sF_self h1, tz_sF_self h2]
theorem bPut_put {σ : tz_S} {a b k k' : Nat} {f f' : Nat → Int32} {sg sg' : Int32} : bPut (bPut σ a b f k sg) a b f' k' sg' = bPut σ a b f' k' sg' := by
  refine bPut_eq (funext fun y => funext fun i => ?_) (funext fun y => ?_)
  · show tz_u2 (tz_u2 (tz_u2 (tz_u2 (tz_F σ) a 1 (nI k)) a 2 sg) a 1 (nI k')) a 2 sg' y i = tz_u2 (tz_u2 (tz_F σ) a 1 (nI k')) a 2 sg' y i
    simp only [tz_u2]
    split
    · rfl
    · split
      · rfl
      · rename_i h1 h2
        simp [h1, h2]
  · show (if y = b then f' else (if y = b then f else tz_A σ y)) = (if y = b then f' else tz_A σ y)
    by_cases h : y = b <;> simp [h]
theorem bS_ne {σ : tz_S} {a b n a2 b2 n2 : Nat} (h1 : bSh σ a b n) (h2 : bSh σ a2 b2 n2) : a ≠ b2 := by
  intro h
  have q := h1.1
  rw [h, h2.2.1] at q
  simp at q
theorem isg_sq (v : Int) : (isg v).toInt * (isg v).toInt * v = v := by
  rcases isg_cases v with h | h | h <;> rw [h.2]
  · show 1 * 1 * v = v; omega
  · show (-1) * (-1) * v = v; omega
  · rw [h.1]; rfl
theorem isg3 (v : Int) : (isg v).toInt = 0 ∨ (isg v).toInt = 1 ∨ (isg v).toInt = -1 := by rcases isg_cases v with h | h | h <;> rw [h.2] <;> decide
theorem isg_abs (v : Int) : 0 ≤ (isg v).toInt * v ∧ ((isg v).toInt * v = v ∨ (isg v).toInt * v = -v) := by
  rcases isg_cases v with h | h | h <;> rw [h.2]
  · show 0 ≤ 1 * v ∧ (1 * v = v ∨ 1 * v = -v); omega
  · show 0 ≤ (-1) * v ∧ ((-1) * v = v ∨ (-1) * v = -v); omega
  · show 0 ≤ 0 * v ∧ (0 * v = v ∨ 0 * v = -v); omega
theorem rg_8 (A M x q P : Int) (h : A = M + (q * 1000000000 + x) * P) : A = M + x * P + q * (P * 1000000000) := by grind
theorem az_z1 {P z : Int} (hP : 0 < P) (hz : 0 ≤ z) (h : z * P < P) : z = 0 := by
  rcases Int.lt_or_le 0 z with q | q
  · have : 1 * P ≤ z * P := Int.mul_le_mul_of_nonneg_right (by omega) (by omega)
    omega
  · omega
/-- a long over the base, seen without its sign -/
theorem az_lBs {x : Int64} {e : Int} (he : e = 0 ∨ e = 1 ∨ e = -1) (hx : 0 ≤ e * x.toInt) (h0 : e = 0 → x.toInt = 0) : ∃ Q R : Int, e * (x / 1000000000).toInt = Q ∧ e * (x - x / 1000000000 * 1000000000).toInt = R ∧ e * x.toInt = Q * 1000000000 + R ∧ 0 ≤ R ∧ R < 1000000000 ∧ 0 ≤ Q ∧ (e = 0 → (x / 1000000000).toInt = 0) := by
  obtain ⟨q, r, h1, h2, h3, h4, h5, h6, h7⟩ := az_lB x
  rw [h1, h2, h3]
  rw [h3] at hx h0 h6 h7
  clear h1 h2 h3
  rcases he with rfl | rfl | rfl
  · exact ⟨0, 0, by omega, by omega, by omega, by omega, by omega, by omega, fun _ => by omega⟩
  · exact ⟨q, r, by omega, by omega, by omega, by omega, by omega, by omega, fun h => absurd h (by decide)⟩
  · exact ⟨-q, -r, by omega, by omega, by omega, by omega, by omega, by omega, fun h => absurd h (by decide)⟩
set_option maxHeartbeats 1000000 in
theorem c_setLong {n a b nb : Nat} {σ : tz_S} {t : Int64} (hB : bSh σ a b nb) (hn : 2000 ≤ n) (ht : -(1000000000 ^ nb) < t.toInt ∧ t.toInt < 1000000000 ^ nb) :
    gp (X0_setLong n (some a) t) σ (fun _ σ' => ∃ (f : Nat → Int32) (k : Nat), σ' = bPut σ a b f k (isg t.toInt) ∧ k ≤ nb ∧ bN f k (isg t.toInt) t.toInt) := by
  have hnb := hB.2.2
  have main : gp (X0_setLong_b22 n (some a) t (some a) (isg t.toInt)) σ (fun _ σ' => ∃ (f : Nat → Int32) (k : Nat), σ' = bPut σ a b f k (isg t.toInt) ∧ k ≤ nb ∧ bN f k (isg t.toInt) t.toInt) := by
    unfold X0_setLong_b22
    refine gp_wI hB.1 rfl ?_
    refine gp_wI (σ := tz_sF σ a 2 (isg t.toInt)) hB.1 rfl ?_
    have e0 : tz_sF (tz_sF σ a 2 (isg t.toInt)) a 1 0 = bPut σ a b (tz_A σ b) 0 (isg t.toInt) := by
      unfold bPut
      rw [tz_rowA_self]
      refine tz_eqF (funext fun y => funext fun i => ?_)
      show tz_u2 (tz_u2 (tz_F σ) a 2 (isg t.toInt)) a 1 0 y i = tz_u2 (tz_u2 (tz_F σ) a 1 (nI 0)) a 2 (isg t.toInt) y i
      rw [nI_0]
      simp only [tz_u2]
      by_cases h1 : y = a
      · by_cases h2 : i = 1
        · subst h1; subst h2; simp
        · simp [h1, h2]
      · simp [h1]
    rw [e0]
    generalize hsg : isg t.toInt = sg
    have hs3 := isg3 t.toInt
    have hab := isg_abs t.toInt
    have hsq := isg_sq t.toInt
    have h00 : sg.toInt = 0 → t.toInt = 0 := by
      rw [← hsg]
      rcases isg_cases t.toInt with h | h | h <;> rw [h.2]
      · intro q; exact absurd q (by decide)
      · intro q; exact absurd q (by decide)
      · intro _; exact h.1
    rw [hsg] at hs3 hab hsq
    have hs0 : sg = 0 ↔ sg.toInt = 0 := az_iz.symm
    have hsI : sg = 0 ∨ sg = 1 ∨ sg = -1 := by rw [← hsg]; rcases isg_cases t.toInt with h | h | h <;> rw [h.2] <;> simp
    unfold X0_setLong_L35
    refine gp_loop (I := fun (τ : Int64 × Int32) (σ' : tz_S) => ∃ (f : Nat → Int32) (i : Nat), σ' = bPut σ a b f i sg ∧ τ.2 = nI i ∧ i ≤ nb ∧ (∀ j, j < i → 0 ≤ dI f j ∧ dI f j < 1000000000) ∧ 0 ≤ sg.toInt * τ.1.toInt ∧ (sg.toInt = 0 → τ.1.toInt = 0) ∧ sg.toInt * t.toInt = mg (dI f) i + sg.toInt * τ.1.toInt * 1000000000 ^ i ∧ (sg.toInt * τ.1.toInt = 0 → 0 < i → dI f (i - 1) ≠ 0) ∧ (sg.toInt = 0 → i = 0)) (fun τ _ => 1000 - τ.2.toNatClampNeg) ?_ n _ _ ⟨tz_A σ b, 0, rfl, rfl, by omega, fun j h => absurd h (Nat.not_lt_zero _), hab.1, h00, by show sg.toInt * t.toInt = 0 + sg.toInt * t.toInt * 1; omega, fun _ h => absurd h (Nat.lt_irrefl _), fun _ => rfl⟩ (by omega)
    rintro K ⟨l3, l5⟩ σ' ⟨f, i, rfl, h5, hi, hd, hp, hp0, hval, htop, hi0⟩ hK
    simp only at h5 hp hp0 hval htop hK
    subst h5
    show gp (X0_setLong_L35_body n (some a) (fun l3 l5 => K (l3, l5)) l3 (nI i)) (bPut σ a b f i sg) _
    unfold X0_setLong_L35_body X0_setLong_b89
    have hB1 : tz_sh (bPut σ a b f i sg) a = some (.inl (0, [some (some b), none, none])) := hB.1
    have hB2 : tz_sh (bPut σ a b f i sg) b = some (.inr (0, nb)) := hB.2.1
    have hP := mg_pw i
    have hm0 := mg_nn (d := dI f) (k := i) (fun j hj => (hd j hj).1)
    have fin : sg.toInt * l3.toInt = 0 → ∃ (f' : Nat → Int32) (k : Nat), bPut σ a b f i sg = bPut σ a b f' k sg ∧ k ≤ nb ∧ bN f' k sg t.toInt := by
      intro hz
      rw [hz] at hval
      have hv2 : sg.toInt * t.toInt = mg (dI f) i := by rw [hval]; omega
      refine ⟨f, i, rfl, hi, hd, htop hz, hsI, ?_, ?_⟩
      · rw [hs0]
        constructor
        · exact hi0
        · intro q
          subst q
          have : sg.toInt * t.toInt = 0 := hv2
          have ht0 : t.toInt = 0 := by
            rcases hs3 with h | h | h
            · exact h00 h
            · rw [h] at this; omega
            · rw [h] at this; omega
          rw [← hsg, ht0, isg_zero]
          rfl
      · rw [← hv2, ← Int.mul_assoc, hsq]
    refine gp_rR hB1 rfl ?_
    refine gp_len hB2 ?_
    refine gp_if (fun hc => ?_) (fun hc => ?_)
    · rw [nI_leI (by omega) (by omega)] at hc
      have hin : i = nb := by omega
      refine gp_ret (fin ?_)
      subst hin
      refine az_z1 hP hp ?_
      rcases hab.2 with h | h <;> rw [h] at hval <;> omega
    · rw [nI_leI (by omega) (by omega)] at hc
      refine gp_if (fun h0 => ?_) (fun h0 => ?_)
      · rw [lg_cmp_eq] at h0
        refine gp_ret (fin ?_)
        rw [h0]
        exact Int.mul_zero _
      · rw [lg_cmp_eq] at h0
        clear fin
        have hl3 : l3.toInt ≠ 0 := fun q => h0 (az_lz.mp q)
        refine gp_rR hB1 rfl ?_
        refine gp_rI hB1 rfl ?_
        rw [bPut_F2]
        refine gp_rmL az_B0 ?_
        obtain ⟨Q, R, e1, e2, e3, e4, e5, e6, e7⟩ := az_lBs hs3 hp hp0
        have hlim : (sg * (l3 - l3 / 1000000000 * 1000000000).toInt32).toInt = R := by
          obtain ⟨q, r, g1, g2, -, g4, g5, -, -⟩ := az_lB l3
          have g6 : ((l3 - l3 / 1000000000 * 1000000000).toInt32).toInt = r := by rw [az_l2i (by rw [g2]; omega) (by rw [g2]; omega), g2]
          rw [g2] at e2
          rw [az_imul (by rw [g6, e2]; omega) (by rw [g6, e2]; omega), g6, e2]
        refine gp_sI (j := i) hB2 (by decide) (by omega) (by omega) rfl ?_
        rw [bPut_row]
        refine gp_dvL az_B0 ?_
        rw [nI_1]
        refine gp_wI (σ := bPut σ a b _ i sg) hB.1 rfl ?_
        rw [bPut_len]
        refine gp_let ?_
        generalize sg * (l3 - l3 / 1000000000 * 1000000000).toInt32 = y at hlim ⊢
        have hdn : dI (upd f i y) i = R := by rw [dI_upd]; simp only [if_true]; exact hlim
        refine hK (_, _) _ ⟨upd f i y, i + 1, rfl, rfl, by omega, ?_, ?_, e7, ?_, ?_, ?_⟩ (by simp only; rw [nI_clamp (by omega), nI_clamp (by omega)]; omega)
        · intro j hj
          by_cases hji : j = i
          · subst hji; rw [hdn]; exact ⟨e4, e5⟩
          · rw [dI_upd]; simp only [hji, if_false]; exact hd j (by omega)
        · simp only
          rw [e1]
          exact e6
        · simp only
          rw [e1]
          simp only [mg]
          rw [hdn, dI_upd, mg_congr (e := dI f) (fun j hj => if_neg (by omega)), mg_ps]
          rw [e3] at hval
          exact rg_8 _ _ _ _ _ hval
        · simp only
          intro hz _
          rw [show i + 1 - 1 = i by omega, hdn]
          rw [e1] at hz
          intro hR
          rw [hz, hR] at e3
          have e8 : sg.toInt * l3.toInt = 0 := by omega
          rcases hs3 with h | h | h
          · exact hl3 (hp0 h)
          · rw [h] at e8; omega
          · rw [h] at e8; omega
        · intro h
          exact absurd (hp0 h) hl3
  unfold X0_setLong
  refine gp_if (fun h1 => ?_) (fun h1 => ?_)
  · rw [lg_cmp_le, Int64.le_iff_toInt_le] at h1
    have h1 : t.toInt ≤ 0 := h1
    refine gp_if (fun h2 => ?_) (fun h2 => ?_)
    · rw [lg_cmp_ge, Int64.le_iff_toInt_le] at h2
      have h2 : 0 ≤ t.toInt := h2
      have h3 : t.toInt = 0 := by omega
      have e : isg t.toInt = 0 := by rw [h3]; exact isg_zero
      rw [e] at main
      rw [e]
      exact main
    · rw [lg_cmp_ge, Int64.le_iff_toInt_le] at h2
      have h2 : ¬ 0 ≤ t.toInt := h2
      have e : isg t.toInt = -1 := isg_neg (by omega)
      rw [e] at main
      rw [e]
      exact main
  · rw [lg_cmp_le, Int64.le_iff_toInt_le] at h1
    have h1 : ¬ t.toInt ≤ 0 := h1
    have e : isg t.toInt = 1 := isg_pos (by omega)
    rw [e] at main
    rw [e]
    exact main
set_option maxHeartbeats 1000000 in
theorem c_set {n a b nb a2 b2 n2 k : Nat} {σ : tz_S} {turn : Int32} {v : Int} (hB : bSh σ a b nb) (hB2 : BigV σ a2 b2 n2 k v) (hn : 2000 ≤ n) (hk : k ≤ nb) (ht : k = 0 ∨ turn = 1 ∨ turn = -1) :
    gp (X0_set n (some a) (some a2) turn) σ (fun _ σ' => ∃ (f : Nat → Int32) (sg : Int32), σ' = bPut σ a b f k sg ∧ bN f k sg (v * turn.toInt)) := by
  have hnb := hB.2.2
  obtain ⟨c1, c2, c3, c4, c5, c6, c7, c8⟩ := hB2
  unfold X0_set
  refine gp_rI c1.1 rfl ?_
  rw [c3]
  refine gp_rR hB.1 rfl ?_
  refine gp_len hB.2.1 ?_
  rw [show (if nI nb < nI k then nI nb else nI k) = nI k by rw [if_neg]; rw [nI_ltI (by omega) (by have := c1.2.2; omega)]; omega]
  refine gp_wI hB.1 rfl ?_
  have e0 : tz_sF σ a 1 (nI k) = bPut σ a b (tz_A σ b) k (tz_F σ a 2) := by
    unfold bPut
    rw [tz_rowA_self]
    refine (tz_sF_self ?_).symm
    exact tz_u2_ne _ _ (Or.inr (by decide))
  rw [e0]
  generalize hs0 : tz_F σ a 2 = sa
  unfold X0_set_L18
  refine gp_loop (I := fun (τ : Int32) (σ' : tz_S) => ∃ (f : Nat → Int32) (i : Nat), σ' = bPut σ a b f k sa ∧ τ = nI i ∧ i ≤ k ∧ (∀ j, j < i → f j = tz_A σ b2 j) ∧ ∀ j, i ≤ j → f j = tz_A σ b j) (fun τ _ => 1000 - τ.toNatClampNeg) ?_ n _ _ ⟨tz_A σ b, 0, rfl, rfl, by omega, fun j h => absurd h (Nat.not_lt_zero _), fun j _ => rfl⟩ (by omega)
  rintro K l3 σ' ⟨f, i, rfl, rfl, hi, h1, h2⟩ hK
  show gp (X0_set_L18_body n (some a) (some a2) turn (fun l3 => K l3) (nI i)) (bPut σ a b f k sa) _
  unfold X0_set_L18_body
  have hB1 : tz_sh (bPut σ a b f k sa) a = some (.inl (0, [some (some b), none, none])) := hB.1
  have hB2 : tz_sh (bPut σ a b f k sa) b = some (.inr (0, nb)) := hB.2.1
  have hC1 : tz_sh (bPut σ a b f k sa) a2 = some (.inl (0, [some (some b2), none, none])) := c1.1
  have hC2 : tz_sh (bPut σ a b f k sa) b2 = some (.inr (0, n2)) := c1.2.1
  have hn2 := c1.2.2
  refine gp_rI hB1 rfl ?_
  rw [bPut_F1]
  refine gp_if (fun hc => ?_) (fun hc => ?_)
  · rw [nI_leI (by omega) (by omega)] at hc
    have hik : i = k := by omega
    subst hik
    refine gp_rI hC1 rfl ?_
    have e2 : tz_F (bPut σ a b f i sa) a2 2 = tz_F σ a2 2 := by
      by_cases h : a2 = a
      · rw [h, bPut_F2, hs0]
      · exact bPut_Fn h
    rw [e2]
    refine gp_wI hB1 rfl ?_
    rw [bPut_sg]
    refine gp_ret ⟨f, _, rfl, ?_⟩
    have hdd : ∀ j, j < i → dI f j = dI (tz_A σ b2) j := fun j hj => by show (f j).toInt = _; rw [h1 j hj]
    have hmul : (tz_F σ a2 2 * turn).toInt = (tz_F σ a2 2).toInt * turn.toInt ∧ (tz_F σ a2 2 * turn = 0 ∨ tz_F σ a2 2 * turn = 1 ∨ tz_F σ a2 2 * turn = -1) ∧ (tz_F σ a2 2 * turn = 0 ↔ i = 0) := by
      rcases ht with h | h | h
      · have : tz_F σ a2 2 = 0 := c7.mpr h
        rw [this]
        simp [h]
      · rw [h, Int32.mul_one]
        exact ⟨by rw [show (1 : Int32).toInt = 1 from rfl, Int.mul_one], c6, c7⟩
      · rw [h]
        rcases c6 with q | q | q
        · rw [q] at c7 ⊢
          exact ⟨by decide, by decide, by rw [← c7]; decide⟩
        · rw [q] at c7 ⊢
          exact ⟨by decide, by decide, by rw [← c7]; decide⟩
        · rw [q] at c7 ⊢
          exact ⟨by decide, by decide, by rw [← c7]; decide⟩
    refine ⟨fun j hj => by rw [hdd j hj]; exact c4 j hj, fun hp => by rw [hdd _ (by omega)]; exact c5 hp, hmul.2.1, hmul.2.2, ?_⟩
    rw [hmul.1, mg_congr hdd, c8]
    generalize (tz_F σ a2 2).toInt = p
    generalize mg (dI (tz_A σ b2)) i = q
    generalize turn.toInt = z
    rw [Int.mul_assoc, Int.mul_assoc, Int.mul_comm q z]
  · rw [nI_leI (by omega) (by omega)] at hc
    refine gp_rR hB1 rfl ?_
    refine gp_rR hC1 rfl ?_
    refine gp_aI (j := i) hC2 (by decide) (by omega) (by omega) rfl ?_
    have e3 : tz_A (bPut σ a b f k sa) b2 i = tz_A σ b2 i := by
      by_cases h : b2 = b
      · rw [h, bPut_A, h2 i (Nat.le_refl _)]
      · rw [bPut_An h]
    rw [e3]
    refine gp_sI (j := i) hB2 (by decide) (by omega) (by omega) rfl ?_
    rw [bPut_row]
    refine gp_let ?_
    rw [nI_1]
    refine hK _ _ ⟨_, i + 1, rfl, rfl, by omega, ?_, ?_⟩ (by rw [nI_clamp (by omega), nI_clamp (by omega)]; omega)
    · intro j hj
      by_cases hji : j = i
      · subst hji; exact pk_us
      · rw [pk_un hji]; exact h1 j (by omega)
    · intro j hj
      rw [pk_un (by omega)]
      exact h2 j (by omega)

/-- without the sign -/
theorem BigV_abs {σ : tz_S} {a b n k : Nat} {v : Int} (h : BigV σ a b n k v) : (v.natAbs : Int) = mg (dI (tz_A σ b)) k := by
  obtain ⟨-, -, -, h4, h5, h6, h7, h8⟩ := h
  have h0 := mg_nn (d := dI (tz_A σ b)) (k := k) (fun j hj => (h4 j hj).1)
  rcases h6 with q | q | q
  · have hk := h7.mp q
    subst hk
    rw [h8, q]
    show ((0 * mg _ 0 : Int).natAbs : Int) = 0
    simp
  · rw [h8, q, show (1 : Int32).toInt = 1 from rfl]
    omega
  · rw [h8, q, show (-1 : Int32).toInt = -1 from rfl]
    omega
theorem BigV_sign {σ : tz_S} {a b n k : Nat} {v : Int} (h : BigV σ a b n k v) : tz_F σ a 2 = isg v := by
  obtain ⟨-, -, -, h4, h5, h6, h7, h8⟩ := h
  rcases h6 with q | q | q
  · have hk := h7.mp q
    subst hk
    rw [h8, q]
    show (0 : Int32) = isg (0 * mg _ 0)
    simp [isg_zero]
  · have hk : 0 < k := Nat.pos_of_ne_zero (fun z => by rw [h7.mpr z] at q; exact absurd q (by decide))
    have hp := mg_pos (fun j hj => (h4 j hj).1) hk (h5 hk)
    rw [h8, q, show (1 : Int32).toInt = 1 from rfl, isg_pos (by omega)]
  · have hk : 0 < k := Nat.pos_of_ne_zero (fun z => by rw [h7.mpr z] at q; exact absurd q (by decide))
    have hp := mg_pos (fun j hj => (h4 j hj).1) hk (h5 hk)
    rw [h8, q, show (-1 : Int32).toInt = -1 from rfl, isg_neg (by omega)]
theorem BigV_len0 {σ : tz_S} {a b n k : Nat} {v : Int} (h : BigV σ a b n k v) : k = 0 ↔ v = 0 := by
  have hs := BigV_sign h
  obtain ⟨-, -, -, h4, h5, h6, h7, h8⟩ := h
  rw [← h7, hs]
  rcases isg_cases v with q | q | q <;> rw [q.2]
  · constructor
    · intro z; exact absurd z (by decide)
    · intro z; omega
  · constructor
    · intro z; exact absurd z (by decide)
    · intro z; omega
  · simp [q.1]
/-- how long a number is -/
theorem BigV_size {σ : tz_S} {a b n k : Nat} {v : Int} (h : BigV σ a b n k v) : (v.natAbs : Int) < 1000000000 ^ k ∧ (0 < k → 1000000000 ^ (k - 1) ≤ (v.natAbs : Int)) := by
  rw [BigV_abs h]
  obtain ⟨-, -, -, h4, h5, h6, h7, h8⟩ := h
  refine ⟨(mg_abs (d := dI (tz_A σ b)) (k := k) (fun j hj => ⟨by have := (h4 j hj).1; omega, (h4 j hj).2⟩)).2, fun hk => ?_⟩
  obtain ⟨m, rfl⟩ : ∃ m, k = m + 1 := ⟨k - 1, by omega⟩
  exact mg_ge (fun j hj => (h4 j hj).1) (by simpa using h5 hk)
theorem BigV_le {σ : tz_S} {a b n k m : Nat} {v : Int} (h : BigV σ a b n k v) (hv : (v.natAbs : Int) < 1000000000 ^ m) : k ≤ m := by
  rcases Nat.lt_or_ge m k with q | q
  · have h1 := (BigV_size h).2 (by omega)
    have h2 := mg_pmono (show m ≤ k - 1 by omega)
    omega
  · exact q
theorem c_limbAt {n a b nb k : Nat} {σ : tz_S} {v : Int} (hB : BigV σ a b nb k v) (i : Int32) : gp (X0_limbAt n (some a) i) σ (fun r σ' => σ' = σ ∧ r = if 0 ≤ i.toInt ∧ i.toInt < k then tz_A σ b i.toNatClampNeg else 0) := by
  obtain ⟨b1, b2, b3, b4⟩ := hB
  have hnb := b1.2.2
  unfold X0_limbAt X0_limbAt_b21 X0_limbAt_b22
  refine gp_if (fun h => ?_) (fun h => ?_)
  · rw [Int32.lt_iff_toInt_lt] at h
    have h : i.toInt < 0 := h
    exact gp_ret ⟨rfl, by rw [if_neg (by omega)]⟩
  · obtain ⟨j, hj, rfl⟩ := nI_of h
    refine gp_rI b1.1 rfl ?_
    rw [b3]
    refine gp_if (fun h2 => ?_) (fun h2 => ?_)
    · rw [nI_leI (by omega) (by omega)] at h2
      exact gp_ret ⟨rfl, by rw [if_neg (by rw [nI_toInt hj]; omega)]⟩
    · rw [nI_leI (by omega) (by omega)] at h2
      refine gp_rR b1.1 rfl ?_
      refine gp_aI (j := j) b1.2.1 (by decide) (by omega) (by omega) rfl ?_
      exact gp_ret ⟨rfl, by rw [if_pos (by rw [nI_toInt hj]; omega), nI_clamp hj]⟩
theorem c_isSmall {n a b nb k : Nat} {σ : tz_S} {v : Int} (hB : BigV σ a b nb k v) : gp (X0_isSmall n (some a)) σ (fun r σ' => σ' = σ ∧ r = if k ≤ 1 then 1 else 0) := by
  obtain ⟨b1, b2, b3, b4⟩ := hB
  have hnb := b1.2.2
  unfold X0_isSmall X0_isSmall_b13
  refine gp_rI b1.1 rfl ?_
  rw [b3]
  refine gp_if (fun h => ?_) (fun h => ?_)
  · rw [show (1 : Int32) = nI 1 from rfl, nI_ltI (by omega) (by omega)] at h
    exact gp_zz (Or.inl rfl) (gp_ret ⟨rfl, by rw [if_neg (by omega)]⟩)
  · rw [show (1 : Int32) = nI 1 from rfl, nI_ltI (by omega) (by omega)] at h
    exact gp_zz (Or.inr rfl) (gp_ret ⟨rfl, by rw [if_pos (by omega)]⟩)
theorem c_small {n a b nb k : Nat} {σ : tz_S} {v : Int} (hB : BigV σ a b nb k v) (hk : k ≤ 1) : gp (X0_small n (some a)) σ (fun r σ' => σ' = σ ∧ r.toInt = v) := by
  obtain ⟨b1, b2, b3, b4, b5, b6, b7, b8⟩ := hB
  have hnb := b1.2.2
  unfold X0_small X0_small_b24
  refine gp_rI b1.1 rfl ?_
  rw [b3]
  refine gp_if (fun h => ?_) (fun h => ?_)
  · rw [show (0 : Int32) = nI 0 from rfl, nI_eq (by omega) (by omega)] at h
    subst h
    refine gp_ret ⟨rfl, ?_⟩
    rw [b8, b7.mpr rfl]
    rfl
  · rw [show (0 : Int32) = nI 0 from rfl, nI_eq (by omega) (by omega)] at h
    have hk1 : k = 1 := by omega
    subst hk1
    refine gp_rI b1.1 rfl ?_
    refine gp_rR b1.1 rfl ?_
    refine gp_aI (j := 0) b1.2.1 (by decide) (by omega) (by omega) rfl ?_
    refine gp_ret ⟨rfl, ?_⟩
    have h0 := b4 0 (by decide)
    have e1 : (tz_F σ a 2).toInt64.toInt = (tz_F σ a 2).toInt := Int32.toInt_toInt64 _
    have e2 : (tz_A σ b 0).toInt64.toInt = dI (tz_A σ b) 0 := Int32.toInt_toInt64 _
    have hs : (tz_F σ a 2).toInt = 0 ∨ (tz_F σ a 2).toInt = 1 ∨ (tz_F σ a 2).toInt = -1 := by rcases b6 with q | q | q <;> rw [q] <;> decide
    have hb : -1000000000 < (tz_F σ a 2).toInt * dI (tz_A σ b) 0 ∧ (tz_F σ a 2).toInt * dI (tz_A σ b) 0 < 1000000000 := by
      generalize (tz_F σ a 2).toInt = s at hs ⊢
      rcases hs with q | q | q <;> rw [q] <;> omega
    rw [az_lmul (by rw [e1, e2]; omega) (by rw [e1, e2]; omega), e1, e2, b8]
    simp [mg]
theorem c_isOne {n a b nb k : Nat} {σ : tz_S} {v : Int} (hB : BigV σ a b nb k v) : gp (X0_isOne n (some a)) σ (fun r σ' => σ' = σ ∧ r = if v = 1 then 1 else 0) := by
  have hs := BigV_sign hB
  have hab := BigV_abs hB
  have hsz := BigV_size hB
  obtain ⟨b1, b2, b3, b4, b5, b6, b7, b8⟩ := hB
  have hnb := b1.2.2
  unfold X0_isOne X0_isOne_b29 X0_isOne_b30
  refine gp_rI b1.1 rfl ?_
  rw [b3]
  refine gp_if (fun h => ?_) (fun h => ?_)
  · rw [show (1 : Int32) = nI 1 from rfl, nI_eq (by omega) (by omega)] at h
    subst h
    have e : mg (dI (tz_A σ b)) 1 = dI (tz_A σ b) 0 := by simp [mg]
    rw [e] at hab
    refine gp_rR b1.1 rfl ?_
    refine gp_aI (j := 0) b1.2.1 (by decide) (by omega) (by omega) rfl ?_
    refine gp_if (fun h2 => ?_) (fun h2 => ?_)
    · have h3 : dI (tz_A σ b) 0 = 1 := by show (tz_A σ b 0).toInt = 1; rw [h2]; rfl
      refine gp_rI b1.1 rfl ?_
      rw [hs]
      refine gp_if (fun h4 => ?_) (fun h4 => ?_)
      · refine gp_zz (Or.inl rfl) (gp_ret ⟨rfl, ?_⟩)
        rw [if_neg]
        intro q
        rw [q] at h4
        exact absurd h4 (by decide)
      · refine gp_zz (Or.inr rfl) (gp_ret ⟨rfl, ?_⟩)
        rw [if_pos]
        rcases isg_cases v with q | q | q
        · omega
        · rw [q.2] at h4; exact absurd (show (-1 : Int32) ≤ 0 by decide) h4
        · rw [q.2] at h4; exact absurd (show (0 : Int32) ≤ 0 by decide) h4
    · refine gp_zz (Or.inl rfl) (gp_ret ⟨rfl, ?_⟩)
      rw [if_neg]
      intro q
      rw [q, show ((1 : Int).natAbs : Int) = 1 from rfl] at hab
      exact h2 (Int32.toInt_inj.mp hab.symm)
  · rw [show (1 : Int32) = nI 1 from rfl, nI_eq (by omega) (by omega)] at h
    refine gp_zz (Or.inl rfl) (gp_ret ⟨rfl, ?_⟩)
    rw [if_neg]
    intro q
    rw [q, show ((1 : Int).natAbs : Int) = 1 from rfl] at hsz
    rcases Nat.lt_or_ge k 1 with z | z
    · have : k = 0 := by omega
      subst this
      have := hsz.1
      simp at this
    · have h1 := hsz.2 (by omega)
      have h2 := mg_pmono (show 1 ≤ k - 1 by omega)
      rw [Int.pow_one] at h2
      omega
