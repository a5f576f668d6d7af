/-! ===== Division: scaleInto, takeAway ===== -/
theorem rg_12 (M s x c q r P : Int) (h : x * s + c = q * 1000000000 + r) : M * s - c * P + r * P + q * (P * 1000000000) = (M + x * P) * s := by grind
/-- a number times a scale, into a row of longs -/
theorem c_scaleInto {n w a b nb k m : Nat} {σ : tz_S} {v : Int} {s : Int64} (hw : tz_sh σ w = some (.inr (2, m))) (hm : m < 1000) (hB : BigV σ a b nb k v) (hn : 2000 ≤ n) (hk : k ≤ m) (hs : 0 < s.toInt ∧ s.toInt < 1000000000) :
    gp (X2_scaleInto n (some w) (some a) s) σ (fun _ σ' => ∃ (g : Nat → Int64) (c : Int), σ' = tz_rowL σ w g ∧ (∀ j, j < k → 0 ≤ dL g j ∧ dL g j < 1000000000) ∧ 0 ≤ c ∧ c < 1000000000 ∧ (k < m → dL g k = c) ∧ (∀ j, k < j → g j = tz_L σ w j) ∧ mg (dL g) k + c * 1000000000 ^ k = (v.natAbs : Int) * s.toInt) := by
  have hab := BigV_abs hB
  obtain ⟨b1, b2, b3, b4, -⟩ := hB
  have hnb := b1.2.2
  unfold X2_scaleInto X2_scaleInto_L6
  refine gp_loop (I := fun (τ : Int64 × Int32) (σ' : tz_S) => ∃ (g : Nat → Int64) (i : Nat), σ' = tz_rowL σ w g ∧ τ.2 = nI i ∧ i ≤ k ∧ (∀ j, j < i → 0 ≤ dL g j ∧ dL g j < 1000000000) ∧ (∀ j, i ≤ j → g j = tz_L σ w j) ∧ 0 ≤ τ.1.toInt ∧ τ.1.toInt < 1000000000 ∧ mg (dL g) i + τ.1.toInt * 1000000000 ^ i = mg (dI (tz_A σ b)) i * s.toInt) (fun τ _ => 1000 - τ.2.toNatClampNeg) ?_ n _ _ ⟨tz_L σ w, 0, (tz_rowL_self _ _).symm, rfl, Nat.zero_le _, fun j h => absurd h (Nat.not_lt_zero _), fun j _ => rfl, by show 0 ≤ (0 : Int64).toInt; decide, by show (0 : Int64).toInt < _; decide, by show 0 + 0 * _ = 0 * _; omega⟩ (by omega)
  rintro K ⟨c, l6⟩ σ' ⟨g, i, rfl, h6, hi, hg, hg2, hc1, hc2, hv⟩ hK
  simp only at h6 hc1 hc2 hv hK
  subst h6
  show gp (X2_scaleInto_L6_body n (some w) (some a) s (fun l4 l6 => K (l4, l6)) c (nI i)) (tz_rowL σ w g) _
  unfold X2_scaleInto_L6_body
  have hB1 : tz_sh (tz_rowL σ w g) a = some (.inl (0, [some (some b), none, none])) := b1.1
  have hB2 : tz_sh (tz_rowL σ w g) b = some (.inr (0, nb)) := b1.2.1
  have hW : tz_sh (tz_rowL σ w g) w = some (.inr (2, m)) := hw
  refine gp_rI hB1 rfl ?_
  rw [show tz_F (tz_rowL σ w g) a 1 = nI k from b3]
  refine gp_if (fun hc => ?_) (fun hc => ?_)
  · rw [nI_leI (by omega) (by omega)] at hc
    have hik : i = k := by omega
    subst hik
    unfold X2_scaleInto_b64 X2_scaleInto_b81
    refine gp_rI hB1 rfl ?_
    rw [show tz_F (tz_rowL σ w g) a 1 = nI i from b3]
    refine gp_len hW ?_
    refine gp_if (fun hc3 => ?_) (fun hc3 => ?_)
    · rw [nI_leI (by omega) (by omega)] at hc3
      exact gp_ret ⟨g, c.toInt, rfl, hg, hc1, hc2, fun h => absurd h (by omega), fun j hj => hg2 j (by omega), by rw [hv, hab]⟩
    · rw [nI_leI (by omega) (by omega)] at hc3
      refine gp_rI hB1 rfl ?_
      rw [show tz_F (tz_rowL σ w g) a 1 = nI i from b3]
      refine gp_sL (j := i) hW (by omega) (by omega) rfl ?_
      rw [tz_rowL_put]
      refine gp_ret ⟨vp_updL g i c, c.toInt, rfl, fun j hj => ?_, hc1, hc2, fun _ => ?_, fun j hj => ?_, ?_⟩
      · rw [dL_upd]; simp only [show ¬ j = i by omega, if_false]; exact hg j hj
      · rw [dL_upd]; simp only [if_true]
      · rw [pk_uLn (by omega)]; exact hg2 j (by omega)
      · rw [dL_upd, mg_congr (e := dL g) (fun j hj => if_neg (by omega)), hv, hab]
  · rw [nI_leI (by omega) (by omega)] at hc
    refine gp_len hW ?_
    refine gp_f (by rw [nI_leI (by omega) (by omega)]; omega) ?_
    refine gp_rR hB1 rfl ?_
    refine gp_aI (j := i) hB2 (by decide) (by omega) (by omega) rfl ?_
    rw [show tz_A (tz_rowL σ w g) b = tz_A σ b from rfl]
    refine gp_let ?_
    have hd := b4 i (by omega)
    have hmb := az_mulB (a := dI (tz_A σ b) i) (b := s.toInt) ⟨by omega, hd.2⟩ ⟨by omega, hs.2⟩
    have hmn : 0 ≤ dI (tz_A σ b) i * s.toInt := Int.mul_nonneg hd.1 (by omega)
    have e1 : (tz_A σ b i).toInt64.toInt = dI (tz_A σ b) i := Int32.toInt_toInt64 _
    have e2 : ((tz_A σ b i).toInt64 * s).toInt = dI (tz_A σ b) i * s.toInt := by rw [az_lmul (by rw [e1]; omega) (by rw [e1]; omega), e1]
    have e3 : ((tz_A σ b i).toInt64 * s + c).toInt = dI (tz_A σ b) i * s.toInt + c.toInt := by rw [az_ladd (by rw [e2]; omega) (by rw [e2]; omega), e2]
    obtain ⟨q, r, h1, h2, h3, h4, h5, h6, h7⟩ := az_lB ((tz_A σ b i).toInt64 * s + c)
    rw [e3] at h3 h6 h7
    refine gp_dvL az_B0 ?_
    generalize (tz_A σ b i).toInt64 * s + c = x at h1 h2 ⊢
    generalize x - x / 1000000000 * 1000000000 = y at h2 ⊢
    generalize x / 1000000000 = z at h1 ⊢
    obtain ⟨h8, h9⟩ := h6 (by omega)
    refine gp_sL (j := i) hW (by omega) (by omega) rfl ?_
    rw [tz_rowL_put]
    refine gp_let ?_
    rw [nI_1]
    refine hK (_, _) _ ⟨_, i + 1, rfl, rfl, by omega, ?_, ?_, ?_, ?_, ?_⟩ (by simp only; rw [nI_clamp (by omega), nI_clamp (by omega)]; omega)
    · intro j hj
      by_cases hji : j = i
      · subst hji; rw [dL_upd]; simp only [if_true]; rw [h2]; exact ⟨h8, h5⟩
      · rw [dL_upd]; simp only [hji, if_false]; exact hg j (by omega)
    · intro j hj
      rw [pk_uLn (by omega)]
      exact hg2 j (by omega)
    · simp only; rw [h1]; exact h9
    · simp only; rw [h1]; omega
    · simp only
      rw [h1, mg_ps]
      simp only [mg]
      rw [show dL (vp_updL g i y) i = r by rw [dL_upd]; simp only [if_true]; exact h2]
      rw [dL_upd, mg_congr (e := dL g) (fun j hj => if_neg (by omega))]
      have := rg_12 (mg (dI (tz_A σ b)) i) s.toInt (dI (tz_A σ b) i) c.toInt q r (1000000000 ^ i) h3
      rw [← hv] at this
      rw [← this]
      generalize mg (dL g) i = G
      generalize (1000000000 : Int) ^ i = P
      generalize q * (P * 1000000000) = Z1
      generalize r * P = Z2
      generalize c.toInt * P = Z3
      omega
/-- the window of work at 'at' -/
abbrev wn (g : Nat → Int64) (p : Nat) : Nat → Int := fun i => dL g (p + i)
theorem wn_upd {g : Nat → Int64} {p i : Nat} {x : Int64} : wn (vp_updL g (p + i) x) p = fun j => if j = i then x.toInt else wn g p j := by
  funext j
  show dL (vp_updL g (p + i) x) (p + j) = _
  rw [dL_upd]
  by_cases h : j = i
  · subst h; simp
  · simp only [h, if_false, show ¬ p + j = p + i by omega]
theorem rg_13 (M g v bo x w b2 P W Vv : Int) (h : M = W - g * Vv + bo * P) (h2 : x = w - g * v - bo + b2 * 1000000000) : M + x * P = W + w * P - g * (Vv + v * P) + b2 * (P * 1000000000) := by grind
theorem rg_14 (M x y c x' c2 P W Vv : Int) (h : M + c * P = W + Vv) (h2 : x' = x + y + c - c2 * 1000000000) : M + x' * P + c2 * (P * 1000000000) = W + x * P + (Vv + y * P) := by grind
set_option maxHeartbeats 2000000 in
/-- digit times the divisor is taken away; if that was one too much, it is put back once -/
theorem c_takeAway {n d N p m : Nat} {σ : tz_S} {g : Int64} {V W q : Int} (hd : dSh σ d N) (hn : 2000 ≤ n) (hm : p + m ≤ N) (hm0 : 0 < m)
    (hw : ∀ i, i ≤ m → 0 ≤ wn (tz_L σ (d + 9)) p i ∧ wn (tz_L σ (d + 9)) p i < 1000000000) (hv : ∀ i, i < m → 0 ≤ dL (tz_L σ (d + 10)) i ∧ dL (tz_L σ (d + 10)) i < 1000000000)
    (hW : mg (wn (tz_L σ (d + 9)) p) (m + 1) = W) (hV : mg (dL (tz_L σ (d + 10))) m = V) (hq1 : q * V ≤ W) (hq2 : W < q * V + V) (hg : g.toInt = q ∨ g.toInt = q + 1) (hg0 : 0 ≤ g.toInt ∧ g.toInt ≤ 1000000001) :
    gp (X2_takeAway n (some d) (nI p) (nI m) g) σ (fun r σ' => r.toInt = q ∧ ∃ w : Nat → Int64, σ' = tz_rowL σ (d + 9) w ∧ (∀ j, j < p → w j = tz_L σ (d + 9) j) ∧ (∀ j, p + m < j → w j = tz_L σ (d + 9) j) ∧ (∀ i, i ≤ m → 0 ≤ wn w p i ∧ wn w p i < 1000000000) ∧ mg (wn w p) (m + 1) = W - q * V) := by
  obtain ⟨d1, d2, d3, d4, d5, d6, d7, d8⟩ := hd
  have hVm := (mg_abs (d := dL (tz_L σ (d + 10))) (k := m) (fun j hj => ⟨by have := (hv j hj).1; omega, (hv j hj).2⟩)).2
  rw [hV] at hVm
  have hPm := mg_pw m
  have hne : d + 10 ≠ d + 9 := by omega
  unfold X2_takeAway X2_takeAway_L6
  refine gp_loop (I := fun (τ : Int64 × Int32) (σ' : tz_S) => ∃ (w : Nat → Int64) (k : Nat), σ' = tz_rowL σ (d + 9) w ∧ τ.2 = nI k ∧ k ≤ m ∧ (∀ j, (j < p ∨ p + k ≤ j) → w j = tz_L σ (d + 9) j) ∧ (∀ i, i < k → 0 ≤ wn w p i ∧ wn w p i < 1000000000) ∧ 0 ≤ τ.1.toInt ∧ τ.1.toInt ≤ 1000000002 ∧ mg (wn w p) k = mg (wn (tz_L σ (d + 9)) p) k - g.toInt * mg (dL (tz_L σ (d + 10))) k + τ.1.toInt * 1000000000 ^ k) (fun τ _ => 1000 - τ.2.toNatClampNeg) ?_ n _ _ ⟨tz_L σ (d + 9), 0, (tz_rowL_self _ _).symm, rfl, Nat.zero_le _, fun j _ => rfl, fun i h => absurd h (Nat.not_lt_zero _), by show 0 ≤ (0 : Int64).toInt; decide, by show (0 : Int64).toInt ≤ _; decide, by show 0 = 0 - _ * 0 + 0 * _; omega⟩ (by omega)
  rintro K ⟨bo, l7⟩ σ' ⟨w, k, rfl, h7, hk, hwo, hwk, hb1, hb2, hval⟩ hK
  simp only at h7 hb1 hb2 hval hK
  subst h7
  show gp (X2_takeAway_L6_body n (some d) (nI p) (nI m) g (fun l5 l7 => K (l5, l7)) bo (nI k)) (tz_rowL σ (d + 9) w) _
  unfold X2_takeAway_L6_body
  have hD1 : tz_sh (tz_rowL σ (d + 9) w) d = some (.inl (2, [some (some (d + 1)), some (some (d + 3)), some (some (d + 5)), some (some (d + 7)), some (some (d + 9)), some (some (d + 10))])) := d1
  have hD6 : tz_sh (tz_rowL σ (d + 9) w) (d + 9) = some (.inr (2, N + 1)) := d6
  have hD7 : tz_sh (tz_rowL σ (d + 9) w) (d + 10) = some (.inr (2, N)) := d7
  refine gp_if (fun hc => ?_) (fun hc => ?_)
  · rw [nI_leI (by omega) (by omega)] at hc
    have hkm : k = m := by omega
    subst hkm
    refine gp_rR hD1 rfl ?_
    refine gp_aL (j := p + k) hD6 (by omega) (by omega) (nI_add p k) ?_
    rw [tz_rowL_at]
    refine gp_sL (j := p + k) hD6 (by omega) (by omega) (nI_add p k) ?_
    rw [tz_rowL_put]
    have htop : w (p + k) = tz_L σ (d + 9) (p + k) := hwo _ (Or.inr (Nat.le_refl _))
    have hwt := hw k (Nat.le_refl _)
    have hwt2 : 0 ≤ (w (p + k)).toInt ∧ (w (p + k)).toInt < 1000000000 := by rw [htop]; exact hwt
    have et : (w (p + k) - bo).toInt = (w (p + k)).toInt - bo.toInt := az_lsub (by omega) (by omega)
    generalize hx : w (p + k) - bo = x at et ⊢
    have hD1' : ∀ w', tz_sh (tz_rowL σ (d + 9) w') d = some (.inl (2, [some (some (d + 1)), some (some (d + 3)), some (some (d + 5)), some (some (d + 7)), some (some (d + 9)), some (some (d + 10))])) := fun _ => d1
    have hD6' : ∀ w', tz_sh (tz_rowL σ (d + 9) w') (d + 9) = some (.inr (2, N + 1)) := fun _ => d6
    refine gp_rR (hD1' _) rfl ?_
    refine gp_aL (j := p + k) (hD6' _) (by omega) (by omega) (nI_add p k) ?_
    rw [tz_rowL_at, show vp_updL w (p + k) x (p + k) = x from pk_uLs]
    -- the whole window now
    have hWk : mg (wn (tz_L σ (d + 9)) p) k + (w (p + k)).toInt * 1000000000 ^ k = W := by
      rw [← hW, htop]
      rfl
    have htot : mg (wn w p) k + x.toInt * 1000000000 ^ k = W - g.toInt * V := by
      rw [hval, hV, et, ← hWk]
      generalize mg (wn (tz_L σ (d + 9)) p) k = M1
      rw [Int.sub_mul]
      omega
    have hlo := mg_nn (d := wn w p) (k := k) (fun j hj => (hwk j hj).1)
    have hhi := (mg_abs (d := wn w p) (k := k) (fun j hj => ⟨by have := (hwk j hj).1; omega, (hwk j hj).2⟩)).2
    have hxr : ∀ i, i < k → wn (vp_updL w (p + k) x) p i = wn w p i := fun i hi => by rw [wn_upd]; simp only [show ¬ i = k by omega, if_false]
    refine gp_if (fun hneg => ?_) (fun hneg => ?_)
    · rw [lg_cmp_lt, Int64.lt_iff_toInt_lt] at hneg
      have hneg : x.toInt < 0 := hneg
      have hxm : x.toInt * 1000000000 ^ k ≤ (-1) * 1000000000 ^ k := Int.mul_le_mul_of_nonneg_right (by omega) (by omega)
      have hgq : g.toInt = q + 1 := by
        rcases hg with h | h
        · rw [h] at htot; omega
        · exact h
      rw [hgq, Int.add_mul] at htot
      -- put back
      unfold X2_takeAway_L117
      refine gp_loop (I := fun (τ : Int64 × Int32) (σ' : tz_S) => ∃ (w2 : Nat → Int64) (i : Nat), σ' = tz_rowL σ (d + 9) w2 ∧ τ.2 = nI i ∧ i ≤ k ∧ (∀ j, (j < p ∨ p + i ≤ j) → w2 j = vp_updL w (p + k) x j) ∧ (∀ j, j < i → 0 ≤ wn w2 p j ∧ wn w2 p j < 1000000000) ∧ (τ.1.toInt = 0 ∨ τ.1.toInt = 1) ∧ mg (wn w2 p) i + τ.1.toInt * 1000000000 ^ i = mg (wn w p) i + mg (dL (tz_L σ (d + 10))) i) (fun τ _ => 1000 - τ.2.toNatClampNeg) ?_ n _ _ ⟨_, 0, rfl, rfl, Nat.zero_le _, fun j _ => rfl, fun j h => absurd h (Nat.not_lt_zero _), Or.inl rfl, by show 0 + 0 * _ = 0 + 0; omega⟩ (by omega)
      rintro K2 ⟨ca, l9⟩ σ' ⟨w2, i, rfl, h9, hi, hwo2, hwk2, hca, hval2⟩ hK2
      simp only at h9 hca hval2 hK2
      subst h9
      show gp (X2_takeAway_L117_body n (some d) (nI p) (nI k) g (fun l7 l9 => K2 (l7, l9)) ca (nI i)) (tz_rowL σ (d + 9) w2) _
      unfold X2_takeAway_L117_body
      refine gp_if (fun hc2 => ?_) (fun hc2 => ?_)
      · rw [nI_leI (by omega) (by omega)] at hc2
        have hik : i = k := by omega
        subst hik
        refine gp_rR (hD1' _) rfl ?_
        refine gp_aL (j := p + i) (hD6' _) (by omega) (by omega) (nI_add p i) ?_
        rw [tz_rowL_at]
        refine gp_sL (j := p + i) (hD6' _) (by omega) (by omega) (nI_add p i) ?_
        rw [tz_rowL_put]
        have hxt : w2 (p + i) = x := by rw [hwo2 _ (Or.inr (Nat.le_refl _))]; exact pk_uLs
        rw [hxt]
        have hlo2 := mg_nn (d := wn w2 p) (k := i) (fun j hj => (hwk2 j hj).1)
        have hhi2 := (mg_abs (d := wn w2 p) (k := i) (fun j hj => ⟨by have := (hwk2 j hj).1; omega, (hwk2 j hj).2⟩)).2
        have exc : (x + ca).toInt = x.toInt + ca.toInt := az_ladd (by omega) (by omega)
        have htot2 : mg (wn w2 p) i + (x.toInt + ca.toInt) * 1000000000 ^ i = W - q * V := by
          rw [Int.add_mul]
          rw [hV] at hval2
          omega
        have hz : x.toInt + ca.toInt = 0 := by
          rcases Int.lt_trichotomy (x.toInt + ca.toInt) 0 with h | h | h
          · have : (x.toInt + ca.toInt) * 1000000000 ^ i ≤ (-1) * 1000000000 ^ i := Int.mul_le_mul_of_nonneg_right (by omega) (by omega)
            omega
          · exact h
          · have : 1 * 1000000000 ^ i ≤ (x.toInt + ca.toInt) * 1000000000 ^ i := Int.mul_le_mul_of_nonneg_right (by omega) (by omega)
            omega
        have egm : (g - 1).toInt = q := by
          rw [az_lsub (by rw [show (1 : Int64).toInt = 1 from rfl]; omega) (by rw [show (1 : Int64).toInt = 1 from rfl]; omega), hgq, show (1 : Int64).toInt = 1 from rfl]
          omega
        generalize hy : x + ca = y at exc ⊢
        refine gp_ret ⟨egm, vp_updL w2 (p + i) y, rfl, fun j hj => ?_, fun j hj => ?_, fun j hj => ?_, ?_⟩
        · rw [pk_uLn (by omega), hwo2 j (Or.inl hj), pk_uLn (by omega)]; exact hwo j (Or.inl hj)
        · rw [pk_uLn (by omega), hwo2 j (Or.inr (by omega)), pk_uLn (by omega)]; exact hwo j (Or.inr (by omega))
        · rw [wn_upd]
          by_cases hji : j = i
          · simp only [hji, if_true]; rw [exc, hz]; decide
          · simp only [hji, if_false]; exact hwk2 j (by omega)
        · show mg _ i + wn _ p i * 1000000000 ^ i = _
          rw [← htot2, wn_upd]
          simp only [if_true]
          rw [exc, mg_congr (e := wn w2 p) (fun j hj => if_neg (by omega))]
      · rw [nI_leI (by omega) (by omega)] at hc2
        refine gp_rR (hD1' _) rfl ?_
        refine gp_aL (j := p + i) (hD6' _) (by omega) (by omega) (nI_add p i) ?_
        rw [tz_rowL_at]
        refine gp_rR (hD1' _) rfl ?_
        refine gp_aL (j := i) (show tz_sh (tz_rowL σ (d + 9) w2) (d + 10) = some (.inr (2, N)) from d7) (by omega) (by omega) rfl ?_
        rw [tz_rowL_ne _ _ hne]
        refine gp_let ?_
        have hwi : w2 (p + i) = w (p + i) := by rw [hwo2 _ (Or.inr (Nat.le_refl _)), pk_uLn (by omega)]
        have h1 := hwk i (by omega)
        have h2 : 0 ≤ (tz_L σ (d + 10) i).toInt ∧ (tz_L σ (d + 10) i).toInt < 1000000000 := hv i (by omega)
        have h1' : 0 ≤ (w2 (p + i)).toInt ∧ (w2 (p + i)).toInt < 1000000000 := by rw [hwi]; exact h1
        have e1 : (w2 (p + i) + tz_L σ (d + 10) i).toInt = (w2 (p + i)).toInt + (tz_L σ (d + 10) i).toInt := az_ladd (by omega) (by omega)
        have e2 : (w2 (p + i) + tz_L σ (d + 10) i + ca).toInt = (w2 (p + i)).toInt + (tz_L σ (d + 10) i).toInt + ca.toInt := by rw [az_ladd (by rw [e1]; omega) (by rw [e1]; omega), e1]
        generalize w2 (p + i) + tz_L σ (d + 10) i + ca = y at e2 ⊢
        have step : ∀ c2 : Int64, (c2.toInt = 0 ∨ c2.toInt = 1) → 0 ≤ y.toInt - c2.toInt * 1000000000 → y.toInt - c2.toInt * 1000000000 < 1000000000 → gp (X2_takeAway_b159 n (fun l7 l9 => K2 (l7, l9)) (some d) (nI p) (nI k) g (nI i) y c2) (tz_rowL σ (d + 9) w2) (fun r σ' => r.toInt = q ∧ ∃ w : Nat → Int64, σ' = tz_rowL σ (d + 9) w ∧ (∀ j, j < p → w j = tz_L σ (d + 9) j) ∧ (∀ j, p + k < j → w j = tz_L σ (d + 9) j) ∧ (∀ i, i ≤ k → 0 ≤ wn w p i ∧ wn w p i < 1000000000) ∧ mg (wn w p) (k + 1) = W - q * V) := by
          intro c2 hc2' hy1 hy2
          unfold X2_takeAway_b159
          refine gp_rR (hD1' _) rfl ?_
          refine gp_sL (j := p + i) (hD6' _) (by omega) (by omega) (nI_add p i) ?_
          rw [tz_rowL_put]
          refine gp_let ?_
          rw [nI_1]
          have f1 : (c2 * 1000000000).toInt = c2.toInt * 1000000000 := by rw [az_lmul (by rw [az_B]; omega) (by rw [az_B]; omega), az_B]
          have f2 : (y - c2 * 1000000000).toInt = y.toInt - c2.toInt * 1000000000 := by rw [az_lsub (by rw [f1]; omega) (by rw [f1]; omega), f1]
          generalize y - c2 * 1000000000 = z at f2 ⊢
          refine hK2 (_, _) _ ⟨_, i + 1, rfl, rfl, by omega, ?_, ?_, hc2', ?_⟩ (by simp only; rw [nI_clamp (by omega), nI_clamp (by omega)]; omega)
          · intro j hj
            rw [pk_uLn (by omega)]
            exact hwo2 j (by omega)
          · intro j hj
            rw [wn_upd]
            by_cases hji : j = i
            · simp only [hji, if_true]; rw [f2]; exact ⟨hy1, hy2⟩
            · simp only [hji, if_false]; exact hwk2 j (by omega)
          · simp only
            rw [mg_ps]
            simp only [mg]
            rw [show wn (vp_updL w2 (p + i) z) p i = z.toInt by rw [wn_upd]; simp only [if_true]]
            rw [wn_upd, mg_congr (e := wn w2 p) (fun j hj => if_neg (by omega))]
            exact rg_14 _ (wn w p i) _ _ _ _ _ _ _ hval2 (by rw [f2, e2, hwi])
        refine gp_if (fun hlt => ?_) (fun hlt => ?_)
        · rw [lg_cmp_lt, Int64.lt_iff_toInt_lt, az_B] at hlt
          exact step 0 (Or.inl rfl) (by show 0 ≤ y.toInt - 0 * _; omega) (by show y.toInt - 0 * _ < _; omega)
        · rw [lg_cmp_lt, Int64.lt_iff_toInt_lt, az_B] at hlt
          exact step 1 (Or.inr rfl) (by show 0 ≤ y.toInt - 1 * _; omega) (by show y.toInt - 1 * _ < _; omega)
    · rw [lg_cmp_lt, Int64.lt_iff_toInt_lt] at hneg
      have hneg : ¬ x.toInt < 0 := hneg
      have hxm : 0 ≤ x.toInt * 1000000000 ^ k := Int.mul_nonneg (by omega) (by omega)
      have hgq : g.toInt = q := by
        rcases hg with h | h
        · exact h
        · rw [h, Int.add_mul] at htot; omega
      rw [hgq] at htot
      have hz : x.toInt = 0 := by
        rcases Int.lt_or_le 0 x.toInt with h | h
        · have : 1 * 1000000000 ^ k ≤ x.toInt * 1000000000 ^ k := Int.mul_le_mul_of_nonneg_right (by omega) (by omega)
          omega
        · omega
      refine gp_ret ⟨hgq, _, rfl, fun j hj => ?_, fun j hj => ?_, fun j hj => ?_, ?_⟩
      · rw [pk_uLn (by omega)]; exact hwo j (Or.inl hj)
      · rw [pk_uLn (by omega)]; exact hwo j (Or.inr (by omega))
      · rw [wn_upd]
        by_cases hji : j = k
        · simp only [hji, if_true]; rw [hz]; decide
        · simp only [hji, if_false]; exact hwk j (by omega)
      · show mg _ k + wn _ p k * 1000000000 ^ k = _
        rw [← htot, wn_upd]
        simp only [if_true]
        rw [mg_congr (e := wn w p) (fun j hj => if_neg (by omega))]
  · rw [nI_leI (by omega) (by omega)] at hc
    refine gp_rR hD1 rfl ?_
    refine gp_aL (j := p + k) hD6 (by omega) (by omega) (nI_add p k) ?_
    rw [tz_rowL_at]
    refine gp_rR hD1 rfl ?_
    refine gp_aL (j := k) hD7 (by omega) (by omega) rfl ?_
    rw [tz_rowL_ne _ _ hne]
    refine gp_let ?_
    have hwi : w (p + k) = tz_L σ (d + 9) (p + k) := hwo _ (Or.inr (Nat.le_refl _))
    have h1 := hw k (by omega)
    have h1' : 0 ≤ (w (p + k)).toInt ∧ (w (p + k)).toInt < 1000000000 := by rw [hwi]; exact h1
    have h2 : 0 ≤ (tz_L σ (d + 10) k).toInt ∧ (tz_L σ (d + 10) k).toInt < 1000000000 := hv k (by omega)
    have hgv : 0 ≤ g.toInt * (tz_L σ (d + 10) k).toInt ∧ g.toInt * (tz_L σ (d + 10) k).toInt ≤ 1000000000000000000 := by
      refine ⟨Int.mul_nonneg hg0.1 h2.1, ?_⟩
      have : g.toInt * (tz_L σ (d + 10) k).toInt ≤ 1000000001 * 999999999 := Int.mul_le_mul hg0.2 (by omega) h2.1 (by decide)
      omega
    have e1 : (g * tz_L σ (d + 10) k).toInt = g.toInt * (tz_L σ (d + 10) k).toInt := az_lmul (by omega) (by omega)
    have e2 : (w (p + k) - g * tz_L σ (d + 10) k).toInt = (w (p + k)).toInt - g.toInt * (tz_L σ (d + 10) k).toInt := by rw [az_lsub (by rw [e1]; omega) (by rw [e1]; omega), e1]
    have e3 : (w (p + k) - g * tz_L σ (d + 10) k - bo).toInt = (w (p + k)).toInt - g.toInt * (tz_L σ (d + 10) k).toInt - bo.toInt := by rw [az_lsub (by rw [e2]; omega) (by rw [e2]; omega), e2]
    generalize w (p + k) - g * tz_L σ (d + 10) k - bo = y at e3 ⊢
    have step : ∀ c2 : Int64, 0 ≤ c2.toInt → c2.toInt ≤ 1000000002 → 0 ≤ y.toInt + c2.toInt * 1000000000 → y.toInt + c2.toInt * 1000000000 < 1000000000 → gp (X2_takeAway_b57 n (fun l5 l7 => K (l5, l7)) (some d) (nI p) (nI m) g (nI k) y c2) (tz_rowL σ (d + 9) w) (fun r σ' => r.toInt = q ∧ ∃ w : Nat → Int64, σ' = tz_rowL σ (d + 9) w ∧ (∀ j, j < p → w j = tz_L σ (d + 9) j) ∧ (∀ j, p + m < j → w j = tz_L σ (d + 9) j) ∧ (∀ i, i ≤ m → 0 ≤ wn w p i ∧ wn w p i < 1000000000) ∧ mg (wn w p) (m + 1) = W - q * V) := by
      intro c2 c21 c22 hy1 hy2
      unfold X2_takeAway_b57
      refine gp_rR hD1 rfl ?_
      refine gp_sL (j := p + k) hD6 (by omega) (by omega) (nI_add p k) ?_
      rw [tz_rowL_put]
      refine gp_let ?_
      rw [nI_1]
      have f1 : (c2 * 1000000000).toInt = c2.toInt * 1000000000 := by rw [az_lmul (by rw [az_B]; omega) (by rw [az_B]; omega), az_B]
      have f2 : (y + c2 * 1000000000).toInt = y.toInt + c2.toInt * 1000000000 := by rw [az_ladd (by rw [f1]; omega) (by rw [f1]; omega), f1]
      generalize y + c2 * 1000000000 = z at f2 ⊢
      refine hK (_, _) _ ⟨_, k + 1, rfl, rfl, by omega, ?_, ?_, c21, c22, ?_⟩ (by simp only; rw [nI_clamp (by omega), nI_clamp (by omega)]; omega)
      · intro j hj
        rw [pk_uLn (by omega)]
        exact hwo j (by omega)
      · intro j hj
        rw [wn_upd]
        by_cases hji : j = k
        · simp only [hji, if_true]; rw [f2]; exact ⟨hy1, hy2⟩
        · simp only [hji, if_false]; exact hwk j (by omega)
      · simp only
        rw [mg_ps]
        simp only [mg]
        rw [show wn (vp_updL w (p + k) z) p k = z.toInt by rw [wn_upd]; simp only [if_true]]
        rw [wn_upd, mg_congr (e := wn w p) (fun j hj => if_neg (by omega))]
        exact rg_13 _ _ _ _ _ _ _ _ _ _ hval (by rw [f2, e3, hwi])
    refine gp_if (fun hlt => ?_) (fun hlt => ?_)
    · rw [lg_cmp_ge, Int64.le_iff_toInt_le] at hlt
      have hlt : 0 ≤ y.toInt := hlt
      exact step 0 (by decide) (by decide) (by show 0 ≤ y.toInt + 0 * _; omega) (by show y.toInt + 0 * _ < _; omega)
    · rw [lg_cmp_ge, Int64.le_iff_toInt_le] at hlt
      have hlt : ¬ 0 ≤ y.toInt := hlt
      refine gp_dvL az_B0 ?_
      have f0 : (999999999 : Int64).toInt = 999999999 := by decide
      have f1 : (999999999 - y).toInt = 999999999 - y.toInt := by rw [az_lsub (by rw [f0]; omega) (by rw [f0]; omega), f0]
      generalize (999999999 - y) = u at f1 ⊢
      obtain ⟨qq, r, z1, -, z3, z4, z5, z6, -⟩ := az_lB u
      generalize u / 1000000000 = c2 at z1 ⊢
      rw [f1] at z3 z6
      obtain ⟨z7, z8⟩ := z6 (by omega)
      exact step c2 (by rw [z1]; exact z8) (by rw [z1]; omega) (by rw [z1]; omega) (by rw [z1]; omega)
