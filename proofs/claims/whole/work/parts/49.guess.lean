/-! ===== Division: guessDigit ===== -/
theorem rg_15 (g v1 v2 w1 w0 w2 ov : Int) (h : w1 * 1000000000 + w0 = g * v1 + ov) : g * (v1 * 1000000000 + v2) + (ov * 1000000000 + w2 - g * v2) = (w1 * 1000000000 + w0) * 1000000000 + w2 := by grind
theorem kn_lt {G o x W : Int} (h : G + (o - x) = W) (h2 : o < x) : W < G := by omega
theorem kn_le {G o x W : Int} (h : G + (o - x) = W) (h2 : x ≤ o) : G ≤ W := by omega
theorem rg_16 (X a b P : Int) : X + a * P + b * (P * 1000000000) = (b * 1000000000 + a) * P + X := by grind
theorem rg_17 (X a b c P : Int) : X + a * P + b * (P * 1000000000) + c * (P * 1000000000 * 1000000000) = ((c * 1000000000 + b) * 1000000000 + a) * P + X := by grind
theorem rg_18 (X a b P : Int) : (b * 1000000000 + a) * P + X = b * (1000000000 * P) + (a * P + X) := by grind
theorem rg_19 (X a u P : Int) : (u * 1000000000 + a) * P + X = u * (1000000000 * P) + (a * P + X) := by grind
/-- q is at most any guess that is too great for the three highest limbs, less one -/
theorem kn_dec {V3 W3 V'' W'' V W q g P : Int} (hP : 0 < P) (hV : V = V3 * P + V'') (hW : W = W3 * P + W'') (hV0 : 0 ≤ V'') (hW1 : W'' < P) (hq : q * V ≤ W) (hg0 : 0 ≤ g) (hg : W3 < g * V3) (hVp : 0 < V) : q < g := by
  rcases Int.lt_or_le q g with h | h
  · exact h
  · have h1 : g * V ≤ q * V := Int.mul_le_mul_of_nonneg_right h (by omega)
    have h2 : (W3 + 1) * P ≤ g * V3 * P := Int.mul_le_mul_of_nonneg_right (by omega) (by omega)
    have h3 : 0 ≤ g * V'' := Int.mul_nonneg hg0 hV0
    have h4 : g * V = g * V3 * P + g * V'' := by rw [hV, Int.mul_add, Int.mul_assoc]
    rw [Int.add_mul] at h2
    omega
/-- a guess that isn't too great for the three highest limbs is at most one too great -/
theorem kn_stop {V3 W3 V'' W'' V W q g P : Int} (hP : 0 < P) (hV : V = V3 * P + V'') (hW : W = W3 * P + W'') (hV1 : V'' < P) (hW0 : 0 ≤ W'') (hq : W < q * V + V) (hg0 : 0 ≤ g) (hg1 : g ≤ V3) (hg : g * V3 ≤ W3) (hVp : 0 < V) (hV0 : 0 ≤ V'') : g ≤ q + 1 := by
  rcases Int.lt_or_le (q + 1) g with h | h
  · have h1 : (q + 2) * V ≤ g * V := Int.mul_le_mul_of_nonneg_right (by omega) (by omega)
    have h2 : g * V3 * P ≤ W3 * P := Int.mul_le_mul_of_nonneg_right hg (by omega)
    have h3 : g * V'' ≤ V3 * P := Int.mul_le_mul hg1 (by omega) hV0 (by omega)
    rw [Int.add_mul] at h1
    have h4 : g * V = g * V3 * P + g * V'' := by rw [hV, Int.mul_add, Int.mul_assoc]
    omega
  · omega
/-- the first guess is at least q -/
theorem kn_ge {v1 U V'' W'' V W q g P : Int} (hP : 0 < P) (hV : V = v1 * P + V'') (hW : W = U * P + W'') (hV0 : 0 ≤ V'') (hW1 : W'' < P) (hq : q * V ≤ W) (hq0 : 0 ≤ q) (hg : U < g * v1 + v1) (hv1 : 0 < v1) : q ≤ g := by
  rcases Int.lt_or_le g q with h | h
  · have h1 : (g + 1) * v1 ≤ q * v1 := Int.mul_le_mul_of_nonneg_right (by omega) (by omega)
    rw [Int.add_mul] at h1
    have h2 : (U + 1) * P ≤ q * v1 * P := Int.mul_le_mul_of_nonneg_right (by omega) (by omega)
    have h3 : 0 ≤ q * V'' := Int.mul_nonneg hq0 hV0
    rw [hV, Int.mul_add, ← Int.mul_assoc] at hq
    rw [Int.add_mul] at h2
    omega
  · exact h
/-- and at most two too great -/
theorem kn_two {v1 U V'' W'' V W q g P : Int} (hP : 0 < P) (hV : V = v1 * P + V'') (hW : W = U * P + W'') (hV1 : V'' < P) (hW0 : 0 ≤ W'') (hq : W < q * V + V) (hq0 : 0 ≤ q) (hqB : q < 1000000000) (hg : g * v1 ≤ U) (hv1 : 500000000 ≤ v1) : g ≤ q + 2 := by
  rcases Int.lt_or_le (q + 2) g with h | h
  · have h1 : (q + 3) * v1 ≤ g * v1 := Int.mul_le_mul_of_nonneg_right (by omega) (by omega)
    have h2 : g * v1 * P ≤ U * P := Int.mul_le_mul_of_nonneg_right hg (by omega)
    have h3 : (q + 1) * V ≤ (q + 1) * (v1 * P + P) := Int.mul_le_mul_of_nonneg_left (by omega) (by omega)
    have h4 : (q + 3) * v1 * P ≤ g * v1 * P := Int.mul_le_mul_of_nonneg_right h1 (by omega)
    have h5 : (q + 1) * P ≤ 2 * v1 * P := Int.mul_le_mul_of_nonneg_right (by omega) (by omega)
    have e1 : (q + 3) * v1 * P = (q + 1) * (v1 * P) + 2 * v1 * P := by grind
    have e2 : (q + 1) * (v1 * P + P) = (q + 1) * (v1 * P) + (q + 1) * P := by grind
    have e3 : (q + 1) * V = q * V + V := by grind
    omega
  · exact h
set_option maxHeartbeats 2000000 in
theorem c_guess {n d N p m : Nat} {σ : tz_S} {V W q : Int} (hd : dSh σ d N) (hn : 2000 ≤ n) (hm : p + (m + 2) ≤ N)
    (hw : ∀ i, i ≤ m + 2 → 0 ≤ wn (tz_L σ (d + 9)) p i ∧ wn (tz_L σ (d + 9)) p i < 1000000000) (hv : ∀ i, i < m + 2 → 0 ≤ dL (tz_L σ (d + 10)) i ∧ dL (tz_L σ (d + 10)) i < 1000000000)
    (hW : mg (wn (tz_L σ (d + 9)) p) (m + 2 + 1) = W) (hV : mg (dL (tz_L σ (d + 10))) (m + 2) = V) (hv1 : 500000000 ≤ dL (tz_L σ (d + 10)) (m + 1)) (hq1 : q * V ≤ W) (hq2 : W < q * V + V) (hq0 : 0 ≤ q) (hqB : q < 1000000000) :
    gp (X2_guessDigit n (some d) (nI p) (nI (m + 2))) σ (fun r σ' => σ' = σ ∧ (r.toInt = q ∨ r.toInt = q + 1) ∧ 0 ≤ r.toInt) := by
  obtain ⟨d1, d2, d3, d4, d5, d6, d7, d8⟩ := hd
  -- the limbs
  have a1 : 0 ≤ (tz_L σ (d + 10) (m + 1)).toInt ∧ (tz_L σ (d + 10) (m + 1)).toInt < 1000000000 := hv (m + 1) (by omega)
  have a2 : 0 ≤ (tz_L σ (d + 10) m).toInt ∧ (tz_L σ (d + 10) m).toInt < 1000000000 := hv m (by omega)
  have b1 : 0 ≤ (tz_L σ (d + 9) (p + (m + 2))).toInt ∧ (tz_L σ (d + 9) (p + (m + 2))).toInt < 1000000000 := hw (m + 2) (by omega)
  have b0 : 0 ≤ (tz_L σ (d + 9) (p + (m + 1))).toInt ∧ (tz_L σ (d + 9) (p + (m + 1))).toInt < 1000000000 := hw (m + 1) (by omega)
  have b2 : 0 ≤ (tz_L σ (d + 9) (p + m)).toInt ∧ (tz_L σ (d + 9) (p + m)).toInt < 1000000000 := hw m (by omega)
  have hv1' : 500000000 ≤ (tz_L σ (d + 10) (m + 1)).toInt := hv1
  have hlV := mg_nn (d := dL (tz_L σ (d + 10))) (k := m) (fun j hj => (hv j (by omega)).1)
  have hhV := (mg_abs (d := dL (tz_L σ (d + 10))) (k := m) (fun j hj => ⟨by have := (hv j (by omega)).1; omega, (hv j (by omega)).2⟩)).2
  have hlW := mg_nn (d := wn (tz_L σ (d + 9)) p) (k := m) (fun j hj => (hw j (by omega)).1)
  have hhW := (mg_abs (d := wn (tz_L σ (d + 9)) p) (k := m) (fun j hj => ⟨by have := (hw j (by omega)).1; omega, (hw j (by omega)).2⟩)).2
  have hP := mg_pw m
  have eV : V = ((tz_L σ (d + 10) (m + 1)).toInt * 1000000000 + (tz_L σ (d + 10) m).toInt) * 1000000000 ^ m + mg (dL (tz_L σ (d + 10))) m := by
    rw [← hV]
    show mg _ m + (tz_L σ (d + 10) m).toInt * 1000000000 ^ m + (tz_L σ (d + 10) (m + 1)).toInt * 1000000000 ^ (m + 1) = _
    rw [mg_ps]
    exact rg_16 _ _ _ _
  have eW : W = (((tz_L σ (d + 9) (p + (m + 2))).toInt * 1000000000 + (tz_L σ (d + 9) (p + (m + 1))).toInt) * 1000000000 + (tz_L σ (d + 9) (p + m)).toInt) * 1000000000 ^ m + mg (wn (tz_L σ (d + 9)) p) m := by
    rw [← hW]
    show mg _ m + (tz_L σ (d + 9) (p + m)).toInt * 1000000000 ^ m + (tz_L σ (d + 9) (p + (m + 1))).toInt * 1000000000 ^ (m + 1) + (tz_L σ (d + 9) (p + (m + 2))).toInt * 1000000000 ^ (m + 1 + 1) = _
    rw [mg_ps, mg_ps]
    exact rg_17 _ _ _ _ _
  unfold X2_guessDigit
  refine gp_rR d1 rfl ?_
  refine gp_aL (j := m + 1) d7 (by omega) (by omega) (nI_pred (m + 1)) ?_
  refine gp_t (by rw [lg_cmp_gt, Int64.lt_iff_toInt_lt]; show 0 < (tz_L σ (d + 10) (m + 1)).toInt; omega) ?_
  refine gp_rR d1 rfl ?_
  refine gp_aL (j := p + (m + 2)) d6 (by omega) (by omega) (nI_add p (m + 2)) ?_
  refine gp_rR d1 rfl ?_
  refine gp_aL (j := p + (m + 1)) d6 (by omega) (by omega) (by rw [nI_add]; exact nI_pred (p + (m + 1))) ?_
  generalize tz_L σ (d + 10) (m + 1) = v1 at *
  generalize hv2 : tz_L σ (d + 10) m = v2 at *
  generalize tz_L σ (d + 9) (p + (m + 2)) = w1 at *
  generalize tz_L σ (d + 9) (p + (m + 1)) = w0 at *
  generalize hw2 : tz_L σ (d + 9) (p + m) = w2 at *
  generalize mg (dL (tz_L σ (d + 10))) m = V'' at *
  generalize mg (wn (tz_L σ (d + 9)) p) m = W'' at *
  generalize (1000000000 : Int) ^ m = P at *
  clear hw hv hW hV hv1
  have hVp : 0 < V := by
    have : 1 * P ≤ (v1.toInt * 1000000000 + v2.toInt) * P := Int.mul_le_mul_of_nonneg_right (by omega) (by omega)
    omega
  -- V and W by their highest limb, by their two highest
  have eV1 : V = v1.toInt * (1000000000 * P) + (v2.toInt * P + V'') := by rw [eV]; exact rg_18 _ _ _ _
  have eW1 : W = (w1.toInt * 1000000000 + w0.toInt) * (1000000000 * P) + (w2.toInt * P + W'') := by rw [eW]; exact rg_19 _ _ _ _
  have hlo1 : 0 ≤ v2.toInt * P := Int.mul_nonneg a2.1 (by omega)
  have hhi1 : v2.toInt * P ≤ 999999999 * P := Int.mul_le_mul_of_nonneg_right (by omega) (by omega)
  have hlo2 : 0 ≤ w2.toInt * P := Int.mul_nonneg b2.1 (by omega)
  have hhi2 : w2.toInt * P ≤ 999999999 * P := Int.mul_le_mul_of_nonneg_right (by omega) (by omega)
  refine gp_let ?_
  have e1 : (w1 * 1000000000).toInt = w1.toInt * 1000000000 := by rw [az_lmul (by rw [az_B]; omega) (by rw [az_B]; omega), az_B]
  have e2 : (w1 * 1000000000 + w0).toInt = w1.toInt * 1000000000 + w0.toInt := by rw [az_ladd (by rw [e1]; omega) (by rw [e1]; omega), e1]
  generalize w1 * 1000000000 + w0 = u at e2 ⊢
  clear e1
  have hv0 : v1 ≠ 0 := fun h => by rw [h] at hv1'; exact absurd hv1' (by decide)
  have hvm : v1 ≠ -1 := fun h => by rw [h] at hv1'; exact absurd hv1' (by decide)
  refine gp_dvL hv0 ?_
  obtain ⟨g, ov, g1, g2, g3, g4, g5, -⟩ := az_td u.toInt v1.toInt (by omega)
  obtain ⟨g6, g7⟩ := g5 (by omega)
  have hg1 : (u / v1).toInt = g := by rw [az_ldiv hvm, g1]
  generalize u / v1 = gd at hg1 ⊢
  have hgv : 0 ≤ g * v1.toInt := Int.mul_nonneg g7 (by omega)
  refine gp_let ?_
  have m1 : (gd * v1).toInt = g * v1.toInt := by rw [az_lmul (by rw [hg1]; omega) (by rw [hg1]; omega), hg1]
  have m2 : (u - gd * v1).toInt = ov := by rw [az_lsub (by rw [m1]; omega) (by rw [m1]; omega), m1]; omega
  generalize u - gd * v1 = od at m2 ⊢
  clear m1
  rw [e2] at g2
  have hP9 : 0 < 1000000000 * P := by omega
  have hge : q ≤ g := kn_ge hP9 eV1 eW1 (by omega) (by omega) hq1 hq0 (by omega) (by omega)
  have htwo : g ≤ q + 2 := kn_two hP9 eV1 eW1 (by omega) (by omega) hq2 hq0 hqB (by omega) hv1'
  unfold X2_guessDigit_L60
  refine gp_loop (I := fun (τ : Int64 × Int64 × Int32) (σ' : tz_S) => σ' = σ ∧ ∃ (gg oo : Int) (i : Nat), τ.1.toInt = gg ∧ τ.2.1.toInt = oo ∧ τ.2.2 = nI i ∧ i ≤ 2 ∧ gg = g - i ∧ w1.toInt * 1000000000 + w0.toInt = gg * v1.toInt + oo ∧ 0 ≤ oo ∧ oo < 4000000000 ∧ q ≤ gg) (fun τ _ => 10 - τ.2.2.toNatClampNeg) ?_ n _ _ ⟨rfl, g, ov, 0, hg1, m2, rfl, by omega, by omega, g2, g6, by omega, hge⟩ (by omega)
  rintro K ⟨l7, l9, l11⟩ σ' ⟨rfl, gg, oo, i, h7, h9, h11, hi, hgi, heq, ho1, ho2, hqg⟩ hK
  simp only at h7 h9 h11 hK
  subst h11
  show gp (X2_guessDigit_L60_body n (some d) (nI p) (nI (m + 2)) v1 (fun l7 l9 l11 => K (l7, l9, l11)) l7 l9 (nI i)) σ' _
  unfold X2_guessDigit_L60_body X2_guessDigit_b137
  refine gp_if (fun h => ?_) (fun h => ?_)
  · rw [show (2 : Int32) = nI 2 from rfl, nI_leI (by omega) (by omega)] at h
    refine gp_ret ⟨rfl, ?_, ?_⟩ <;> rw [h7]
    · exact Or.inl (by omega)
    · omega
  · rw [show (2 : Int32) = nI 2 from rfl, nI_leI (by omega) (by omega)] at h
    have hgg : 0 ≤ gg := by omega
    have hv3 : gg ≤ v1.toInt * 1000000000 + v2.toInt := by omega
    have hsum := rg_15 gg v1.toInt v2.toInt w1.toInt w0.toInt w2.toInt oo heq
    have hgv2 : 0 ≤ gg * v2.toInt ∧ gg * v2.toInt ≤ 1000000001 * 999999999 := ⟨Int.mul_nonneg hgg a2.1, Int.mul_le_mul (by omega) (by omega) a2.1 (by decide)⟩
    have stop : gg * v2.toInt ≤ oo * 1000000000 + w2.toInt → gp (pz_ret l7) σ' (fun r σ'' => σ'' = σ' ∧ (r.toInt = q ∨ r.toInt = q + 1) ∧ 0 ≤ r.toInt) := by
      intro hs
      have := kn_stop (g := gg) hP eV eW hhV hlW hq2 hgg hv3 (kn_le hsum hs) hVp hlV
      refine gp_ret ⟨rfl, ?_, ?_⟩ <;> rw [h7]
      · omega
      · omega
    refine gp_if (fun h2 => ?_) (fun h2 => ?_)
    · rw [lg_cmp_ge, Int64.le_iff_toInt_le, az_B, h9] at h2
      exact stop (by omega)
    · rw [lg_cmp_ge, Int64.le_iff_toInt_le, az_B, h9] at h2
      have dec : q < gg → gp (X2_guessDigit_b119 n (fun l7 l9 l11 => K (l7, l9, l11)) (some d) (nI p) (nI (m + 2)) v1 l7 l9 (nI i)) σ' (fun r σ'' => σ'' = σ' ∧ (r.toInt = q ∨ r.toInt = q + 1) ∧ 0 ≤ r.toInt) := by
        intro hlt
        unfold X2_guessDigit_b119
        refine gp_let ?_
        refine gp_let ?_
        refine gp_let ?_
        rw [nI_1]
        have z1 : (1 : Int64).toInt = 1 := rfl
        have f1 : (l7 - 1).toInt = gg - 1 := by rw [az_lsub (by rw [h7, z1]; omega) (by rw [h7, z1]; omega), h7, z1]
        have f2 : (l9 + v1).toInt = oo + v1.toInt := by rw [az_ladd (by rw [h9]; omega) (by rw [h9]; omega), h9]
        refine hK (_, _, _) _ ⟨rfl, gg - 1, oo + v1.toInt, i + 1, f1, f2, rfl, by omega, by omega, ?_, by omega, by omega, by omega⟩ (by simp only; rw [nI_clamp (by omega), nI_clamp (by omega)]; omega)
        rw [heq, Int.sub_mul]
        omega
      refine gp_if (fun h3 => ?_) (fun h3 => ?_)
      · rw [lg_cmp_ge, Int64.le_iff_toInt_le, az_B, h7] at h3
        exact dec (by omega)
      · rw [lg_cmp_ge, Int64.le_iff_toInt_le, az_B, h7] at h3
        refine gp_rR d1 rfl ?_
        refine gp_aL (j := m) d7 (by omega) (by omega) (by rw [show (2 : Int32) = nI 2 from rfl, pk_sub (by omega)]; rfl) ?_
        refine gp_rR d1 rfl ?_
        refine gp_aL (j := p + m) d6 (by omega) (by omega) (by rw [nI_add, show (2 : Int32) = nI 2 from rfl, pk_sub (by omega)]; rfl) ?_
        rw [hv2, hw2]
        have f1 : (l7 * v2).toInt = gg * v2.toInt := by rw [az_lmul (by rw [h7]; omega) (by rw [h7]; omega), h7]
        have f2 : (l9 * 1000000000).toInt = oo * 1000000000 := by rw [az_lmul (by rw [h9, az_B]; omega) (by rw [h9, az_B]; omega), h9, az_B]
        have f3 : (l9 * 1000000000 + w2).toInt = oo * 1000000000 + w2.toInt := by rw [az_ladd (by rw [f2]; omega) (by rw [f2]; omega), f2]
        refine gp_if (fun h4 => ?_) (fun h4 => ?_)
        · rw [lg_cmp_gt, Int64.lt_iff_toInt_lt, f1, f3] at h4
          exact dec (kn_dec (g := gg) hP eV eW hlV hhW hq1 hgg (kn_lt hsum h4) hVp)
        · rw [lg_cmp_gt, Int64.lt_iff_toInt_lt, f1, f3] at h4
          exact stop (Int.not_lt.mp h4)
