/-! ===== Tableau.cross ===== -/
def crP (o t : Nat) : Nat → Prop := fun x => (o + 20 ≤ x ∧ x ≤ o + 31) ∨ x = o + 46 ∨ x = o + 47 ∨ x = t ∨ x = t + 1
theorem rg_27 (g t p s e D x : Int) (h : D * x = g * (t * p - s * e)) : 0 + g * t * p + -g * s * e = D * x := by grind
theorem sg_mul {D x : Int} (hD : 0 < D) : isg (D * x) = isg x := by
  rcases isg_cases x with h | h | h
  · rw [h.2, isg_pos (Int.mul_pos hD h.1)]
  · rw [h.2, isg_neg (Int.mul_neg_of_pos_of_neg hD h.1)]
  · rw [h.2, h.1, Int.mul_zero, isg_zero]
theorem abs_sg (x : Int) : (x.natAbs : Int) * (isg x).toInt = x := by
  rcases isg_cases x with h | h | h <;> rw [h.2]
  · rw [show (1 : Int32).toInt = 1 from rfl]; omega
  · rw [show (-1 : Int32).toInt = -1 from rfl]; omega
  · rw [h.1]; rfl
theorem abs_turn (x : Int) : (x.natAbs : Int) = 0 ∨ isg x = 1 ∨ isg x = -1 := by
  rcases isg_turn x with h | h
  · rw [h]; exact Or.inl rfl
  · exact Or.inr h
theorem ite1 {c : Prop} [Decidable c] {x : Int32} (h : x = if c then 1 else 0) (h0 : ¬ x = 0) : c := by
  by_cases z : c
  · exact z
  · rw [if_neg z] at h; exact absurd h h0
theorem ite0 {c : Prop} [Decidable c] {x : Int32} (h : x = if c then 1 else 0) (h0 : x = 0) : ¬ c := by
  intro z
  rw [if_pos z, h0] at h
  exact absurd h (by decide)
theorem bz_small {σ : tz_S} {a b n k : Nat} {v : Int} (h : BigV σ a b n k v) (hk : k ≤ 1) : -1000000000 < v ∧ v < 1000000000 := by
  have h1 := (BigV_size h).1
  have h2 := mg_pmono hk
  rw [Int.pow_one] at h2
  omega
theorem isg_ne {p : Int} (hp : p ≠ 0) : isg p = 1 ∨ isg p = -1 := by
  rcases isg_turn p with h | h
  · exact absurd h hp
  · exact h
theorem pow_add_lt {a b : Int} {i j : Nat} (ha : (a.natAbs : Int) < 1000000000 ^ i) (hb : (b.natAbs : Int) < 1000000000 ^ j) : ((a * b).natAbs : Int) < 1000000000 ^ (i + j) := by
  rw [Int.natAbs_mul, Int.pow_add]
  have h1 : ((a.natAbs * b.natAbs : Nat) : Int) = (a.natAbs : Int) * b.natAbs := by simp
  rw [h1]
  have hi := mg_pw i
  have h2 : (a.natAbs : Int) * b.natAbs ≤ 1000000000 ^ i * b.natAbs := Int.mul_le_mul_of_nonneg_right (by omega) (by omega)
  have h3 := mul_ltP hi hb
  omega
set_option maxHeartbeats 2000000 in
theorem c_cross {f o N n m ta nt pa sa ea ne : Nat} {σ : tz_S} {D t p s e x : Int} (hc : cSh σ o N) (hs : smOk σ (o + 30) N) (hf : 2000 ≤ f) (hD : Bz σ (o + 40) 8 D) (hD0 : 0 < D)
    (ht : Bz σ ta nt t) (hp : Bz σ pa 8 p) (hsd : Bz σ sa 8 s) (he : Bz σ ea ne e) (hp0 : p ≠ 0) (hnt : nt ≤ 12) (hne : ne ≤ 12) (hx : D * x = (isg p).toInt * (t * p - s * e)) (hxl : (x.natAbs : Int) < 1000000000 ^ nt)
    (hta : o + 40 < ta) (hta2 : ta ≠ o + 41 ∧ ta ≠ o + 45 ∧ ta ≠ o + 46 ∧ ta ≠ o + 47) (hpt : pa ≠ ta ∧ pa ≠ ta + 1 ∧ pa + 1 ≠ ta) (hst : sa ≠ ta ∧ sa ≠ ta + 1 ∧ sa + 1 ≠ ta) (het : ea ≠ ta ∧ ea ≠ ta + 1 ∧ ea + 1 ≠ ta)
    (hpo : o + 40 < pa) (hso : o + 40 < sa) (heo : o + 40 < ea) :
    gp (X9_cross f (some (o + 32)) (some ta) (some pa) (some sa) (some ea)) σ (fun _ σ' => Fr (crP o ta) σ σ' ∧ smOk σ' (o + 30) N ∧ Bz σ' ta nt x) := by
  have hN := cs_N hc
  have hpg := isg_ne hp0
  have big : gp (X9_cross_b116 f (some (o + 32)) (some ta) (some pa) (some sa) (some ea) (isg p)) σ (fun _ σ' => Fr (crP o ta) σ σ' ∧ smOk σ' (o + 30) N ∧ Bz σ' ta nt x) := by
    unfold X9_cross_b116
    obtain ⟨u0, S0, hs0⟩ := hs
    refine gp_rR (cs_tab hc) rfl ?_
    refine gp_cV hs0.1.1 (gp_mono (c_clearS hs0 hf) ?_)
    rintro _ σ1 ⟨hF1, hS1⟩
    have hc1 := cs_fr hc hF1
    have ht1 := Bz_fr ht hF1 (by unfold bP; omega) (by unfold bP; omega)
    have hp1 := Bz_fr hp hF1 (by unfold bP; omega) (by unfold bP; omega)
    have hsd1 := Bz_fr hsd hF1 (by unfold bP; omega) (by unfold bP; omega)
    have he1 := Bz_fr he hF1 (by unfold bP; omega) (by unfold bP; omega)
    have hD1 := Bz_fr hD hF1 (by unfold bP; omega) (by unfold bP; omega)
    refine gp_rR (cs_tab hc1) rfl ?_
    have htl := Bz_lt ht1
    have hel := Bz_lt he1
    have q1 := mg_pmono hnt
    have q2 := mg_pmono hne
    refine gp_cV hS1.1.1 (gp_mono (c_addProductS (m := 12) (m2 := 8) hS1 ht1 hp1 hf (Or.inr hpg) (by omega) (Bz_lt hp1) (by omega)) ?_)
    rintro _ σ2 ⟨hF2, u2, hu2, hS2⟩
    have hc2 := cs_fr hc1 hF2
    have hsd2 := Bz_fr hsd1 hF2 (by unfold bP; omega) (by unfold bP; omega)
    have he2 := Bz_fr he1 hF2 (by unfold bP; omega) (by unfold bP; omega)
    have hD2 := Bz_fr hD1 hF2 (by unfold bP; omega) (by unfold bP; omega)
    refine gp_rR (cs_tab hc2) rfl ?_
    have hneg : (-(isg p)).toInt = -(isg p).toInt ∧ (-(isg p) = 0 ∨ -(isg p) = 1 ∨ -(isg p) = -1) := by
      rcases hpg with h | h <;> rw [h] <;> decide
    refine gp_cV hS2.1.1 (gp_mono (c_addProductS (m := 8) (m2 := 12) hS2 hsd2 he2 hf hneg.2 (Bz_lt hsd2) (by omega) (by omega)) ?_)
    rintro _ σ3 ⟨hF3, u3, hu3, hS3⟩
    rw [hneg.1, rg_27 _ _ _ _ _ D x hx] at hS3
    have hc3 := cs_fr hc2 hF3
    have hD3 := Bz_fr hD2 hF3 (by unfold bP; omega) (by unfold bP; omega)
    have hF30 : Fr (crP o ta) σ σ3 := Fr_mono (Fr_trans (Fr_trans hF1 hF2) hF3) (fun y hy => by unfold bP at hy; unfold crP; omega)
    have hta3 : bSh σ3 ta (ta + 1) nt := bSh_fr (Bz_sh ht) hF30
    refine gp_rR (cs_tab hc3) rfl ?_
    obtain ⟨kD, hD3'⟩ := id hD3
    refine gp_cV (Bz_cl hD3) (gp_mono (c_isOne hD3') ?_)
    rintro x15 σ4 ⟨h4, hx15⟩
    rw [h4]
    clear h4 σ4
    refine gp_if (fun h15 => ?_) (fun h15 => ?_)
    · -- a division
      refine gp_rR (cs_tab hc3) rfl ?_
      refine gp_rR (cs_tab hc3) rfl ?_
      have hSl : ((D * x).natAbs : Int) < 1000000000 ^ N := by
        have h1 := pow_add_lt (Bz_lt hD) hxl
        have h2 := mg_pmono (show 8 + nt ≤ N by omega)
        omega
      refine gp_cV hS3.1.1 (gp_mono (c_storeS hS3 (cs_wide hc3) hf hSl) ?_)
      rintro _ σ4 ⟨hF4, hw4⟩
      have hc4 := cs_fr hc3 hF4
      have hD4 := Bz_fr hD3 hF4 (by unfold bP; omega) (by unfold bP; omega)
      have hS4 := Sz_fr hS3 hF4 (by unfold bP; omega) (by unfold bP; omega)
      refine gp_rR (cs_tab hc4) rfl ?_
      refine gp_rR (cs_tab hc4) rfl ?_
      refine gp_rR (cs_tab hc4) rfl ?_
      refine gp_cV (cs_div hc4).1 (gp_mono (c_divide (cs_div hc4) hf hw4 hD4 hSl (by unfold divP; omega) (by unfold divP; omega)) ?_)
      rintro _ σ5 ⟨hF5, hq5, -⟩
      have hc5 := cs_fr hc4 hF5
      have hw5 := Bz_fr hw4 hF5 (by unfold divP; omega) (by unfold divP; omega)
      have hS5 := Sz_fr hS4 hF5 (by unfold divP; omega) (by unfold divP; omega)
      refine gp_rR (cs_tab hc5) rfl ?_
      refine gp_rR (cs_div hc5).1 rfl ?_
      refine gp_rR (cs_tab hc5) rfl ?_
      refine gp_rI (Bz_cl hw5) rfl ?_
      rw [Bz_sign hw5, sg_mul hD0]
      have hF50 : Fr (crP o ta) σ σ5 := Fr_trans hF30 (Fr_trans (Fr_mono hF4 (fun y hy => by unfold bP at hy; unfold crP; omega)) (Fr_mono hF5 (fun y hy => by unfold divP at hy; unfold crP; omega)))
      have hta5 : bSh σ5 ta (ta + 1) nt := bSh_fr (Bz_sh ht) hF50
      have hqe : ((D * x).natAbs : Int) / (D.natAbs : Int) = x.natAbs := by
        rw [Int.natAbs_mul]
        rw [show ((D.natAbs * x.natAbs : Nat) : Int) = (D.natAbs : Int) * x.natAbs by simp]
        exact Int.mul_ediv_cancel_left _ (by omega)
      rw [hqe] at hq5
      refine gp_cV hta5.1 (gp_mono (c_setB (turn := isg x) hta5 hq5 hf (by rw [Int.natAbs_natCast]; exact hxl) (abs_turn x)) ?_)
      rintro _ σ6 ⟨hF6, hb6⟩
      rw [abs_sg] at hb6
      exact gp_ret ⟨Fr_then hF50 hF6 (fun y hy => by unfold bP at hy; unfold crP; omega), ⟨_, _, Sz_fr hS5 hF6 (by unfold bP; omega) (by unfold bP; omega)⟩, hb6⟩
    · -- the common number is 1
      have hD1' : D = 1 := by
        by_cases z : D = 1
        · exact z
        · rw [if_neg z] at hx15; exact absurd hx15 h15
      rw [hD1', Int.one_mul] at hS3
      refine gp_rR (cs_tab hc3) rfl ?_
      refine gp_cV hS3.1.1 (gp_mono (c_storeS hS3 hta3 hf hxl) ?_)
      rintro _ σ4 ⟨hF4, hw4⟩
      exact gp_ret ⟨Fr_then hF30 hF4 (fun y hy => by unfold bP at hy; unfold crP; omega), ⟨_, _, Sz_fr hS3 hF4 (by unfold bP; omega) (by unfold bP; omega)⟩, hw4⟩
  -- all of it
  have full : gp (X9_cross_b23 f (some (o + 32)) (some ta) (some pa) (some sa) (some ea)) σ (fun _ σ' => Fr (crP o ta) σ σ' ∧ smOk σ' (o + 30) N ∧ Bz σ' ta nt x) := by
    unfold X9_cross_b23
    refine gp_rI (Bz_cl hp) rfl ?_
    rw [Bz_sign hp]
    refine gp_rR (cs_tab hc) rfl ?_
    obtain ⟨kD, hD'⟩ := id hD
    obtain ⟨kt, ht'⟩ := id ht
    obtain ⟨kp, hp'⟩ := id hp
    obtain ⟨ks, hs'⟩ := id hsd
    obtain ⟨ke, he'⟩ := id he
    have hsm : gp (X0_small f (some (o + 40))) σ (fun r σ' => σ' = σ ∧ (kD ≤ 1 → r.toInt = D)) := by
      by_cases hk : kD ≤ 1
      · exact gp_mono (c_small hD' hk) (fun r σ' h => ⟨h.1, fun _ => h.2⟩)
      · unfold X0_small X0_small_b24
        have h1 := hD'.2.2.1
        have h2 := hD'.2.1
        refine gp_rI hD'.1.1 rfl ?_
        rw [h1]
        refine gp_f (by rw [show (0 : Int32) = nI 0 from rfl, nI_eq (by omega) (by omega)]; omega) ?_
        refine gp_rI hD'.1.1 rfl ?_
        refine gp_rR hD'.1.1 rfl ?_
        refine gp_aI (j := 0) hD'.1.2.1 (by decide) (by omega) (by omega) rfl ?_
        exact gp_ret ⟨rfl, fun h => absurd h hk⟩
    refine gp_cV (Bz_cl hD) (gp_mono hsm ?_)
    rintro x6 σ1 ⟨h1, hx6⟩
    rw [h1]
    clear h1
    refine gp_cV (Bz_cl ht) (gp_mono (c_isSmall ht') ?_)
    rintro x7 σ1 ⟨h1, hx7⟩
    rw [h1]
    clear h1
    refine gp_if (fun _ => big) (fun h7 => ?_)
    refine gp_cV (Bz_cl hp) (gp_mono (c_isSmall hp') ?_)
    rintro x30 σ1 ⟨h1, hx30⟩
    rw [h1]
    clear h1
    refine gp_if (fun _ => big) (fun h30 => ?_)
    refine gp_cV (Bz_cl hsd) (gp_mono (c_isSmall hs') ?_)
    rintro x31 σ1 ⟨h1, hx31⟩
    rw [h1]
    clear h1
    refine gp_if (fun _ => big) (fun h31 => ?_)
    refine gp_cV (Bz_cl he) (gp_mono (c_isSmall he') ?_)
    rintro x32 σ1 ⟨h1, hx32⟩
    rw [h1]
    clear h1
    refine gp_if (fun _ => big) (fun h32 => ?_)
    refine gp_rR (cs_tab hc) rfl ?_
    refine gp_cV (Bz_cl hD) (gp_mono (c_isSmall hD') ?_)
    rintro x34 σ1 ⟨h1, hx34⟩
    rw [h1]
    clear h1
    refine gp_if (fun _ => big) (fun h34 => ?_)
    refine gp_if (fun _ => big) (fun _ => ?_)
    clear big
    have kt1 : kt ≤ 1 := ite1 hx7 h7
    have kp1 : kp ≤ 1 := ite1 hx30 h30
    have ks1 : ks ≤ 1 := ite1 hx31 h31
    have ke1 : ke ≤ 1 := ite1 hx32 h32
    have kD1 : kD ≤ 1 := ite1 hx34 h34
    refine gp_cV (Bz_cl ht) (gp_mono (c_small ht' kt1) ?_)
    rintro y1 σ1 ⟨h1, hy1⟩
    rw [h1]
    clear h1
    refine gp_cV (Bz_cl hp) (gp_mono (c_small hp' kp1) ?_)
    rintro y2 σ1 ⟨h1, hy2⟩
    rw [h1]
    clear h1
    refine gp_cV (Bz_cl hsd) (gp_mono (c_small hs' ks1) ?_)
    rintro y3 σ1 ⟨h1, hy3⟩
    rw [h1]
    clear h1
    refine gp_cV (Bz_cl he) (gp_mono (c_small he' ke1) ?_)
    rintro y4 σ1 ⟨h1, hy4⟩
    rw [h1]
    clear h1
    have b1 := bz_small ht' kt1
    have b2 := bz_small hp' kp1
    have b3 := bz_small hs' ks1
    have b4 := bz_small he' ke1
    have b5 := bz_small hD' kD1
    have hx6' := hx6 kD1
    have m1 := az_mulB b1 b2
    have m2 := az_mulB b3 b4
    have e1 : (y1 * y2).toInt = t * p := by rw [az_lmul (by rw [hy1, hy2]; omega) (by rw [hy1, hy2]; omega), hy1, hy2]
    have e2 : (y3 * y4).toInt = s * e := by rw [az_lmul (by rw [hy3, hy4]; omega) (by rw [hy3, hy4]; omega), hy3, hy4]
    have e3 : (y1 * y2 - y3 * y4).toInt = t * p - s * e := by rw [az_lsub (by rw [e1, e2]; omega) (by rw [e1, e2]; omega), e1, e2]
    have e4 : ((isg p).toInt64).toInt = (isg p).toInt := Int32.toInt_toInt64 _
    have hg3 : (isg p).toInt = 1 ∨ (isg p).toInt = -1 := by rcases hpg with h | h <;> rw [h] <;> decide
    have e5 : ((isg p).toInt64 * (y1 * y2 - y3 * y4)).toInt = D * x := by
      rw [hx]
      have hb : -2000000000000000000 ≤ (isg p).toInt * (t * p - s * e) ∧ (isg p).toInt * (t * p - s * e) ≤ 2000000000000000000 := by
        rcases hg3 with h | h <;> rw [h] <;> omega
      rw [az_lmul (by rw [e3, e4]; omega) (by rw [e3, e4]; omega), e3, e4]
    generalize (isg p).toInt64 * (y1 * y2 - y3 * y4) = w at e5 ⊢
    have hn0 : x6 ≠ 0 := fun h => by rw [h] at hx6'; rw [← hx6'] at hD0; exact absurd hD0 (by decide)
    have hnm : x6 ≠ -1 := fun h => by rw [h] at hx6'; rw [← hx6'] at hD0; exact absurd hD0 (by decide)
    refine gp_dvL hn0 ?_
    have e6 : (w / x6).toInt = x := by rw [az_ldiv hnm, e5, hx6']; exact Int.mul_tdiv_cancel_left _ (by omega)
    generalize w / x6 = z at e6 ⊢
    refine gp_cV (Bz_cl ht) (gp_mono (c_setLongB (Bz_sh ht) hf (by rw [e6]; exact hxl)) ?_)
    rintro _ σ2 ⟨hF2, hb2⟩
    rw [e6] at hb2
    exact gp_ret ⟨Fr_mono hF2 (fun y hy => by unfold bP at hy; unfold crP; omega), smOk_fr hs hF2 (by unfold bP; omega) (by unfold bP; omega), hb2⟩
  unfold X9_cross X9_cross_b22
  refine gp_rI (Bz_cl ht) rfl ?_
  rw [Bz_sign ht]
  have triv : t = 0 → s * e = 0 → gp (pz_ret ()) σ (fun _ σ' => Fr (crP o ta) σ σ' ∧ smOk σ' (o + 30) N ∧ Bz σ' ta nt x) := by
    intro h1 h2
    rw [h1, h2] at hx
    have : x = 0 := by
      rw [Int.zero_mul, Int.sub_zero, Int.mul_zero] at hx
      rcases Int.mul_eq_zero.mp hx with z | z
      · omega
      · exact z
    rw [this, ← h1]
    exact gp_ret ⟨Fr_refl, hs, ht⟩
  have z0 : ∀ v : Int, isg v = 0 → v = 0 := by
    intro v h
    rcases isg_cases v with z | z | z
    · rw [z.2] at h; exact absurd h (by decide)
    · rw [z.2] at h; exact absurd h (by decide)
    · exact z.1
  refine gp_if (fun h1 => ?_) (fun _ => full)
  refine gp_rI (Bz_cl hsd) rfl ?_
  rw [Bz_sign hsd]
  refine gp_if (fun h2 => triv (z0 _ h1) (by rw [z0 _ h2, Int.zero_mul])) (fun _ => ?_)
  refine gp_rI (Bz_cl he) rfl ?_
  rw [Bz_sign he]
  exact gp_if (fun h3 => triv (z0 _ h1) (by rw [z0 _ h3, Int.mul_zero])) (fun _ => full)
