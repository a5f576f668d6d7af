/-! ===== Tableau: move, isAmountWhole, floorOfAmount, copyValue ===== -/
section TB5
variable {f o N n m r c : Nat} {σ : tz_S} {D : Int} {T : Nat → Nat → Int} {am va : Nat → Int} {bs cl : Nat → Nat} {b : Int64}
set_option maxHeartbeats 1000000 in
theorem c_move (hc : cSh σ o N) (ht : tbV σ o n m D T am va bs cl) (hs : smOk σ (o + 30) N) (hf : 2000 ≤ f) (hcn : c < n) (hva : -4000000000000000000 < va c ∧ va c < 4000000000000000000) (hb : -4000000000000000000 < b.toInt ∧ b.toInt < 4000000000000000000)
    (hal : ∀ i, i < m → ((am i + (b.toInt - va c) * T i c).natAbs : Int) < 1000000000 ^ 12) :
    gp (X9_move f (some (o + 32)) (nI c) b) σ (fun _ σ' => Fr (exP o) σ σ' ∧ smOk σ' (o + 30) N ∧ tbV σ' o n m D T (fun i => am i + (b.toInt - va c) * T i c) (fun j => if j = c then b.toInt else va j) bs cl) := by
  have hN := cs_N hc
  have hn1 := ht.1.2.2.1
  have hm1 := ht.1.2.2.2
  unfold X9_move
  refine gp_rR (cs_tab hc) rfl ?_
  refine gp_aL (j := c) (cs_rest hc) (by omega) (by omega) rfl ?_
  have hrc : (tz_L σ (o + 35) c).toInt = va c := ht.2.2.2.2.1 c hcn
  generalize tz_L σ (o + 35) c = w at hrc ⊢
  refine gp_let ?_
  have hby : (b - w).toInt = b.toInt - va c := by rw [az_lsub (by rw [hrc]; omega) (by rw [hrc]; omega), hrc]
  generalize b - w = by1 at hby ⊢
  unfold X9_move_L13
  refine gp_loop (I := fun (τ : Int32) (σ' : tz_S) => ∃ i, τ = nI i ∧ i ≤ m ∧ Fr (exP o) σ σ' ∧ cSh σ' o N ∧ smOk σ' (o + 30) N ∧ tbV σ' o n m D T (fun i' => if i' < i then am i' + (b.toInt - va c) * T i' c else am i') va bs cl) (fun τ _ => 100 - τ.toNatClampNeg) ?_ f _ _ ⟨0, rfl, Nat.zero_le _, Fr_refl, hc, hs, tbV_cong ht (fun _ _ _ _ => rfl) (fun i hi => by simp) (fun _ _ => rfl)⟩ (by omega)
  rintro K l6 σ3 ⟨i, rfl, hi, hF3, hc3, hs3, ht3⟩ hK
  show gp (X9_move_L13_body f (some (o + 32)) (nI c) b by1 (fun l6 => K l6) (nI i)) σ3 _
  unfold X9_move_L13_body
  obtain ⟨⟨i1, i2, -, -⟩, i4, i5, i6, i7, i8, i9⟩ := id ht3
  refine gp_rI (cs_tab hc3) rfl ?_
  rw [i1]
  refine gp_if (fun him => ?_) (fun him => ?_)
  · rw [nI_leI (by omega) (by omega)] at him
    refine gp_rR (cs_tab hc3) rfl ?_
    refine gp_sL (j := c) (cs_rest hc3) (by omega) (by omega) rfl ?_
    have hF4 : Fr (fun x => x = o + 35) σ3 (tz_sL σ3 (o + 35) c b) := Fr_sL rfl
    refine gp_ret ⟨Fr_then hF3 hF4 (fun x hx => by unfold exP; omega), smOk_fr hs3 hF4 (by omega) (by omega), ⟨i1, i2, hn1, hm1⟩, Bz_fr i4 hF4 (by omega) (by omega), fun i j hi hj => Bz_fr (i5 i j hi hj) hF4 (by omega) (by omega), ?_, ?_, i8, i9⟩
    · intro i' hi'
      have := Bz_fr (i6 i' hi') hF4 (by omega) (by omega)
      simp only [show i' < i by omega, if_true] at this
      exact this
    · intro j hj
      show (tz_u2 (tz_L σ3) (o + 35) c b (o + 35) j).toInt = _
      by_cases z : j = c
      · subst z; rw [tz_u2_same]; simp
      · rw [tz_u2_ne _ _ (Or.inr z), i7 j hj]; simp [z]
  rw [nI_leI (by omega) (by omega)] at him
  have hai : Bz σ3 (o + 288 + 2 * i) 12 (am i) := by
    have := i6 i (by omega)
    simp only [Nat.lt_irrefl, if_false] at this
    exact this
  obtain ⟨u0, S0, hs0⟩ := id hs3
  refine gp_rR (cs_tab hc3) rfl ?_
  refine gp_cV hs0.1.1 (gp_mono (c_clearS hs0 hf) ?_)
  rintro _ σ4 ⟨hF4, hS4⟩
  have hc4 := cs_fr hc3 hF4
  have hai4 := Bz_fr hai hF4 (by unfold bP; omega) (by unfold bP; omega)
  have hce4 := Bz_fr (i5 i c (by omega) hcn) hF4 (by unfold bP; omega) (by unfold bP; omega)
  refine gp_rR (cs_tab hc4) rfl ?_
  refine gp_rR (cs_tab hc4) rfl ?_
  refine gp_aR (j := i) (cs_ams hc4) (by decide) (by omega) (by omega) rfl ?_
  rw [(cs_am hc4 i (by omega)).2]
  refine gp_cV hS4.1.1 (gp_mono (c_addTimesS (t := 1) hS4 hai4 hf (by decide) (Bz_lt hai4) (by omega) (by omega)) ?_)
  rintro _ σ5 ⟨hF5, u5, hu5, hS5⟩
  have hc5 := cs_fr hc4 hF5
  have hce5 := Bz_fr hce4 hF5 (by unfold bP; omega) (by unfold bP; omega)
  refine gp_rR (cs_tab hc5) rfl ?_
  refine gp_cV (cs_tab hc5) (gp_mono (c_cell hc5 (by omega) (by omega)) ?_)
  rintro _ σ0 ⟨h0, rfl⟩
  rw [h0]
  clear h0 σ0
  refine gp_cV hS5.1.1 (gp_mono (c_addTimesS (t := by1) hS5 hce5 hf (by rw [hby]; omega) (Bz_lt hce5) (by omega) (by omega)) ?_)
  rintro _ σ6 ⟨hF6, u6, hu6, hS6⟩
  have hc6 := cs_fr hc5 hF6
  rw [hby, show 0 + (1 : Int64).toInt * am i + (b.toInt - va c) * T i c = am i + (b.toInt - va c) * T i c by rw [show (1 : Int64).toInt = 1 from rfl]; omega] at hS6
  refine gp_rR (cs_tab hc6) rfl ?_
  refine gp_rR (cs_tab hc6) rfl ?_
  refine gp_aR (j := i) (cs_ams hc6) (by decide) (by omega) (by omega) rfl ?_
  rw [(cs_am hc6 i (by omega)).2]
  refine gp_cV hS6.1.1 (gp_mono (c_storeS hS6 (cs_am hc6 i (by omega)).1 hf (hal i (by omega))) ?_)
  rintro _ σ7 ⟨hF7, hb7⟩
  refine gp_let ?_
  rw [nI_1]
  have hF36 : Fr (crP o (o + 288 + 2 * i)) σ3 σ6 := Fr_mono (Fr_trans (Fr_trans hF4 hF5) hF6) (fun y hy => by unfold bP at hy; unfold crP; omega)
  have hF37 := Fr_then hF36 hF7 exP_cb
  refine hK _ _ ⟨i + 1, rfl, by omega, Fr_then hF3 hF37 (exP_cr (by omega) (by omega)), cs_fr hc6 hF7, ⟨_, _, Sz_fr hS6 hF7 (by unfold bP; omega) (by unfold bP; omega)⟩, tbV_cong (tbV_am ht3 (by omega) hF37 hb7) (fun _ _ _ _ => rfl) ?_ (fun _ _ => rfl)⟩ (by rw [nI_clamp (by omega), nI_clamp (by omega)]; omega)
  intro i' hi'
  by_cases z1 : i' = i
  · simp [z1]
  · have e : (i' < i) = (i' < i + 1) := propext ⟨fun h => by omega, fun h => by omega⟩
    simp [z1, e]
theorem mod_abs {a D : Int} : (a.natAbs : Int) % (D.natAbs : Int) = 0 ↔ a % D = 0 := by
  constructor
  · intro h
    exact Int.emod_eq_zero_of_dvd (Int.natAbs_dvd_natAbs.mp (Int.natCast_dvd_natCast.mp (Int.dvd_of_emod_eq_zero h)))
  · intro h
    exact Int.emod_eq_zero_of_dvd (Int.natCast_dvd_natCast.mpr (Int.natAbs_dvd_natAbs.mpr (Int.dvd_of_emod_eq_zero h)))
theorem c_isAmountWhole (hc : cSh σ o N) (ht : tbV σ o n m D T am va bs cl) (hf : 2000 ≤ f) (hr : r < m) :
    gp (X9_isAmountWhole f (some (o + 32)) (nI r)) σ (fun x σ' => Fr (divP (o + 19)) σ σ' ∧ x = if am r % D = 0 then 1 else 0) := by
  have hN := cs_N hc
  obtain ⟨⟨h1, h2, h3, h3'⟩, h4, h5, h6, h7, h8, h9⟩ := ht
  unfold X9_isAmountWhole X9_isAmountWhole_b47
  refine gp_rR (cs_tab hc) rfl ?_
  obtain ⟨kD, hD'⟩ := id h4
  refine gp_cV (Bz_cl h4) (gp_mono (c_isOne hD') ?_)
  rintro x2 σ1 ⟨q1, hx2⟩
  rw [q1]
  clear q1 σ1
  refine gp_if (fun h => ?_) (fun h => ?_)
  · have hai := h6 r hr
    have hal := Bz_lt hai
    have hpm := mg_pmono (show 12 ≤ N by omega)
    refine gp_rR (cs_tab hc) rfl ?_
    refine gp_rR (cs_tab hc) rfl ?_
    refine gp_aR (j := r) (cs_ams hc) (by decide) (by omega) (by omega) rfl ?_
    rw [(cs_am hc r (by omega)).2]
    refine gp_rR (cs_tab hc) rfl ?_
    refine gp_cV (cs_div hc).1 (gp_mono (c_divide (cs_div hc) hf hai h4 (by omega) (by unfold divP; omega) (by unfold divP; omega)) ?_)
    rintro _ σ2 ⟨hF2, -, hre⟩
    have hc2 := cs_fr hc hF2
    refine gp_rR (cs_tab hc2) rfl ?_
    refine gp_rR (cs_div hc2).1 rfl ?_
    obtain ⟨k, hre'⟩ := hre
    have hz := BigV_len0 hre'
    have hkn := hre'.2.1
    refine gp_rI hre'.1.1 rfl ?_
    rw [hre'.2.2.1]
    refine gp_if (fun hk => ?_) (fun hk => ?_)
    · rw [show (0 : Int32) = nI 0 from rfl, nI_eq (by omega) (by omega)] at hk
      refine gp_zz (Or.inr rfl) (gp_ret ⟨hF2, ?_⟩)
      rw [if_pos (mod_abs.mp (hz.mp hk))]
    · rw [show (0 : Int32) = nI 0 from rfl, nI_eq (by omega) (by omega)] at hk
      refine gp_zz (Or.inl rfl) (gp_ret ⟨hF2, ?_⟩)
      rw [if_neg (fun q => hk (hz.mpr (mod_abs.mpr q)))]
  · have := ite1 hx2 h
    subst this
    refine gp_zz (Or.inr rfl) (gp_ret ⟨Fr_refl, ?_⟩)
    rw [if_pos (Int.emod_one _)]
theorem c_lowPair3 {a nb k : Nat} {v : Int} (hB : BigV σ a (a + 1) nb k v) : gp (X0_lowPair f (some a)) σ (fun x σ' => σ' = σ ∧ x.toInt = (if 1 < k then dI (tz_A σ (a + 1)) 1 else 0) * 1000000000 + (if 0 < k then dI (tz_A σ (a + 1)) 0 else 0)) := by
  obtain ⟨-, hkn, -, b4, -⟩ := id hB
  unfold X0_lowPair
  refine gp_cV hB.1.1 (gp_mono (c_limbAt hB 1) ?_)
  rintro x1 σ1 ⟨q1, hx1⟩
  rw [q1]
  clear q1 σ1
  refine gp_cV hB.1.1 (gp_mono (c_limbAt hB 0) ?_)
  rintro x0 σ1 ⟨q1, hx0⟩
  rw [q1]
  clear q1 σ1
  have e1 : x1.toInt = if 1 < k then dI (tz_A σ (a + 1)) 1 else 0 := by
    rw [hx1]
    by_cases z : 1 < k
    · rw [if_pos (by rw [show (1 : Int32).toInt = 1 from rfl]; omega), if_pos z]; rfl
    · rw [if_neg (by rw [show (1 : Int32).toInt = 1 from rfl]; omega), if_neg z]; rfl
  have e0 : x0.toInt = if 0 < k then dI (tz_A σ (a + 1)) 0 else 0 := by
    rw [hx0]
    by_cases z : 0 < k
    · rw [if_pos (by rw [show (0 : Int32).toInt = 0 from rfl]; omega), if_pos z]; rfl
    · rw [if_neg (by rw [show (0 : Int32).toInt = 0 from rfl]; omega), if_neg z]; rfl
  have b1 : 0 ≤ x1.toInt ∧ x1.toInt < 1000000000 := by
    rw [e1]
    by_cases z : 1 < k
    · rw [if_pos z]; exact b4 1 z
    · rw [if_neg z]; omega
  have b0 : 0 ≤ x0.toInt ∧ x0.toInt < 1000000000 := by
    rw [e0]
    by_cases z : 0 < k
    · rw [if_pos z]; exact b4 0 z
    · rw [if_neg z]; omega
  refine gp_ret ⟨rfl, ?_⟩
  rw [← e1, ← e0]
  have m1 : (x1.toInt64 * 1000000000).toInt = x1.toInt * 1000000000 := by rw [az_lmul (by rw [Int32.toInt_toInt64, az_B]; omega) (by rw [Int32.toInt_toInt64, az_B]; omega), Int32.toInt_toInt64, az_B]
  rw [az_ladd (by rw [m1, Int32.toInt_toInt64]; omega) (by rw [m1, Int32.toInt_toInt64]; omega), m1, Int32.toInt_toInt64]
/-- the floor, or too far -/
def flr (a D : Int) : Int := if (a.natAbs : Int) / D < 2000000000000000000 then a / D else 4000000000000000000
theorem flr_neg {a D : Int} (hD : 0 < D) (ha : a < 0) (hm : a % D ≠ 0) : a / D = -((a.natAbs : Int) / D) - 1 := by
  have h1 := Int.mul_ediv_add_emod (a.natAbs : Int) D
  have h2 := Int.emod_nonneg (a.natAbs : Int) (show D ≠ 0 by omega)
  have h3 := Int.emod_lt_of_pos (a.natAbs : Int) hD
  have h4 : (a.natAbs : Int) % D ≠ 0 := by
    intro h
    have := mod_abs (a := a) (D := D)
    rw [show ((D.natAbs : Nat) : Int) = D by omega] at this
    exact hm (this.mp h)
  generalize (a.natAbs : Int) / D = q at *
  generalize hr : (a.natAbs : Int) % D = r at *
  have e : a = (-q - 1) * D + (D - r) := by rw [Int.sub_mul, Int.neg_mul, Int.mul_comm q D]; omega
  exact (nat_divmod hD e (by omega) (by omega)).1
set_option maxHeartbeats 1000000 in
theorem c_floorOfAmount (hc : cSh σ o N) (ht : tbV σ o n m D T am va bs cl) (hf : 2000 ≤ f) (hr : r < m) (hD0 : 0 < D) (hm : am r % D ≠ 0) :
    gp (X9_floorOfAmount f (some (o + 32)) (nI r)) σ (fun x σ' => Fr (divP (o + 19)) σ σ' ∧ x.toInt = flr (am r) D) := by
  have hN := cs_N hc
  obtain ⟨⟨h1, h2, h3, h3'⟩, h4, h5, h6, h7, h8, h9⟩ := ht
  have hai := h6 r hr
  have hal := Bz_lt hai
  have hpm := mg_pmono (show 12 ≤ N by omega)
  unfold X9_floorOfAmount X9_floorOfAmount_b42 X9_floorOfAmount_b82
  refine gp_rR (cs_tab hc) rfl ?_
  refine gp_rR (cs_tab hc) rfl ?_
  refine gp_aR (j := r) (cs_ams hc) (by decide) (by omega) (by omega) rfl ?_
  rw [(cs_am hc r (by omega)).2]
  refine gp_rR (cs_tab hc) rfl ?_
  refine gp_cV (cs_div hc).1 (gp_mono (c_divide (cs_div hc) hf hai h4 (by omega) (by unfold divP; omega) (by unfold divP; omega)) ?_)
  rintro _ σ2 ⟨hF2, hqu, -⟩
  have hc2 := cs_fr hc hF2
  have hai2 := Bz_fr hai hF2 (by unfold divP; omega) (by unfold divP; omega)
  refine gp_rR (cs_tab hc2) rfl ?_
  refine gp_rR (cs_div hc2).1 rfl ?_
  rw [show ((D.natAbs : Nat) : Int) = D by omega] at hqu
  have hq0 : 0 ≤ ((am r).natAbs : Int) / D := Int.ediv_nonneg (by omega) (by omega)
  have hflr : flr (am r) D = if ((am r).natAbs : Int) / D < 2000000000000000000 then am r / D else 4000000000000000000 := rfl
  have hneg : am r < 0 → am r / D = -(((am r).natAbs : Int) / D) - 1 := fun h => flr_neg hD0 h hm
  have hpos : 0 ≤ am r → am r / D = ((am r).natAbs : Int) / D := fun h => by rw [show ((am r).natAbs : Int) = am r by omega]
  rw [hflr]
  generalize ((am r).natAbs : Int) / D = q at hqu hq0 hneg hpos ⊢
  clear hflr
  obtain ⟨k, hq'⟩ := id hqu
  have hab := BigV_abs hq'
  have hsz := BigV_size hq'
  obtain ⟨-, hkn, hkF, b4, b5, -⟩ := id hq'
  rw [show ((q.natAbs : Nat) : Int) = q by omega] at hab hsz
  have z4 : (4000000000000000000 : Int64).toInt = 4000000000000000000 := by decide
  refine gp_rI hq'.1.1 rfl ?_
  rw [hkF]
  refine gp_if (fun hk => ?_) (fun hk => ?_)
  · rw [show (3 : Int32) = nI 3 from rfl, nI_ltI (by omega) (by omega)] at hk
    refine gp_ret ⟨hF2, ?_⟩
    have e1 := hsz.2 (by omega)
    have e2 := mg_pmono (show 3 ≤ k - 1 by omega)
    rw [if_neg (by omega), z4]
  rw [show (3 : Int32) = nI 3 from rfl, nI_ltI (by omega) (by omega)] at hk
  -- the limbs of the quotient
  have hl2 : gp (X0_limbAt f (some (o + 19 + 1)) 2) σ2 (fun x σ' => σ' = σ2 ∧ x.toInt = if 2 < k then dI (tz_A σ2 (o + 19 + 1 + 1)) 2 else 0) := by
    refine gp_mono (c_limbAt hq' 2) ?_
    rintro x σ' ⟨q1, hx⟩
    refine ⟨q1, ?_⟩
    rw [hx]
    by_cases z : 2 < k
    · rw [if_pos (by rw [show (2 : Int32).toInt = 2 from rfl]; omega), if_pos z]; rfl
    · rw [if_neg (by rw [show (2 : Int32).toInt = 2 from rfl]; omega), if_neg z]; rfl
  have hval : q = (if 2 < k then dI (tz_A σ2 (o + 19 + 1 + 1)) 2 else 0) * 1000000000000000000 + ((if 1 < k then dI (tz_A σ2 (o + 19 + 1 + 1)) 1 else 0) * 1000000000 + (if 0 < k then dI (tz_A σ2 (o + 19 + 1 + 1)) 0 else 0)) := by
    rw [hab]
    have hk3 : k = 0 ∨ k = 1 ∨ k = 2 ∨ k = 3 := by omega
    rcases hk3 with z | z | z | z <;> subst z <;> simp [mg] <;> omega
  have hb2 : 0 ≤ (if 2 < k then dI (tz_A σ2 (o + 19 + 1 + 1)) 2 else 0) ∧ (if 2 < k then dI (tz_A σ2 (o + 19 + 1 + 1)) 2 else 0) < 1000000000 := by
    by_cases z : 2 < k
    · rw [if_pos z]; exact b4 2 z
    · rw [if_neg z]; omega
  have hb1 : 0 ≤ (if 1 < k then dI (tz_A σ2 (o + 19 + 1 + 1)) 1 else 0) ∧ (if 1 < k then dI (tz_A σ2 (o + 19 + 1 + 1)) 1 else 0) < 1000000000 := by
    by_cases z : 1 < k
    · rw [if_pos z]; exact b4 1 z
    · rw [if_neg z]; omega
  have hb0 : 0 ≤ (if 0 < k then dI (tz_A σ2 (o + 19 + 1 + 1)) 0 else 0) ∧ (if 0 < k then dI (tz_A σ2 (o + 19 + 1 + 1)) 0 else 0) < 1000000000 := by
    by_cases z : 0 < k
    · rw [if_pos z]; exact b4 0 z
    · rw [if_neg z]; omega
  have hlp := c_lowPair3 (f := f) hq'
  generalize (if 2 < k then dI (tz_A σ2 (o + 19 + 1 + 1)) 2 else 0) = d2 at hl2 hval hb2
  generalize (if 1 < k then dI (tz_A σ2 (o + 19 + 1 + 1)) 1 else 0) = d1 at hlp hval hb1
  generalize (if 0 < k then dI (tz_A σ2 (o + 19 + 1 + 1)) 0 else 0) = d0 at hlp hval hb0
  refine gp_cV hq'.1.1 (gp_mono hl2 ?_)
  rintro x9 σ3 ⟨q1, hx9⟩
  rw [q1]
  clear q1 σ3
  refine gp_if (fun h9' => ?_) (fun h9' => ?_)
  · rw [Int32.le_iff_toInt_le, hx9, show (1 : Int32).toInt = 1 from rfl] at h9'
    refine gp_cV hq'.1.1 (gp_mono hl2 ?_)
    rintro x10 σ3 ⟨q1, hx10⟩
    rw [q1]
    clear q1 σ3
    refine gp_cV hq'.1.1 (gp_mono hlp ?_)
    rintro x11 σ3 ⟨q1, hx11⟩
    rw [q1]
    clear q1 σ3
    refine gp_let ?_
    have z18 : (1000000000000000000 : Int64).toInt = 1000000000000000000 := by decide
    have e1 : (x10.toInt64 * 1000000000000000000).toInt = d2 * 1000000000000000000 := by rw [az_lmul (by rw [Int32.toInt_toInt64, z18, hx10]; omega) (by rw [Int32.toInt_toInt64, z18, hx10]; omega), Int32.toInt_toInt64, z18, hx10]
    have e2 : (x10.toInt64 * 1000000000000000000 + x11).toInt = q := by rw [az_ladd (by rw [e1, hx11]; omega) (by rw [e1, hx11]; omega), e1, hx11, hval]
    generalize x10.toInt64 * 1000000000000000000 + x11 = y at e2 ⊢
    refine gp_rR (cs_tab hc2) rfl ?_
    refine gp_aR (j := r) (cs_ams hc2) (by decide) (by omega) (by omega) rfl ?_
    rw [(cs_am hc2 r (by omega)).2]
    refine gp_rI (Bz_cl hai2) rfl ?_
    rw [Bz_sign hai2, if_pos (by omega)]
    refine gp_if (fun hs => ?_) (fun hs => ?_)
    · refine gp_ret ⟨hF2, ?_⟩
      have : 0 ≤ am r := by
        rcases isg_cases (am r) with z | z | z
        · omega
        · rw [z.2] at hs; exact absurd hs (by decide)
        · omega
      rw [e2, hpos this]
    · refine gp_ret ⟨hF2, ?_⟩
      have : am r < 0 := by
        rcases isg_cases (am r) with z | z | z
        · rw [z.2] at hs; exact absurd (by decide) hs
        · exact z.1
        · rw [z.2] at hs; exact absurd (by decide) hs
      have e3 : (-y).toInt = -q := by rw [az_lneg (by rw [e2]; omega), e2]
      rw [az_lsub (by rw [e3, show (1 : Int64).toInt = 1 from rfl]; omega) (by rw [e3, show (1 : Int64).toInt = 1 from rfl]; omega), e3, hneg this]
      rfl
  · rw [Int32.le_iff_toInt_le, hx9, show (1 : Int32).toInt = 1 from rfl] at h9'
    refine gp_ret ⟨hF2, ?_⟩
    rw [if_neg (by omega), z4]
theorem c_copyValueR {t : Nat} (hc : cSh σ o N) (ht : tbV σ o n m D T am va bs cl) (hf : 2000 ≤ f) (hr : r < m) (hts : fSh σ t 12) (hto : o + 311 < t) : gp (X9_copyValue f (some (o + 32)) (nI (bs r)) (some t)) σ (fun _ σ' => Fr (fP t) σ σ' ∧ Fz σ' t 12 (am r) D) := by
  obtain ⟨⟨h1, h2, h3, h3'⟩, h4, h5, h6, h7, h8, h9⟩ := id ht
  unfold X9_copyValue X9_copyValue_b44
  refine gp_cV (cs_tab hc) (gp_mono (c_rowOfR hc ht hr) ?_)
  rintro _ σ0 ⟨h0, rfl⟩
  rw [h0]
  clear h0 σ0
  refine gp_f (nI_pos (by omega)) ?_
  refine gp_rR (cs_tab hc) rfl ?_
  refine gp_aR (j := r) (cs_ams hc) (by decide) (by omega) (by omega) rfl ?_
  rw [(cs_am hc r (by omega)).2]
  refine gp_rR (cs_tab hc) rfl ?_
  have hai := h6 r hr
  have hDl := Bz_lt h4
  have hpm := mg_pmono (show 8 ≤ 12 by omega)
  refine gp_cV hts.1 (gp_mono (c_setQuotient (turn := 1) hts hf hai h4 (Bz_lt hai) (by omega) (Or.inr (Or.inl rfl)) (by omega)) ?_)
  rintro _ σ1 ⟨hF1, hz⟩
  rw [show (1 : Int32).toInt = 1 from rfl, Int.mul_one] at hz
  exact gp_ret ⟨hF1, hz⟩
theorem c_copyValueC {t : Nat} (hc : cSh σ o N) (ht : tbV σ o n m D T am va bs cl) (hf : 2000 ≤ f) (hcn : c < n) (hts : fSh σ t 12) (hva : -4000000000000000000 < va c ∧ va c < 4000000000000000000) : gp (X9_copyValue f (some (o + 32)) (nI (cl c)) (some t)) σ (fun _ σ' => Fr (fP t) σ σ' ∧ Fz σ' t 12 (va c) 1) := by
  obtain ⟨⟨h1, h2, h3, h3'⟩, h4, h5, h6, h7, h8, h9⟩ := id ht
  unfold X9_copyValue X9_copyValue_b44
  refine gp_cV (cs_tab hc) (gp_mono (c_rowOfC hc ht hcn) ?_)
  rintro _ σ0 ⟨h0, rfl⟩
  rw [h0]
  clear h0 σ0
  refine gp_t (by decide) ?_
  refine gp_rR (cs_tab hc) rfl ?_
  refine gp_rR (cs_tab hc) rfl ?_
  obtain ⟨c1, c2, c3, c4⟩ := h9 c hcn
  refine gp_aI (j := cl c) (cs_lines hc) (by decide) (by omega) (by omega) rfl ?_
  rw [c3]
  refine gp_aL (j := c) (cs_rest hc) (by omega) (by omega) rfl ?_
  have hv := h7 c hcn
  generalize tz_L σ (o + 35) c = w at hv ⊢
  have hpm := mg_pmono (show 3 ≤ 12 by omega)
  refine gp_cV hts.1 (gp_mono (c_setSmall (x := w) (y := 1) hts hf (by rw [hv]; omega) (by rw [show (1 : Int64).toInt = 1 from rfl]; omega)) ?_)
  rintro _ σ1 ⟨hF1, hz⟩
  rw [hv, show (1 : Int64).toInt = 1 from rfl] at hz
  exact gp_ret ⟨hF1, hz⟩
end TB5
