/-! ===== Tableau.exchange ===== -/
section TB4
variable {f o N n m r c : Nat} {σ : tz_S} {D miss : Int} {T T' : Nat → Nat → Int} {am am' va : Nat → Int} {bs cl : Nat → Nat} {g : Int32} {b : Int64}
def exT (T T' : Nat → Nat → Int) (r c : Nat) (g : Int) (i k : Nat) : Nat → Nat → Int := fun i' j' => if i' < i ∧ i' ≠ r then (if j' = c then T i' j' * g else T' i' j') else if i' = i ∧ j' < k ∧ j' ≠ c then T' i' j' else T i' j'
def exA (am am' : Nat → Int) (r i : Nat) : Nat → Int := fun i' => if i' < i ∧ i' ≠ r then am' i' else am i'
theorem c_seats {r c : Nat} (hc : cSh σ o N) (ht : tbV σ o n m D T am va bs cl) (hr : r < m) (hcn : c < n) :
    gp (pz_gB (pz_rR 9 4 (some (o + 32))) fun x8 =>
    pz_uB (pz_sL 2 x8 (nI c) b) <|
    pz_gB (pz_rR 9 5 (some (o + 32))) fun x9 =>
    pz_gB (pz_aI 0 x9 (nI r)) fun x10 =>
    pz_gB (pz_rR 9 6 (some (o + 32))) fun x11 =>
    pz_gB (pz_aI 0 x11 (nI c)) fun x12 =>
    pz_cV 9 (some (o + 32)) (X9_seatRow f (some (o + 32)) (nI r) x12) fun _ =>
    pz_cV 9 (some (o + 32)) (X9_seatColumn f (some (o + 32)) (nI c) x10) fun _ =>
    pz_ret ()) σ (fun _ σ' => Fr (fun x => o + 35 ≤ x ∧ x ≤ o + 39) σ σ' ∧ tbV σ' o n m D T am (fun j => if j = c then b.toInt else va j) (fun i => if i = r then cl c else bs i) (fun j => if j = c then bs r else cl j)) := by
  obtain ⟨⟨h1, h2, h3, h3'⟩, h4, h5, h6, h7, h8, h9⟩ := ht
  obtain ⟨a1, a2, a3, a4⟩ := h8 r hr
  obtain ⟨b1, b2, b3, b4⟩ := h9 c hcn
  refine gp_rR (cs_tab hc) rfl ?_
  refine gp_sL (j := c) (cs_rest hc) (by omega) (by omega) rfl ?_
  have hF1 : Fr (fun x => o + 35 ≤ x ∧ x ≤ o + 39) σ (tz_sL σ (o + 35) c b) := Fr_sL (by omega)
  have hc1 := cs_fr hc hF1
  refine gp_rR (cs_tab hc1) rfl ?_
  refine gp_aI (j := r) (cs_rpl hc1) (by decide) (by omega) (by omega) rfl ?_
  refine gp_rR (cs_tab hc1) rfl ?_
  refine gp_aI (j := c) (cs_cpl hc1) (by decide) (by omega) (by omega) rfl ?_
  rw [show tz_A (tz_sL σ (o + 35) c b) = tz_A σ from rfl, a1, b1]
  refine gp_cV (cs_tab hc1) ?_
  unfold X9_seatRow
  refine gp_rR (cs_tab hc1) rfl ?_
  refine gp_sI (j := r) (cs_rpl hc1) (by decide) (by omega) (by omega) rfl ?_
  have hF2 := Fr_trans hF1 (Fr_sA (σ := tz_sL σ (o + 35) c b) (a := o + 36) (k := r) (v := nI (cl c)) (by omega))
  have hc2 := cs_fr hc hF2
  refine gp_rR (cs_tab hc2) rfl ?_
  refine gp_sI (j := cl c) (cs_lines hc2) (by decide) (by omega) (by omega) rfl ?_
  have hF3 := Fr_trans hF2 (Fr_sA (a := o + 38) (k := cl c) (v := nI r) (by omega))
  have hc3 := cs_fr hc hF3
  refine gp_rR (cs_tab hc3) rfl ?_
  refine gp_sZ (j := cl c) (cs_isb hc3) (by omega) (by omega) rfl (Or.inr rfl) ?_
  have hF4 := Fr_trans hF3 (Fr_sA (a := o + 39) (k := cl c) (v := 1) (by omega))
  have hc4 := cs_fr hc hF4
  refine gp_ret ?_
  refine gp_cV (cs_tab hc4) ?_
  unfold X9_seatColumn
  refine gp_rR (cs_tab hc4) rfl ?_
  refine gp_sI (j := c) (cs_cpl hc4) (by decide) (by omega) (by omega) rfl ?_
  have hF5 := Fr_trans hF4 (Fr_sA (a := o + 37) (k := c) (v := nI (bs r)) (by omega))
  have hc5 := cs_fr hc hF5
  refine gp_rR (cs_tab hc5) rfl ?_
  refine gp_sI (j := bs r) (cs_lines hc5) (by decide) (by omega) (by omega) rfl ?_
  have hF6 := Fr_trans hF5 (Fr_sA (a := o + 38) (k := bs r) (v := nI c) (by omega))
  have hc6 := cs_fr hc hF6
  refine gp_rR (cs_tab hc6) rfl ?_
  refine gp_sZ (j := bs r) (cs_isb hc6) (by omega) (by omega) rfl (Or.inl rfl) ?_
  have hF7 := Fr_trans hF6 (Fr_sA (a := o + 39) (k := bs r) (v := 0) (by omega))
  refine gp_ret (gp_ret ⟨hF7, ⟨h1, h2, h3, h3'⟩, ?_, ?_, ?_, ?_, ?_, ?_⟩)
  · exact Bz_fr h4 hF7 (by omega) (by omega)
  · exact fun i j hi hj => Bz_fr (h5 i j hi hj) hF7 (by omega) (by omega)
  · exact fun i hi => Bz_fr (h6 i hi) hF7 (by omega) (by omega)
  · intro j hj
    show (tz_u2 (tz_L σ) (o + 35) c b (o + 35) j).toInt = _
    by_cases z : j = c
    · subst z; rw [tz_u2_same]; simp
    · rw [tz_u2_ne _ _ (Or.inr z), h7 j hj]; simp [z]
  · intro i hi
    obtain ⟨c1, c2, c3, c4⟩ := h8 i hi
    show tz_u2 (tz_u2 (tz_u2 (tz_u2 (tz_u2 (tz_u2 (tz_A σ) (o + 36) r (nI (cl c))) (o + 38) (cl c) (nI r)) (o + 39) (cl c) 1) (o + 37) c (nI (bs r))) (o + 38) (bs r) (nI c)) (o + 39) (bs r) 0 (o + 36) i = _ ∧ _ ∧ tz_u2 (tz_u2 (tz_u2 (tz_u2 (tz_u2 (tz_u2 (tz_A σ) (o + 36) r (nI (cl c))) (o + 38) (cl c) (nI r)) (o + 39) (cl c) 1) (o + 37) c (nI (bs r))) (o + 38) (bs r) (nI c)) (o + 39) (bs r) 0 (o + 38) _ = _ ∧ tz_u2 (tz_u2 (tz_u2 (tz_u2 (tz_u2 (tz_u2 (tz_A σ) (o + 36) r (nI (cl c))) (o + 38) (cl c) (nI r)) (o + 39) (cl c) 1) (o + 37) c (nI (bs r))) (o + 38) (bs r) (nI c)) (o + 39) (bs r) 0 (o + 39) _ = _
    have hne : cl c ≠ bs r := fun h => by rw [h, a4] at b4; exact absurd b4 (by decide)
    by_cases z : i = r
    · subst z
      simp [tz_u2, hne, b2]
    · have n1 : bs i ≠ cl c := fun h => by rw [h, b4] at c4; exact absurd c4 (by decide)
      have n2 : bs i ≠ bs r := fun h => by
        rw [h, a3, nI_eq (by omega) (by omega)] at c3
        exact z c3.symm
      simp [tz_u2, z, n1, n2, c1, c2, c3, c4]
  · intro j hj
    obtain ⟨c1, c2, c3, c4⟩ := h9 j hj
    show tz_u2 (tz_u2 (tz_u2 (tz_u2 (tz_u2 (tz_u2 (tz_A σ) (o + 36) r (nI (cl c))) (o + 38) (cl c) (nI r)) (o + 39) (cl c) 1) (o + 37) c (nI (bs r))) (o + 38) (bs r) (nI c)) (o + 39) (bs r) 0 (o + 37) j = _ ∧ _ ∧ tz_u2 (tz_u2 (tz_u2 (tz_u2 (tz_u2 (tz_u2 (tz_A σ) (o + 36) r (nI (cl c))) (o + 38) (cl c) (nI r)) (o + 39) (cl c) 1) (o + 37) c (nI (bs r))) (o + 38) (bs r) (nI c)) (o + 39) (bs r) 0 (o + 38) _ = _ ∧ tz_u2 (tz_u2 (tz_u2 (tz_u2 (tz_u2 (tz_u2 (tz_A σ) (o + 36) r (nI (cl c))) (o + 38) (cl c) (nI r)) (o + 39) (cl c) 1) (o + 37) c (nI (bs r))) (o + 38) (bs r) (nI c)) (o + 39) (bs r) 0 (o + 39) _ = _
    by_cases z : j = c
    · subst z
      simp [tz_u2, a2]
    · have n1 : cl j ≠ bs r := fun h => by rw [h, a4] at c4; exact absurd c4 (by decide)
      have n2 : cl j ≠ cl c := fun h => by
        rw [h, b3, nI_eq (by omega) (by omega)] at c3
        exact z c3.symm
      simp [tz_u2, z, n1, n2, c1, c2, c3, c4]
set_option maxHeartbeats 2000000 in
theorem c_exchange (hc : cSh σ o N) (ht : tbV σ o n m D T am va bs cl) (hs : smOk σ (o + 30) N) (hf : 2000 ≤ f) (hr : r < m) (hcn : c < n) (hD0 : 0 < D) (hp0 : T r c ≠ 0) (hva : -4000000000000000000 < va c ∧ va c < 4000000000000000000) (hb : -4000000000000000000 < b.toInt ∧ b.toInt < 4000000000000000000)
    (hg : g = isg (T r c)) (hmi : miss = am r - b.toInt * D) (hml : (miss.natAbs : Int) < 1000000000 ^ 12) (hal : ((g.toInt * va c * T r c - g.toInt * miss).natAbs : Int) < 1000000000 ^ 12)
    (hT : ∀ i j, i < m → j < n → i ≠ r → j ≠ c → D * T' i j = g.toInt * (T i j * T r c - T i c * T r j) ∧ ((T' i j).natAbs : Int) < 1000000000 ^ 8)
    (hA : ∀ i, i < m → i ≠ r → D * am' i = g.toInt * (am i * T r c - T i c * miss) ∧ ((am' i).natAbs : Int) < 1000000000 ^ 12) :
    gp (X9_exchange f (some (o + 32)) (nI r) (nI c) b) σ (fun _ σ' => Fr (exP o) σ σ' ∧ smOk σ' (o + 30) N ∧ tbV σ' o n m (T r c * g.toInt) (fun i j => if i = r ∧ j = c then D * g.toInt else if i = r then T i j * (-g.toInt) else if j = c then T i j * g.toInt else T' i j) (fun i => if i = r then g.toInt * va c * T r c - g.toInt * miss else am' i) (fun j => if j = c then b.toInt else va j) (fun i => if i = r then cl c else bs i) (fun j => if j = c then bs r else cl j)) := by
  have hN := cs_N hc
  have hgg : g = 1 ∨ g = -1 := by rw [hg]; exact isg_ne hp0
  obtain ⟨hg1, hg2, hg3⟩ := turn_neg hgg
  have hn1 := ht.1.2.2.1
  have hm1 := ht.1.2.2.2
  unfold X9_exchange
  refine gp_cV (cs_tab hc) (gp_mono (c_cell hc (by omega) (by omega)) ?_)
  rintro _ σ0 ⟨h0, rfl⟩
  rw [h0]
  clear h0 σ0
  refine gp_cV (cs_tab hc) (gp_mono (c_compareAmount hc ht hs hf hr (by omega)) ?_)
  rintro _ σ1 ⟨hF1, -, u1, hu1, hS1⟩
  rw [← hmi] at hS1
  have hc1 := cs_fr hc hF1
  have ht1 := tbV_fr ht hF1 (fun x a b => by unfold bP; omega) (fun x a b => by unfold bP; omega)
  refine gp_rR (cs_tab hc1) rfl ?_
  refine gp_rR (cs_tab hc1) rfl ?_
  refine gp_cV hS1.1.1 (gp_mono (c_storeS hS1 (cs_miss hc1) hf hml) ?_)
  rintro _ σ2 ⟨hF2, hmi2⟩
  have hc2 := cs_fr hc1 hF2
  have ht2 := tbV_fr ht1 hF2 (fun x a b => by unfold bP; omega) (fun x a b => by unfold bP; omega)
  have hs2 : smOk σ2 (o + 30) N := ⟨_, _, Sz_fr hS1 hF2 (by unfold bP; omega) (by unfold bP; omega)⟩
  have hF20 : Fr (exP o) σ σ2 := Fr_trans (Fr_mono hF1 (exP_b (by omega) (by omega))) (Fr_mono hF2 (exP_b (by omega) (by omega)))
  clear hS1 ht1 hc1 hF1 hF2 hs
  unfold X9_exchange_L29
  refine gp_loop (I := fun (τ : Int32) (σ' : tz_S) => ∃ i, τ = nI i ∧ i ≤ m ∧ Fr (exP o) σ σ' ∧ cSh σ' o N ∧ smOk σ' (o + 30) N ∧ Bz σ' (o + 42) 12 miss ∧ tbV σ' o n m D (exT T T' r c g.toInt i 0) (exA am am' r i) va bs cl) (fun τ _ => 100 - τ.toNatClampNeg) ?_ f _ _ ⟨0, rfl, Nat.zero_le _, hF20, hc2, hs2, hmi2, tbV_cong ht2 (fun i j hi hj => by simp [exT]) (fun i hi => by simp [exA]) (fun _ _ => rfl)⟩ (by omega)
  clear hc2 ht2 hs2 hmi2 hF20
  rintro K l6 σ3 ⟨i, rfl, hi, hF3, hc3, hs3, hmi3, ht3⟩ hK
  show gp (X9_exchange_L29_body f (some (o + 32)) (nI r) (nI c) b (some (o + 48 + 2 * (10 * r + c))) (fun l6 => K l6) (nI i)) σ3 _
  unfold X9_exchange_L29_body
  refine gp_rI (cs_tab hc3) rfl ?_
  rw [ht3.1.1]
  refine gp_if (fun him => ?_) (fun him => ?_)
  · rw [nI_leI (by omega) (by omega)] at him
    have : i = m := by omega
    subst this
    have hpr : exT T T' r c g.toInt i 0 r c = T r c := by simp [exT]
    refine gp_cV (cs_tab hc3) (gp_mono (c_turnRow (g := g) (miss := miss) hc3 ht3 hs3 hf hr hcn (by rw [hpr]; exact hp0) hmi3 hva (by rw [hpr]; exact hg) (by rw [hpr]; exact hal)) ?_)
    rintro _ σ4 ⟨hF4, hs4, ht4⟩
    rw [hpr] at ht4
    refine gp_mono (c_seats (cs_fr hc3 hF4) ht4 hr hcn) ?_
    rintro _ σ5 ⟨hF5, ht5⟩
    refine ⟨Fr_then (Fr_trans hF3 hF4) hF5 (fun x hx => by unfold exP; omega), smOk_fr hs4 hF5 (by omega) (by omega), tbV_cong ht5 ?_ ?_ (fun _ _ => rfl)⟩
    · intro i' j' hi' hj'
      by_cases z1 : i' = r
      · by_cases z2 : j' = c <;> simp [z1, z2, exT]
      · by_cases z2 : j' = c <;> simp [z1, z2, exT, hi']
    · intro i' hi'
      by_cases z1 : i' = r <;> simp [z1, exA, hi']
  rw [nI_leI (by omega) (by omega)] at him
  have next : ∀ σ6, Fr (exP o) σ σ6 → cSh σ6 o N → smOk σ6 (o + 30) N → Bz σ6 (o + 42) 12 miss → tbV σ6 o n m D (exT T T' r c g.toInt (i + 1) 0) (exA am am' r (i + 1)) va bs cl → gp (X9_exchange_b137 f (fun l6 => K l6) (some (o + 32)) (nI r) (nI c) b (some (o + 48 + 2 * (10 * r + c))) (nI i)) σ6 (fun _ σ' => Fr (exP o) σ σ' ∧ smOk σ' (o + 30) N ∧ tbV σ' o n m (T r c * g.toInt) (fun i j => if i = r ∧ j = c then D * g.toInt else if i = r then T i j * (-g.toInt) else if j = c then T i j * g.toInt else T' i j) (fun i => if i = r then g.toInt * va c * T r c - g.toInt * miss else am' i) (fun j => if j = c then b.toInt else va j) (fun i => if i = r then cl c else bs i) (fun j => if j = c then bs r else cl j)) := by
    intro σ6 q1 q2 q3 q4 q5
    unfold X9_exchange_b137
    refine gp_let ?_
    rw [nI_1]
    exact hK _ _ ⟨i + 1, rfl, by omega, q1, q2, q3, q4, q5⟩ (by rw [nI_clamp (by omega), nI_clamp (by omega)]; omega)
  refine gp_if (fun hir => ?_) (fun hir => ?_)
  · rw [nI_eq (by omega) (by omega)] at hir
    subst hir
    refine next σ3 hF3 hc3 hs3 hmi3 (tbV_cong ht3 ?_ ?_ (fun _ _ => rfl))
    · intro i' j' hi' hj'
      by_cases z1 : i' = i
      · simp [exT, z1]
      · have e : (i' < i) = (i' < i + 1) := propext ⟨fun h => by omega, fun h => by omega⟩
        simp [exT, z1, e]
    · intro i' hi'
      by_cases z1 : i' = i
      · simp [exA, z1]
      · have e : (i' < i) = (i' < i + 1) := propext ⟨fun h => by omega, fun h => by omega⟩
        simp [exA, z1, e]
  rw [nI_eq (by omega) (by omega)] at hir
  refine gp_cV (cs_tab hc3) (gp_mono (c_cell hc3 (by omega) (by omega)) ?_)
  rintro _ σ0 ⟨h0, rfl⟩
  rw [h0]
  clear h0 σ0
  unfold X9_exchange_L59
  refine gp_loop (I := fun (τ : Int32) (σ' : tz_S) => ∃ k, τ = nI k ∧ k ≤ n ∧ Fr (exP o) σ σ' ∧ cSh σ' o N ∧ smOk σ' (o + 30) N ∧ Bz σ' (o + 42) 12 miss ∧ tbV σ' o n m D (exT T T' r c g.toInt i k) (exA am am' r i) va bs cl) (fun τ _ => 100 - τ.toNatClampNeg) ?_ f _ _ ⟨0, rfl, Nat.zero_le _, hF3, hc3, hs3, hmi3, ht3⟩ (by omega)
  clear hc3 hs3 hmi3 ht3 hF3 hK
  rintro K2 l8 σ4 ⟨k, rfl, hk, hF4, hc4, hs4, hmi4, ht4⟩ hK2
  show gp (X9_exchange_L59_body f (fun l6 => K l6) (some (o + 32)) (nI r) (nI c) b (some (o + 48 + 2 * (10 * r + c))) (nI i) (some (o + 48 + 2 * (10 * i + c))) (fun l8 => K2 l8) (nI k)) σ4 _
  unfold X9_exchange_L59_body
  obtain ⟨⟨i1, i2, -, -⟩, i4, i5, i6, i7, i8, i9⟩ := id ht4
  have hpv : Bz σ4 (o + 48 + 2 * (10 * r + c)) 8 (T r c) := by
    have := i5 r c hr hcn
    simp only [exT, ne_eq, not_true_eq_false, and_false, if_false] at this
    exact this
  have hsd : Bz σ4 (o + 48 + 2 * (10 * i + c)) 8 (T i c) := by
    have := i5 i c (by omega) hcn
    simp only [exT, ne_eq, not_true_eq_false, and_false, if_false, Nat.lt_irrefl, false_and] at this
    exact this
  refine gp_rI (cs_tab hc4) rfl ?_
  rw [i2]
  refine gp_if (fun hkn => ?_) (fun hkn => ?_)
  · rw [nI_leI (by omega) (by omega)] at hkn
    have : k = n := by omega
    subst this
    clear hK2
    refine gp_rR (cs_tab hc4) rfl ?_
    refine gp_aR (j := i) (cs_ams hc4) (by decide) (by omega) (by omega) rfl ?_
    rw [(cs_am hc4 i (by omega)).2]
    refine gp_rR (cs_tab hc4) rfl ?_
    have hai : Bz σ4 (o + 288 + 2 * i) 12 (am i) := by
      have := i6 i (by omega)
      simp only [exA, Nat.lt_irrefl, false_and, if_false] at this
      exact this
    obtain ⟨x1, x2⟩ := hA i (by omega) hir
    refine gp_cV (cs_tab hc4) (gp_mono (c_cross (x := am' i) (n := k) (m := m) hc4 hs4 hf i4 hD0 hai hpv hsd hmi4 hp0 (by omega) (by omega) (by rw [← hg]; exact x1) x2 (by omega) (by omega) (by omega) (by omega) (by omega) (by omega) (by omega) (by omega)) ?_)
    rintro _ σ5 ⟨hF5, hs5, hb5⟩
    have hc5 := cs_fr hc4 hF5
    have ht5 := tbV_am ht4 (by omega) hF5 hb5
    have hsd5 := Bz_fr hsd hF5 (by unfold crP; omega) (by unfold crP; omega)
    have hpv5 := Bz_fr hpv hF5 (by unfold crP; omega) (by unfold crP; omega)
    refine gp_rI (Bz_cl hsd5) rfl ?_
    refine gp_rI (Bz_cl hpv5) rfl ?_
    rw [Bz_sign hsd5, Bz_sign hpv5, ← hg]
    refine gp_wI (Bz_cl hsd5) rfl ?_
    obtain ⟨q1, q2⟩ := c_sgn hsd5 hgg
    refine next _ (Fr_then (Fr_then hF4 hF5 (exP_cr (by omega) (by omega))) q1 (exP_b (by omega) (by omega))) (cs_fr hc5 q1) (smOk_fr hs5 q1 (by unfold bP; omega) (by unfold bP; omega)) (Bz_fr (Bz_fr hmi4 hF5 (by unfold crP; omega) (by unfold crP; omega)) q1 (by unfold bP; omega) (by unfold bP; omega)) (tbV_cong (tbV_cell ht5 (by omega) (by omega) (Fr_mono q1 exP_cb) q2) ?_ ?_ (fun _ _ => rfl))
    · intro i' j' hi' hj'
      by_cases z1 : i' = i
      · by_cases z2 : j' = c
        · simp [exT, z1, z2, hir]
        · simp [exT, z1, z2, hir, hj']
      · have e : (i' < i) = (i' < i + 1) := propext ⟨fun h => by omega, fun h => by omega⟩
        by_cases z3 : i' = i + 1
        · simp [exT, z3]
          intro h
          omega
        · simp [exT, z1, z3, e]
    · intro i' hi'
      by_cases z1 : i' = i
      · simp [exA, z1, hir]
      · have e : (i' < i) = (i' < i + 1) := propext ⟨fun h => by omega, fun h => by omega⟩
        simp [exA, z1, e]
  rw [nI_leI (by omega) (by omega)] at hkn
  clear next
  have next2 : ∀ σ6, Fr (exP o) σ σ6 → cSh σ6 o N → smOk σ6 (o + 30) N → Bz σ6 (o + 42) 12 miss → tbV σ6 o n m D (exT T T' r c g.toInt i (k + 1)) (exA am am' r i) va bs cl → gp (X9_exchange_b97 f (fun l6 => K l6) (fun l8 => K2 l8) (some (o + 32)) (nI r) (nI c) b (some (o + 48 + 2 * (10 * r + c))) (nI i) (some (o + 48 + 2 * (10 * i + c))) (nI k)) σ6 (fun _ σ' => Fr (exP o) σ σ' ∧ smOk σ' (o + 30) N ∧ tbV σ' o n m (T r c * g.toInt) (fun i j => if i = r ∧ j = c then D * g.toInt else if i = r then T i j * (-g.toInt) else if j = c then T i j * g.toInt else T' i j) (fun i => if i = r then g.toInt * va c * T r c - g.toInt * miss else am' i) (fun j => if j = c then b.toInt else va j) (fun i => if i = r then cl c else bs i) (fun j => if j = c then bs r else cl j)) := by
    intro σ6 q1 q2 q3 q4 q5
    unfold X9_exchange_b97
    refine gp_let ?_
    rw [nI_1]
    exact hK2 _ _ ⟨k + 1, rfl, by omega, q1, q2, q3, q4, q5⟩ (by rw [nI_clamp (by omega), nI_clamp (by omega)]; omega)
  refine gp_if (fun hkc => ?_) (fun hkc => ?_)
  · rw [nI_eq (by omega) (by omega)] at hkc
    refine next2 σ4 hF4 hc4 hs4 hmi4 (tbV_cong ht4 ?_ (fun _ _ => rfl) (fun _ _ => rfl))
    intro i' j' hi' hj'
    have e : (i' = i ∧ j' < k ∧ j' ≠ c) = (i' = i ∧ j' < k + 1 ∧ j' ≠ c) := propext ⟨fun h => ⟨h.1, by omega, h.2.2⟩, fun h => ⟨h.1, by omega, h.2.2⟩⟩
    simp only [exT, e]
  rw [nI_eq (by omega) (by omega)] at hkc
  refine gp_cV (cs_tab hc4) (gp_mono (c_cell hc4 (by omega) (by omega)) ?_)
  rintro _ σ0 ⟨h0, rfl⟩
  rw [h0]
  clear h0 σ0
  refine gp_cV (cs_tab hc4) (gp_mono (c_cell hc4 (by omega) (by omega)) ?_)
  rintro _ σ0 ⟨h0, rfl⟩
  rw [h0]
  clear h0 σ0
  have htk : Bz σ4 (o + 48 + 2 * (10 * i + k)) 8 (T i k) := by
    have := i5 i k (by omega) (by omega)
    simp only [exT, Nat.lt_irrefl, false_and, and_false, if_false] at this
    exact this
  have hek : Bz σ4 (o + 48 + 2 * (10 * r + k)) 8 (T r k) := by
    have := i5 r k hr (by omega)
    simp only [exT, ne_eq, not_true_eq_false, and_false, if_false, show ¬ r = i from fun h => hir h.symm, false_and] at this
    exact this
  obtain ⟨x1, x2⟩ := hT i k (by omega) (by omega) hir hkc
  refine gp_cV (cs_tab hc4) (gp_mono (c_cross (x := T' i k) (n := n) (m := m) hc4 hs4 hf i4 hD0 htk hpv hsd hek hp0 (by omega) (by omega) (by rw [← hg]; exact x1) x2 (by omega) (by omega) (by omega) (by omega) (by omega) (by omega) (by omega) (by omega)) ?_)
  rintro _ σ5 ⟨hF5, hs5, hb5⟩
  refine next2 σ5 (Fr_then hF4 hF5 (exP_cr (by omega) (by omega))) (cs_fr hc4 hF5) hs5 (Bz_fr hmi4 hF5 (by unfold crP; omega) (by unfold crP; omega)) (tbV_cong (tbV_cell ht4 (by omega) (by omega) hF5 hb5) ?_ (fun _ _ => rfl) (fun _ _ => rfl))
  intro i' j' hi' hj'
  by_cases z1 : i' = i
  · by_cases z2 : j' = k
    · simp [exT, z1, z2, hkc]
    · have e : (j' < k ∧ ¬ j' = c) = (j' < k + 1 ∧ ¬ j' = c) := propext ⟨fun h => ⟨by omega, h.2⟩, fun h => ⟨by omega, h.2⟩⟩
      simp [exT, z1, z2, e]
  · simp [exT, z1]
end TB4
