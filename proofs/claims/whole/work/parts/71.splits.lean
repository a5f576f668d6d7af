/-! ===== Bounds.setRows, setSplits; Tree.splitsAbove, lastWaiting ===== -/
section BS
variable {f o N n m B q K lc : Nat} {σ : tz_S} {A : Nat → Nat → Int} {kd : Nat → Nat} {bb dr : Nat → Int} {wh : Nat → Bool} {up fi se : Nat → Option Nat} {vr : Nat → Nat} {fo to : Nat → Int} {cd : Nat → Bool} {ln : Nat → Nat} {op : Option Nat}
/-- bounds of a row's place -/
def rub (n : Nat) (kd : Nat → Nat) (bb : Nat → Int) (p : Nat) : Option Int := if kd (p - n) = 1 then none else some (bb (p - n))
def rlb (n : Nat) (kd : Nat → Nat) (bb : Nat → Int) (p : Nat) : Option Int := if kd (p - n) = 0 then none else some (bb (p - n))
set_option maxHeartbeats 1000000 in
theorem c_setRows (hc : cSh σ o N) (hw : rwV σ o n m A kd bb wh dr) (hs : bnSh σ B) (hf : 2000 ≤ f) (hB : o + 18 < B) : gp (X1_setRows f (some B) (some (o + 1))) σ (fun _ σ' => Fr (bnP B) σ σ' ∧ ∀ p, n ≤ p → p < n + m → bp σ' B p (rub n kd bb p) (rlb n kd bb p)) := by
  have hn1 := hw.1.2.2.1
  have hm1 := hw.1.2.2.2
  unfold X1_setRows X1_setRows_L2
  refine gp_loop (I := fun (τ : Int32) (σ' : tz_S) => ∃ i, τ = nI i ∧ i ≤ m ∧ Fr (bnP B) σ σ' ∧ ∀ p, n ≤ p → p < n + i → bp σ' B p (rub n kd bb p) (rlb n kd bb p)) (fun τ _ => 100 - τ.toNatClampNeg) ?_ f _ _ ⟨0, rfl, Nat.zero_le _, Fr_refl, fun p h1 h2 => by omega⟩ (by omega)
  rintro K' l2 σ1 ⟨i, rfl, hi, hF1, h1⟩ hK
  show gp (X1_setRows_L2_body f (some B) (some (o + 1)) (fun l2 => K' l2) (nI i)) σ1 _
  unfold X1_setRows_L2_body
  have hc1 := cs_fr hc hF1
  have hw1 := rwV_fr hw hF1 (fun x a b => by unfold bnP; omega)
  obtain ⟨⟨w1, w2, -, -⟩, w3, w4, w5, w6, w7⟩ := id hw1
  obtain ⟨s1, s2, s3, s4, s5⟩ := bnSh_fr hs hF1
  refine gp_rI (cs_rows hc1) rfl ?_
  rw [w2]
  refine gp_if (fun z => ?_) (fun z => ?_)
  · rw [nI_leI (by omega) (by omega)] at z
    exact gp_ret ⟨hF1, fun p q1 q2 => h1 p q1 (by omega)⟩
  rw [nI_leI (by omega) (by omega)] at z
  refine gp_rI (cs_rows hc1) rfl ?_
  rw [w1]
  refine gp_let ?_
  rw [nI_add]
  refine gp_rR s1 rfl ?_
  refine gp_rR (cs_rows hc1) rfl ?_
  refine gp_aI (j := i) (cs_kinds hc1) (by decide) (by omega) (by omega) rfl ?_
  rw [(w4 i (by omega)).1]
  have hk2 := (w4 i (by omega)).2
  -- the second half
  have half2 : ∀ (σ2 : tz_S) (x2 : Int32), Fr (bnP B) σ1 σ2 → (∀ p, p ≠ n + i → tz_A σ2 (B + 1) p = tz_A σ1 (B + 1) p ∧ tz_A σ2 (B + 2) p = tz_A σ1 (B + 2) p ∧ tz_L σ2 (B + 3) p = tz_L σ1 (B + 3) p ∧ tz_L σ2 (B + 4) p = tz_L σ1 (B + 4) p) → (tz_A σ2 (B + 1) (n + i) = if rub n kd bb (n + i) = none then 0 else 1) → (x2 = if rlb n kd bb (n + i) = none then 0 else 1) →
      gp (X1_setRows_b57 f (fun l2 => K' l2) (some B) (some (o + 1)) (nI i) (nI (n + i)) (some (B + 2)) (nI (n + i)) x2) σ2 (fun _ σ' => Fr (bnP B) σ σ' ∧ ∀ p, n ≤ p → p < n + m → bp σ' B p (rub n kd bb p) (rlb n kd bb p)) := by
    intro σ2 x2 hF2 hk3 hk4 hx2
    have hx2' : x2 = 0 ∨ x2 = 1 := by
      rw [hx2]
      by_cases y : rlb n kd bb (n + i) = none
      · rw [if_pos y]; exact Or.inl rfl
      · rw [if_neg y]; exact Or.inr rfl
    have hc2 := cs_fr hc1 hF2
    obtain ⟨t1, t2, t3, t4, t5⟩ := bnSh_fr (bnSh_fr hs hF1) hF2
    unfold X1_setRows_b57
    refine gp_sZ (j := n + i) t3 (by omega) (by omega) rfl hx2' ?_
    have hF3 : Fr (bnP B) σ2 (tz_sA σ2 (B + 2) (n + i) x2) := Fr_sA (by unfold bnP; omega)
    refine gp_rR (σ := tz_sA σ2 (B + 2) (n + i) x2) t1 rfl ?_
    refine gp_rR (cs_rows (cs_fr hc2 hF3)) rfl ?_
    refine gp_aI (j := i) (cs_nums (cs_fr hc2 hF3)) (by decide) (by omega) (by omega) rfl ?_
    have hnum : tz_A (tz_sA σ2 (B + 2) (n + i) x2) (o + 16) i = tz_A σ1 (o + 16) i := by rw [Fr_A hF3 (by unfold bnP; omega), Fr_A hF2 (by unfold bnP; omega)]
    rw [hnum]
    refine gp_sL (σ := tz_sA σ2 (B + 2) (n + i) x2) (j := n + i) t4 (by omega) (by omega) rfl ?_
    have hF4 := Fr_trans hF3 (Fr_sL (a := B + 3) (k := n + i) (v := (tz_A σ1 (o + 16) i).toInt64) (by unfold bnP; omega))
    refine gp_rR (σ := tz_sL (tz_sA σ2 (B + 2) (n + i) x2) (B + 3) (n + i) (tz_A σ1 (o + 16) i).toInt64) t1 rfl ?_
    refine gp_rR (cs_rows (cs_fr hc2 hF4)) rfl ?_
    refine gp_aI (j := i) (cs_nums (cs_fr hc2 hF4)) (by decide) (by omega) (by omega) rfl ?_
    have hnum2 : tz_A (tz_sL (tz_sA σ2 (B + 2) (n + i) x2) (B + 3) (n + i) (tz_A σ1 (o + 16) i).toInt64) (o + 16) i = tz_A σ1 (o + 16) i := hnum
    rw [hnum2]
    have hv : ((tz_A σ1 (o + 16) i).toInt64).toInt = bb i := by rw [Int32.toInt_toInt64]; exact w5 i (by omega)
    generalize (tz_A σ1 (o + 16) i).toInt64 = v at hv hF4 ⊢
    refine gp_sL (σ := tz_sL (tz_sA σ2 (B + 2) (n + i) x2) (B + 3) (n + i) v) (j := n + i) t5 (by omega) (by omega) rfl ?_
    have hF5 := Fr_trans hF4 (Fr_sL (a := B + 4) (k := n + i) (v := v) (by unfold bnP; omega))
    refine gp_let ?_
    rw [nI_1]
    refine hK _ _ ⟨i + 1, rfl, by omega, Fr_trans (Fr_trans hF1 hF2) hF5, ?_⟩ (by rw [nI_clamp (by omega), nI_clamp (by omega)]; omega)
    intro p hp1 hp2
    show tz_u2 (tz_A σ2) (B + 2) (n + i) x2 (B + 1) p = _ ∧ tz_u2 (tz_A σ2) (B + 2) (n + i) x2 (B + 2) p = _ ∧ (∀ v', _ → (tz_u2 (tz_u2 (tz_L σ2) (B + 3) (n + i) v) (B + 4) (n + i) v (B + 3) p).toInt = v') ∧ ∀ v', _ → (tz_u2 (tz_u2 (tz_L σ2) (B + 3) (n + i) v) (B + 4) (n + i) v (B + 4) p).toInt = v'
    rw [tz_u2_ne (tz_A σ2) (b := B + 1) _ (Or.inl (by omega)), tz_u2_ne (tz_u2 (tz_L σ2) (B + 3) (n + i) v) (b := B + 3) _ (Or.inl (by omega))]
    by_cases y : p = n + i
    · subst y
      rw [tz_u2_same, tz_u2_same, tz_u2_same]
      refine ⟨hk4, hx2, fun v' hv' => ?_, fun v' hv' => ?_⟩
      · rw [hv]
        unfold rub at hv'
        by_cases y2 : kd (n + i - n) = 1
        · rw [if_pos y2] at hv'; cases hv'
        · rw [if_neg y2, show n + i - n = i by omega] at hv'; cases hv'; rfl
      · rw [hv]
        unfold rlb at hv'
        by_cases y2 : kd (n + i - n) = 0
        · rw [if_pos y2] at hv'; cases hv'
        · rw [if_neg y2, show n + i - n = i by omega] at hv'; cases hv'; rfl
    · obtain ⟨e1, e2, e3, e4⟩ := hk3 p y
      rw [tz_u2_ne _ _ (Or.inr y), tz_u2_ne _ _ (Or.inr y), tz_u2_ne (tz_u2 (tz_L σ2) (B + 3) (n + i) v) _ (Or.inr y), tz_u2_ne _ _ (Or.inr y), e1, e2, e3, e4]
      exact h1 p hp1 (by omega)
  have half1 : ∀ x1 : Int32, (x1 = if rub n kd bb (n + i) = none then 0 else 1) → gp (X1_setRows_b37 f (fun l2 => K' l2) (some B) (some (o + 1)) (nI i) (nI (n + i)) (some (B + 1)) (nI (n + i)) x1) σ1 (fun _ σ' => Fr (bnP B) σ σ' ∧ ∀ p, n ≤ p → p < n + m → bp σ' B p (rub n kd bb p) (rlb n kd bb p)) := by
    intro x1 hx1
    have hx1' : x1 = 0 ∨ x1 = 1 := by
      rw [hx1]
      by_cases y : rub n kd bb (n + i) = none
      · rw [if_pos y]; exact Or.inl rfl
      · rw [if_neg y]; exact Or.inr rfl
    unfold X1_setRows_b37
    refine gp_sZ (j := n + i) s2 (by omega) (by omega) rfl hx1' ?_
    have hF2 : Fr (bnP B) σ1 (tz_sA σ1 (B + 1) (n + i) x1) := Fr_sA (by unfold bnP; omega)
    refine gp_rR (σ := tz_sA σ1 (B + 1) (n + i) x1) s1 rfl ?_
    refine gp_rR (cs_rows (cs_fr hc1 hF2)) rfl ?_
    refine gp_aI (j := i) (cs_kinds (cs_fr hc1 hF2)) (by decide) (by omega) (by omega) rfl ?_
    have hkk : tz_A (tz_sA σ1 (B + 1) (n + i) x1) (o + 15) i = nI (kd i) := by rw [Fr_A hF2 (by unfold bnP; omega)]; exact (w4 i (by omega)).1
    rw [hkk]
    have hoth : ∀ p, p ≠ n + i → tz_A (tz_sA σ1 (B + 1) (n + i) x1) (B + 1) p = tz_A σ1 (B + 1) p ∧ tz_A (tz_sA σ1 (B + 1) (n + i) x1) (B + 2) p = tz_A σ1 (B + 2) p ∧ tz_L (tz_sA σ1 (B + 1) (n + i) x1) (B + 3) p = tz_L σ1 (B + 3) p ∧ tz_L (tz_sA σ1 (B + 1) (n + i) x1) (B + 4) p = tz_L σ1 (B + 4) p := fun p hp => ⟨tz_u2_ne _ _ (Or.inr hp), tz_u2_ne _ _ (Or.inr hp), rfl, rfl⟩
    have hme : tz_A (tz_sA σ1 (B + 1) (n + i) x1) (B + 1) (n + i) = if rub n kd bb (n + i) = none then 0 else 1 := by rw [← hx1]; exact tz_u2_same _ _ _ _
    refine gp_if (fun y => ?_) (fun y => ?_)
    · rw [show (0 : Int32) = nI 0 from rfl, nI_eq (by omega) (by omega)] at y
      refine half2 _ 0 hF2 hoth hme ?_
      rw [if_pos]
      unfold rlb
      rw [if_pos (by rw [show n + i - n = i by omega]; exact y)]
    · rw [show (0 : Int32) = nI 0 from rfl, nI_eq (by omega) (by omega)] at y
      refine half2 _ 1 hF2 hoth hme ?_
      rw [if_neg]
      unfold rlb
      rw [if_neg (by rw [show n + i - n = i by omega]; exact y)]
      simp
  clear half2
  refine gp_if (fun y => ?_) (fun y => ?_)
  · rw [show (1 : Int32) = nI 1 from rfl, nI_eq (by omega) (by omega)] at y
    refine half1 0 ?_
    rw [if_pos]
    unfold rub
    rw [if_pos (by rw [show n + i - n = i by omega]; exact y)]
  · rw [show (1 : Int32) = nI 1 from rfl, nI_eq (by omega) (by omega)] at y
    refine half1 1 ?_
    rw [if_neg]
    unfold rub
    rw [if_neg (by rw [show n + i - n = i by omega]; exact y)]
    simp
set_option maxHeartbeats 1000000 in
theorem c_setSplits {k aa : Nat} {at1 : Nat → Int} (hc : cSh σ o N) (ht : trV σ o q K lc up fi se vr fo to cd ln op) (hw : trW K lc up fi se ln) (hs : bnSh σ B) (hf : 2000 ≤ f) (hB : o + 321 < B) (hB2 : B + 4 < aa ∨ aa < B + 1) (hn : n ≤ 10) (hk : k < K)
    (hpar : ∀ j p, j < K → up j = some p → fi p ≠ none) (hvr : ∀ s, s < K → fi s ≠ none → vr s < n) (haa : tz_sh σ aa = some (.inr (2, 301))) (hat : ∀ s, s < K → fi s ≠ none → (tz_L σ aa s).toInt = at1 s ∧ -2000000000000000000 < at1 s ∧ at1 s < 2000000000000000000) :
    gp (X1_setSplits f (some B) (some (o + 312)) (nI n) (nI k) (some aa)) σ (fun _ σ' => Fr (bnP B) σ σ' ∧ (∀ x, x < n → bp σ' B x (fU vr at1 x (pt up fi k) none) (fL vr at1 x (pt up fi k) none)) ∧ ∀ p, n ≤ p → tz_A σ' (B + 1) p = tz_A σ (B + 1) p ∧ tz_A σ' (B + 2) p = tz_A σ (B + 2) p ∧ tz_L σ' (B + 3) p = tz_L σ (B + 3) p ∧ tz_L σ' (B + 4) p = tz_L σ (B + 4) p) := by
  have hK301 := ht.1.2.2.2.1
  have hupw : ∀ k, k < K → ∀ p, up k = some p → p < k := fun k hk => (hw k hk).1
  unfold X1_setSplits X1_setSplits_L3
  refine gp_loop (I := fun (τ : Int32) (σ' : tz_S) => ∃ i, τ = nI i ∧ i ≤ n ∧ Fr (bnP B) σ σ' ∧ (∀ x, x < i → bp σ' B x none none) ∧ ∀ p, n ≤ p → tz_A σ' (B + 1) p = tz_A σ (B + 1) p ∧ tz_A σ' (B + 2) p = tz_A σ (B + 2) p ∧ tz_L σ' (B + 3) p = tz_L σ (B + 3) p ∧ tz_L σ' (B + 4) p = tz_L σ (B + 4) p) (fun τ _ => 100 - τ.toNatClampNeg) ?_ f _ _ ⟨0, rfl, Nat.zero_le _, Fr_refl, fun x hx => absurd hx (Nat.not_lt_zero _), fun p _ => ⟨rfl, rfl, rfl, rfl⟩⟩ (by omega)
  rintro K' l5 σ1 ⟨i, rfl, hi, hF1, h1, h2⟩ hK'
  show gp (X1_setSplits_L3_body f (some B) (some (o + 312)) (nI n) (nI k) (some aa) (fun l5 => K' l5) (nI i)) σ1 _
  unfold X1_setSplits_L3_body
  obtain ⟨s1, s2, s3, s4, s5⟩ := bnSh_fr hs hF1
  refine gp_if (fun z => ?_) (fun z => ?_)
  rotate_left
  · rw [nI_leI (by omega) (by omega)] at z
    refine gp_rR s1 rfl ?_
    refine gp_sZ (j := i) s2 (by omega) (by omega) rfl (Or.inl rfl) ?_
    refine gp_rR (σ := tz_sA σ1 (B + 1) i 0) s1 rfl ?_
    refine gp_sZ (σ := tz_sA σ1 (B + 1) i 0) (j := i) s3 (by omega) (by omega) rfl (Or.inl rfl) ?_
    refine gp_let ?_
    rw [nI_1]
    have hF2 : Fr (bnP B) σ1 (tz_sA (tz_sA σ1 (B + 1) i 0) (B + 2) i 0) := Fr_trans (Fr_sA (by unfold bnP; omega)) (Fr_sA (by unfold bnP; omega))
    refine hK' _ _ ⟨i + 1, rfl, by omega, Fr_trans hF1 hF2, ?_, ?_⟩ (by rw [nI_clamp (by omega), nI_clamp (by omega)]; omega)
    · intro x hx
      show tz_u2 (tz_u2 (tz_A σ1) (B + 1) i 0) (B + 2) i 0 (B + 1) x = _ ∧ tz_u2 (tz_u2 (tz_A σ1) (B + 1) i 0) (B + 2) i 0 (B + 2) x = _ ∧ _ ∧ _
      refine ⟨?_, ?_, fun v hv => (by cases hv), fun v hv => (by cases hv)⟩
      · rw [tz_u2_ne _ _ (Or.inl (by omega))]
        by_cases y : x = i
        · subst y; rw [tz_u2_same]; simp
        · rw [tz_u2_ne _ _ (Or.inr y)]; exact (h1 x (by omega)).1
      · by_cases y : x = i
        · subst y; rw [tz_u2_same]; simp
        · rw [tz_u2_ne _ _ (Or.inr y), tz_u2_ne _ _ (Or.inr y)]; exact (h1 x (by omega)).2.1
    · intro p hp
      obtain ⟨e1, e2, e3, e4⟩ := h2 p hp
      refine ⟨?_, ?_, e3, e4⟩
      · rw [← e1]
        exact (tz_u2_ne _ _ (Or.inr (by omega))).trans (tz_u2_ne _ _ (Or.inr (by omega)))
      · rw [← e2]
        exact (tz_u2_ne _ _ (Or.inr (by omega))).trans (tz_u2_ne _ _ (Or.inr (by omega)))
  rw [nI_leI (by omega) (by omega)] at z
  have : i = n := by omega
  subst this
  clear hK' z hi s1 s2 s3 s4 s5
  unfold X1_setSplits_L37
  refine gp_loop (I := fun (τ : Int32 × Int32) (σ' : tz_S) => ∃ (j lv : Nat) (cu cw : Nat → Option Int), τ.1 = nI j ∧ τ.2 = nI lv ∧ j < K ∧ lv + (pt up fi j).length = (pt up fi k).length ∧ Fr (bnP B) σ σ' ∧ (∀ x, x < i → bp σ' B x (cu x) (cw x)) ∧ (∀ x, x < i → fU vr at1 x (pt up fi j) (cu x) = fU vr at1 x (pt up fi k) none ∧ fL vr at1 x (pt up fi j) (cw x) = fL vr at1 x (pt up fi k) none) ∧ ∀ p, i ≤ p → tz_A σ' (B + 1) p = tz_A σ (B + 1) p ∧ tz_A σ' (B + 2) p = tz_A σ (B + 2) p ∧ tz_L σ' (B + 3) p = tz_L σ (B + 3) p ∧ tz_L σ' (B + 4) p = tz_L σ (B + 4) p) (fun τ _ => 1000 - τ.2.toNatClampNeg) ?_ f _ _ ⟨k, 0, fun _ => none, fun _ => none, rfl, rfl, hk, by omega, hF1, h1, fun x hx => ⟨rfl, rfl⟩, h2⟩ (by omega)
  clear h1 h2 hF1 σ1
  rintro K2 ⟨l5, l6⟩ σ1 ⟨j, lv, cu, cw, h5, h6, hj, hlv, hF1, h1, h2, h3⟩ hK2
  simp only at h5 h6 hK2
  subst h5 h6
  show gp (X1_setSplits_L37_body f (some B) (some (o + 312)) (some aa) (fun l5 l6 => K2 (l5, l6)) (nI j) (nI lv)) σ1 _
  unfold X1_setSplits_L37_body X1_setSplits_b132
  have hlen := pt_len (fi := fi) hupw k hk
  have hc1 := cs_fr hc hF1
  have ht1 := trV_fr ht hF1 (fun x a b => by unfold bnP; omega)
  have hs1 := bnSh_fr hs hF1
  obtain ⟨-, -, t8, t9⟩ := id ht1
  obtain ⟨a1, a2, a3, a4, a5⟩ := t8 j hj
  refine gp_f (by rw [show (301 : Int32) = nI 301 from rfl, nI_leI (by omega) (by omega)]; omega) ?_
  refine gp_cV (cs_tree hc1) (gp_mono (c_hasN hc1 ht1 hj) ?_)
  rintro y σ0 ⟨z0, rfl⟩
  rw [z0]
  clear z0 σ0
  refine gp_f (by decide) ?_
  refine gp_rR (cs_tree hc1) rfl ?_
  refine gp_aI (j := j) (cs_above hc1) (by decide) (by omega) (by omega) rfl ?_
  rw [a1]
  cases hu : up j with
  | none =>
    refine gp_t (by decide) ?_
    refine gp_ret ⟨hF1, ?_, h3⟩
    intro x hx
    obtain ⟨e1, e2⟩ := h2 x hx
    rw [pt_none hu] at e1 e2
    rw [← e1, ← e2]
    exact h1 x hx
  | some s =>
    have hsj := hupw j hj s hu
    have hfs := hpar j s hj hu
    have hvs := hvr s (by omega) hfs
    obtain ⟨v1, v2, v3⟩ := t9 s (by omega) hfs
    obtain ⟨b1, b2, b3, b4, b5⟩ := t8 s (by omega)
    obtain ⟨w1, w2, w3⟩ := hat s (by omega) hfs
    have hpt := pt_some (fi := fi) hupw hj hu
    rw [hpt] at hlv h2
    rw [List.length_cons] at hlv
    show gp (pz_if (nI s < 0) _ _) σ1 _
    refine gp_f (nI_pos (by omega)) ?_
    refine gp_rR (cs_tree hc1) rfl ?_
    refine gp_aI (j := j) (cs_above hc1) (by decide) (by omega) (by omega) rfl ?_
    rw [a1, hu]
    refine gp_rR (cs_tree hc1) rfl ?_
    refine gp_aI (j := s) (cs_first hc1) (by decide) (by omega) (by omega) rfl ?_
    rw [b2]
    have hb31 : ∀ p, fi s = some p → p < 2 ^ 31 := fun p hp => by have := (hw s (by omega)).2.1 p hp; omega
    have haL : (tz_L σ1 aa s).toInt = at1 s := by rw [Fr_L hF1 (by unfold bnP; omega)]; exact w1
    have haa1 : tz_sh σ1 aa = some (.inr (2, 301)) := by rw [Fr_sh hF1]; exact haa
    refine gp_if (fun hfirst => ?_) (fun hfirst => ?_)
    · rw [eN_eq hb31 (by omega)] at hfirst
      refine gp_rR (cs_tree hc1) rfl ?_
      refine gp_aI (j := s) (cs_variable hc1) (by decide) (by omega) (by omega) rfl ?_
      rw [v1]
      refine gp_aL (j := s) haa1 (by omega) (by omega) rfl ?_
      generalize tz_L σ1 aa s = w at haL ⊢
      refine gp_cV hs1.1 (gp_mono (c_tightenUpper (n := i) (ub := cu) (lb := cw) hs1 (by omega) (fun p hp hpx => h1 p (by omega))) ?_)
      rintro _ σ2 ⟨hF2, g1, g2⟩
      unfold X1_setSplits_b122
      refine gp_let ?_
      rw [nI_1]
      refine hK2 (_, _) _ ⟨s, lv + 1, fun p => if p = vr s then tU (cu p) w.toInt else cu p, cw, rfl, rfl, by omega, by omega, Fr_trans hF1 hF2, fun x hx => g1 x (by omega) (Or.inr hx), ?_, ?_⟩ (by simp only; rw [nI_clamp (by omega), nI_clamp (by omega)]; omega)
      · intro x hx
        obtain ⟨e1, e2⟩ := h2 x hx
        rw [← e1, ← e2]
        simp only [fU, fL, hfirst, decide_true, true_and]
        refine ⟨?_, by simp⟩
        by_cases y : vr s = x
        · simp [y, haL]
        · simp [y, show ¬ x = vr s from fun e => y e.symm]
      · intro p hp
        obtain ⟨e1, e2, e3, e4⟩ := h3 p hp
        obtain ⟨d1, d2, d3, d4⟩ := g2 p (by omega)
        exact ⟨d1.trans e1, d2.trans e2, d3.trans e3, d4.trans e4⟩
    · rw [eN_eq hb31 (by omega)] at hfirst
      refine gp_rR (cs_tree hc1) rfl ?_
      refine gp_aI (j := s) (cs_variable hc1) (by decide) (by omega) (by omega) rfl ?_
      rw [v1]
      refine gp_aL (j := s) haa1 (by omega) (by omega) rfl ?_
      have haL1 : (tz_L σ1 aa s + 1).toInt = at1 s + 1 := by rw [az_ladd (by rw [haL, show (1 : Int64).toInt = 1 from rfl]; omega) (by rw [haL, show (1 : Int64).toInt = 1 from rfl]; omega), haL]; rfl
      generalize tz_L σ1 aa s + 1 = w at haL1 ⊢
      refine gp_cV hs1.1 (gp_mono (c_tightenLower (n := i) (ub := cu) (lb := cw) hs1 (by omega) (fun p hp hpx => h1 p (by omega))) ?_)
      rintro _ σ2 ⟨hF2, g1, g2⟩
      unfold X1_setSplits_b122
      refine gp_let ?_
      rw [nI_1]
      refine hK2 (_, _) _ ⟨s, lv + 1, cu, fun p => if p = vr s then tL (cw p) w.toInt else cw p, rfl, rfl, by omega, by omega, Fr_trans hF1 hF2, fun x hx => g1 x (by omega) (Or.inr hx), ?_, ?_⟩ (by simp only; rw [nI_clamp (by omega), nI_clamp (by omega)]; omega)
      · intro x hx
        obtain ⟨e1, e2⟩ := h2 x hx
        rw [← e1, ← e2]
        simp only [fU, fL, hfirst, decide_false, true_and]
        refine ⟨by simp, ?_⟩
        by_cases y : vr s = x
        · simp [y, haL1]
        · simp [y, show ¬ x = vr s from fun e => y e.symm]
      · intro p hp
        obtain ⟨e1, e2, e3, e4⟩ := h3 p hp
        obtain ⟨d1, d2, d3, d4⟩ := g2 p (by omega)
        exact ⟨d1.trans e1, d2.trans e2, d3.trans e3, d4.trans e4⟩
theorem c_splitsAbove {k : Nat} (hc : cSh σ o N) (ht : trV σ o q K lc up fi se vr fo to cd ln op) (hw : trW K lc up fi se ln) (hf : 2000 ≤ f) (hk : k < K) : gp (X10_splitsAbove f (some (o + 312)) (nI k)) σ (fun y σ' => σ' = σ ∧ y = nI (pt up fi k).length) := by
  obtain ⟨⟨h1, h21, h3, h4, h5, h6⟩, -, h8, h9⟩ := id ht
  have hupw : ∀ k, k < K → ∀ p, up k = some p → p < k := fun k hk => (hw k hk).1
  have hlen := pt_len (fi := fi) hupw k hk
  unfold X10_splitsAbove
  refine gp_cV (cs_tree hc) (gp_mono (c_hasN hc ht hk) ?_)
  rintro y σ0 ⟨z0, rfl⟩
  rw [z0]
  clear z0 σ0
  refine gp_f (by decide) ?_
  refine gp_rR (cs_tree hc) rfl ?_
  refine gp_aI (j := k) (cs_above hc) (by decide) (by omega) (by omega) rfl ?_
  rw [(h8 k hk).1]
  unfold X10_splitsAbove_b21 X10_splitsAbove_L22
  refine gp_loop (I := fun (τ : Int32 × Int32) (σ' : tz_S) => σ' = σ ∧ ∃ (j lv : Nat), τ.1 = nI lv ∧ τ.2 = eN (up j) ∧ j < K ∧ lv + (pt up fi j).length = (pt up fi k).length) (fun τ _ => 1000 - τ.1.toNatClampNeg) ?_ f _ _ ⟨rfl, k, 0, rfl, rfl, hk, by omega⟩ (by omega)
  rintro K2 ⟨l2, l3⟩ σ1 ⟨q1, j, lv, q2, q3, hj, hlv⟩ hK2
  simp only at q2 q3 hK2
  subst q1 q2 q3
  show gp (X10_splitsAbove_L22_body f (some (o + 312)) (fun l2 l3 => K2 (l2, l3)) (nI lv) (eN (up j))) σ1 _
  unfold X10_splitsAbove_L22_body X10_splitsAbove_b46
  cases hu : up j with
  | none =>
    refine gp_t (by decide) (gp_ret ⟨rfl, ?_⟩)
    rw [pt_none hu, List.length_nil] at hlv
    rw [← hlv]
    rfl
  | some s =>
    have hsj := hupw j hj s hu
    rw [pt_some (fi := fi) hupw hj hu, List.length_cons] at hlv
    show gp (pz_if (nI s < 0) _ _) σ1 _
    refine gp_f (nI_pos (by omega)) ?_
    refine gp_f (by rw [show (301 : Int32) = nI 301 from rfl, nI_leI (by omega) (by omega)]; omega) ?_
    refine gp_let ?_
    rw [nI_1]
    refine gp_rR (cs_tree hc) rfl ?_
    refine gp_aI (j := s) (cs_above hc) (by decide) (by omega) (by omega) rfl ?_
    rw [(h8 s (by omega)).1]
    exact hK2 (_, _) _ ⟨rfl, s, lv + 1, rfl, rfl, by omega, by omega⟩ (by simp only; rw [nI_clamp (by omega), nI_clamp (by omega)]; omega)
theorem c_splitsAbove0 (hc : cSh σ o N) (ht : trV σ o q K lc up fi se vr fo to cd ln op) (hf : 2000 ≤ f) : gp (X10_splitsAbove f (some (o + 312)) (-2)) σ (fun y σ' => σ' = σ ∧ y = 0) := by
  unfold X10_splitsAbove
  refine gp_cV (cs_tree hc) (gp_mono (c_has0 hc ht) ?_)
  rintro y σ0 ⟨z0, rfl⟩
  rw [z0]
  clear z0 σ0
  refine gp_t rfl ?_
  unfold X10_splitsAbove_b21 X10_splitsAbove_L22
  obtain ⟨f', rfl⟩ : ∃ f', f = f' + 1 := ⟨f - 1, by omega⟩
  show gp (X10_splitsAbove_L22_body (f' + 1) (some (o + 312)) _ 0 (-2)) σ _
  unfold X10_splitsAbove_L22_body X10_splitsAbove_b46
  exact gp_t (by decide) (gp_ret ⟨rfl, rfl⟩)
theorem c_lastWaiting {k : Nat} (hc : cSh σ o N) (ht : trV σ o q K lc up fi se vr fo to cd ln (some k)) (hw : trW K lc up fi se ln) (hf : 2000 ≤ f) (hk : k < K) : gp (X10_lastWaiting f (some (o + 312))) σ (fun y σ' => σ' = σ ∧ y = eN (lwt se (pt up fi k))) := by
  obtain ⟨⟨h1, h21, h3, h4, h5, h6⟩, -, h8, h9⟩ := id ht
  have hupw : ∀ k, k < K → ∀ p, up k = some p → p < k := fun k hk => (hw k hk).1
  have hlen := pt_len (fi := fi) hupw k hk
  unfold X10_lastWaiting
  refine gp_rI (cs_tree hc) rfl ?_
  rw [h3]
  refine gp_cV (cs_tree hc) (gp_mono (c_hasN (k := k) hc ht hk) ?_)
  rintro y σ0 ⟨z0, rfl⟩
  rw [z0]
  clear z0 σ0
  refine gp_f (by decide) ?_
  refine gp_rR (cs_tree hc) rfl ?_
  refine gp_rI (cs_tree hc) rfl ?_
  refine gp_aI (j := k) (cs_above hc) (by decide) (by omega) (by omega) h3 ?_
  rw [(h8 k hk).1]
  unfold X10_lastWaiting_b25 X10_lastWaiting_L28
  refine gp_loop (I := fun (τ : Int32 × Int32) (σ' : tz_S) => σ' = σ ∧ ∃ (j lv : Nat), τ.2 = nI lv ∧ τ.1 = eN (up j) ∧ j < K ∧ lv + (pt up fi j).length = (pt up fi k).length ∧ lwt se (pt up fi j) = lwt se (pt up fi k)) (fun τ _ => 1000 - τ.2.toNatClampNeg) ?_ f _ _ ⟨rfl, k, 0, rfl, rfl, hk, by omega, rfl⟩ (by omega)
  rintro K2 ⟨l1, l2⟩ σ1 ⟨q1, j, lv, q2, q3, hj, hlv, hlw⟩ hK2
  simp only at q2 q3 hK2
  subst q1 q2 q3
  show gp (X10_lastWaiting_L28_body f (some (o + 312)) (fun l1 l2 => K2 (l1, l2)) (eN (up j)) (nI lv)) σ1 _
  unfold X10_lastWaiting_L28_body X10_lastWaiting_b61
  refine gp_f (by rw [show (301 : Int32) = nI 301 from rfl, nI_leI (by omega) (by omega)]; omega) ?_
  cases hu : up j with
  | none =>
    refine gp_t (by decide) (gp_ret ⟨rfl, ?_⟩)
    rw [pt_none hu] at hlw
    rw [← hlw]
    rfl
  | some s =>
    have hsj := hupw j hj s hu
    rw [pt_some (fi := fi) hupw hj hu] at hlv hlw
    rw [List.length_cons] at hlv
    show gp (pz_if (nI s < 0) _ _) σ1 _
    refine gp_f (nI_pos (by omega)) ?_
    refine gp_rR (cs_tree hc) rfl ?_
    refine gp_aI (j := s) (cs_second hc) (by decide) (by omega) (by omega) rfl ?_
    rw [(h8 s (by omega)).2.2.1]
    have hb31 : ∀ p, se s = some p → p < 2 ^ 31 := fun p hp => by have := (hw s (by omega)).2.2.1 p hp; omega
    refine gp_if (fun y => ?_) (fun y => ?_)
    · rw [eN_neg hb31] at y
      refine gp_ret ⟨rfl, ?_⟩
      rw [← hlw]
      simp only [lwt, y, if_true]
    · rw [eN_neg hb31] at y
      simp only [lwt, y, if_false] at hlw
      refine gp_rR (cs_tree hc) rfl ?_
      refine gp_aI (j := s) (cs_above hc) (by decide) (by omega) (by omega) rfl ?_
      rw [(h8 s (by omega)).1]
      refine gp_let ?_
      rw [nI_1]
      exact hK2 (_, _) _ ⟨rfl, s, lv + 1, rfl, rfl, by omega, by omega, hlw⟩ (by simp only; rw [nI_clamp (by omega), nI_clamp (by omega)]; omega)
end BS
