/-! ===== the reference: sumOf, againstBound, wrongRow, columnFor ===== -/
/-- sizes of the cells and values of a tableau -/
def tSz (n m : Nat) (D : Int) (T : Nat → Nat → Int) (va : Nat → Int) : Prop := 0 < D ∧ (D.natAbs : Int) < 1000000000 ^ 8 ∧ (∀ r c, r < m → c < n → ((T r c).natAbs : Int) < 1000000000 ^ 8) ∧ (∀ c, c < n → ((va c).natAbs : Int) < 1000000000 ^ 3) ∧ ∀ r c, r < m → c ≤ n → ((su c (fun j => T r j * va j)).natAbs : Int) < 1000000000 ^ 11
section RN
variable {f M t n m : Nat} {σ : tz_S} {A T : Nat → Nat → Int} {kd : Nat → Nat} {bb dr : Nat → Int} {wh : Nat → Bool} {D : Int} {va : Nat → Int} {bs cl : Nat → Nat} {ub lb : Nat → Option Int}
theorem at_f (r c : Nat) : (16 : Int32) + 16 * (10 * nI r + nI c) = nI (16 + 16 * (10 * r + c)) := by
  rw [show (10 : Int32) = nI 10 from rfl, nI_mul, nI_add, show (16 : Int32) = nI 16 from rfl, nI_mul, nI_add]
theorem at_v (p : Nat) : (3856 : Int32) + 300 * nI p = nI (3856 + 300 * p) := by
  rw [show (300 : Int32) = nI 300 from rfl, nI_mul, show (3856 : Int32) = nI 3856 from rfl, nI_add]
theorem r_sumOf {r : Nat} (h : mSh σ M) (ht : tz_F σ M 35 = nI t) (ht2 : 447200 ≤ t) (hb : t + 60 ≤ 527200) (h0 : tz_F σ M 0 = nI n) (hn : n ≤ 10) (hm : m ≤ 12) (hT : rtV σ M n m D T va bs cl) (hz : tSz n m D T va) (hr : r < m) (hcl : ∀ c, c < n → cl c < 22) (hf : 2000 ≤ f) :
    gp (X12_sumOf f (some M) (nI r)) σ (fun y σ' => y = nI t ∧ Pq M t (t + 60) σ σ' ∧ ∃ k, k ≤ 11 ∧ tz_F σ' M 35 = nI (t + k + 1) ∧ nV (tz_A σ' (M + 20)) t k (amt n T va r)) := by
  obtain ⟨-, c2, -, c4, c5⟩ := hT
  obtain ⟨-, -, z2, z3, z4⟩ := hz
  unfold X12_sumOf
  refine gp_rI (mh_me h) rfl ?_
  rw [ht]
  refine gp_cV (mh_me h) (gp_mono (r_plainOf (v := 0) h ht (by decide) (by omega) hf) ?_)
  rintro _ σ1 ⟨rfl, hP1, k0, hk0, h351, hv1⟩
  unfold X12_sumOf_L14
  refine gp_loop (I := fun (τ : Int32 × Int32) (σ' : tz_S) => ∃ c k, τ.1 = nI t ∧ τ.2 = nI c ∧ c ≤ n ∧ k ≤ 11 ∧ Pq M t (t + 60) σ σ' ∧ tz_F σ' M 35 = nI (t + k + 1) ∧ nV (tz_A σ' (M + 20)) t k (su c (fun j => T r j * va j))) (fun τ _ => 100 - τ.2.toNatClampNeg) ?_ f _ _ ⟨0, k0, rfl, rfl, Nat.zero_le _, by omega, Pq_mono hP1 (Nat.le_refl _) (by omega), h351, hv1⟩ (by omega)
  clear hP1 h351 hv1 hk0 k0 σ1
  rintro K ⟨l3, l4⟩ σ1 ⟨c, k, e3, e4, hc, hk, hP, h35, hv⟩ hK
  simp only at e3 e4
  subst e3 e4
  show gp (X12_sumOf_L14_body f (some M) (nI r) (nI t) (fun l3 l4 => K (l3, l4)) (nI t) (nI c)) σ1 _
  unfold X12_sumOf_L14_body X12_factorAt X12_valueAt
  have h1 := mSh_fr h hP.1
  refine gp_rI (mh_me h1) rfl ?_
  rw [hP.2.1 0 (by decide) (by decide), h0]
  refine gp_if (fun z => ?_) (fun z => ?_)
  · rw [nI_leI (by omega) (by omega)] at z
    have : c = n := by omega
    subst this
    exact gp_ret ⟨rfl, hP, k, hk, h35, hv⟩
  rw [nI_leI (by omega) (by omega)] at z
  have hcn : c < n := by omega
  refine gp_cB (gp_ret ?_)
  rw [at_f]
  refine gp_rR (mh_me h1) rfl ?_
  refine gp_aI (j := c) (mh_8 h1) (by decide) (by omega) (by omega) rfl ?_
  rw [Fr_A hP.1 (x := M + 8) (by omega), c2 c hcn]
  refine gp_cB (gp_ret ?_)
  rw [at_v]
  obtain ⟨n1, d1, d2⟩ := nP_pq (c4 r c hr hcn) hP ht2
  obtain ⟨n2, d3, d4⟩ := nP_pq (c5 c hcn) hP ht2
  have hn1 := nV_le d1 (z2 r c hr hcn)
  have hn2 := nV_le d3 (z3 c hcn)
  have hclc := hcl c hcn
  refine gp_cV (mh_me h1) (gp_mono (r_by h1 h35 d1 d3 (by omega) (by omega) (by omega) (by omega) (by omega) hf) ?_)
  rintro _ σ2 ⟨rfl, hP2, k2, hk2, h352, hv2⟩
  have h2 := mSh_fr h1 hP2.1
  have hvs := nV_pq hv hP2 (Or.inl (by omega))
  refine gp_cV (mh_me h2) (gp_mono (r_plus h2 h352 hvs hv2 (by omega) (by omega) (by omega) (by omega) (by omega) hf) ?_)
  rintro _ σ3 ⟨rfl, hP3, k3, hk3, h353, hv3⟩
  have h3 := mSh_fr h2 hP3.1
  refine gp_cV (mh_me h3) (gp_mono (r_keep (mk := t) h3 hv3 (by omega) (by omega) hf) ?_)
  rintro _ σ4 ⟨rfl, hP4, h354, hv4⟩
  have hk11 : k3 ≤ 11 := nV_le hv4 (z4 r (c + 1) hr (by omega))
  refine gp_let ?_
  rw [nI_1]
  exact hK (nI t, nI (c + 1)) _ ⟨c + 1, k3, rfl, rfl, by omega, hk11, Pq_trans hP (Pq_trans (Pq_mono hP2 (by omega) (by omega)) (Pq_trans (Pq_mono hP3 (by omega) (by omega)) (Pq_mono hP4 (by omega) (by omega)))), h354, hv4⟩ (by show 100 - (nI (c + 1)).toNatClampNeg < 100 - (nI c).toNatClampNeg; rw [nI_clamp (by omega), nI_clamp (by omega)]; omega)
def bSz (n m : Nat) (kd : Nat → Nat) (bb : Nat → Int) (ub lb : Nat → Option Int) : Prop := ∀ p s v, p < n + m → s < 2 → bdS n kd bb ub lb p s = some v → (v.natAbs : Int) < 1000000000 ^ 3
theorem r_againstBound {r s : Nat} {v : Int} (h : mSh σ M) (ht : tz_F σ M 35 = nI 447200) (hrr : rrV σ M n m A kd bb wh dr) (hT : rtV σ M n m D T va bs cl) (hz : tSz n m D T va) (hb : rbV σ M n ub lb) (hbz : bSz n m kd bb ub lb) (hr : r < m) (hcl : ∀ c, c < n → cl c < 22) (hbs : bs r < n + m) (hs : s < 2) (hv : bdS n kd bb ub lb (bs r) s = some v) (hf : 2000 ≤ f) :
    gp (X12_againstBound f (some M) (nI r) (nI s)) σ (fun y σ' => Sq M σ σ' ∧ y = isg (amt n T va r - v * D)) := by
  obtain ⟨⟨a1, a2, a3, a4⟩, -⟩ := id hrr
  obtain ⟨-, zD, -⟩ := id hz
  unfold X12_againstBound
  refine gp_rI (mh_me h) rfl ?_
  rw [ht]
  refine gp_cV (mh_me h) (gp_mono (r_sumOf h ht (Nat.le_refl _) (by omega) a1 a3 a4 hT hz hr hcl hf) ?_)
  rintro _ σ1 ⟨rfl, hP1, k1, hk1, h351, hv1⟩
  have h1 := mSh_fr h hP1.1
  refine gp_rR (mh_me h1) rfl ?_
  refine gp_aI (j := r) (mh_7 h1) (by decide) (by omega) (by omega) rfl ?_
  rw [Fr_A hP1.1 (x := M + 7) (by omega), hT.1 r hr]
  have hrr1 : rrV σ1 M n m A kd bb wh dr := by
    unfold rrV at *
    rw [hP1.2.1 0 (by decide) (by decide), hP1.2.1 1 (by decide) (by decide), Fr_A hP1.1 (x := M + 1) (by omega), Fr_A hP1.1 (x := M + 2) (by omega), Fr_A hP1.1 (x := M + 3) (by omega), Fr_A hP1.1 (x := M + 5) (by omega), Fr_A hP1.1 (x := M + 4) (by omega)]
    exact hrr
  have hb1 : rbV σ1 M n ub lb := fun x hx => by
    obtain ⟨c1, c2, c3, c4⟩ := hb x hx
    exact ⟨by rw [Fr_A hP1.1 (by omega)]; exact c1, by rw [Fr_A hP1.1 (by omega)]; exact c2, fun v e => nP_pq (c3 v e) hP1 (by omega), fun v e => nP_pq (c4 v e) hP1 (by omega)⟩
  refine gp_cV (mh_me h1) (gp_mono (r_bound h1 h351 (by omega) (by omega) hrr1 hb1 hbs hs hv hf) ?_)
  rintro _ σ2 ⟨hP2, x, kx, t2, rfl, ex1, ex2, ex3, h352, hvx, -⟩
  have h2 := mSh_fr h1 hP2.1
  have hv12 := nV_pq hv1 hP2 (Or.inl (by omega))
  have hkx := nV_le hvx (hbz _ _ _ hbs hs hv)
  obtain ⟨kD, d1, d2⟩ := nP_pq (nP_pq hT.2.2.1 hP1 (by omega)) hP2 (by omega)
  have hkD := nV_le d1 zD
  have hby := r_by (f := f) (y := 0) h2 h352 hvx d1 (by omega) (by omega) (by omega) (by omega) (by omega) hf
  refine gp_cV (mh_me h2) (gp_mono hby ?_)
  rintro _ σ3 ⟨rfl, hP3, k3, hk3, h353, hv3⟩
  have h3 := mSh_fr h2 hP3.1
  have hv13 := nV_pq hv12 hP3 (Or.inl (by omega))
  refine gp_cV (mh_me h3) (gp_mono (r_compare h3 hv13 hv3 (by omega) (by omega) hf) ?_)
  rintro _ σ4 ⟨z4, rfl⟩
  rw [z4]
  refine gp_wI (mh_me h3) rfl ?_
  have hPP : Pq M 447200 527200 σ σ3 := Pq_trans (Pq_mono hP1 (by omega) (by omega)) (Pq_trans (Pq_mono hP2 (by omega) (by omega)) (Pq_mono hP3 (by omega) (by omega)))
  exact gp_ret ⟨Sq_put hPP (Nat.le_refl _) ht, rfl⟩
theorem eM_neg {x : Option Nat} (h : ∀ k, x = some k → k < 2 ^ 31) : eM x = -1 ↔ x = none := by
  cases x with
  | none => exact ⟨fun _ => rfl, fun _ => rfl⟩
  | some k =>
    refine ⟨fun q => ?_, fun q => by cases q⟩
    have : (nI k).toInt = (-1 : Int32).toInt := by rw [← show eM (some k) = nI k from rfl, q]
    rw [nI_toInt (h k rfl), show (-1 : Int32).toInt = -1 from rfl] at this
    omega
set_option maxHeartbeats 1000000 in
theorem r_wrongRow (h : mSh σ M) (ht : tz_F σ M 35 = nI 447200) (hrr : rrV σ M n m A kd bb wh dr) (hT : rtV σ M n m D T va bs cl) (hz : tSz n m D T va) (hb : rbV σ M n ub lb) (hbz : bSz n m kd bb ub lb) (hpm : pmI n m bs cl) (hf : 2000 ≤ f) :
    gp (X12_wrongRow f (some M)) σ (fun y σ' => (fst1 (isBey m D (amt n T va) bs (fun p => bdS n kd bb ub lb p 0) (fun p => bdS n kd bb ub lb p 1)) (n + m) = none ∧ y = -1 ∧ Sq M σ σ') ∨ ∃ p r σ1, fst1 (isBey m D (amt n T va) bs (fun p => bdS n kd bb ub lb p 0) (fun p => bdS n kd bb ub lb p 1)) (n + m) = some p ∧ ix bs p m = some r ∧ y = nI r ∧ Sq M σ σ1 ∧ σ' = tz_sF σ1 M 29 (if isBelow D (amt n T va r) (bdS n kd bb ub lb p 1) = true then 1 else 0)) := by
  obtain ⟨⟨a1, a2, a3, a4⟩, -⟩ := id hrr
  have hcl : ∀ c, c < n → cl c < 22 := fun c hc => by have := hpm.2.1 c hc; omega
  unfold X12_wrongRow X12_wrongRow_L2
  refine gp_loop (I := fun (τ : Int32) (σ' : tz_S) => ∃ i, τ = nI i ∧ i ≤ n + m ∧ Sq M σ σ' ∧ ∀ p, p < i → isBey m D (amt n T va) bs (fun p => bdS n kd bb ub lb p 0) (fun p => bdS n kd bb ub lb p 1) p = false) (fun τ _ => 100 - τ.toNatClampNeg) ?_ f _ _ ⟨0, rfl, Nat.zero_le _, Sq_refl, fun j hj => absurd hj (Nat.not_lt_zero _)⟩ (by omega)
  rintro K l1 σ1 ⟨i, rfl, hi, hS, hl⟩ hK
  show gp (X12_wrongRow_L2_body f (some M) (fun l1 => K l1) (nI i)) σ1 _
  unfold X12_wrongRow_L2_body
  have h1 := mSh_fr h hS.1
  refine gp_rI (mh_me h1) rfl ?_
  refine gp_rI (mh_me h1) rfl ?_
  rw [hS.2.1 0 (by decide), hS.2.1 1 (by decide), a1, a2, nI_add]
  refine gp_if (fun z => ?_) (fun z => ?_)
  · rw [nI_leI (by omega) (by omega)] at z
    exact gp_ret (Or.inl ⟨fst1_none (fun p hp => hl p (by omega)), rfl, hS⟩)
  rw [nI_leI (by omega) (by omega)] at z
  have him : i < n + m := by omega
  have nxt : ∀ σ2, Sq M σ σ2 → isBey m D (amt n T va) bs (fun p => bdS n kd bb ub lb p 0) (fun p => bdS n kd bb ub lb p 1) i = false → gp (X12_wrongRow_b76 f (fun l1 => K l1) (some M) (nI i)) σ2 (fun y σ' => (fst1 (isBey m D (amt n T va) bs (fun p => bdS n kd bb ub lb p 0) (fun p => bdS n kd bb ub lb p 1)) (n + m) = none ∧ y = -1 ∧ Sq M σ σ') ∨ ∃ p r σ1, fst1 (isBey m D (amt n T va) bs (fun p => bdS n kd bb ub lb p 0) (fun p => bdS n kd bb ub lb p 1)) (n + m) = some p ∧ ix bs p m = some r ∧ y = nI r ∧ Sq M σ σ1 ∧ σ' = tz_sF σ1 M 29 (if isBelow D (amt n T va r) (bdS n kd bb ub lb p 1) = true then 1 else 0)) := by
    intro σ2 g1 g2
    unfold X12_wrongRow_b76
    refine gp_let ?_
    rw [nI_1]
    refine hK _ _ ⟨i + 1, rfl, by omega, g1, fun p hp => ?_⟩ (by rw [nI_clamp (by omega), nI_clamp (by omega)]; omega)
    by_cases e : p = i
    · rw [e]; exact g2
    · exact hl p (by omega)
  refine gp_cV (mh_me h1) (gp_mono (r_rowOf (bs := bs) h1 (by rw [hS.2.1 1 (by decide)]; exact a2) a4 (fun r hr => ⟨by rw [Sq_A hS (by omega) (by omega)]; exact hT.1 r hr, by have := hpm.1 r hr; omega⟩) (by omega) hf) ?_)
  rintro _ σ0 ⟨z0, rfl⟩
  rw [z0]
  clear z0 σ0
  cases hx : ix bs i m with
  | none =>
    refine gp_t rfl (nxt σ1 hS ?_)
    simp only [isBey, hx]
  | some r =>
    obtain ⟨hrm, hbr⟩ := ix_some hx
    refine gp_f (fun q => by have := (eM_neg (x := some r) (fun k e => by cases e; omega)).1 q; cases this) ?_
    have fnd : ∀ σ2, Sq M σ σ2 → isBey m D (amt n T va) bs (fun p => bdS n kd bb ub lb p 0) (fun p => bdS n kd bb ub lb p 1) i = true → ∀ v : Int32, v = (if isBelow D (amt n T va r) (bdS n kd bb ub lb i 1) = true then 1 else 0) → (fst1 (isBey m D (amt n T va) bs (fun p => bdS n kd bb ub lb p 0) (fun p => bdS n kd bb ub lb p 1)) (n + m) = none ∧ nI r = -1 ∧ Sq M σ (tz_sF σ2 M 29 v)) ∨ ∃ p r' σ1, fst1 (isBey m D (amt n T va) bs (fun p => bdS n kd bb ub lb p 0) (fun p => bdS n kd bb ub lb p 1)) (n + m) = some p ∧ ix bs p m = some r' ∧ nI r = nI r' ∧ Sq M σ σ1 ∧ tz_sF σ2 M 29 v = tz_sF σ1 M 29 (if isBelow D (amt n T va r') (bdS n kd bb ub lb p 1) = true then 1 else 0) := by
      intro σ2 g1 g2 v hv
      exact Or.inr ⟨i, r, σ2, fst1_some hl g2 him, hx, rfl, g1, by rw [hv]⟩
    have hbe : isBey m D (amt n T va) bs (fun p => bdS n kd bb ub lb p 0) (fun p => bdS n kd bb ub lb p 1) i = decide (sdB D (amt n T va r) (bdS n kd bb ub lb i 0) (bdS n kd bb ub lb i 1) ≠ 0) := by simp only [isBey, hx]
    have upr : ∀ σ2, Sq M σ σ2 → isBelow D (amt n T va r) (bdS n kd bb ub lb i 1) = false → gp (X12_wrongRow_b51 f (fun l1 => K l1) (some M) (nI i) (nI r)) σ2 (fun y σ' => (fst1 (isBey m D (amt n T va) bs (fun p => bdS n kd bb ub lb p 0) (fun p => bdS n kd bb ub lb p 1)) (n + m) = none ∧ y = -1 ∧ Sq M σ σ') ∨ ∃ p r σ1, fst1 (isBey m D (amt n T va) bs (fun p => bdS n kd bb ub lb p 0) (fun p => bdS n kd bb ub lb p 1)) (n + m) = some p ∧ ix bs p m = some r ∧ y = nI r ∧ Sq M σ σ1 ∧ σ' = tz_sF σ1 M 29 (if isBelow D (amt n T va r) (bdS n kd bb ub lb p 1) = true then 1 else 0)) := by
      intro σ2 g1 g2
      unfold X12_wrongRow_b51
      have h2 := mSh_fr h g1.1
      refine gp_cV (mh_me h2) (gp_mono (r_hasBound (s := 0) h2 (rrV_sq hrr g1) (rbV_sq hb g1) him (by omega)) ?_)
      rintro _ σ0 ⟨z0, rfl⟩
      rw [z0]
      clear z0 σ0
      cases hu : bdS n kd bb ub lb i 0 with
      | none =>
        refine gp_t rfl (nxt σ2 g1 ?_)
        rw [hbe, hu]
        unfold sdB
        rw [g2]
        simp [isAbove]
      | some v =>
        refine gp_f (by simp) ?_
        refine gp_cV (mh_me h2) (gp_mono (r_againstBound (s := 0) h2 (by rw [g1.2.1 35 (by decide)]; exact ht) (rrV_sq hrr g1) (rtV_sq hT g1) hz (rbV_sq hb g1) hbz hrm hcl (hpm.1 r hrm) (by omega) (by rw [hbr]; exact hu) hf) ?_)
        rintro _ σ3 ⟨g3, rfl⟩
        have g13 := Sq_trans g1 g3
        refine gp_if (fun q => ?_) (fun q => ?_)
        · rw [isg_n.2.1] at q
          refine nxt σ3 g13 ?_
          rw [hbe, hu]
          unfold sdB
          rw [g2]
          simp [isAbove, show ¬ v * D < amt n T va r by omega]
        · rw [isg_n.2.1] at q
          have h3 := mSh_fr h g13.1
          refine gp_wI (mh_me h3) rfl ?_
          refine gp_ret (fnd σ3 g13 ?_ 0 (by rw [g2]; rfl))
          rw [hbe, hu]
          unfold sdB
          rw [g2]
          simp [isAbove, show v * D < amt n T va r by omega]
    refine gp_cV (mh_me h1) (gp_mono (r_hasBound (s := 1) h1 (rrV_sq hrr hS) (rbV_sq hb hS) him (by omega)) ?_)
    rintro _ σ0 ⟨z0, rfl⟩
    rw [z0]
    clear z0 σ0
    cases hlw : bdS n kd bb ub lb i 1 with
    | none =>
      refine gp_t rfl (upr σ1 hS ?_)
      rw [hlw]; rfl
    | some v =>
      refine gp_f (by simp) ?_
      refine gp_cV (mh_me h1) (gp_mono (r_againstBound (r := r) (s := 1) h1 (by rw [hS.2.1 35 (by decide)]; exact ht) (rrV_sq hrr hS) (rtV_sq hT hS) hz (rbV_sq hb hS) hbz hrm hcl (hpm.1 r hrm) (by omega) (by rw [hbr]; exact hlw) hf) ?_)
      rintro _ σ3 ⟨g3, rfl⟩
      have g13 := Sq_trans hS g3
      refine gp_if (fun q => ?_) (fun q => ?_)
      · rw [isg_n.2.2.2] at q
        refine upr σ3 g13 ?_
        rw [hlw]
        exact decide_eq_false (by omega)
      · rw [isg_n.2.2.2] at q
        have h3 := mSh_fr h g13.1
        refine gp_wI (mh_me h3) rfl ?_
        have hB : isBelow D (amt n T va r) (bdS n kd bb ub lb i 1) = true := by rw [hlw]; exact decide_eq_true (by omega)
        refine gp_ret (fnd σ3 g13 ?_ 1 (by rw [if_pos hB]))
        rw [hbe]
        unfold sdB
        rw [if_pos hB]
        decide
end RN
