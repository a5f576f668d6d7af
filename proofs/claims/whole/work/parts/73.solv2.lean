/-! ===== Solving: enteringColumn, closeLeaf ===== -/
section SW
variable {f o N n m : Nat} {σ : tz_S} {D : Int} {T : Nat → Nat → Int} {am va : Nat → Int} {bs cl : Nat → Nat} {A : Nat → Nat → Int} {kd : Nat → Nat} {bb dr : Nat → Int} {wh : Nat → Bool} {ub lb : Nat → Option Int}
/-- the place p may move so that row r's place comes back from beyond (s: -1 below, 1 above) -/
def hasRoomU (v : Int) (u : Option Int) : Bool := match u with
  | none => true
  | some w => decide (v < w)
def hasRoomL (v : Int) (l : Option Int) : Bool := match l with
  | none => true
  | some w => decide (w < v)
def wayI (s : Int) (t : Int) : Int := -s * (isg t).toInt
def isEnt (n : Nat) (T : Nat → Nat → Int) (va : Nat → Int) (cl : Nat → Nat) (ub lb : Nat → Option Int) (r : Nat) (s : Int) (p : Nat) : Bool := match ix cl p n with
  | none => false
  | some c => (decide (0 < wayI s (T r c)) && hasRoomU (va c) (ub p)) || (decide (wayI s (T r c) < 0) && hasRoomL (va c) (lb p))
theorem way_i {s : Int32} {t : Int} (hs : s = 1 ∨ s = -1) : ((-s) * isg t).toInt = wayI s.toInt t := by
  unfold wayI
  rcases hs with h | h <;> rcases isg_cases t with z | z | z <;> rw [h, z.2] <;> decide
set_option maxHeartbeats 1000000 in
theorem c_enteringColumn {r : Nat} {s : Int32} (hc : cSh σ o N) (ht : tbV σ o n m D T am va bs cl) (hb : bnA σ (o + 323) (n + m) ub lb) (hpl : plc n m bs cl) (hf : 2000 ≤ f) (hr : r < m) (hsd : s = 1 ∨ s = -1) :
    gp (X7_enteringColumn f (some (o + 322)) (nI r) s) σ (fun y σ' => σ' = σ ∧ y = match fst1 (isEnt n T va cl ub lb r s.toInt) (n + m) with
      | none => -2
      | some p => eN (ix cl p n)) := by
  obtain ⟨⟨-, -, hn1, hm1⟩, h4, h5, h6, h7, h8, h9⟩ := id ht
  have s1 := cs_bn1 hc
  unfold X7_enteringColumn X7_enteringColumn_L2
  refine gp_loop (I := fun (τ : Int32) (σ' : tz_S) => ∃ i, τ = nI i ∧ i ≤ n + m ∧ σ' = σ ∧ ∀ p, p < i → isEnt n T va cl ub lb r s.toInt p = false) (fun τ _ => 100 - τ.toNatClampNeg) ?_ f _ _ ⟨0, rfl, Nat.zero_le _, rfl, fun p hp => absurd hp (Nat.not_lt_zero _)⟩ (by omega)
  rintro K l3 σ1 ⟨i, rfl, hi, hσ, h1⟩ hK
  rw [hσ]
  clear hσ σ1
  show gp (X7_enteringColumn_L2_body f (some (o + 322)) (nI r) s (fun l3 => K l3) (nI i)) σ _
  unfold X7_enteringColumn_L2_body
  refine gp_rR (cs_solv hc) rfl ?_
  refine gp_cV (cs_tab hc) (gp_mono (c_places hc ht) ?_)
  rintro y σ0 ⟨z0, rfl⟩
  rw [z0]
  clear z0 σ0
  refine gp_if (fun z => ?_) (fun z => ?_)
  · rw [nI_leI (by omega) (by omega)] at z
    refine gp_ret ⟨rfl, ?_⟩
    rw [fst1_none (fun p hp => h1 p (by omega))]
  rw [nI_leI (by omega) (by omega)] at z
  have next : isEnt n T va cl ub lb r s.toInt i = false → gp (X7_enteringColumn_b136 f (fun l3 => K l3) (some (o + 322)) (nI r) s (nI i)) σ (fun y σ' => σ' = σ ∧ y = match fst1 (isEnt n T va cl ub lb r s.toInt) (n + m) with
      | none => -2
      | some p => eN (ix cl p n)) := by
    intro q3
    unfold X7_enteringColumn_b136
    refine gp_let ?_
    rw [nI_1]
    refine hK _ _ ⟨i + 1, rfl, by omega, rfl, fun p hp => ?_⟩ (by rw [nI_clamp (by omega), nI_clamp (by omega)]; omega)
    by_cases y : p = i
    · rw [y]; exact q3
    · exact h1 p (by omega)
  refine gp_rR (cs_solv hc) rfl ?_
  rcases hpl i (by omega) with ⟨r', hr', hri⟩ | ⟨c, hcn, hci⟩
  · subst hri
    refine gp_cV (cs_tab hc) (gp_mono (c_columnOfR hc ht hr') ?_)
    rintro y σ0 ⟨z0, rfl⟩
    rw [z0]
    clear z0 σ0
    refine gp_t (by decide) ?_
    unfold X7_enteringColumn_b48 X7_enteringColumn_b93
    refine gp_t (by decide) ?_
    refine gp_t (by decide) (next ?_)
    simp only [isEnt, tb_ixCn ht hr']
  · have hix := tb_ixC ht hcn
    have e : isEnt n T va cl ub lb r s.toInt (cl c) = ((decide (0 < wayI s.toInt (T r c)) && hasRoomU (va c) (ub (cl c))) || (decide (wayI s.toInt (T r c) < 0) && hasRoomL (va c) (lb (cl c)))) := by simp only [isEnt, hix]
    subst hci
    obtain ⟨b1, b2, b3, b4⟩ := hb (cl c) (by omega)
    have hvc := h7 c hcn
    refine gp_cV (cs_tab hc) (gp_mono (c_columnOfC hc ht hcn) ?_)
    rintro y σ0 ⟨z0, rfl⟩
    rw [z0]
    clear z0 σ0
    refine gp_f (nI_pos (by omega)) ?_
    refine gp_rR (cs_solv hc) rfl ?_
    refine gp_cV (cs_tab hc) (gp_mono (c_cell hc (by omega) (by omega)) ?_)
    rintro y σ0 ⟨z0, rfl⟩
    rw [z0]
    clear z0 σ0
    have hce := h5 r c hr hcn
    refine gp_rI (Bz_cl hce) rfl ?_
    rw [Bz_sign hce]
    have hway := way_i (t := T r c) hsd
    generalize (-s) * isg (T r c) = w at hway ⊢
    generalize wayI s.toInt (T r c) = wi at hway e
    have found : isEnt n T va cl ub lb r s.toInt (cl c) = true → gp (pz_ret (nI c)) σ (fun y σ' => σ' = σ ∧ y = match fst1 (isEnt n T va cl ub lb r s.toInt) (n + m) with
      | none => -2
      | some p => eN (ix cl p n)) := by
      intro hh
      refine gp_ret ⟨rfl, ?_⟩
      rw [fst1_some h1 hh (by omega)]
      show nI c = eN (ix cl (cl c) n)
      rw [hix]
      rfl
    have low : ((decide (0 < wi) && hasRoomU (va c) (ub (cl c))) = false) → gp (X7_enteringColumn_b93 f (fun l3 => K l3) (some (o + 322)) (nI r) s (nI (cl c)) (nI c) w) σ (fun y σ' => σ' = σ ∧ y = match fst1 (isEnt n T va cl ub lb r s.toInt) (n + m) with
      | none => -2
      | some p => eN (ix cl p n)) := by
      intro hup
      rw [hup, Bool.false_or] at e
      unfold X7_enteringColumn_b93 X7_enteringColumn_b133
      refine gp_if (fun y => ?_) (fun y => ?_)
      · rw [Int32.le_iff_toInt_le, hway, show (0 : Int32).toInt = 0 from rfl] at y
        refine next ?_
        rw [e, decide_eq_false (by omega), Bool.false_and]
      rw [Int32.le_iff_toInt_le, hway, show (0 : Int32).toInt = 0 from rfl] at y
      rw [decide_eq_true (by omega), Bool.true_and] at e
      refine gp_rR (cs_solv hc) rfl ?_
      refine gp_rR s1.1 rfl ?_
      refine gp_aI (j := cl c) s1.2.2.1 (by decide) (by omega) (by omega) rfl ?_
      rw [b2]
      cases hl : lb (cl c) with
      | none =>
        rw [hl] at e
        exact gp_t (by simp) (found (by rw [e]; rfl))
      | some v =>
        rw [hl] at e
        refine gp_f (by simp) ?_
        have hvL := b4 v hl
        refine gp_rR (cs_solv hc) rfl ?_
        refine gp_rR (cs_tab hc) rfl ?_
        refine gp_aL (j := c) (cs_rest hc) (by omega) (by omega) rfl ?_
        refine gp_rR (cs_solv hc) rfl ?_
        refine gp_rR s1.1 rfl ?_
        refine gp_aL (j := cl c) s1.2.2.2.2 (by omega) (by omega) rfl ?_
        generalize tz_L σ (o + 323 + 4) (cl c) = w1 at hvL ⊢
        generalize tz_L σ (o + 35) c = w2 at hvc ⊢
        refine gp_if (fun y2 => ?_) (fun y2 => ?_)
        · rw [lg_cmp_le, Int64.le_iff_toInt_le, hvc, hvL] at y2
          refine next ?_
          rw [e]
          exact decide_eq_false (by omega)
        · rw [lg_cmp_le, Int64.le_iff_toInt_le, hvc, hvL] at y2
          refine found ?_
          rw [e]
          exact decide_eq_true (by omega)
    unfold X7_enteringColumn_b48
    refine gp_if (fun y => ?_) (fun y => ?_)
    · rw [Int32.le_iff_toInt_le, hway, show (0 : Int32).toInt = 0 from rfl] at y
      exact low (by rw [decide_eq_false (by omega), Bool.false_and])
    rw [Int32.le_iff_toInt_le, hway, show (0 : Int32).toInt = 0 from rfl] at y
    rw [decide_eq_true (by omega), Bool.true_and] at e low
    refine gp_rR (cs_solv hc) rfl ?_
    refine gp_rR s1.1 rfl ?_
    refine gp_aI (j := cl c) s1.2.1 (by decide) (by omega) (by omega) rfl ?_
    rw [b1]
    cases hu : ub (cl c) with
    | none =>
      rw [hu] at e
      refine gp_t (by simp) ?_
      unfold X7_enteringColumn_b90
      exact found (by rw [e]; rfl)
    | some v =>
      rw [hu] at e low
      refine gp_f (by simp) ?_
      have hvL := b3 v hu
      refine gp_rR (cs_solv hc) rfl ?_
      refine gp_rR (cs_tab hc) rfl ?_
      refine gp_aL (j := c) (cs_rest hc) (by omega) (by omega) rfl ?_
      refine gp_rR (cs_solv hc) rfl ?_
      refine gp_rR s1.1 rfl ?_
      refine gp_aL (j := cl c) s1.2.2.2.1 (by omega) (by omega) rfl ?_
      generalize tz_L σ (o + 323 + 3) (cl c) = w1 at hvL ⊢
      have hvc2 := hvc
      generalize hw2 : tz_L σ (o + 35) c = w2 at hvc2 ⊢
      refine gp_if (fun y2 => ?_) (fun y2 => ?_)
      · rw [lg_cmp_ge, Int64.le_iff_toInt_le, hvc2, hvL] at y2
        exact low (decide_eq_false (by omega))
      · rw [lg_cmp_ge, Int64.le_iff_toInt_le, hvc2, hvL] at y2
        unfold X7_enteringColumn_b90
        refine found ?_
        rw [e, show hasRoomU (va c) (some v) = true from decide_eq_true (by omega), Bool.true_or]
end SW
