/-! ===== the reference: columnFor, brokenVariable ===== -/
/-- only the room of one number has changed -/
def Wq (M a z : Nat) (σ σ' : tz_S) : Prop := Fr (fun x => x = M ∨ x = M + 20) σ σ' ∧ (∀ k, k ≠ 36 → tz_F σ' M k = tz_F σ M k) ∧ ∀ i, i < 447200 → (i < a ∨ a + z ≤ i) → tz_A σ' (M + 20) i = tz_A σ (M + 20) i
section RO
variable {f M t n m : Nat} {σ : tz_S} {A T : Nat → Nat → Int} {kd : Nat → Nat} {bb dr : Nat → Int} {wh : Nat → Bool} {D : Int} {va : Nat → Int} {bs cl : Nat → Nat} {ub lb : Nat → Option Int}
theorem way_s {s32 : Int32} {s t : Int} (hs : (s = -1 ∧ s32 = isg t) ∨ (s = 1 ∧ s32 = -isg t)) : s32.toInt = wayI s t ∧ (s32 = 1 ∨ s32 = -1 ∨ s32 = 0) := by
  unfold wayI
  rcases hs with ⟨h1, h2⟩ | ⟨h1, h2⟩ <;> rcases isg_cases t with z | z | z <;> rw [h1, h2, z.2] <;> decide
set_option maxHeartbeats 1000000 in
theorem r_columnFor {r : Nat} {s : Int} (h : mSh σ M) (ht : tz_F σ M 35 = nI 447200) (hrr : rrV σ M n m A kd bb wh dr) (hT : rtV σ M n m D T va bs cl) (hz : tSz n m D T va) (hb : rbV σ M n ub lb) (hbz : bSz n m kd bb ub lb) (hpm : pmI n m bs cl) (hnb : nbI n cl va (fun p => bdS n kd bb ub lb p 0) (fun p => bdS n kd bb ub lb p 1)) (hr : r < m) (hs : (s = -1 ∧ tz_F σ M 29 = 1) ∨ (s = 1 ∧ tz_F σ M 29 = 0)) (hf : 2000 ≤ f) :
    gp (X12_columnFor f (some M) (nI r)) σ (fun y σ' => Sq M σ σ' ∧ y = match fst1 (isEnt n T va cl (fun p => bdS n kd bb ub lb p 0) (fun p => bdS n kd bb ub lb p 1) r s) (n + m) with
      | none => -1
      | some p => eM (ix cl p n)) := by
  obtain ⟨⟨a1, a2, a3, a4⟩, -⟩ := id hrr
  unfold X12_columnFor X12_columnFor_L2
  refine gp_loop (I := fun (τ : Int32) (σ' : tz_S) => ∃ i, τ = nI i ∧ i ≤ n + m ∧ Sq M σ σ' ∧ ∀ p, p < i → isEnt n T va cl (fun p => bdS n kd bb ub lb p 0) (fun p => bdS n kd bb ub lb p 1) r s p = false) (fun τ _ => 100 - τ.toNatClampNeg) ?_ f _ _ ⟨0, rfl, Nat.zero_le _, Sq_refl, fun j hj => absurd hj (Nat.not_lt_zero _)⟩ (by omega)
  rintro K l2 σ1 ⟨i, rfl, hi, hS, hl⟩ hK
  show gp (X12_columnFor_L2_body f (some M) (nI r) (fun l2 => K l2) (nI i)) σ1 _
  unfold X12_columnFor_L2_body
  have h1 := mSh_fr h hS.1
  refine gp_rI (mh_me h1) rfl ?_
  refine gp_rI (mh_me h1) rfl ?_
  rw [hS.2.1 0 (by decide), hS.2.1 1 (by decide), a1, a2, nI_add]
  refine gp_if (fun z => ?_) (fun z => ?_)
  · rw [nI_leI (by omega) (by omega)] at z
    exact gp_ret ⟨hS, by rw [fst1_none (fun p hp => hl p (by omega))]⟩
  rw [nI_leI (by omega) (by omega)] at z
  have him : i < n + m := by omega
  have nxt : ∀ σ2, Sq M σ σ2 → isEnt n T va cl (fun p => bdS n kd bb ub lb p 0) (fun p => bdS n kd bb ub lb p 1) r s i = false → gp (X12_columnFor_b126 f (fun l2 => K l2) (some M) (nI r) (nI i)) σ2 (fun y σ' => Sq M σ σ' ∧ y = match fst1 (isEnt n T va cl (fun p => bdS n kd bb ub lb p 0) (fun p => bdS n kd bb ub lb p 1) r s) (n + m) with
      | none => -1
      | some p => eM (ix cl p n)) := by
    intro σ2 g1 g2
    unfold X12_columnFor_b126
    refine gp_let ?_
    rw [nI_1]
    refine hK _ _ ⟨i + 1, rfl, by omega, g1, fun p hp => ?_⟩ (by rw [nI_clamp (by omega), nI_clamp (by omega)]; omega)
    by_cases e : p = i
    · rw [e]; exact g2
    · exact hl p (by omega)
  refine gp_cV (mh_me h1) (gp_mono (r_columnAt (cl := cl) h1 (by rw [hS.2.1 0 (by decide)]; exact a1) a3 (fun c hc => ⟨by rw [Sq_A hS (by omega) (by omega)]; exact hT.2.1 c hc, by have := hpm.2.1 c hc; omega⟩) (by omega) hf) ?_)
  rintro _ σ0 ⟨z0, rfl⟩
  rw [z0]
  clear z0 σ0
  cases hx : ix cl i n with
  | none =>
    refine gp_t rfl (nxt σ1 hS ?_)
    simp only [isEnt, hx]
  | some c =>
    obtain ⟨hcn, hcc⟩ := ix_some hx
    refine gp_f (fun q => by have := (eM_neg (x := some c) (fun k e => by cases e; omega)).1 q; cases this) ?_
    have hT1 := rtV_sq hT hS
    obtain ⟨kT, d1, d2⟩ := hT1.2.2.2.1 r c hr hcn
    obtain ⟨kV, d3, d4⟩ := hT1.2.2.2.2 c hcn
    rw [hcc] at d3 d4
    obtain ⟨n1, n2⟩ := hnb c hcn
    rw [hcc] at n1 n2
    have hie : isEnt n T va cl (fun p => bdS n kd bb ub lb p 0) (fun p => bdS n kd bb ub lb p 1) r s i = ((decide (0 < wayI s (T r c)) && hasRoomU (va c) (bdS n kd bb ub lb i 0)) || (decide (wayI s (T r c) < 0) && hasRoomL (va c) (bdS n kd bb ub lb i 1))) := by simp only [isEnt, hx]
    unfold X12_factorAt
    refine gp_cB (gp_ret ?_)
    show gp (pz_cV 12 (some M) (X12_sgn f (some M) (16 + 16 * (10 * nI r + nI c))) _) σ1 _
    rw [at_f]
    refine gp_cV (mh_me h1) (gp_mono (r_sgn h1 d1 (by omega)) ?_)
    rintro _ σ0 ⟨z0, rfl⟩
    rw [z0]
    clear z0 σ0
    refine gp_rI (mh_me h1) rfl ?_
    rw [hS.2.1 29 (by decide)]
    have body : ∀ s32 : Int32, (s32.toInt = wayI s (T r c) ∧ (s32 = 1 ∨ s32 = -1 ∨ s32 = 0)) → gp (X12_columnFor_b53 f (fun l2 => K l2) (some M) (nI r) (nI i) (nI c) s32) σ1 (fun y σ' => Sq M σ σ' ∧ y = match fst1 (isEnt n T va cl (fun p => bdS n kd bb ub lb p 0) (fun p => bdS n kd bb ub lb p 1) r s) (n + m) with
      | none => -1
      | some p => eM (ix cl p n)) := by
      rintro s32 ⟨hw, hs3⟩
      unfold X12_columnFor_b53
      have sd : ∀ sd : Nat, sd < 2 → (sd = 0 ↔ 0 < wayI s (T r c)) → gp (X12_columnFor_b65 f (fun l2 => K l2) (some M) (nI r) (nI i) (nI c) s32 (nI sd)) σ1 (fun y σ' => Sq M σ σ' ∧ y = match fst1 (isEnt n T va cl (fun p => bdS n kd bb ub lb p 0) (fun p => bdS n kd bb ub lb p 1) r s) (n + m) with
        | none => -1
        | some p => eM (ix cl p n)) := by
        intro sd hsd2 hsd
        unfold X12_columnFor_b65 X12_columnFor_b110 X12_columnFor_b106 X12_valueAt
        refine gp_rI (mh_me h1) rfl ?_
        rw [hS.2.1 35 (by decide), ht]
        have fin0 : ∀ σ2, Pq M 447200 527200 σ1 σ2 → isEnt n T va cl (fun p => bdS n kd bb ub lb p 0) (fun p => bdS n kd bb ub lb p 1) r s i = false → gp (X12_columnFor_b111 f (fun l2 => K l2) (some M) (nI r) (nI i) (nI c) (nI 447200) 0) σ2 (fun y σ' => Sq M σ σ' ∧ y = match fst1 (isEnt n T va cl (fun p => bdS n kd bb ub lb p 0) (fun p => bdS n kd bb ub lb p 1) r s) (n + m) with
          | none => -1
          | some p => eM (ix cl p n)) := by
          intro σ2 g1 g2
          unfold X12_columnFor_b111
          refine gp_wI (mh_me (mSh_fr h1 g1.1)) rfl ?_
          exact gp_t rfl (nxt _ (Sq_trans hS (Sq_put g1 (Nat.le_refl _) (by rw [hS.2.1 35 (by decide)]; exact ht))) g2)
        have fin1 : ∀ σ2, Pq M 447200 527200 σ1 σ2 → isEnt n T va cl (fun p => bdS n kd bb ub lb p 0) (fun p => bdS n kd bb ub lb p 1) r s i = true → gp (X12_columnFor_b111 f (fun l2 => K l2) (some M) (nI r) (nI i) (nI c) (nI 447200) 1) σ2 (fun y σ' => Sq M σ σ' ∧ y = match fst1 (isEnt n T va cl (fun p => bdS n kd bb ub lb p 0) (fun p => bdS n kd bb ub lb p 1) r s) (n + m) with
          | none => -1
          | some p => eM (ix cl p n)) := by
          intro σ2 g1 g2
          unfold X12_columnFor_b111
          refine gp_wI (mh_me (mSh_fr h1 g1.1)) rfl ?_
          refine gp_f (by decide) (gp_ret ⟨Sq_trans hS (Sq_put g1 (Nat.le_refl _) (by rw [hS.2.1 35 (by decide)]; exact ht)), ?_⟩)
          rw [fst1_some hl g2 him]
          simp only
          rw [hx]
          rfl
        refine gp_if (fun q => ?_) (fun q => ?_)
        · have q0 : wayI s (T r c) = 0 := by rw [← hw, q]; rfl
          refine fin0 σ1 Pq_refl ?_
          rw [hie, q0]
          simp
        have q0 : wayI s (T r c) ≠ 0 := fun e => q (by rw [← Int32.toInt_inj, hw, e]; rfl)
        refine gp_cV (mh_me h1) (gp_mono (r_hasBound h1 (rrV_sq hrr hS) (rbV_sq hb hS) him hsd2) ?_)
        rintro _ σ0 ⟨z0, rfl⟩
        rw [z0]
        clear z0 σ0
        cases hbd : bdS n kd bb ub lb i sd with
        | none =>
          refine gp_t rfl (fin1 σ1 Pq_refl ?_)
          rw [hie]
          by_cases e : sd = 0
          · rw [e] at hbd
            rw [hbd]
            simp [hasRoomU, hsd.1 e]
          · have e1 : sd = 1 := by omega
            rw [e1] at hbd
            rw [hbd]
            have : ¬ 0 < wayI s (T r c) := fun w => e (hsd.2 w)
            simp [hasRoomL, show wayI s (T r c) < 0 by omega]
        | some v =>
          refine gp_f (by simp) ?_
          refine gp_cB (gp_ret ?_)
          rw [at_v]
          refine gp_cV (mh_me h1) (gp_mono (r_bound h1 (by rw [hS.2.1 35 (by decide)]; exact ht) (Nat.le_refl _) (by omega) (rrV_sq hrr hS) (rbV_sq hb hS) him hsd2 hbd hf) ?_)
          rintro _ σ2 ⟨hP2, x, kx, t2, rfl, ex1, ex2, ex3, h352, hvx, -⟩
          have h2 := mSh_fr h1 hP2.1
          refine gp_cV (mh_me h2) (gp_mono (r_compare h2 (nV_pq d3 hP2 (Or.inl (by omega))) hvx (by omega) (by omega) hf) ?_)
          rintro _ σ0 ⟨z0, rfl⟩
          rw [z0]
          clear z0 σ0
          have hP2' : Pq M 447200 527200 σ1 σ2 := Pq_mono hP2 (Nat.le_refl _) (by omega)
          refine gp_if (fun w => ?_) (fun w => ?_)
          · rw [isg_0] at w
            refine fin0 σ2 hP2' ?_
            rw [hie]
            by_cases e : sd = 0
            · rw [e] at hbd
              rw [hbd]
              have := hsd.1 e
              simp [hasRoomU, show ¬ va c < v by omega, show ¬ wayI s (T r c) < 0 by omega]
            · have e1 : sd = 1 := by omega
              rw [e1] at hbd
              rw [hbd]
              have : ¬ 0 < wayI s (T r c) := fun w => e (hsd.2 w)
              simp [hasRoomL, this, show ¬ v < va c by omega]
          · rw [isg_0] at w
            refine fin1 σ2 hP2' ?_
            rw [hie]
            by_cases e : sd = 0
            · rw [e] at hbd
              have hle := n1 v (by show oU (bdS n kd bb ub lb i 0) v; rw [hbd]; exact ⟨v, rfl, Int.le_refl _⟩)
              rw [hbd]
              simp [hasRoomU, hsd.1 e, show va c < v by omega]
            · have e1 : sd = 1 := by omega
              rw [e1] at hbd
              have hle := n2 v (by show oL (bdS n kd bb ub lb i 1) v; rw [hbd]; exact ⟨v, rfl, Int.le_refl _⟩)
              rw [hbd]
              have : ¬ 0 < wayI s (T r c) := fun w => e (hsd.2 w)
              simp [hasRoomL, show wayI s (T r c) < 0 by omega, show v < va c by omega]
      refine gp_if (fun q => ?_) (fun q => ?_)
      · have q' : s32.toInt ≤ 0 := (i32_c s32 0).2.1 q
        exact sd 1 (by omega) ⟨fun e => absurd e (by decide), fun e => by omega⟩
      · have q' : ¬ s32.toInt ≤ 0 := fun e => q ((i32_c s32 0).2.2 e)
        exact sd 0 (by omega) ⟨fun _ => by omega, fun _ => rfl⟩
    rcases hs with ⟨e1, e2⟩ | ⟨e1, e2⟩
    · rw [e2]
      exact gp_t rfl (body _ (way_s (Or.inl ⟨e1, rfl⟩)))
    · rw [e2]
      exact gp_f (by decide) (body _ (way_s (Or.inr ⟨e1, rfl⟩)))
end RO
