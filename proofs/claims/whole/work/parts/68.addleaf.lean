/-! ===== Tree.addLeaf ===== -/
section AD
variable {f o N q K lc : Nat} {σ : tz_S} {up fi se : Nat → Option Nat} {vr : Nat → Nat} {fo to : Nat → Int} {cd : Nat → Bool} {ln : Nat → Nat} {op : Option Nat}
def adP (o num : Nat) : Nat → Prop := fun x => (o + 312 ≤ x ∧ x ≤ o + 320) ∨ lfP (lfA o num) x
theorem trV_cong {fi' se' : Nat → Option Nat} (h : trV σ o q K lc up fi se vr fo to cd ln op) (h1 : ∀ k, k < K → fi k = fi' k) (h2 : ∀ k, k < K → se k = se' k) : trV σ o q K lc up fi' se' vr fo to cd ln op := by
  obtain ⟨y1, y2, y5, y6⟩ := h
  refine ⟨y1, y2, fun k hk => ?_, fun k hk hf => y6 k hk (by rw [h1 k hk]; exact hf)⟩
  rw [← h1 k hk, ← h2 k hk]
  exact y5 k hk
set_option maxHeartbeats 1000000 in
theorem c_addLeaf_b81 {num : Nat} {u : Option Nat} {l2 : Int32} (hc : cSh σ o N) (ht : trV σ o q K lc up fi se vr fo to cd ln op) (hf : 2000 ≤ f) (hK : K < 301) (hnum : num < q) (hu : ∀ s, u = some s → s < K)
    (h2 : (l2 = 0 ∧ lc < q) ∨ (l2 ≠ 0 ∧ ∃ s, u = some s ∧ tz_A σ (o + 316) s = nI (vr s) ∧ (tz_L σ (o + 317) s).toInt = fo s ∧ (tz_L σ (o + 318) s).toInt = to s)) :
    gp (X10_addLeaf_b81 f (some (o + 312)) (eN u) l2 (nI num)) σ (fun _ σ' => Fr (adP o num) σ σ' ∧ lfV σ' (lfA o num) (fun _ => (0, 1)) ∧ trV σ' o q (K + 1) (if l2 = 0 then lc + 1 else lc) (ups up K u) (fun k => if k = K then none else if l2 ≠ 0 ∧ u = some k then some K else fi k) (fun k => if k = K then none else if l2 = 0 ∧ u = some k then some K else se k) vr fo to (ups cd K false) (ups ln K num) (some K)) := by
  obtain ⟨⟨h1, h21, h3, h4, h5, h6⟩, ⟨g1, g2, g3⟩, h8, h9⟩ := id ht
  unfold X10_addLeaf_b81 X10_addLeaf_b203
  refine gp_rR (cs_tree hc) rfl ?_
  refine gp_aR (j := num) (cs_leaves hc) (by decide) (by omega) (by omega) rfl ?_
  rw [g2 _ (by omega), if_pos hnum]
  have hlf := g3 num hnum
  refine gp_cV hlf.1 (gp_mono (c_leafClear hlf hf) ?_)
  rintro _ σ1 ⟨hF1, hv1⟩
  have hc1 := cs_fr hc hF1
  have ht1 : trV σ1 o q K lc up fi se vr fo to cd ln op := trV_fr ht hF1 (fun x a b => by unfold lfP lfA; omega)
  have hF10 : Fr (adP o num) σ σ1 := Fr_mono hF1 (fun x hx => Or.inr hx)
  have h2' : (l2 = 0 ∧ lc < q) ∨ (l2 ≠ 0 ∧ ∃ s, u = some s ∧ tz_A σ1 (o + 316) s = nI (vr s) ∧ (tz_L σ1 (o + 317) s).toInt = fo s ∧ (tz_L σ1 (o + 318) s).toInt = to s) := by
    rcases h2 with z | ⟨z1, s, z2, z3⟩
    · exact Or.inl z
    · refine Or.inr ⟨z1, s, z2, ?_⟩
      rw [Fr_A hF1 (x := o + 316) (by unfold lfP lfA; omega), Fr_L hF1 (x := o + 317) (by unfold lfP lfA; omega), Fr_L hF1 (x := o + 318) (by unfold lfP lfA; omega)]
      exact z3
  clear h2 ht hlf hF1 h1 h21 h3 h8 h9 g1 g2 g3
  obtain ⟨⟨h1, h21, h3, -, -, -⟩, ⟨g1, g2, g3⟩, h8, h9⟩ := id ht1
  refine gp_rI (cs_tree hc1) rfl ?_
  rw [h1]
  refine gp_wI (cs_tree hc1) rfl ?_
  have hc2 : cSh (tz_sF σ1 (o + 312) 11 (nI K)) o N := hc1
  refine gp_rI (cs_tree hc2) rfl ?_
  rw [show tz_F (tz_sF σ1 (o + 312) 11 (nI K)) (o + 312) 10 = nI K by show tz_u2 (tz_F σ1) (o + 312) 11 (nI K) (o + 312) 10 = _; rw [tz_u2_ne _ _ (Or.inr (by decide))]; exact h1, nI_1]
  refine gp_wI (cs_tree hc2) rfl ?_
  have f11 : tz_F (tz_sF (tz_sF σ1 (o + 312) 11 (nI K)) (o + 312) 10 (nI (K + 1))) (o + 312) 11 = nI K := by
    show tz_u2 (tz_u2 (tz_F σ1) (o + 312) 11 (nI K)) (o + 312) 10 (nI (K + 1)) (o + 312) 11 = _
    rw [tz_u2_ne _ _ (Or.inr (by decide)), tz_u2_same]
  have f10 : tz_F (tz_sF (tz_sF σ1 (o + 312) 11 (nI K)) (o + 312) 10 (nI (K + 1))) (o + 312) 10 = nI (K + 1) := tz_u2_same _ _ _ _
  have f9 : tz_F (tz_sF (tz_sF σ1 (o + 312) 11 (nI K)) (o + 312) 10 (nI (K + 1))) (o + 312) 9 = nI lc := by
    show tz_u2 (tz_u2 (tz_F σ1) (o + 312) 11 (nI K)) (o + 312) 10 (nI (K + 1)) (o + 312) 9 = _
    rw [tz_u2_ne _ _ (Or.inr (by decide)), tz_u2_ne _ _ (Or.inr (by decide))]; exact h21
  have hF3 : Fr (adP o num) σ (tz_sF (tz_sF σ1 (o + 312) 11 (nI K)) (o + 312) 10 (nI (K + 1))) := Fr_trans hF10 (Fr_trans (Fr_sF (by unfold adP; omega)) (Fr_sF (by unfold adP; omega)))
  have eA : tz_A (tz_sF (tz_sF σ1 (o + 312) 11 (nI K)) (o + 312) 10 (nI (K + 1))) = tz_A σ1 := rfl
  have eL : tz_L (tz_sF (tz_sF σ1 (o + 312) 11 (nI K)) (o + 312) 10 (nI (K + 1))) = tz_L σ1 := rfl
  have eN1 : tz_nc (tz_sF (tz_sF σ1 (o + 312) 11 (nI K)) (o + 312) 10 (nI (K + 1))) = tz_nc σ1 := rfl
  have eR : tz_R (tz_sF (tz_sF σ1 (o + 312) 11 (nI K)) (o + 312) 10 (nI (K + 1))) = tz_R σ1 := rfl
  have eS : tz_sh (tz_sF (tz_sF σ1 (o + 312) 11 (nI K)) (o + 312) 10 (nI (K + 1))) = tz_sh σ1 := rfl
  have hv3 : lfV (tz_sF (tz_sF σ1 (o + 312) 11 (nI K)) (o + 312) 10 (nI (K + 1))) (lfA o num) (fun _ => (0, 1)) := lfV_fr hv1 (Fr_trans (Fr_sF (P := fun x => x = o + 312) rfl) (Fr_sF rfl)) (fun x a b => by unfold lfA at a; omega)
  have hc3 : cSh (tz_sF (tz_sF σ1 (o + 312) 11 (nI K)) (o + 312) 10 (nI (K + 1))) o N := hc1
  clear hc2
  generalize tz_sF (tz_sF σ1 (o + 312) 11 (nI K)) (o + 312) 10 (nI (K + 1)) = σ3 at *
  refine gp_rR (cs_tree hc3) rfl ?_
  refine gp_rI (cs_tree hc3) rfl ?_
  refine gp_sI (j := K) (cs_above hc3) (by decide) (by omega) (by omega) f11 ?_
  have hc4 : cSh (tz_sA σ3 (o + 313) K (eN u)) o N := hc3
  refine gp_rR (cs_tree hc4) rfl ?_
  refine gp_rI (cs_tree hc4) rfl ?_
  refine gp_sI (j := K) (cs_first hc4) (by decide) (by omega) (by omega) f11 ?_
  have hc5 : cSh (tz_sA (tz_sA σ3 (o + 313) K (eN u)) (o + 314) K (-2)) o N := hc3
  refine gp_rR (cs_tree hc5) rfl ?_
  refine gp_rI (cs_tree hc5) rfl ?_
  refine gp_sI (j := K) (cs_second hc5) (by decide) (by omega) (by omega) f11 ?_
  have hc6 : cSh (tz_sA (tz_sA (tz_sA σ3 (o + 313) K (eN u)) (o + 314) K (-2)) (o + 315) K (-2)) o N := hc3
  refine gp_rR (cs_tree hc6) rfl ?_
  refine gp_rI (cs_tree hc6) rfl ?_
  refine gp_sZ (j := K) (cs_closed hc6) (by omega) (by omega) f11 (Or.inl rfl) ?_
  have hc7 : cSh (tz_sA (tz_sA (tz_sA (tz_sA σ3 (o + 313) K (eN u)) (o + 314) K (-2)) (o + 315) K (-2)) (o + 319) K 0) o N := hc3
  refine gp_rR (cs_tree hc7) rfl ?_
  refine gp_rI (cs_tree hc7) rfl ?_
  refine gp_sI (j := K) (cs_lnum hc7) (by decide) (by omega) (by omega) f11 ?_
  have hF8 : Fr (trP o) σ3 (tz_sA (tz_sA (tz_sA (tz_sA (tz_sA σ3 (o + 313) K (eN u)) (o + 314) K (-2)) (o + 315) K (-2)) (o + 319) K 0) (o + 320) K (nI num)) := Fr_trans (Fr_trans (Fr_trans (Fr_trans (Fr_sA (by unfold trP; omega)) (Fr_sA (by unfold trP; omega))) (Fr_sA (by unfold trP; omega))) (Fr_sA (by unfold trP; omega))) (Fr_sA (by unfold trP; omega))
  have a13 : tz_A (tz_sA (tz_sA (tz_sA (tz_sA (tz_sA σ3 (o + 313) K (eN u)) (o + 314) K (-2)) (o + 315) K (-2)) (o + 319) K 0) (o + 320) K (nI num)) = tz_u2 (tz_u2 (tz_u2 (tz_u2 (tz_u2 (tz_A σ1) (o + 313) K (eN u)) (o + 314) K (-2)) (o + 315) K (-2)) (o + 319) K 0) (o + 320) K (nI num) := by rw [← eA]; rfl
  have eF : tz_F (tz_sA (tz_sA (tz_sA (tz_sA (tz_sA σ3 (o + 313) K (eN u)) (o + 314) K (-2)) (o + 315) K (-2)) (o + 319) K 0) (o + 320) K (nI num)) = tz_F σ3 := rfl
  have eL8 : tz_L (tz_sA (tz_sA (tz_sA (tz_sA (tz_sA σ3 (o + 313) K (eN u)) (o + 314) K (-2)) (o + 315) K (-2)) (o + 319) K 0) (o + 320) K (nI num)) = tz_L σ1 := by rw [← eL]; rfl
  clear hc4 hc5 hc6 hc7
  generalize tz_sA (tz_sA (tz_sA (tz_sA (tz_sA σ3 (o + 313) K (eN u)) (o + 314) K (-2)) (o + 315) K (-2)) (o + 319) K 0) (o + 320) K (nI num) = σ8 at *
  have hc8 := cs_fr hc3 hF8
  have hF80 : Fr (adP o num) σ σ8 := Fr_then hF3 hF8 (fun x hx => by unfold trP at hx; unfold adP; omega)
  have hv8 : lfV σ8 (lfA o num) (fun _ => (0, 1)) := lfV_fr hv3 hF8 (fun x a b => by unfold lfA at a; unfold trP; omega)
  have n8 : tz_nc σ8 = o + 418 + 162 * q := by rw [hF8.1, eN1]; exact g1
  have r8 : ∀ i, i < 151 → tz_R σ8 (o + 321) i = if i < q then some (lfA o i) else none := by rw [Fr_R hF8, eR]; exact g2
  have l8 : ∀ i, i < q → lfSh σ8 (lfA o i) := by
    intro i hi
    have := g3 i hi
    unfold lfSh fSh bSh at this ⊢
    rw [Fr_sh hF8, Fr_R hF8, eS, eR]
    exact this
  have o8 : ∀ k, k < K → tz_A σ8 (o + 313) k = eN (up k) ∧ tz_A σ8 (o + 314) k = eN (fi k) ∧ tz_A σ8 (o + 315) k = eN (se k) ∧ (tz_A σ8 (o + 319) k = if cd k = true then 1 else 0) ∧ tz_A σ8 (o + 320) k = nI (ln k) := by
    intro k hk
    have hkK : k ≠ K := by omega
    rw [a13]
    have := h8 k hk
    simp [tz_u2, hkK, this]
  have w8 : tz_A σ8 (o + 313) K = eN u ∧ tz_A σ8 (o + 314) K = eN none ∧ tz_A σ8 (o + 315) K = eN none ∧ tz_A σ8 (o + 319) K = 0 ∧ tz_A σ8 (o + 320) K = nI num := by
    rw [a13]
    simp [tz_u2]
    rfl
  have s8 : tz_A σ8 (o + 316) = tz_A σ1 (o + 316) := by
    rw [a13]
    funext j
    simp [tz_u2]
  clear a13
  rcases h2' with ⟨z1, z2⟩ | ⟨z1, s, z2, z3, z4, z5⟩
  · -- a second side, or the first leaf of all
    subst z1
    refine gp_t rfl ?_
    refine gp_rI (cs_tree hc8) rfl ?_
    rw [eF, f9, nI_1]
    refine gp_wI (cs_tree hc8) rfl ?_
    have hF9 : Fr (fun x => x = o + 312) σ8 (tz_sF σ8 (o + 312) 9 (nI (lc + 1))) := Fr_sF rfl
    have hF90 : Fr (adP o num) σ (tz_sF σ8 (o + 312) 9 (nI (lc + 1))) := Fr_then hF80 hF9 (fun x hx => by unfold adP; omega)
    have hv9 := lfV_fr hv8 hF9 (fun x a b => by unfold lfA at a; omega)
    have k10 : tz_F (tz_sF σ8 (o + 312) 9 (nI (lc + 1))) (o + 312) 10 = nI (K + 1) := by
      show tz_u2 (tz_F σ8) (o + 312) 9 (nI (lc + 1)) (o + 312) 10 = _
      rw [tz_u2_ne _ _ (Or.inr (by decide)), eF]; exact f10
    have k11 : tz_F (tz_sF σ8 (o + 312) 9 (nI (lc + 1))) (o + 312) 11 = nI K := by
      show tz_u2 (tz_F σ8) (o + 312) 9 (nI (lc + 1)) (o + 312) 11 = _
      rw [tz_u2_ne _ _ (Or.inr (by decide)), eF]; exact f11
    have k9 : tz_F (tz_sF σ8 (o + 312) 9 (nI (lc + 1))) (o + 312) 9 = nI (lc + 1) := tz_u2_same _ _ _ _
    have kA : tz_A (tz_sF σ8 (o + 312) 9 (nI (lc + 1))) = tz_A σ8 := rfl
    have kL : tz_L (tz_sF σ8 (o + 312) 9 (nI (lc + 1))) = tz_L σ8 := rfl
    have kN : tz_nc (tz_sF σ8 (o + 312) 9 (nI (lc + 1))) = o + 418 + 162 * q := n8
    have kR : ∀ i, i < 151 → tz_R (tz_sF σ8 (o + 312) 9 (nI (lc + 1))) (o + 321) i = if i < q then some (lfA o i) else none := r8
    have kS : ∀ i, i < q → lfSh (tz_sF σ8 (o + 312) 9 (nI (lc + 1))) (lfA o i) := l8
    generalize tz_sF σ8 (o + 312) 9 (nI (lc + 1)) = σ9 at *
    have hc9 := cs_fr hc8 hF9
    -- what all nodes hold when nothing hangs on the split
    have t9 : trV σ9 o q (K + 1) (lc + 1) (ups up K u) (ups fi K none) (ups se K none) vr fo to (ups cd K false) (ups ln K num) (some K) := by
      refine ⟨⟨k10, k9, k11, by omega, by omega, h6⟩, ⟨kN, kR, kS⟩, ?_, ?_⟩
      · intro k hk
        rw [kA]
        by_cases zz : k = K
        · subst zz
          rw [ups_s, ups_s, ups_s, ups_s, ups_s]
          simpa using w8
        · rw [ups_n _ _ zz, ups_n _ _ zz, ups_n _ _ zz, ups_n _ _ zz, ups_n _ _ zz]
          exact o8 k (by omega)
      · intro k hk hfk
        have zz : k ≠ K := fun e => hfk (by rw [e, ups_s])
        rw [ups_n _ _ zz] at hfk
        rw [kA, kL, s8, eL8]
        exact h9 k (by omega) hfk
    cases u with
    | none =>
      refine gp_cV (cs_tree hc9) (gp_mono (c_has0 hc9 t9) ?_)
      rintro y σ0 ⟨z0, rfl⟩
      rw [z0]
      refine gp_t rfl (gp_ret ⟨hF90, hv9, ?_⟩)
      refine trV_cong t9 (fun k _ => ?_) (fun k _ => ?_)
      · by_cases zz : k = K
        · rw [zz, ups_s]; simp
        · rw [ups_n _ _ zz]; simp [zz]
      · by_cases zz : k = K
        · rw [zz, ups_s]; simp
        · rw [ups_n _ _ zz]; simp [zz]
    | some s =>
      have hsK := hu s rfl
      refine gp_cV (cs_tree hc9) (gp_mono (c_hasN (k := s) hc9 t9 (by omega)) ?_)
      rintro y σ0 ⟨z0, rfl⟩
      rw [z0]
      clear z0 σ0
      refine gp_f (by decide) ?_
      refine gp_rR (cs_tree hc9) rfl ?_
      refine gp_rI (cs_tree hc9) rfl ?_
      rw [k11]
      refine gp_sI (j := s) (cs_second hc9) (by decide) (by omega) (by omega) rfl ?_
      have hFa : Fr (fun x => x = o + 315) σ9 (tz_sA σ9 (o + 315) s (nI K)) := Fr_sA rfl
      refine gp_ret ⟨Fr_then hF90 hFa (fun x hx => by unfold adP; omega), lfV_fr hv9 hFa (fun x a b => by unfold lfA at a; omega), ?_⟩
      obtain ⟨y1, ⟨y2, y3, y4⟩, y5, y6⟩ := t9
      refine ⟨y1, ⟨y2, y3, y4⟩, ?_, ?_⟩
      · intro k hk
        obtain ⟨x1, x2, x3, x4, x5⟩ := y5 k hk
        show tz_u2 (tz_A σ9) (o + 315) s (nI K) (o + 313) k = _ ∧ tz_u2 (tz_A σ9) (o + 315) s (nI K) (o + 314) k = _ ∧ tz_u2 (tz_A σ9) (o + 315) s (nI K) (o + 315) k = _ ∧ tz_u2 (tz_A σ9) (o + 315) s (nI K) (o + 319) k = _ ∧ tz_u2 (tz_A σ9) (o + 315) s (nI K) (o + 320) k = _
        rw [tz_u2_ne _ _ (Or.inl (by omega)), tz_u2_ne _ _ (Or.inl (by omega)), tz_u2_ne (tz_A σ9) (a := o + 315) (b := o + 319) _ (Or.inl (by omega)), tz_u2_ne (tz_A σ9) (a := o + 315) (b := o + 320) _ (Or.inl (by omega))]
        refine ⟨x1, ?_, ?_, x4, x5⟩
        · rw [x2]; simp [ups]
        · by_cases zz : k = s
          · subst zz
            rw [tz_u2_same]
            simp [show ¬ k = K by omega]
            rfl
          · rw [tz_u2_ne _ _ (Or.inr zz), x3]
            simp [ups, show ¬ s = k from fun e => zz e.symm]
      · intro k hk hfk
        have e316 : tz_A (tz_sA σ9 (o + 315) s (nI K)) (o + 316) = tz_A σ9 (o + 316) := tz_u2_row _ _ _ _ (by omega)
        rw [e316]
        exact y6 k hk (by simpa [ups] using hfk)
  · -- a first side
    subst z2
    have hsK := hu s rfl
    refine gp_f z1 ?_
    refine gp_rR (cs_tree hc8) rfl ?_
    refine gp_rI (cs_tree hc8) rfl ?_
    rw [eF, f11]
    refine gp_sI (j := s) (cs_first hc8) (by decide) (by omega) (by omega) rfl ?_
    have hFa : Fr (fun x => x = o + 314) σ8 (tz_sA σ8 (o + 314) s (nI K)) := Fr_sA rfl
    refine gp_ret ⟨Fr_then hF80 hFa (fun x hx => by unfold adP; omega), lfV_fr hv8 hFa (fun x a b => by unfold lfA at a; omega), ⟨by rw [← eF] at f10; exact f10, ?_, by rw [← eF] at f11; exact f11, by omega, ?_, h6⟩, ⟨n8, r8, l8⟩, ?_, ?_⟩
    · simp only [z1, if_false]
      show tz_F σ8 (o + 312) 9 = _
      rw [eF]; exact f9
    · simp only [z1, if_false]; exact h5
    · intro k hk
      show tz_u2 (tz_A σ8) (o + 314) s (nI K) (o + 313) k = _ ∧ tz_u2 (tz_A σ8) (o + 314) s (nI K) (o + 314) k = _ ∧ tz_u2 (tz_A σ8) (o + 314) s (nI K) (o + 315) k = _ ∧ tz_u2 (tz_A σ8) (o + 314) s (nI K) (o + 319) k = _ ∧ tz_u2 (tz_A σ8) (o + 314) s (nI K) (o + 320) k = _
      rw [tz_u2_ne _ _ (Or.inl (by omega)), tz_u2_ne (tz_A σ8) (a := o + 314) (b := o + 315) _ (Or.inl (by omega)), tz_u2_ne (tz_A σ8) (a := o + 314) (b := o + 319) _ (Or.inl (by omega)), tz_u2_ne (tz_A σ8) (a := o + 314) (b := o + 320) _ (Or.inl (by omega))]
      by_cases zz : k = K
      · subst zz
        obtain ⟨x1, x2, x3, x4, x5⟩ := w8
        rw [ups_s, ups_s, ups_s, tz_u2_ne _ _ (Or.inr (by omega))]
        simp [x1, x2, x3, x4, x5]
      · obtain ⟨x1, x2, x3, x4, x5⟩ := o8 k (by omega)
        rw [ups_n _ _ zz, ups_n _ _ zz, ups_n _ _ zz]
        refine ⟨x1, ?_, ?_, x4, x5⟩
        · by_cases zs : k = s
          · subst zs
            rw [tz_u2_same]
            simp [z1, zz]
            rfl
          · rw [tz_u2_ne _ _ (Or.inr zs), x2]
            simp [zz, show ¬ s = k from fun e => zs e.symm]
        · rw [x3]
          simp [z1, zz]
    · intro k hk hfk
      have e316 : tz_A (tz_sA σ8 (o + 314) s (nI K)) (o + 316) = tz_A σ1 (o + 316) := by rw [← s8]; exact tz_u2_row _ _ _ _ (by omega)
      have eL9 : tz_L (tz_sA σ8 (o + 314) s (nI K)) = tz_L σ1 := eL8
      rw [e316, eL9]
      by_cases zz : k = K
      · subst zz; simp at hfk
      · by_cases zs : k = s
        · subst zs; exact ⟨z3, z4, z5⟩
        · have : fi k ≠ none := by
            simpa [zz, show ¬ s = k from fun e => zs e.symm] using hfk
          exact h9 k (by omega) this
end AD
