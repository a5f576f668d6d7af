/-! ===== Tree.addLeaf, whole ===== -/
section AE
variable {f o N q K lc : Nat} {σ : tz_S} {up fi se : Nat → Option Nat} {vr : Nat → Nat} {fo to : Nat → Int} {cd : Nat → Bool} {ln : Nat → Nat} {op : Option Nat}
def aeP (o num : Nat) : Nat → Prop := fun x => (o + 312 ≤ x ∧ x ≤ o + 321) ∨ lfP (lfA o num) x
theorem ad_ae {num x : Nat} (h : adP o num x) : aeP o num x := h.imp (fun h => ⟨h.1, Nat.le_succ_of_le h.2⟩) id
/-- a leaf takes over its split's room -/
theorem c_addLeafF {s : Nat} (hc : cSh σ o N) (ht : trV σ o q K lc up fi se vr fo to cd ln op) (hw : trW K lc up fi se ln) (hf : 2000 ≤ f) (hK : K < 301) (hs : s < K) (hfs : fi s = none)
    (h2 : tz_A σ (o + 316) s = nI (vr s) ∧ (tz_L σ (o + 317) s).toInt = fo s ∧ (tz_L σ (o + 318) s).toInt = to s) :
    gp (X10_addLeaf f (some (o + 312)) (nI s)) σ (fun _ σ' => Fr (adP o (ln s)) σ σ' ∧ lfV σ' (lfA o (ln s)) (fun _ => (0, 1)) ∧ trV σ' o q (K + 1) lc (ups up K (some s)) (ups (ups fi s (some K)) K none) (ups se K none) vr fo to (ups cd K false) (ups ln K (ln s)) (some K)) := by
  obtain ⟨⟨h1, h21, h3, h4, h5, h6⟩, ⟨g1, g2, g3⟩, h8, h9⟩ := id ht
  obtain ⟨a1, a2, a3, a4, a5⟩ := h8 s hs
  have hln := (hw s hs).2.2.2
  unfold X10_addLeaf
  refine gp_cV (cs_tree hc) (gp_mono (c_hasN hc ht hs) ?_)
  rintro y σ0 ⟨z0, rfl⟩
  rw [z0]
  clear z0 σ0
  refine gp_f (by decide) ?_
  refine gp_rR (cs_tree hc) rfl ?_
  refine gp_aI (j := s) (cs_first hc) (by decide) (by omega) (by omega) rfl ?_
  rw [a2, hfs]
  refine gp_f (by show ¬ (0 : Int32) ≤ -2; decide) ?_
  unfold X10_addLeaf_b22
  refine gp_f (by decide) ?_
  refine gp_rR (cs_tree hc) rfl ?_
  refine gp_aI (j := s) (cs_lnum hc) (by decide) (by omega) (by omega) rfl ?_
  rw [a5]
  unfold X10_addLeaf_b40
  refine gp_rI (cs_tree hc) rfl ?_
  rw [h1]
  refine gp_f (by rw [show (301 : Int32) = nI 301 from rfl, nI_leI (by omega) (by omega)]; omega) ?_
  refine gp_t (by rw [show (151 : Int32) = nI 151 from rfl, nI_ltI (by omega) (by omega)]; omega) ?_
  refine gp_rR (cs_tree hc) rfl ?_
  refine gp_aR (j := ln s) (cs_leaves hc) (by decide) (by omega) (by omega) rfl ?_
  rw [g2 _ (by omega), if_pos (by omega)]
  refine gp_f (by simp) ?_
  refine gp_mono (c_addLeaf_b81 (u := some s) (l2 := 1) hc ht hf hK (by omega) (fun j hj => by cases hj; exact hs) (Or.inr ⟨by decide, s, rfl, h2⟩)) ?_
  rintro _ σ' ⟨q1, q2, q3⟩
  refine ⟨q1, q2, ?_⟩
  rw [if_neg (by decide)] at q3
  refine trV_cong q3 (fun k hk => ?_) (fun k hk => ?_)
  · by_cases zz : k = K
    · simp [zz, ups]
    · by_cases zs : k = s
      · simp [zz, zs, ups]
      · simp [zz, zs, ups, show ¬ s = k from fun e => zs e.symm]
  · by_cases zz : k = K
    · simp [zz, ups]
    · simp [zz, ups]
set_option maxHeartbeats 1000000 in
/-- a leaf with a room of its own -/
theorem c_addLeafN {u : Option Nat} (hc : cSh σ o N) (ht : trV σ o q K lc up fi se vr fo to cd ln op) (hw : trW K lc up fi se ln) (hf : 2000 ≤ f) (hK : K < 301) (hlc : lc < 151) (hu : ∀ s, u = some s → s < K ∧ fi s ≠ none) :
    gp (X10_addLeaf f (some (o + 312)) (eN u)) σ (fun _ σ' => ∃ q', q ≤ q' ∧ tz_ns σ' = tz_ns σ + 801 * (q' - q) ∧ Gr (aeP o lc) σ σ' ∧ cSh σ' o N ∧ lfV σ' (lfA o lc) (fun _ => (0, 1)) ∧ trV σ' o q' (K + 1) (lc + 1) (ups up K u) (ups fi K none) (fun k => if k = K then none else if u = some k then some K else se k) vr fo to (ups cd K false) (ups ln K lc) (some K)) := by
  obtain ⟨⟨h1, h21, h3, h4, h5, h6⟩, ⟨g1, g2, g3⟩, h8, h9⟩ := id ht
  have rest : gp (X10_addLeaf_b22 f (some (o + 312)) (eN u) 0) σ (fun _ σ' => ∃ q', q ≤ q' ∧ tz_ns σ' = tz_ns σ + 801 * (q' - q) ∧ Gr (aeP o lc) σ σ' ∧ cSh σ' o N ∧ lfV σ' (lfA o lc) (fun _ => (0, 1)) ∧ trV σ' o q' (K + 1) (lc + 1) (ups up K u) (ups fi K none) (fun k => if k = K then none else if u = some k then some K else se k) vr fo to (ups cd K false) (ups ln K lc) (some K)) := by
    unfold X10_addLeaf_b22
    refine gp_t rfl ?_
    refine gp_rI (cs_tree hc) rfl ?_
    rw [h21]
    unfold X10_addLeaf_b40
    refine gp_rI (cs_tree hc) rfl ?_
    rw [h1]
    refine gp_f (by rw [show (301 : Int32) = nI 301 from rfl, nI_leI (by omega) (by omega)]; omega) ?_
    refine gp_t (by rw [show (151 : Int32) = nI 151 from rfl, nI_ltI (by omega) (by omega)]; omega) ?_
    refine gp_rR (cs_tree hc) rfl ?_
    refine gp_aR (j := lc) (cs_leaves hc) (by decide) (by omega) (by omega) rfl ?_
    rw [g2 _ hlc]
    by_cases hq : lc < q
    · rw [if_pos hq]
      refine gp_f (by simp) ?_
      refine gp_mono (c_addLeaf_b81 (u := u) (l2 := 0) hc ht hf hK hq (fun s hs => (hu s hs).1) (Or.inl ⟨rfl, hq⟩)) ?_
      rintro _ σ' ⟨q1, q2, q3⟩
      refine ⟨q, Nat.le_refl _, by rw [q1.2.1]; omega, Gr_of_Fr (Fr_mono q1 (fun x hx => ad_ae hx)), cs_fr hc q1, q2, ?_⟩
      rw [if_pos rfl] at q3
      refine trV_cong q3 (fun k hk => ?_) (fun k hk => ?_)
      · by_cases zz : k = K
        · simp [zz, ups]
        · simp [zz, ups]
      · by_cases zz : k = K
        · simp [zz]
        · simp [zz]
    · have hqe : lc = q := by omega
      rw [if_neg hq]
      refine gp_t rfl ?_
      refine gp_rR (cs_tree hc) rfl ?_
      refine gp_newLeaf hf ?_
      rintro σ1 G1 c1 d1 s1 v1
      have hlq : tz_nc σ = lfA o lc := by rw [g1, hqe]; rfl
      rw [hlq] at s1 v1 ⊢
      have hc1 : cSh σ1 o N := cs_gr hc (fun x hx => (G1.2.2 x (by omega)).1) (fun x hx _ => ((G1.2.2 x (by omega)).2 (fun w => w)).2.2.2)
      refine gp_sR (j := lc) (cs_leaves hc1) (by decide) s1.1 (by omega) (by omega) rfl ?_
      have G2 : Gr (aeP o lc) σ (tz_sR σ1 (o + 321) lc (some (lfA o lc))) := Gr_sRn (Gr_mono G1 (fun x _ w => absurd w (fun w => w))) (Or.inl (by unfold aeP; omega))
      have hc2 : cSh (tz_sR σ1 (o + 321) lc (some (lfA o lc))) o N := cs_gr hc1 (fun x _ => rfl) (fun x _ hx => tz_u2_row _ _ _ _ hx)
      have keep : ∀ x, x < tz_nc σ → tz_F σ1 x = tz_F σ x ∧ tz_A σ1 x = tz_A σ x ∧ tz_L σ1 x = tz_L σ x ∧ tz_R σ1 x = tz_R σ x := fun x hx => (G1.2.2 x hx).2 (fun w => w)
      have ht2 : trV (tz_sR σ1 (o + 321) lc (some (lfA o lc))) o (q + 1) K lc up fi se vr fo to cd ln op := by
        refine ⟨⟨?_, ?_, ?_, h4, by omega, by omega⟩, ⟨?_, ?_, ?_⟩, ?_, ?_⟩
        · show tz_F σ1 (o + 312) 10 = _
          rw [(keep (o + 312) (by omega)).1]; exact h1
        · show tz_F σ1 (o + 312) 9 = _
          rw [(keep (o + 312) (by omega)).1]; exact h21
        · show tz_F σ1 (o + 312) 11 = _
          rw [(keep (o + 312) (by omega)).1]; exact h3
        · show tz_nc σ1 = _
          rw [c1, g1]; omega
        · intro i hi
          show tz_u2 (tz_R σ1) (o + 321) lc (some (lfA o lc)) (o + 321) i = _
          by_cases zz : i = lc
          · subst zz
            rw [tz_u2_same, if_pos (by omega)]
          · rw [tz_u2_ne _ _ (Or.inr zz), (keep (o + 321) (by omega)).2.2.2, g2 i hi]
            by_cases z2 : i < q
            · rw [if_pos z2, if_pos (by omega)]
            · rw [if_neg z2, if_neg (by omega)]
        · intro i hi
          have hs : lfSh σ1 (lfA o i) := by
            by_cases zz : i = lc
            · rw [zz]; exact s1
            · exact lfSh_gro (g3 i (by omega)) G1 (by rw [g1]; unfold lfA; omega) (fun w => w)
          obtain ⟨y1, y2, y3⟩ := hs
          refine ⟨y1, y2, fun j hj => ⟨(y3 j hj).1, ?_⟩⟩
          show tz_u2 (tz_R σ1) (o + 321) lc (some (lfA o lc)) (lfA o i + 1) j = _
          rw [tz_u2_ne _ _ (Or.inl (by unfold lfA; omega))]
          exact (y3 j hj).2
        · intro k hk
          show tz_A σ1 (o + 313) k = _ ∧ tz_A σ1 (o + 314) k = _ ∧ tz_A σ1 (o + 315) k = _ ∧ tz_A σ1 (o + 319) k = _ ∧ tz_A σ1 (o + 320) k = _
          rw [(keep (o + 313) (by omega)).2.1, (keep (o + 314) (by omega)).2.1, (keep (o + 315) (by omega)).2.1, (keep (o + 319) (by omega)).2.1, (keep (o + 320) (by omega)).2.1]
          exact h8 k hk
        · intro k hk hfk
          show tz_A σ1 (o + 316) k = _ ∧ (tz_L σ1 (o + 317) k).toInt = _ ∧ (tz_L σ1 (o + 318) k).toInt = _
          rw [(keep (o + 316) (by omega)).2.1, (keep (o + 317) (by omega)).2.2.1, (keep (o + 318) (by omega)).2.2.1]
          exact h9 k hk hfk
      have n2 : tz_ns (tz_sR σ1 (o + 321) lc (some (lfA o lc))) = tz_ns σ + 801 := d1
      have cc2 : tz_nc σ ≤ lfA o lc := Nat.le_of_eq hlq
      generalize tz_sR σ1 (o + 321) lc (some (lfA o lc)) = σ2 at *
      refine gp_mono (c_addLeaf_b81 (u := u) (l2 := 0) hc2 ht2 hf hK (by omega) (fun s hs => (hu s hs).1) (Or.inl ⟨rfl, by omega⟩)) ?_
      rintro _ σ' ⟨q1, q2, q3⟩
      refine ⟨q + 1, by omega, by rw [q1.2.1, n2]; omega, Gr_new G2 q1 (fun x hx => Or.inl (ad_ae hx)), cs_fr hc2 q1, q2, ?_⟩
      rw [if_pos rfl] at q3
      refine trV_cong q3 (fun k hk => ?_) (fun k hk => ?_)
      · by_cases zz : k = K
        · simp [zz, ups]
        · simp [zz, ups]
      · by_cases zz : k = K
        · simp [zz]
        · simp [zz]
  unfold X10_addLeaf X10_addLeaf_b21
  cases u with
  | none =>
    refine gp_cV (cs_tree hc) (gp_mono (c_has0 hc ht) ?_)
    rintro y σ0 ⟨z0, rfl⟩
    rw [z0]
    exact gp_t rfl rest
  | some s =>
    obtain ⟨hs, hfs⟩ := hu s rfl
    refine gp_cV (cs_tree hc) (gp_mono (c_hasN (k := s) hc ht hs) ?_)
    rintro y σ0 ⟨z0, rfl⟩
    rw [z0]
    refine gp_f (by decide) ?_
    refine gp_rR (cs_tree hc) rfl ?_
    refine gp_aI (j := s) (cs_first hc) (by decide) (by omega) (by omega) rfl ?_
    rw [(h8 s hs).2.1]
    refine gp_t ?_ rest
    cases hh : fi s with
    | none => exact absurd hh hfs
    | some j =>
      have hj := (hw s hs).2.1 j hh
      show (0 : Int32) ≤ nI j
      rw [show (0 : Int32) = nI 0 from rfl, nI_leI (by omega) (by omega)]
      omega
end AE
