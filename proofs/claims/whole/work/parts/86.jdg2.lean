/-! ===== Judge: compareTotal, clearWeights ===== -/
def psV (σ : tz_S) (o ps np nf : Nat) (pa : Nat → Nat) (mp : Nat → Int × Int) : Prop := tz_sh σ ps = some (.inr (4, np)) ∧ ∀ i, i < np → tz_R σ ps i = some (pa i) ∧ Fz σ (pa i) nf (mp i).1 (mp i).2 ∧ o + 340 < pa i
def wtV (σ : tz_S) (o : Nat) (w : Nat → Int) : Prop := ∀ i, i < 32 → (tz_L σ (o + 336) i).toInt = w i
theorem psV_fr {P : Nat → Prop} {σ σ1 : tz_S} {o ps np nf : Nat} {pa : Nat → Nat} {mp : Nat → Int × Int} (h : psV σ o ps np nf pa mp) (hf : Fr P σ σ1) (hP : ∀ x, o + 340 < x → ¬ P x) : psV σ1 o ps np nf pa mp := by
  refine ⟨by rw [Fr_sh hf]; exact h.1, fun i hi => ?_⟩
  obtain ⟨a, b, c⟩ := h.2 i hi
  exact ⟨by rw [Fr_R hf]; exact a, Fz_fr b hf (fun x h1 _ => hP x (by omega)), c⟩
theorem wtV_fr {P : Nat → Prop} {σ σ1 : tz_S} {o : Nat} {w : Nat → Int} (h : wtV σ o w) (hf : Fr P σ σ1) (hP : ¬ P (o + 336)) : wtV σ1 o w := by
  unfold wtV
  rw [Fr_L hf hP]
  exact h
theorem jc_no {o x : Nat} (h : o + 340 < x) : ¬ jcP o x := by unfold jcP; omega
theorem l64_0 {x : Int64} : lg_cmp x 0 = 0 ↔ x.toInt = 0 := by
  rw [lg_cmp_eq, ← Int64.toInt_inj]
  exact Iff.rfl
section JT
variable {f o N ps np nf : Nat} {σ : tz_S} {pa : Nat → Nat} {mp : Nat → Int × Int} {w : Nat → Int} {num : Int64}
theorem c_clearWeights (hc : cSh σ o N) (hf : 2000 ≤ f) : gp (X4_clearWeights f (some (o + 328))) σ (fun _ σ' => Fr (fun x => x = o + 336) σ σ' ∧ wtV σ' o (fun _ => 0)) := by
  unfold X4_clearWeights X4_clearWeights_L2
  refine gp_loop (I := fun (τ : Int32) (σ' : tz_S) => ∃ i, τ = nI i ∧ i ≤ 32 ∧ Fr (fun x => x = o + 336) σ σ' ∧ ∀ j, j < i → (tz_L σ' (o + 336) j).toInt = 0) (fun τ _ => 100 - τ.toNatClampNeg) ?_ f _ _ ⟨0, rfl, Nat.zero_le _, Fr_refl, fun x hx => absurd hx (Nat.not_lt_zero _)⟩ (by omega)
  rintro K l2 σ1 ⟨i, rfl, hi, hF, h1⟩ hK
  show gp (X4_clearWeights_L2_body f (some (o + 328)) (fun l2 => K l2) (nI i)) σ1 _
  unfold X4_clearWeights_L2_body
  have hc1 := cs_fr hc hF
  refine gp_rR (cs_judge hc1) rfl ?_
  refine gp_len (cs_weights hc1) ?_
  refine gp_if (fun z => ?_) (fun z => ?_)
  · rw [nI_leI (by omega) (by omega)] at z
    exact gp_ret ⟨hF, fun j hj => h1 j (by omega)⟩
  rw [nI_leI (by omega) (by omega)] at z
  refine gp_rR (cs_judge hc1) rfl ?_
  refine gp_sL (j := i) (cs_weights hc1) (by omega) (by omega) rfl ?_
  refine gp_let ?_
  rw [nI_1]
  refine hK _ _ ⟨i + 1, rfl, by omega, Fr_trans hF (Fr_sL rfl), fun j hj => ?_⟩ (by rw [nI_clamp (by omega), nI_clamp (by omega)]; omega)
  show (tz_u2 (tz_L σ1) (o + 336) i 0 (o + 336) j).toInt = 0
  by_cases y : j = i
  · rw [y, tz_u2_same]; rfl
  · rw [tz_u2_ne _ _ (Or.inr y)]; exact h1 j (by omega)
set_option maxHeartbeats 1000000 in
theorem c_compareTotal (hc : cSh σ o N) (hs : smOk σ (o + 30) N) (hO : smOk σ (o + 329) N) (hp : psV σ o ps np nf pa mp) (hw : wtV σ o w) (hj : jdP np w mp) (hnum : -9223372036854775808 < num.toInt) (hf : 2000 ≤ f) :
    gp (X4_compareTotal f (some (o + 328)) (some ps) num) σ (fun y σ' => Fr (jcP o) σ σ' ∧ smOk σ' (o + 30) N ∧ smOk σ' (o + 329) N ∧ y = isg ((ctF w mp np).1 - num.toInt * (ctF w mp np).2)) := by
  have hN := cs_N hc
  have hnp := hj.1
  obtain ⟨u0, S0, hS⟩ := hs
  unfold X4_compareTotal
  refine gp_rR (cs_judge hc) rfl ?_
  refine gp_cV (Sz_cl hS) (gp_mono (c_clearS hS hf) ?_)
  rintro _ σ1 ⟨hF1, hS1⟩
  have hc1 := cs_fr hc hF1
  refine gp_rR (cs_judge hc1) rfl ?_
  refine gp_cV (cs_jcommon hc1).1 (gp_mono (c_setLongB (t := 1) (cs_jcommon hc1) hf (p9 (k := 1) (by decide) (by omega))) ?_)
  rintro _ σ2 ⟨hF2, hC2⟩
  have hS2 := Sz_fr hS1 hF2 (by unfold bP; omega) (by unfold bP; omega)
  have hFa : Fr (jcP o) σ σ2 := Fr_trans (Fr_mono hF1 (fun x z => by unfold bP at z; unfold jcP; omega)) (Fr_mono hF2 (fun x z => by unfold bP at z; unfold jcP; omega))
  have hO2 := smOk_fr (smOk_fr hO hF1 (by unfold bP; omega) (by unfold bP; omega)) hF2 (by unfold bP; omega) (by unfold bP; omega)
  clear hS hS1 hF1 hF2 hc1
  have last : ∀ (σ' : tz_S) (j u : Nat), j = np → Fr (jcP o) σ σ' → smOk σ' (o + 329) N → Sz σ' (o + 30) N u (ctF w mp j).1 → Bz σ' (o + 337) N (ctF w mp j).2 → u ≤ 123 → gp (X4_compareTotal_b83 f (some (o + 328)) num) σ' (fun y σ' => Fr (jcP o) σ σ' ∧ smOk σ' (o + 30) N ∧ smOk σ' (o + 329) N ∧ y = isg ((ctF w mp np).1 - num.toInt * (ctF w mp np).2)) := by
    intro σ' j u e hF hO' hS' hC' hu
    subst e
    have hc' := cs_fr hc hF
    obtain ⟨a1, a2, a3⟩ := ct_ok hj (Nat.le_refl _)
    have hwS := hj.2.2
    unfold X4_compareTotal_b83
    refine gp_rR (cs_judge hc') rfl ?_
    refine gp_rR (cs_judge hc') rfl ?_
    have hneg := az_lneg hnum
    have hhi := az_hi64 num
    refine gp_cV (Sz_cl hS') (gp_mono (c_addTimesS (t := -num) (m := 107) hS' hC' hf (by rw [hneg]; omega) (p9 (p10_s a2) (by omega)) (by omega) (by omega)) ?_)
    rintro _ σ3 ⟨hF3, u3, hu3, hS3⟩
    rw [hneg] at hS3
    have hc3 := cs_fr hc' hF3
    refine gp_rR (cs_judge hc3) rfl ?_
    refine gp_cV (Sz_cl hS3) (gp_mono (c_signNowS hS3 hf) ?_)
    rintro y σ4 ⟨z4, hy⟩
    rw [z4]
    refine gp_ret ⟨Fr_trans hF (Fr_mono hF3 (fun x z => by unfold bP at z; unfold jcP; omega)), ⟨u3, _, hS3⟩, smOk_fr hO' hF3 (by unfold bP; omega) (by unfold bP; omega), ?_⟩
    rw [hy]
    congr 1
    rw [Int.neg_mul]
    omega
  unfold X4_compareTotal_L18
  refine gp_loop (I := fun (τ : Int32) (σ' : tz_S) => ∃ j u, τ = nI j ∧ j ≤ np ∧ Fr (jcP o) σ σ' ∧ smOk σ' (o + 329) N ∧ Sz σ' (o + 30) N u (ctF w mp j).1 ∧ Bz σ' (o + 337) N (ctF w mp j).2 ∧ (u ≤ 27 + 3 * j ∨ (10 ^ 70 < (ctF w mp j).2.natAbs ∧ u ≤ 122))) (fun τ _ => 100 - τ.toNatClampNeg) ?_ f _ _ ⟨0, 0, rfl, Nat.zero_le _, hFa, hO2, hS2, hC2, Or.inl (by omega)⟩ (by omega)
  clear hFa hO2 hS2 hC2 σ2 σ1
  rintro K l4 σ1 ⟨j, u, rfl, hjn, hF, hO1, hS1, hC1, hu⟩ hK
  show gp (X4_compareTotal_L18_body f (some (o + 328)) (some ps) num (fun l4 => K l4) (nI j)) σ1 _
  unfold X4_compareTotal_L18_body
  have hc1 := cs_fr hc hF
  have hp1 := psV_fr hp hF (fun x hx => jc_no hx)
  have hw1 := wtV_fr hw hF (by unfold jcP; omega)
  obtain ⟨a1, a2, a3⟩ := ct_ok hj hjn
  refine gp_len hp1.1 ?_
  refine gp_if (fun z => ?_) (fun z => ?_)
  · rw [nI_leI (by omega) (by omega)] at z
    exact last σ1 j u (by omega) hF hO1 hS1 hC1 (by omega)
  rw [nI_leI (by omega) (by omega)] at z
  refine gp_rR (cs_judge hc1) rfl ?_
  refine gp_len (cs_weights hc1) ?_
  refine gp_f (by rw [nI_leI (by omega) (by omega)]; omega) ?_
  obtain ⟨r1, r2, r3⟩ := hp1.2 j (by omega)
  obtain ⟨b1, b2, b3, b4, b5⟩ := hj.2.1 j (by omega)
  have next : ∀ (σ' : tz_S) (u' : Nat), Fr (jcP o) σ σ' → smOk σ' (o + 329) N → Sz σ' (o + 30) N u' (ctF w mp (j + 1)).1 → Bz σ' (o + 337) N (ctF w mp (j + 1)).2 → (u' ≤ 27 + 3 * (j + 1) ∨ (10 ^ 70 < (ctF w mp (j + 1)).2.natAbs ∧ u' ≤ 122)) → gp (X4_compareTotal_b77 f (fun l4 => K l4) (some (o + 328)) (some ps) num (nI j)) σ' (fun y σ' => Fr (jcP o) σ σ' ∧ smOk σ' (o + 30) N ∧ smOk σ' (o + 329) N ∧ y = isg ((ctF w mp np).1 - num.toInt * (ctF w mp np).2)) := by
    intro σ' u' g1 g2 g3 g4 g5
    unfold X4_compareTotal_b77
    refine gp_let ?_
    rw [nI_1]
    exact hK _ _ ⟨j + 1, u', rfl, by omega, g1, g2, g3, g4, g5⟩ (by rw [nI_clamp (by omega), nI_clamp (by omega)]; omega)
  refine gp_aR (j := j) hp1.1 (by decide) (by omega) (by omega) rfl ?_
  rw [r1]
  refine gp_rR (cs_judge hc1) rfl ?_
  refine gp_aL (j := j) (cs_weights hc1) (by omega) (by omega) rfl ?_
  have hwj := hw1 j (by omega)
  have skip : (w j = 0 ∨ (mp j).1 = 0) → gp (X4_compareTotal_b77 f (fun l4 => K l4) (some (o + 328)) (some ps) num (nI j)) σ1 (fun y σ' => Fr (jcP o) σ σ' ∧ smOk σ' (o + 30) N ∧ smOk σ' (o + 329) N ∧ y = isg ((ctF w mp np).1 - num.toInt * (ctF w mp np).2)) := by
    intro q
    have e : ctF w mp (j + 1) = ctF w mp j := by simp only [ctF]; rw [if_pos q]
    exact next σ1 u hF hO1 (by rw [e]; exact hS1) (by rw [e]; exact hC1) (by rw [e]; omega)
  refine gp_if (fun y => ?_) (fun y => ?_)
  · rw [l64_0, hwj] at y
    exact skip (Or.inl y)
  rw [l64_0, hwj] at y
  refine gp_rR r2.1 rfl ?_
  refine gp_rI (Bz_cl r2.2.1) rfl ?_
  rw [Bz_sign r2.2.1]
  refine gp_if (fun x => ?_) (fun x => ?_)
  · rw [isg_0] at x
    exact skip (Or.inr x)
  rw [isg_0] at x
  refine gp_rR (cs_judge hc1) rfl ?_
  refine gp_aL (j := j) (cs_weights hc1) (by omega) (by omega) rfl ?_
  have hws := hj.2.2
  have hws1 := wS_le (mp := mp) (show j + 1 ≤ np by omega)
  have hws2 : wS (j + 1) mp = wS j mp + wt (mp j) := rfl
  have hwt := wt_p b1 b2
  have hwt2 := wt_le (mp j)
  have hstep : ctF w mp (j + 1) = if (mp j).2 = (ctF w mp j).2 then ((ctF w mp j).1 + w j * (mp j).1, (ctF w mp j).2) else ((ctF w mp j).1 * (mp j).2 + w j * ((mp j).1 * (ctF w mp j).2), (ctF w mp j).2 * (mp j).2) := by
    simp only [ctF]
    rw [if_neg (fun q => by rcases q with q | q; exact y q; exact x q)]
  have hu4 : (mp j).2 = (ctF w mp j).2 → u + 4 ≤ 128 := fun e => by
    rcases hu with q | q
    · omega
    · rw [← e] at q
      omega
  have fin : ∀ w0 : Nat, (ctF w mp j).2.natAbs ≤ 10 ^ w0 → w0 + wt (mp j) ≤ 959 → (max ((w0 + 107) / 9 + (wt (mp j) + 9) / 9) ((w0 + 99) / 9 + 2) + 3 ≤ 27 + 3 * (j + 1) ∨ 10 ^ 70 < (ctF w mp j).2.natAbs) → gp (pz_cV 4 (some (o + 328)) (X4_addPart f (some (o + 328)) (some (pa j)) (tz_L σ1 (o + 336) j)) fun _ => X4_compareTotal_b77 f (fun l4 => K l4) (some (o + 328)) (some ps) num (nI j)) σ1 (fun y σ' => Fr (jcP o) σ σ' ∧ smOk σ' (o + 30) N ∧ smOk σ' (o + 329) N ∧ y = isg ((ctF w mp np).1 - num.toInt * (ctF w mp np).2)) := by
    intro w0 c1 c2 c3
    refine gp_cV (cs_judge hc1) (gp_mono (c_addPart (w0 := w0) (t := wt (mp j)) hc1 hS1 hO1 hC1 r2 r3 b1 a1 c1 (ct_S hj hjn c1) b3 hwt (by omega) c2 (by rw [hwj]; exact b5) hu4 hf) ?_)
    rintro _ σ2 ⟨hF2, hO2, hr⟩
    rw [hwj] at hr
    rcases hr with ⟨e1, u', hu', hS', hC'⟩ | ⟨e1, u', hu', hS', hC'⟩
    · rw [if_pos e1] at hstep
      refine next σ2 u' (Fr_trans hF hF2) hO2 (by rw [hstep]; exact hS') (by rw [hstep]; exact hC') ?_
      rw [hstep]
      show u' ≤ 27 + 3 * (j + 1) ∨ (10 ^ 70 < (ctF w mp j).2.natAbs ∧ u' ≤ 122)
      rcases hu with q | q
      · exact Or.inl (by omega)
      · rw [← e1] at q
        omega
    · rw [if_neg e1] at hstep
      refine next σ2 u' (Fr_trans hF hF2) hO2 (by rw [hstep]; exact hS') (by rw [hstep]; exact hC') ?_
      rw [hstep]
      show u' ≤ 27 + 3 * (j + 1) ∨ (10 ^ 70 < ((ctF w mp j).2 * (mp j).2).natAbs ∧ u' ≤ 122)
      rcases c3 with q | q
      · exact Or.inl (by omega)
      · refine Or.inr ⟨?_, by omega⟩
        rw [Int.natAbs_mul]
        have : (ctF w mp j).2.natAbs * 1 ≤ (ctF w mp j).2.natAbs * (mp j).2.natAbs := Nat.mul_le_mul_left _ (by omega)
        omega
  by_cases hsm : (ctF w mp j).2.natAbs ≤ 10 ^ 70
  · exact fin 70 hsm (by omega) (Or.inl (by omega))
  · exact fin (wS j mp) a2 (by omega) (Or.inr (by omega))
end JT
