/-! ===== Judge: cancelsVariables, isBelowZero, isGood ===== -/
def jvP (o : Nat) : Nat → Prop := fun x => jcP o x ∨ x = o + 336
theorem jv_j {o x : Nat} (h : jvP o x) : jP o x := by
  rcases h with h | h
  · exact jc_j h
  · unfold jP; omega
theorem jv_no {o x : Nat} (h : o + 340 < x) : ¬ jvP o x := fun z => j_no h (jv_j z)
theorem jv_n1 {o x : Nat} (h : x < o + 30 ∨ (o + 31 < x ∧ x < o + 329) ∨ (o + 330 < x ∧ x < o + 336)) : ¬ jvP o x := fun z => by
  rcases z with z | z
  · unfold jcP at z; omega
  · omega
section JM
variable {f o N n m l : Nat} {σ : tz_S} {A : Nat → Nat → Int} {kd : Nat → Nat} {bb dr : Nat → Int} {wh : Nat → Bool} {mp mq : Nat → Int × Int} {ub lb : Nat → Option Int}
theorem wt_set {w w2 : Nat → Int} {j : Nat} {v : Int64} (h : wtV σ o w) (hv : ∀ i, i < 32 → w2 i = if i = j then v.toInt else w i) : wtV (tz_sL σ (o + 336) j v) o w2 := fun i hi => by
  show (tz_u2 (tz_L σ) (o + 336) j v (o + 336) i).toInt = _
  rw [hv i hi]
  by_cases z : i = j
  · rw [z, tz_u2_same, if_pos rfl]
  · rw [tz_u2_ne _ _ (Or.inr z), if_neg z]; exact h i hi
set_option maxHeartbeats 1000000 in
theorem c_cancelsVariables (hc : cSh σ o N) (hr : rwI n m A kd bb dr) (hw : rwV σ o n m A kd bb wh dr) (hs : smOk σ (o + 30) N) (hO : smOk σ (o + 329) N) (hl1 : lfSh σ l) (hl2 : lfV σ l mp) (hl : o + 340 < l) (hI : lfI mp mq) (hf : 2000 ≤ f) :
    gp (X4_cancelsVariables f (some (o + 328)) (some l)) σ (fun y σ' => Fr (jvP o) σ σ' ∧ smOk σ' (o + 30) N ∧ smOk σ' (o + 329) N ∧ y = if fst1 (cvB m A mp) n = none then 1 else 0) := by
  have hn := hr.1.1
  have hm := hr.1.2
  unfold X4_cancelsVariables X4_cancelsVariables_L2
  refine gp_loop (I := fun (τ : Int32) (σ' : tz_S) => ∃ i, τ = nI i ∧ i ≤ n ∧ Fr (jvP o) σ σ' ∧ smOk σ' (o + 30) N ∧ smOk σ' (o + 329) N ∧ ∀ p, p < i → cvB m A mp p = false) (fun τ _ => 100 - τ.toNatClampNeg) ?_ f _ _ ⟨0, rfl, Nat.zero_le _, Fr_refl, hs, hO, fun x hx => absurd hx (Nat.not_lt_zero _)⟩ (by omega)
  clear hs hO
  rintro K l2 σ1 ⟨i, rfl, hi, hF, hs1, hO1, h1⟩ hK
  show gp (X4_cancelsVariables_L2_body f (some (o + 328)) (some l) (fun l2 => K l2) (nI i)) σ1 _
  unfold X4_cancelsVariables_L2_body
  have hc1 := cs_fr hc hF
  have hw1 := rwV_fr hw hF (fun x a b => jv_n1 (by omega))
  refine gp_rR (cs_judge hc1) rfl ?_
  refine gp_rI (cs_rows hc1) rfl ?_
  rw [hw1.1.1]
  refine gp_if (fun z => ?_) (fun z => ?_)
  · rw [nI_leI (by omega) (by omega)] at z
    refine gp_zz (Or.inr rfl) (gp_ret ⟨hF, hs1, hO1, ?_⟩)
    rw [if_pos (fst1_none (fun p hp => h1 p (by omega)))]
  rw [nI_leI (by omega) (by omega)] at z
  have hin : i < n := by omega
  refine gp_cV (cs_judge hc1) (gp_mono (c_clearWeights hc1 hf) ?_)
  rintro _ σ2 ⟨hF2, hw2⟩
  have hs2 := smOk_fr hs1 hF2 (by omega) (by omega)
  have hO2 := smOk_fr hO1 hF2 (by omega) (by omega)
  have hFa : Fr (jvP o) σ σ2 := Fr_trans hF (Fr_mono hF2 (fun x z => Or.inr z))
  clear hc1 hw1 hs1 hO1 hF hF2
  unfold X4_cancelsVariables_L19
  refine gp_loop (I := fun (τ : Int32) (σ' : tz_S) => ∃ j, τ = nI j ∧ j ≤ m ∧ Fr (jvP o) σ σ' ∧ smOk σ' (o + 30) N ∧ smOk σ' (o + 329) N ∧ wtV σ' o (fun k => if k < j then A k i else 0)) (fun τ _ => 100 - τ.toNatClampNeg) ?_ f _ _ ⟨0, rfl, Nat.zero_le _, hFa, hs2, hO2, fun k hk => by rw [hw2 k hk]; simp⟩ (by omega)
  clear hFa hs2 hO2 hw2 σ2 σ1
  rintro K2 l3 σ1 ⟨j, rfl, hj, hF, hs1, hO1, hwt⟩ hK2
  show gp (X4_cancelsVariables_L19_body f (fun l2 => K l2) (some (o + 328)) (some l) (nI i) (fun l3 => K2 l3) (nI j)) σ1 _
  unfold X4_cancelsVariables_L19_body
  have hc1 := cs_fr hc hF
  have hw1 := rwV_fr hw hF (fun x a b => jv_n1 (by omega))
  refine gp_rR (cs_judge hc1) rfl ?_
  refine gp_rI (cs_rows hc1) rfl ?_
  rw [hw1.1.2.1]
  refine gp_if (fun y => ?_) (fun y => ?_)
  · rw [nI_leI (by omega) (by omega)] at y
    have hjm : j = m := by omega
    subst hjm
    refine gp_rR (cs_judge hc1) rfl ?_
    refine gp_sL (j := 12 + i) (cs_weights hc1) (by omega) (by omega) (by rw [show (12 : Int32) = nI 12 from rfl, nI_add]) ?_
    have hF2 : Fr (jvP o) σ1 (tz_sL σ1 (o + 336) (12 + i) 1) := Fr_sL (Or.inr rfl)
    have hwt2 : wtV (tz_sL σ1 (o + 336) (12 + i) 1) o (fun k => if k = 12 + i then 1 else if k < j then A k i else 0) := wt_set hwt (fun k _ => rfl)
    have hc2 := cs_fr hc1 hF2
    have hs2 := smOk_fr hs1 (Fr_sL (P := fun x => x = o + 336) (a := o + 336) (k := 12 + i) (v := 1) rfl) (by omega) (by omega)
    have hO2 := smOk_fr hO1 (Fr_sL (P := fun x => x = o + 336) (a := o + 336) (k := 12 + i) (v := 1) rfl) (by omega) (by omega)
    have hFa := Fr_trans hF hF2
    clear hwt hF2 hc1 hs1 hO1 hw1 hF
    generalize tz_sL σ1 (o + 336) (12 + i) 1 = σ2 at *
    refine gp_rR (cs_judge hc2) rfl ?_
    refine gp_sL (j := 22 + i) (cs_weights hc2) (by omega) (by omega) (by rw [show (22 : Int32) = nI 22 from rfl, nI_add]) ?_
    have hF3 : Fr (jvP o) σ2 (tz_sL σ2 (o + 336) (22 + i) 1) := Fr_sL (Or.inr rfl)
    have hwt3 : wtV (tz_sL σ2 (o + 336) (22 + i) 1) o (cvW j A i) := wt_set hwt2 (fun k _ => by
      unfold cvW
      show _ = if k = 22 + i then 1 else if k = 12 + i then 1 else if k < j then A k i else 0
      by_cases a : k < j
      · rw [if_pos a, if_neg (by omega), if_neg (by omega), if_pos a]
      · rw [if_neg a]
        by_cases b : k = 22 + i
        · rw [if_pos (Or.inr b), if_pos b]
        · rw [if_neg b]
          by_cases c : k = 12 + i
          · rw [if_pos (Or.inl c), if_pos c]
          · rw [if_neg (fun w => by omega), if_neg c, if_neg a])
    have hc3 := cs_fr hc2 hF3
    have hs3 := smOk_fr hs2 (Fr_sL (P := fun x => x = o + 336) (a := o + 336) (k := 22 + i) (v := 1) rfl) (by omega) (by omega)
    have hO3 := smOk_fr hO2 (Fr_sL (P := fun x => x = o + 336) (a := o + 336) (k := 22 + i) (v := 1) rfl) (by omega) (by omega)
    have hFb := Fr_trans hFa hF3
    clear hwt2 hF3 hc2 hs2 hO2 hFa
    generalize tz_sL σ2 (o + 336) (22 + i) 1 = σ3 at *
    have hl13 := lfSh_fr hl1 hFb
    have hl23 := lfV_fr hl2 hFb (fun x a b => jv_no (by omega))
    refine gp_rR hl13.1 rfl ?_
    have hwb : ∀ k, k < 32 → -1000000000000000001 ≤ cvW j A i k ∧ cvW j A i k ≤ 1000000000000000001 := fun k hk => by
      unfold cvW
      by_cases a : k < j
      · rw [if_pos a]
        have := hr.2.1 k i a (by omega)
        omega
      · rw [if_neg a]
        by_cases b : k = 12 + i ∨ k = 22 + i
        · rw [if_pos b]; omega
        · rw [if_neg b]; omega
    refine gp_cV (cs_judge hc3) (gp_mono (c_compareTotal (num := 0) hc3 hs3 hO3 (lf_ps hl13 hl23 hl) hwt3 (jd_lf hI hwb) (by decide) hf) ?_)
    rintro s σ4 ⟨hF4, hs4, hO4, hsg⟩
    have hsg2 : s = sgT 32 (cvW j A i) mp 0 := hsg
    have hFc : Fr (jvP o) σ σ4 := Fr_trans hFb (Fr_mono hF4 (fun x z => Or.inl z))
    rw [hsg2]
    refine gp_if (fun x => ?_) (fun x => ?_)
    · refine gp_let ?_
      rw [nI_1]
      refine hK _ _ ⟨i + 1, rfl, by omega, hFc, hs4, hO4, fun p hp => ?_⟩ (by rw [nI_clamp (by omega), nI_clamp (by omega)]; omega)
      by_cases e : p = i
      · rw [e]; unfold cvB; simp [x]
      · exact h1 p (by omega)
    · refine gp_zz (Or.inl rfl) (gp_ret ⟨hFc, hs4, hO4, ?_⟩)
      rw [fst1_some h1 (by unfold cvB; simp [x]) hin, if_neg (by simp)]
  · rw [nI_leI (by omega) (by omega)] at y
    refine gp_rR (cs_judge hc1) rfl ?_
    refine gp_rR (cs_judge hc1) rfl ?_
    refine gp_rR (cs_rows hc1) rfl ?_
    refine gp_aR (j := j) (cs_grid hc1) (by decide) (by omega) (by omega) rfl ?_
    obtain ⟨l1, l2⟩ := cs_line hc1 j (by omega)
    rw [l2]
    refine gp_aI (j := i) l1 (by decide) (by omega) (by omega) rfl ?_
    have hA := hw1.2.1 j i (by omega) (by omega)
    refine gp_sL (j := j) (cs_weights hc1) (by omega) (by omega) rfl ?_
    refine gp_let ?_
    rw [nI_1]
    have hF4 : Fr (fun x => x = o + 336) σ1 (tz_sL σ1 (o + 336) j (Int32.toInt64 (tz_A σ1 (o + 3 + j) i))) := Fr_sL rfl
    refine hK2 _ _ ⟨j + 1, rfl, by omega, Fr_trans hF (Fr_mono hF4 (fun x z => Or.inr z)), smOk_fr hs1 hF4 (by omega) (by omega), smOk_fr hO1 hF4 (by omega) (by omega), wt_set hwt (fun k _ => ?_)⟩ (by rw [nI_clamp (by omega), nI_clamp (by omega)]; omega)
    show (if k < j + 1 then A k i else 0) = if k = j then (Int32.toInt64 (tz_A σ1 (o + 3 + j) i)).toInt else if k < j then A k i else 0
    rw [Int32.toInt_toInt64, hA]
    by_cases x : k = j
    · rw [if_pos (by omega), if_pos x, x]
    · rw [if_neg x]
      by_cases v : k < j
      · rw [if_pos v, if_pos (by omega)]
      · rw [if_neg v, if_neg (by omega)]
set_option maxHeartbeats 1000000 in
theorem c_isBelowZero (hc : cSh σ o N) (hr : rwI n m A kd bb dr) (hw : rwV σ o n m A kd bb wh dr) (hs : smOk σ (o + 30) N) (hO : smOk σ (o + 329) N) (hl1 : lfSh σ l) (hl2 : lfV σ l mp) (hl : o + 340 < l) (hI : lfI mp mq) (hb : ∀ x, x < n → bp σ (o + 331) x (ub x) (lb x)) (hbd : ∀ x v, x < n → (ub x = some v ∨ lb x = some v) → -1000000000000000001 ≤ v ∧ v ≤ 1000000000000000001) (hf : 2000 ≤ f) :
    gp (X4_isBelowZero f (some (o + 328)) (some l)) σ (fun y σ' => Fr (jvP o) σ σ' ∧ smOk σ' (o + 30) N ∧ smOk σ' (o + 329) N ∧ y = if sgT 32 (bzW n m bb ub lb) mp 0 = -1 then 1 else 0) := by
  have hn := hr.1.1
  have hm := hr.1.2
  unfold X4_isBelowZero
  refine gp_cV (cs_judge hc) (gp_mono (c_clearWeights hc hf) ?_)
  rintro _ σ1 ⟨hF1, hw1⟩
  have hs1 := smOk_fr hs hF1 (by omega) (by omega)
  have hO1 := smOk_fr hO hF1 (by omega) (by omega)
  unfold X4_isBelowZero_L6
  refine gp_loop (I := fun (τ : Int32) (σ' : tz_S) => ∃ j, τ = nI j ∧ j ≤ m ∧ Fr (jvP o) σ σ' ∧ smOk σ' (o + 30) N ∧ smOk σ' (o + 329) N ∧ wtV σ' o (fun k => if k < j then bb k else 0)) (fun τ _ => 100 - τ.toNatClampNeg) ?_ f _ _ ⟨0, rfl, Nat.zero_le _, Fr_mono hF1 (fun x z => Or.inr z), hs1, hO1, fun k hk => by rw [hw1 k hk]; simp⟩ (by omega)
  clear hs hO hs1 hO1 hF1 hw1 σ1
  rintro K l2 σ1 ⟨j, rfl, hj, hF, hs1, hO1, hwt⟩ hK
  show gp (X4_isBelowZero_L6_body f (some (o + 328)) (some l) (fun l2 => K l2) (nI j)) σ1 _
  unfold X4_isBelowZero_L6_body
  have hc1 := cs_fr hc hF
  have hw1 := rwV_fr hw hF (fun x a b => jv_n1 (by omega))
  refine gp_rR (cs_judge hc1) rfl ?_
  refine gp_rI (cs_rows hc1) rfl ?_
  rw [hw1.1.2.1]
  refine gp_if (fun y => ?_) (fun y => ?_)
  rotate_left
  · rw [nI_leI (by omega) (by omega)] at y
    refine gp_rR (cs_judge hc1) rfl ?_
    refine gp_rR (cs_judge hc1) rfl ?_
    refine gp_rR (cs_rows hc1) rfl ?_
    refine gp_aI (j := j) (cs_nums hc1) (by decide) (by omega) (by omega) rfl ?_
    have hA := hw1.2.2.2.1 j (by omega)
    refine gp_sL (j := j) (cs_weights hc1) (by omega) (by omega) rfl ?_
    refine gp_let ?_
    rw [nI_1]
    have hF4 : Fr (fun x => x = o + 336) σ1 (tz_sL σ1 (o + 336) j (Int32.toInt64 (tz_A σ1 (o + 16) j))) := Fr_sL rfl
    refine hK _ _ ⟨j + 1, rfl, by omega, Fr_trans hF (Fr_mono hF4 (fun x z => Or.inr z)), smOk_fr hs1 hF4 (by omega) (by omega), smOk_fr hO1 hF4 (by omega) (by omega), wt_set hwt (fun k _ => ?_)⟩ (by rw [nI_clamp (by omega), nI_clamp (by omega)]; omega)
    show (if k < j + 1 then bb k else 0) = if k = j then (Int32.toInt64 (tz_A σ1 (o + 16) j)).toInt else if k < j then bb k else 0
    rw [Int32.toInt_toInt64, hA]
    by_cases x : k = j
    · rw [if_pos (by omega), if_pos x, x]
    · rw [if_neg x]
      by_cases v : k < j
      · rw [if_pos v, if_pos (by omega)]
      · rw [if_neg v, if_neg (by omega)]
  rw [nI_leI (by omega) (by omega)] at y
  have hjm : j = m := by omega
  subst hjm
  have hwt0 : wtV σ1 o (bzW 0 j bb ub lb) := fun k hk => by
    rw [hwt k hk]
    unfold bzW
    show (if k < j then bb k else 0) = _
    by_cases a : k < j
    · rw [if_pos a, if_pos a]
    · rw [if_neg a, if_neg a, if_neg (by omega), if_neg (by omega)]
  clear hK K y hj hwt hc1 hw1
  unfold X4_isBelowZero_L41
  refine gp_loop (I := fun (τ : Int32) (σ' : tz_S) => ∃ i, τ = nI i ∧ i ≤ n ∧ Fr (jvP o) σ σ' ∧ smOk σ' (o + 30) N ∧ smOk σ' (o + 329) N ∧ wtV σ' o (bzW i j bb ub lb)) (fun τ _ => 100 - τ.toNatClampNeg) ?_ f _ _ ⟨0, rfl, Nat.zero_le _, hF, hs1, hO1, hwt0⟩ (by omega)
  clear hwt0 hs1 hO1 hF σ1
  rintro K l2 σ1 ⟨i, rfl, hi, hF, hs1, hO1, hwt⟩ hK
  show gp (X4_isBelowZero_L41_body f (some (o + 328)) (some l) (fun l2 => K l2) (nI i)) σ1 _
  unfold X4_isBelowZero_L41_body
  have hc1 := cs_fr hc hF
  have hw1 := rwV_fr hw hF (fun x a b => jv_n1 (by omega))
  refine gp_rR (cs_judge hc1) rfl ?_
  refine gp_rI (cs_rows hc1) rfl ?_
  rw [hw1.1.1]
  refine gp_if (fun y => ?_) (fun y => ?_)
  · rw [nI_leI (by omega) (by omega)] at y
    have hin : i = n := by omega
    subst hin
    have hl13 := lfSh_fr hl1 hF
    have hl23 := lfV_fr hl2 hF (fun x a b => jv_no (by omega))
    refine gp_rR hl13.1 rfl ?_
    have hwb : ∀ k, k < 32 → -1000000000000000001 ≤ bzW i j bb ub lb k ∧ bzW i j bb ub lb k ≤ 1000000000000000001 := fun k hk => by
      unfold bzW
      by_cases a : k < j
      · rw [if_pos a]
        have := (hr.2.2.1 k a).2
        omega
      · rw [if_neg a]
        by_cases b : 12 ≤ k ∧ k < 12 + i
        · rw [if_pos b]
          cases hu : ub (k - 12) with
          | none => show -1000000000000000001 ≤ (0 : Int) ∧ (0 : Int) ≤ 1000000000000000001; omega
          | some v => exact hbd (k - 12) v (by omega) (Or.inl hu)
        · rw [if_neg b]
          by_cases c : 22 ≤ k ∧ k < 22 + i
          · rw [if_pos c]
            cases hu : lb (k - 22) with
            | none => show -1000000000000000001 ≤ (0 : Int) ∧ (0 : Int) ≤ 1000000000000000001; omega
            | some v => exact hbd (k - 22) v (by omega) (Or.inr hu)
          · rw [if_neg c]; omega
    refine gp_cV (cs_judge hc1) (gp_mono (c_compareTotal (num := 0) hc1 hs1 hO1 (lf_ps hl13 hl23 hl) hwt (jd_lf hI hwb) (by decide) hf) ?_)
    rintro s σ4 ⟨hF4, hs4, hO4, hsg⟩
    have hsg2 : s = sgT 32 (bzW i j bb ub lb) mp 0 := hsg
    have hFc : Fr (jvP o) σ σ4 := Fr_trans hF (Fr_mono hF4 (fun x z => Or.inl z))
    rw [hsg2]
    unfold X4_isBelowZero_b143
    rcases sgT_3 32 (bzW i j bb ub lb) mp 0 with e | e | e
    · rw [e]
      exact gp_t (by decide) (gp_zz (Or.inl rfl) (gp_ret ⟨hFc, hs4, hO4, by decide⟩))
    · rw [e]
      exact gp_f (by decide) (gp_zz (Or.inr rfl) (gp_ret ⟨hFc, hs4, hO4, by decide⟩))
    · rw [e]
      exact gp_t (by decide) (gp_zz (Or.inl rfl) (gp_ret ⟨hFc, hs4, hO4, by decide⟩))
  rw [nI_leI (by omega) (by omega)] at y
  obtain ⟨b1, b2, b3, b4⟩ := bp_fr (hb i (by omega)) hF (fun x a b => jv_n1 (by omega))
  have sec : ∀ v : Int64, v.toInt = (ub i).getD 0 → gp (X4_isBelowZero_b85 f (fun l2 => K l2) (some (o + 328)) (some l) (nI i) (some (o + 336)) (12 + nI i) v) σ1 (fun y σ' => Fr (jvP o) σ σ' ∧ smOk σ' (o + 30) N ∧ smOk σ' (o + 329) N ∧ y = if sgT 32 (bzW n j bb ub lb) mp 0 = -1 then 1 else 0) := by
    intro v hv
    unfold X4_isBelowZero_b85
    refine gp_sL (j := 12 + i) (cs_weights hc1) (by omega) (by omega) (by rw [show (12 : Int32) = nI 12 from rfl, nI_add]) ?_
    have hF2 : Fr (fun x => x = o + 336) σ1 (tz_sL σ1 (o + 336) (12 + i) v) := Fr_sL rfl
    have hwt2 : wtV (tz_sL σ1 (o + 336) (12 + i) v) o (fun k => if k = 12 + i then v.toInt else bzW i j bb ub lb k) := wt_set hwt (fun k _ => rfl)
    have hc2 := cs_fr hc1 hF2
    have hs2 := smOk_fr hs1 hF2 (by omega) (by omega)
    have hO2 := smOk_fr hO1 hF2 (by omega) (by omega)
    have hFa : Fr (jvP o) σ (tz_sL σ1 (o + 336) (12 + i) v) := Fr_trans hF (Fr_mono hF2 (fun x z => Or.inr z))
    obtain ⟨b1, b2, b3, b4⟩ := bp_fr (hb i (by omega)) hFa (fun x a b => jv_n1 (by omega))
    clear hwt hF2 hs1 hO1 hw1 hF
    generalize tz_sL σ1 (o + 336) (12 + i) v = σ2 at *
    have fin : ∀ v2 : Int64, v2.toInt = (lb i).getD 0 → gp (X4_isBelowZero_b119 f (fun l2 => K l2) (some (o + 328)) (some l) (nI i) (some (o + 336)) (22 + nI i) v2) σ2 (fun y σ' => Fr (jvP o) σ σ' ∧ smOk σ' (o + 30) N ∧ smOk σ' (o + 329) N ∧ y = if sgT 32 (bzW n j bb ub lb) mp 0 = -1 then 1 else 0) := by
      intro v2 hv2
      unfold X4_isBelowZero_b119
      refine gp_sL (j := 22 + i) (cs_weights hc2) (by omega) (by omega) (by rw [show (22 : Int32) = nI 22 from rfl, nI_add]) ?_
      have hF3 : Fr (fun x => x = o + 336) σ2 (tz_sL σ2 (o + 336) (22 + i) v2) := Fr_sL rfl
      refine gp_let ?_
      rw [nI_1]
      refine hK _ _ ⟨i + 1, rfl, by omega, Fr_trans hFa (Fr_mono hF3 (fun x z => Or.inr z)), smOk_fr hs2 hF3 (by omega) (by omega), smOk_fr hO2 hF3 (by omega) (by omega), wt_set hwt2 (fun k _ => ?_)⟩ (by rw [nI_clamp (by omega), nI_clamp (by omega)]; omega)
      show bzW (i + 1) j bb ub lb k = if k = 22 + i then v2.toInt else if k = 12 + i then v.toInt else bzW i j bb ub lb k
      rw [hv, hv2]
      unfold bzW
      by_cases a : k < j
      · rw [if_pos a, if_neg (by omega), if_neg (by omega), if_pos a]
      · rw [if_neg a]
        by_cases c1 : k = 22 + i
        · rw [if_pos c1, if_neg (by omega), if_pos (by omega), c1, show 22 + i - 22 = i by omega]
        · rw [if_neg c1]
          by_cases c2 : k = 12 + i
          · rw [if_pos c2, if_pos (by omega), c2, show 12 + i - 12 = i by omega]
          · rw [if_neg c2, if_neg a]
            by_cases c3 : 12 ≤ k ∧ k < 12 + i
            · rw [if_pos (by omega), if_pos c3]
            · rw [if_neg (by omega), if_neg c3]
              by_cases c4 : 22 ≤ k ∧ k < 22 + i
              · rw [if_pos (by omega), if_pos c4]
              · rw [if_neg (by omega), if_neg c4]
    obtain ⟨s1, s2, s3, s4, s5⟩ := cs_bn2 hc2
    refine gp_rR (cs_judge hc2) rfl ?_
    refine gp_rR (cs_judge hc2) rfl ?_
    refine gp_rR s1 rfl ?_
    refine gp_aI (j := i) s3 (by decide) (by omega) (by omega) rfl ?_
    rw [b2]
    cases hlb : lb i with
    | none =>
      rw [hlb] at fin
      exact gp_t rfl (fin 0 rfl)
    | some v3 =>
      rw [hlb] at fin
      refine gp_f (by simp) ?_
      refine gp_rR (cs_judge hc2) rfl ?_
      refine gp_rR s1 rfl ?_
      refine gp_aL (j := i) s5 (by omega) (by omega) rfl ?_
      exact fin _ (b4 v3 hlb)
  obtain ⟨s1, s2, s3, s4, s5⟩ := cs_bn2 hc1
  refine gp_rR (cs_judge hc1) rfl ?_
  refine gp_rR (cs_judge hc1) rfl ?_
  refine gp_rR s1 rfl ?_
  refine gp_aI (j := i) s2 (by decide) (by omega) (by omega) rfl ?_
  rw [b1]
  cases hub : ub i with
  | none =>
    rw [hub] at sec
    exact gp_t rfl (sec 0 rfl)
  | some v3 =>
    rw [hub] at sec
    refine gp_f (by simp) ?_
    refine gp_rR (cs_judge hc1) rfl ?_
    refine gp_rR s1 rfl ?_
    refine gp_aL (j := i) s4 (by omega) (by omega) rfl ?_
    exact sec _ (b3 v3 hub)
end JM
/-- whether a node is good -/
def gdN (n m : Nat) (A : Nat → Nat → Int) (kd : Nat → Nat) (bb : Nat → Int) (wh : Nat → Bool) (up fi se : Nat → Option Nat) (vr : Nat → Nat) (to : Nat → Int) (ln : Nat → Nat) (mp : Nat → Nat → Int × Int) (k : Nat) : Bool := if fi k = none then gdL n m A kd bb (fun x => fU vr to x (pt up fi k) none) (fun x => fL vr to x (pt up fi k) none) (mp (ln k)) else wh (vr k) && decide (se k ≠ none)
section JN
variable {f o N n m q K lc k : Nat} {σ : tz_S} {A : Nat → Nat → Int} {kd : Nat → Nat} {bb dr : Nat → Int} {wh : Nat → Bool} {up fi se : Nat → Option Nat} {vr : Nat → Nat} {fo to : Nat → Int} {cd : Nat → Bool} {ln : Nat → Nat} {op : Option Nat} {mp mq : Nat → Nat → Int × Int}
theorem st_Ut (h : stA n K lc up fi se vr fo to ln) {x : Nat} {u : Int} (hk : k < K) (hu : fU vr to x (pt up fi k) none = some u) : -1000000000000000001 ≤ u ∧ u ≤ 1000000000000000001 := by
  obtain ⟨s, h1, h2, h3⟩ := fU_some hu
  obtain ⟨a1, a2⟩ := stA_mem h hk h1
  have := ((h s (by omega)).2.2.2.2 a2).2.2
  omega
theorem st_Lt (h : stA n K lc up fi se vr fo to ln) {x : Nat} {u : Int} (hk : k < K) (hu : fL vr to x (pt up fi k) none = some u) : -1000000000000000001 ≤ u ∧ u ≤ 1000000000000000001 := by
  obtain ⟨s, h1, h2, h3⟩ := fL_some hu
  obtain ⟨a1, a2⟩ := stA_mem h hk h1
  have := ((h s (by omega)).2.2.2.2 a2).2.2
  omega
set_option maxHeartbeats 1000000 in
theorem c_isGood (hc : cSh σ o N) (hr : rwI n m A kd bb dr) (hw : rwV σ o n m A kd bb wh dr) (hs : smOk σ (o + 30) N) (hO : smOk σ (o + 329) N) (ht : trV σ o q K lc up fi se vr fo to cd ln op) (hA : stA n K lc up fi se vr fo to ln) (hlf : ∀ i, i < lc → lfV σ (lfA o i) (mp i)) (hI : ∀ i, i < lc → lfI (mp i) (mq i)) (hk : k < K) (hf : 2000 ≤ f) :
    gp (X4_isGood f (some (o + 328)) (nI k)) σ (fun y σ' => Fr (jP o) σ σ' ∧ smOk σ' (o + 30) N ∧ smOk σ' (o + 329) N ∧ y = if gdN n m A kd bb wh up fi se vr to ln mp k = true then 1 else 0) := by
  have hn := hr.1.1
  have hm := hr.1.2
  have hK3 := ht.1.2.2.2.1
  obtain ⟨a1, a2, a3, a4, a5⟩ := hA k hk
  unfold X4_isGood
  refine gp_rR (cs_judge hc) rfl ?_
  refine gp_cV (cs_tree hc) (gp_mono (c_isSplit hc ht (stA_w hA) hk) ?_)
  rintro y σ0 ⟨z0, rfl⟩
  rw [z0]
  clear z0 σ0
  by_cases hfk : fi k = none
  · rw [if_pos hfk]
    refine gp_t rfl ?_
    have hgd : gdN n m A kd bb wh up fi se vr to ln mp k = gdL n m A kd bb (fun x => fU vr to x (pt up fi k) none) (fun x => fL vr to x (pt up fi k) none) (mp (ln k)) := if_pos hfk
    rw [hgd]
    refine gp_rR (cs_judge hc) rfl ?_
    refine gp_cV (cs_tree hc) (gp_mono (c_leafOf hc ht (stA_w hA)) ?_)
    rintro y σ0 ⟨z0, hy⟩
    rw [z0]
    clear z0 σ0
    have hy2 : y = some (lfA o (ln k)) := by
      rcases hy with ⟨k', e1, e2, e3, e4⟩ | ⟨e1, e2⟩
      · rw [nI_eq (by omega) (by omega)] at e1
        rw [e1]; exact e4
      · exact absurd hfk (e2 k rfl (by omega) hk)
    rw [hy2]
    clear hy hy2 y
    refine gp_f (by simp) ?_
    refine gp_rR (cs_judge hc) rfl ?_
    refine gp_rR (cs_judge hc) rfl ?_
    refine gp_rR (cs_judge hc) rfl ?_
    refine gp_rI (cs_rows hc) rfl ?_
    rw [hw.1.1]
    refine gp_rR (cs_judge hc) rfl ?_
    refine gp_rR (cs_tree hc) rfl ?_
    have hlq := ht.1.2.2.2.2
    refine gp_cV (cs_jbnd hc) (gp_mono (c_setSplits (B := o + 331) (k := k) (aa := o + 318) (at1 := to) hc ht (stA_w hA) (cs_bn2 hc) hf (by omega) (Or.inr (by omega)) hn hk (stA_par hA) (fun s hs h => ((hA s hs).2.2.2.2 h).1) (cs_told hc) (fun s hs h => ⟨(ht.2.2.2 s hs h).2.2, by have := ((hA s hs).2.2.2.2 h).2.2; omega⟩)) ?_)
    rintro _ σ1 ⟨hF, hb1, -⟩
    have hc1 := cs_fr hc hF
    have hw1 := rwV_fr hw hF (fun x a b => by unfold bnP; omega)
    have hs1 := smOk_fr hs hF (by unfold bnP; omega) (by unfold bnP; omega)
    have hO1 := smOk_fr hO hF (by unfold bnP; omega) (by unfold bnP; omega)
    have hl1 := lfSh_fr (ht.2.1.2.2 (ln k) (by omega)) hF
    have hl2 := lfV_fr (hlf (ln k) a4) hF (fun x a b => by unfold bnP; unfold lfA at a; omega)
    have hF1 : Fr (jP o) σ σ1 := Fr_mono hF (fun x z => by unfold bnP at z; unfold jP; omega)
    have hl340 : o + 340 < lfA o (ln k) := by unfold lfA; omega
    have hbd : ∀ x v, x < n → (fU vr to x (pt up fi k) none = some v ∨ fL vr to x (pt up fi k) none = some v) → -1000000000000000001 ≤ v ∧ v ≤ 1000000000000000001 := fun x v _ h => h.elim (fun h => st_Ut hA hk h) (fun h => st_Lt hA hk h)
    clear hF hc hw hs hO ht hlf
    have bad : ∀ σ', Fr (jP o) σ σ' → smOk σ' (o + 30) N → smOk σ' (o + 329) N → gdL n m A kd bb (fun x => fU vr to x (pt up fi k) none) (fun x => fL vr to x (pt up fi k) none) (mp (ln k)) = false → gp (X4_isGood_b118 f) σ' (fun y σ' => Fr (jP o) σ σ' ∧ smOk σ' (o + 30) N ∧ smOk σ' (o + 329) N ∧ y = if gdL n m A kd bb (fun x => fU vr to x (pt up fi k) none) (fun x => fL vr to x (pt up fi k) none) (mp (ln k)) = true then 1 else 0) := by
      intro σ' g1 g2 g3 g4
      unfold X4_isGood_b118 X4_isGood_b119
      refine gp_zz (Or.inl rfl) (gp_ret ⟨g1, g2, g3, ?_⟩)
      rw [g4, if_neg (by simp)]
    refine gp_cV (cs_judge hc1) (gp_mono (c_haveRightSigns (ub := fun x => fU vr to x (pt up fi k) none) (lb := fun x => fL vr to x (pt up fi k) none) hc1 hr hw1 hl1 hl2 hb1 hf) ?_)
    rintro y σ0 ⟨z0, hy⟩
    rw [z0]
    clear z0 σ0
    by_cases g1 : fst1 (rsR kd (mp (ln k))) m = none ∧ fst1 (rsV (fun x => fU vr to x (pt up fi k) none) (fun x => fL vr to x (pt up fi k) none) (mp (ln k))) n = none
    rotate_left
    · rw [if_neg g1] at hy
      rw [hy]
      refine gp_t rfl (bad σ1 hF1 hs1 hO1 ?_)
      unfold gdL
      rw [decide_eq_false g1]
      rfl
    rw [if_pos g1] at hy
    rw [hy]
    refine gp_f (by decide) ?_
    refine gp_cV (cs_judge hc1) (gp_mono (c_cancelsVariables (mq := mq (ln k)) hc1 hr hw1 hs1 hO1 hl1 hl2 hl340 (hI _ a4) hf) ?_)
    rintro y2 σ2 ⟨hF2, hs2, hO2, hy2⟩
    have hFa : Fr (jP o) σ σ2 := Fr_trans hF1 (Fr_mono hF2 (fun x z => jv_j z))
    by_cases g2 : fst1 (cvB m A (mp (ln k))) n = none
    rotate_left
    · rw [if_neg g2] at hy2
      rw [hy2]
      refine gp_t rfl (bad σ2 hFa hs2 hO2 ?_)
      unfold gdL
      rw [decide_eq_false g2]
      simp
    rw [if_pos g2] at hy2
    rw [hy2]
    refine gp_f (by decide) ?_
    have hc2 := cs_fr hc1 hF2
    refine gp_cV (cs_judge hc2) (gp_mono (c_isBelowZero (mq := mq (ln k)) (ub := fun x => fU vr to x (pt up fi k) none) (lb := fun x => fL vr to x (pt up fi k) none) hc2 hr (rwV_fr hw1 hF2 (fun x a b => jv_n1 (by omega))) hs2 hO2 (lfSh_fr hl1 hF2) (lfV_fr hl2 hF2 (fun x a b => jv_no (by omega))) hl340 (hI _ a4) (fun x hx => bp_fr (hb1 x hx) hF2 (fun x a b => jv_n1 (by omega))) hbd hf) ?_)
    rintro y3 σ3 ⟨hF3, hs3, hO3, hy3⟩
    have hFb : Fr (jP o) σ σ3 := Fr_trans hFa (Fr_mono hF3 (fun x z => jv_j z))
    by_cases g3 : sgT 32 (bzW n m bb (fun x => fU vr to x (pt up fi k) none) (fun x => fL vr to x (pt up fi k) none)) (mp (ln k)) 0 = -1
    rotate_left
    · rw [if_neg g3] at hy3
      rw [hy3]
      refine gp_t rfl (bad σ3 hFb hs3 hO3 ?_)
      unfold gdL
      rw [decide_eq_false g3]
      simp
    rw [if_pos g3] at hy3
    rw [hy3]
    refine gp_f (by decide) ?_
    unfold X4_isGood_b119
    refine gp_zz (Or.inr rfl) (gp_ret ⟨hFb, hs3, hO3, ?_⟩)
    rw [if_pos]
    unfold gdL
    rw [decide_eq_true g1, decide_eq_true g2, decide_eq_true g3]
    rfl
  · rw [if_neg hfk]
    refine gp_f (by decide) ?_
    have hgd : gdN n m A kd bb wh up fi se vr to ln mp k = (wh (vr k) && decide (se k ≠ none)) := if_neg hfk
    rw [hgd]
    obtain ⟨hvn, -, -⟩ := a5 hfk
    refine gp_rR (cs_judge hc) rfl ?_
    refine gp_rR (cs_rows hc) rfl ?_
    refine gp_rR (cs_judge hc) rfl ?_
    refine gp_rR (cs_tree hc) rfl ?_
    refine gp_aI (j := k) (cs_variable hc) (by decide) (by omega) (by omega) rfl ?_
    rw [(ht.2.2.2 k hk hfk).1]
    refine gp_aI (j := vr k) (cs_iswh hc) (by decide) (by omega) (by omega) rfl ?_
    rw [hw.2.2.2.2.1 (vr k) (by omega)]
    cases hwk : wh (vr k) with
    | false =>
      refine gp_t (by simp) ?_
      unfold X4_isGood_b47 X4_isGood_b48
      exact gp_zz (Or.inl rfl) (gp_ret ⟨Fr_refl, hs, hO, by simp⟩)
    | true =>
      refine gp_f (by simp) ?_
      refine gp_rR (cs_judge hc) rfl ?_
      refine gp_rR (cs_tree hc) rfl ?_
      refine gp_aI (j := k) (cs_second hc) (by decide) (by omega) (by omega) rfl ?_
      rw [(ht.2.2.1 k hk).2.2.1]
      have hb : ∀ j, se k = some j → j < 2 ^ 31 := fun j hj => by have := (a3 j hj).1; omega
      refine gp_if (fun w => ?_) (fun w => ?_)
      · rw [eN_neg hb] at w
        unfold X4_isGood_b47 X4_isGood_b48
        exact gp_zz (Or.inl rfl) (gp_ret ⟨Fr_refl, hs, hO, by simp [w]⟩)
      · rw [eN_neg hb] at w
        unfold X4_isGood_b48
        exact gp_zz (Or.inr rfl) (gp_ret ⟨Fr_refl, hs, hO, by simp [w]⟩)
end JN
