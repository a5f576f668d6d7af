/-! ===== Judge: witnesses ===== -/
def jP (o : Nat) : Nat → Prop := fun x => (o + 20 ≤ x ∧ x ≤ o + 31) ∨ (o + 329 ≤ x ∧ x ≤ o + 340)
theorem jc_j {o x : Nat} (h : jcP o x) : jP o x := by unfold jcP at h; unfold jP; omega
theorem j_no {o x : Nat} (h : o + 340 < x) : ¬ jP o x := by unfold jP; omega
def sgT (np : Nat) (w : Nat → Int) (mp : Nat → Int × Int) (num : Int) : Int32 := isg ((ctF w mp np).1 - num * (ctF w mp np).2)
theorem sgT_3 (np : Nat) (w : Nat → Int) (mp : Nat → Int × Int) (num : Int) : sgT np w mp num = 1 ∨ sgT np w mp num = -1 ∨ sgT np w mp num = 0 := by
  unfold sgT
  rcases isg_cases ((ctF w mp np).1 - num * (ctF w mp np).2) with z | z | z
  · exact Or.inl z.2
  · exact Or.inr (Or.inl z.2)
  · exact Or.inr (Or.inr z.2)
def rwW (n : Nat) (A : Nat → Nat → Int) (r i : Nat) : Int := if i < n then A r i else 0
def brR (n : Nat) (A : Nat → Nat → Int) (kd : Nat → Nat) (bb : Nat → Int) (wp : Nat → Int × Int) (r : Nat) : Bool := (decide (sgT 10 (rwW n A r) wp (bb r) = 1) && decide (kd r ≠ 1)) || (decide (sgT 10 (rwW n A r) wp (bb r) = -1) && decide (kd r ≠ 0))
def wiK (wp : Nat → Int × Int) : Prop := ∀ x, x < 10 → 0 < (wp x).2 ∧ (wp x).2.natAbs ≤ 10 ^ 70 ∧ (wp x).1.natAbs ≤ 10 ^ 90
theorem wS_70 {f : Nat → Int × Int} : ∀ (j : Nat), wS j f ≤ 70 * j
  | 0 => Nat.le_refl _
  | j + 1 => by
    have h1 := wS_70 (f := f) j
    have h2 := wt_le (f j)
    show wS j f + wt (f j) ≤ _
    omega
section JW
variable {f o N n m : Nat} {σ : tz_S} {A : Nat → Nat → Int} {kd : Nat → Nat} {bb dr : Nat → Int} {wh : Nat → Bool} {pa : Nat → Nat} {wp : Nat → Int × Int}
theorem jd_row (hr : rwI n m A kd bb dr) (hw : wiK wp) {r : Nat} (hrm : r < m) : jdP 10 (rwW n A r) wp := by
  refine ⟨by decide, fun i hi => ?_, by have := wS_70 (f := wp) 10; omega⟩
  obtain ⟨a, b, c⟩ := hw i hi
  have hA : (rwW n A r i).natAbs ≤ 10 ^ 6 ∧ -1000000 ≤ rwW n A r i := by
    unfold rwW
    have e : (10 : Nat) ^ 6 = 1000000 := by decide
    by_cases z : i < n
    · rw [if_pos z]
      have := hr.2.1 r i hrm hi
      omega
    · rw [if_neg z]; omega
  exact ⟨a, b, c, p10_m (p10_mul hA.1 c) (by omega), by omega⟩
set_option maxHeartbeats 1000000 in
theorem c_firstBrokenRow (hc : cSh σ o N) (hr : rwI n m A kd bb dr) (hw : rwV σ o n m A kd bb wh dr) (hs : smOk σ (o + 30) N) (hO : smOk σ (o + 329) N) (hp : psV σ o (o + 341) 10 12 pa wp) (hwp : wiK wp) (hf : 2000 ≤ f) :
    gp (X4_firstBrokenRow f (some (o + 328)) (some (o + 341))) σ (fun y σ' => Fr (jP o) σ σ' ∧ smOk σ' (o + 30) N ∧ smOk σ' (o + 329) N ∧ y = eN (fst1 (brR n A kd bb wp) m)) := by
  have hn := hr.1.1
  have hm := hr.1.2
  unfold X4_firstBrokenRow X4_firstBrokenRow_L2
  refine gp_loop (I := fun (τ : Int32) (σ' : tz_S) => ∃ i, τ = nI i ∧ i ≤ m ∧ Fr (jP o) σ σ' ∧ smOk σ' (o + 30) N ∧ smOk σ' (o + 329) N ∧ ∀ p, p < i → brR n A kd bb wp p = false) (fun τ _ => 100 - τ.toNatClampNeg) ?_ f _ _ ⟨0, rfl, Nat.zero_le _, Fr_refl, hs, hO, fun x hx => absurd hx (Nat.not_lt_zero _)⟩ (by omega)
  clear hs hO
  rintro K l2 σ1 ⟨i, rfl, hi, hF, hs1, hO1, h1⟩ hK
  show gp (X4_firstBrokenRow_L2_body f (some (o + 328)) (some (o + 341)) (fun l2 => K l2) (nI i)) σ1 _
  unfold X4_firstBrokenRow_L2_body
  have hc1 := cs_fr hc hF
  have hw1 := rwV_fr hw hF (fun x a b => by unfold jP; omega)
  refine gp_rR (cs_judge hc1) rfl ?_
  refine gp_rI (cs_rows hc1) rfl ?_
  rw [hw1.1.2.1]
  refine gp_if (fun z => ?_) (fun z => ?_)
  · rw [nI_leI (by omega) (by omega)] at z
    refine gp_ret ⟨hF, hs1, hO1, ?_⟩
    rw [fst1_none (fun p hp => h1 p (by omega))]
    rfl
  rw [nI_leI (by omega) (by omega)] at z
  have him : i < m := by omega
  refine gp_cV (cs_judge hc1) (gp_mono (c_clearWeights hc1 hf) ?_)
  rintro _ σ2 ⟨hF2, hw2⟩
  have hs2 := smOk_fr hs1 hF2 (by omega) (by omega)
  have hO2 := smOk_fr hO1 hF2 (by omega) (by omega)
  have hFa : Fr (jP o) σ σ2 := Fr_trans hF (Fr_mono hF2 (fun x z => by unfold jP; omega))
  clear hc1 hw1 hs1 hO1 hF hF2
  unfold X4_firstBrokenRow_L19
  refine gp_loop (I := fun (τ : Int32) (σ' : tz_S) => ∃ j, τ = nI j ∧ j ≤ n ∧ Fr (jP o) σ σ' ∧ smOk σ' (o + 30) N ∧ smOk σ' (o + 329) N ∧ wtV σ' o (rwW j A i)) (fun τ _ => 100 - τ.toNatClampNeg) ?_ f _ _ ⟨0, rfl, Nat.zero_le _, hFa, hs2, hO2, fun k hk => by rw [hw2 k hk]; unfold rwW; rw [if_neg (by omega)]⟩ (by omega)
  clear hFa hs2 hO2 hw2 σ2 σ1
  rintro K2 l3 σ1 ⟨j, rfl, hj, hF, hs1, hO1, hwt⟩ hK2
  show gp (X4_firstBrokenRow_L19_body f (fun l2 => K l2) (some (o + 328)) (some (o + 341)) (nI i) (fun l3 => K2 l3) (nI j)) σ1 _
  unfold X4_firstBrokenRow_L19_body
  have hc1 := cs_fr hc hF
  have hw1 := rwV_fr hw hF (fun x a b => by unfold jP; omega)
  refine gp_rR (cs_judge hc1) rfl ?_
  refine gp_rI (cs_rows hc1) rfl ?_
  rw [hw1.1.1]
  refine gp_if (fun y => ?_) (fun y => ?_)
  · rw [nI_leI (by omega) (by omega)] at y
    have hjn : j = n := by omega
    subst hjn
    refine gp_rR (cs_judge hc1) rfl ?_
    refine gp_rR (cs_rows hc1) rfl ?_
    refine gp_aI (j := i) (cs_nums hc1) (by decide) (by omega) (by omega) rfl ?_
    have hbb := hw1.2.2.2.1 i him
    have hkd := hw1.2.2.1 i him
    have hnum : (Int32.toInt64 (tz_A σ1 (o + 16) i)).toInt = bb i := by rw [Int32.toInt_toInt64]; exact hbb
    have hbi := (hr.2.2.1 i him).2
    refine gp_cV (cs_judge hc1) (gp_mono (c_compareTotal hc1 hs1 hO1 (psV_fr hp hF (fun x hx => j_no hx)) hwt (jd_row hr hwp him) (by rw [hnum]; omega) hf) ?_)
    rintro s σ3 ⟨hF3, hs3, hO3, hsg⟩
    rw [hnum] at hsg
    have hsg2 : s = sgT 10 (rwW j A i) wp (bb i) := hsg
    have hFb : Fr (jP o) σ σ3 := Fr_trans hF (Fr_mono hF3 (fun x z => jc_j z))
    have hc3 := cs_fr hc1 hF3
    have hw3 := rwV_fr hw1 hF3 (fun x a b => by unfold jcP; omega)
    have hkd3 := hw3.2.2.1 i him
    have fnd : brR j A kd bb wp i = true → gp (X4_firstBrokenRow_b103 f (nI i)) σ3 (fun y σ' => Fr (jP o) σ σ' ∧ smOk σ' (o + 30) N ∧ smOk σ' (o + 329) N ∧ y = eN (fst1 (brR j A kd bb wp) m)) := by
      intro q
      unfold X4_firstBrokenRow_b103
      refine gp_ret ⟨hFb, hs3, hO3, ?_⟩
      rw [fst1_some h1 q him]
      rfl
    have nxt : brR j A kd bb wp i = false → gp (X4_firstBrokenRow_b105 f (fun l2 => K l2) (some (o + 328)) (some (o + 341)) (nI i)) σ3 (fun y σ' => Fr (jP o) σ σ' ∧ smOk σ' (o + 30) N ∧ smOk σ' (o + 329) N ∧ y = eN (fst1 (brR j A kd bb wp) m)) := by
      intro q
      unfold X4_firstBrokenRow_b105
      refine gp_let ?_
      rw [nI_1]
      refine hK _ _ ⟨i + 1, rfl, by omega, hFb, hs3, hO3, fun p hp => ?_⟩ (by rw [nI_clamp (by omega), nI_clamp (by omega)]; omega)
      by_cases e : p = i
      · rw [e]; exact q
      · exact h1 p (by omega)
    clear hsg hFb hc1 hw1 hs1 hO1 hwt hF hF3 hbb hkd
    rcases sgT_3 10 (rwW j A i) wp (bb i) with e | e | e
    · rw [hsg2, e]
      refine gp_f (by decide) ?_
      refine gp_rR (cs_judge hc3) rfl ?_
      refine gp_rR (cs_rows hc3) rfl ?_
      refine gp_aI (j := i) (cs_kinds hc3) (by decide) (by omega) (by omega) rfl ?_
      rw [hkd3.1]
      refine gp_if (fun x => ?_) (fun x => ?_)
      · rw [show (1 : Int32) = nI 1 from rfl, nI_eq (by omega) (by omega)] at x
        unfold X4_firstBrokenRow_b87
        refine gp_t (by decide) (nxt ?_)
        unfold brR
        rw [e, x]
        decide
      · rw [show (1 : Int32) = nI 1 from rfl, nI_eq (by omega) (by omega)] at x
        refine fnd ?_
        unfold brR
        rw [e]
        simp [x]
    · rw [hsg2, e]
      refine gp_t (by decide) ?_
      unfold X4_firstBrokenRow_b87
      refine gp_f (by decide) ?_
      refine gp_rR (cs_judge hc3) rfl ?_
      refine gp_rR (cs_rows hc3) rfl ?_
      refine gp_aI (j := i) (cs_kinds hc3) (by decide) (by omega) (by omega) rfl ?_
      rw [hkd3.1]
      refine gp_if (fun x => ?_) (fun x => ?_)
      · rw [show (0 : Int32) = nI 0 from rfl, nI_eq (by omega) (by omega)] at x
        refine nxt ?_
        unfold brR
        rw [e, x]
        decide
      · rw [show (0 : Int32) = nI 0 from rfl, nI_eq (by omega) (by omega)] at x
        refine fnd ?_
        unfold brR
        rw [e]
        simp [x]
    · rw [hsg2, e]
      refine gp_t (by decide) ?_
      unfold X4_firstBrokenRow_b87
      refine gp_t (by decide) (nxt ?_)
      unfold brR
      rw [e]
      simp
  · rw [nI_leI (by omega) (by omega)] at y
    refine gp_rR (cs_judge hc1) rfl ?_
    refine gp_rR (cs_judge hc1) rfl ?_
    refine gp_rR (cs_rows hc1) rfl ?_
    refine gp_aR (j := i) (cs_grid hc1) (by decide) (by omega) (by omega) rfl ?_
    obtain ⟨l1, l2⟩ := cs_line hc1 i (by omega)
    rw [l2]
    refine gp_aI (j := j) l1 (by decide) (by omega) (by omega) rfl ?_
    have hA := hw1.2.1 i j him (by omega)
    refine gp_sL (j := j) (cs_weights hc1) (by omega) (by omega) rfl ?_
    refine gp_let ?_
    rw [nI_1]
    have hF4 : Fr (fun x => x = o + 336) σ1 (tz_sL σ1 (o + 336) j (Int32.toInt64 (tz_A σ1 (o + 3 + i) j))) := Fr_sL rfl
    refine hK2 _ _ ⟨j + 1, rfl, by omega, Fr_trans hF (Fr_mono hF4 (fun x z => by unfold jP; omega)), smOk_fr hs1 hF4 (by omega) (by omega), smOk_fr hO1 hF4 (by omega) (by omega), fun k hk => ?_⟩ (by rw [nI_clamp (by omega), nI_clamp (by omega)]; omega)
    show (tz_u2 (tz_L σ1) (o + 336) j (Int32.toInt64 (tz_A σ1 (o + 3 + i) j)) (o + 336) k).toInt = _
    by_cases x : k = j
    · rw [x, tz_u2_same, Int32.toInt_toInt64, hA]
      unfold rwW
      rw [if_pos (by omega)]
    · rw [tz_u2_ne _ _ (Or.inr x), hwt k hk]
      unfold rwW
      by_cases v : k < j
      · rw [if_pos v, if_pos (by omega)]
      · rw [if_neg v, if_neg (by omega)]
def brV (wh : Nat → Bool) (wp : Nat → Int × Int) (x : Nat) : Bool := wh x && decide ((wp x).1 % (wp x).2 ≠ 0)
set_option maxHeartbeats 1000000 in
theorem c_firstBrokenVariable (hc : cSh σ o N) (hr : rwI n m A kd bb dr) (hw : rwV σ o n m A kd bb wh dr) (hp : psV σ o (o + 341) 10 12 pa wp) (hf : 2000 ≤ f) :
    gp (X4_firstBrokenVariable f (some (o + 328)) (some (o + 341))) σ (fun y σ' => Fr (divP (o + 19)) σ σ' ∧ y = eN (fst1 (brV wh wp) n)) := by
  have hn := hr.1.1
  have hN := cs_N hc
  unfold X4_firstBrokenVariable X4_firstBrokenVariable_L2
  refine gp_loop (I := fun (τ : Int32) (σ' : tz_S) => ∃ i, τ = nI i ∧ i ≤ n ∧ Fr (divP (o + 19)) σ σ' ∧ ∀ p, p < i → brV wh wp p = false) (fun τ _ => 100 - τ.toNatClampNeg) ?_ f _ _ ⟨0, rfl, Nat.zero_le _, Fr_refl, fun x hx => absurd hx (Nat.not_lt_zero _)⟩ (by omega)
  rintro K l2 σ1 ⟨i, rfl, hi, hF, h1⟩ hK
  show gp (X4_firstBrokenVariable_L2_body f (some (o + 328)) (some (o + 341)) (fun l2 => K l2) (nI i)) σ1 _
  unfold X4_firstBrokenVariable_L2_body
  have hc1 := cs_fr hc hF
  have hw1 := rwV_fr hw hF (fun x a b => by unfold divP; omega)
  have hp1 := psV_fr hp hF (fun x hx => by unfold divP; omega)
  refine gp_rR (cs_judge hc1) rfl ?_
  refine gp_rI (cs_rows hc1) rfl ?_
  rw [hw1.1.1]
  refine gp_if (fun z => ?_) (fun z => ?_)
  · rw [nI_leI (by omega) (by omega)] at z
    unfold X4_firstBrokenVariable_b71
    refine gp_ret ⟨hF, ?_⟩
    rw [fst1_none (fun p hp => h1 p (by omega))]
    rfl
  rw [nI_leI (by omega) (by omega)] at z
  have hin : i < n := by omega
  have nxt : ∀ σ', Fr (divP (o + 19)) σ σ' → brV wh wp i = false → gp (X4_firstBrokenVariable_b65 f (fun l2 => K l2) (some (o + 328)) (some (o + 341)) (nI i)) σ' (fun y σ' => Fr (divP (o + 19)) σ σ' ∧ y = eN (fst1 (brV wh wp) n)) := by
    intro σ' g q
    unfold X4_firstBrokenVariable_b65
    refine gp_let ?_
    rw [nI_1]
    refine hK _ _ ⟨i + 1, rfl, by omega, g, fun p hp => ?_⟩ (by rw [nI_clamp (by omega), nI_clamp (by omega)]; omega)
    by_cases e : p = i
    · rw [e]; exact q
    · exact h1 p (by omega)
  refine gp_len hp1.1 ?_
  refine gp_f (by rw [nI_leI (by omega) (by omega)]; omega) ?_
  refine gp_rR (cs_judge hc1) rfl ?_
  refine gp_rR (cs_rows hc1) rfl ?_
  refine gp_aI (j := i) (cs_iswh hc1) (by decide) (by omega) (by omega) rfl ?_
  rw [hw1.2.2.2.2.1 i (by omega)]
  obtain ⟨r1, r2, r3⟩ := hp1.2 i (by omega)
  cases hwi : wh i with
  | false =>
    refine gp_t (by simp) (nxt σ1 hF ?_)
    unfold brV
    rw [hwi]
    rfl
  | true =>
    refine gp_f (by simp) ?_
    refine gp_rR (cs_judge hc1) rfl ?_
    refine gp_aR (j := i) hp1.1 (by decide) (by omega) (by omega) rfl ?_
    rw [r1]
    refine gp_rR r2.1 rfl ?_
    refine gp_aR (j := i) hp1.1 (by decide) (by omega) (by omega) rfl ?_
    rw [r1]
    refine gp_rR r2.1 rfl ?_
    have hlt := Bz_lt r2.2.1
    have hpm := mg_pmono (show 12 ≤ N by omega)
    refine gp_cV (cs_div hc1).1 (gp_mono (c_divide (cs_div hc1) hf r2.2.1 r2.2.2 (by omega) (by unfold divP; omega) (by unfold divP; omega)) ?_)
    rintro _ σ2 ⟨hF2, -, hre⟩
    have hc2 := cs_fr hc1 hF2
    have hFa := Fr_trans hF hF2
    refine gp_rR (cs_judge hc2) rfl ?_
    refine gp_rR (cs_div hc2).1 rfl ?_
    obtain ⟨k, hre'⟩ := hre
    have hz := BigV_len0 hre'
    have hkn := hre'.2.1
    refine gp_rI hre'.1.1 rfl ?_
    rw [hre'.2.2.1]
    refine gp_if (fun hk => ?_) (fun hk => ?_)
    · rw [show (0 : Int32) = nI 0 from rfl, nI_leI (by omega) (by omega)] at hk
      refine nxt σ2 hFa ?_
      unfold brV
      have := mod_abs.mp (hz.mp (by omega))
      simp [this]
    · rw [show (0 : Int32) = nI 0 from rfl, nI_leI (by omega) (by omega)] at hk
      refine gp_ret ⟨hFa, ?_⟩
      rw [fst1_some h1 ?_ hin]
      · rfl
      · unfold brV
        have : (wp i).1 % (wp i).2 ≠ 0 := fun q => hk (by have := hz.mpr (mod_abs.mpr q); omega)
        simp [this, hwi]
end JW
