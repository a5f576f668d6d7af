/-! ===== row, whole, solve ===== -/
section M2
variable {σ : tz_S} {f o N n m q : Nat} {A : Nat → Nat → Int} {kd : Nat → Nat} {bb dr : Nat → Int} {wh : Nat → Bool} {wp wq : Nat → Int × Int} {hd : Int × Int} {ah : Bool} {Z : zS}
theorem c_row {k b : Int32} (h : clV σ o q N ((n, m, A, kd, bb, wh, dr), Z, wp, wq, hd, ah)) (hf : 2000 ≤ f) : gp (X11_row f (some o) k b) σ (cPo σ o q N (mRow k b ((n, m, A, kd, bb, wh, dr), Z, wp, wq, hd, ah)).1 (mRow k b ((n, m, A, kd, bb, wh, dr), Z, wp, wq, hd, ah)).2) := by
  obtain ⟨hsl, hW⟩ := clV_un h
  obtain ⟨hc, hw, hs⟩ := slV_cs hsl
  have hn := hw.1.2.2.1
  have hm := hw.1.2.2.2
  have bad : ¬ ((n ≠ 0 ∧ m < 12) ∧ (0 ≤ k.toInt ∧ k.toInt ≤ 2) ∧ -1000000 ≤ b.toInt ∧ b.toInt ≤ 1000000) → gp (pz_ret (-1)) σ (cPo σ o q N (mRow k b ((n, m, A, kd, bb, wh, dr), Z, wp, wq, hd, ah)).1 (mRow k b ((n, m, A, kd, bb, wh, dr), Z, wp, wq, hd, ah)).2) := by
    intro w
    have e : mRow k b ((n, m, A, kd, bb, wh, dr), Z, wp, wq, hd, ah) = (((n, m, A, kd, bb, wh, dr), Z, wp, wq, hd, ah), -1) := if_neg w
    rw [e]
    exact gp_ret (cPo_0 h rfl)
  unfold X11_row X11_row_b22 X11_row_b45
  refine gp_rR (cs_me hc) rfl ?_
  refine gp_rI (cs_rows hc) rfl ?_
  rw [hw.1.1]
  refine gp_if (fun z => ?_) (fun z => ?_)
  · rw [show (0 : Int32) = nI 0 from rfl, nI_eq (by omega) (by omega)] at z
    exact bad (fun w => w.1.1 z)
  rw [show (0 : Int32) = nI 0 from rfl, nI_eq (by omega) (by omega)] at z
  refine gp_rR (cs_me hc) rfl ?_
  refine gp_rI (cs_rows hc) rfl ?_
  rw [hw.1.2.1]
  refine gp_if (fun y => ?_) (fun y => ?_)
  rotate_left
  · rw [show (12 : Int32) = nI 12 from rfl, nI_ltI (by omega) (by omega)] at y
    exact bad (fun w => y w.1.2)
  rw [show (12 : Int32) = nI 12 from rfl, nI_ltI (by omega) (by omega)] at y
  refine gp_if (fun x => ?_) (fun x => ?_)
  · rw [i32_lt0] at x
    exact bad (by omega)
  rw [i32_lt0] at x
  refine gp_if (fun v => ?_) (fun v => ?_)
  · have v' : 2 < k.toInt := (i32_c 2 k).1.1 v
    exact bad (by omega)
  have v' : ¬ 2 < k.toInt := fun w => v ((i32_c 2 k).1.2 w)
  refine gp_if (fun t => ?_) (fun t => ?_)
  · have t' : b.toInt < -1000000 := (i32_c b (-1000000)).1.1 t
    exact bad (by omega)
  have t' : ¬ b.toInt < -1000000 := fun w => t ((i32_c b (-1000000)).1.2 w)
  refine gp_if (fun s => ?_) (fun s => ?_)
  rotate_left
  · have s' : ¬ b.toInt ≤ 1000000 := fun w => s ((i32_c b 1000000).2.2 w)
    exact bad (by omega)
  have s' : b.toInt ≤ 1000000 := (i32_c b 1000000).2.1 s
  clear bad
  have e : mRow k b ((n, m, A, kd, bb, wh, dr), Z, wp, wq, hd, ah) = (((n, m + 1, (fun r x => if r = m then dr x else A r x), (fun r => if r = m then k.toInt.toNat else kd r), (fun r => if r = m then b.toInt else bb r), wh, fun _ => 0), mForget Z, wp, wq, hd, ah), nI m) := if_pos ⟨⟨z, y⟩, by omega, by omega, s'⟩
  rw [e]
  clear e
  obtain ⟨kk, hk, hk31, hk2⟩ := i32_nat (show 0 ≤ k.toInt by omega)
  rw [show k.toInt.toNat = kk by omega, hk]
  obtain ⟨⟨D, T, va, bs, cl⟩, ⟨K, lc, up, fi, se, vr, fo, to, cd, ln, op⟩, ⟨st, sp, ex, cf, spl⟩, mp, mq⟩ := Z
  obtain ⟨-, -, -, ht, -⟩ := slV_un hsl
  refine gp_rR (cs_me hc) rfl ?_
  refine gp_cV (cs_solv hc) (gp_mono (c_forget hc ht) ?_)
  rintro _ σ1 ⟨hF, hct, ht1⟩
  have hc1 := cs_fr hc hF
  have hw1 := rwV_fr hw hF (fun x a b => by omega)
  have hs1 := smOk_fr hs hF (by omega) (by omega)
  refine gp_rR (cs_me hc1) rfl ?_
  refine gp_cV (cs_rows hc1) (gp_mono (c_endDraft hc1 hw1 hf y (by omega)) ?_)
  rintro y2 σ2 ⟨hy2, hF2, hw2⟩
  rw [hy2]
  have hFa : Fr (fun x => rwP o x ∨ x = o + 312 ∨ x = o + 322) σ σ2 := Fr_trans (Fr_mono hF (fun x z => Or.inr z)) (Fr_mono hF2 (fun x z => Or.inl z))
  exact gp_ret (cPo_fr hFa (fun x z => by unfold rwP at z; unfold clP; omega) (clV_mk (slV_0 (cs_fr hc1 hF2) hw2 (smOk_fr hs1 hF2 (by unfold rwP; omega) (by unfold rwP; omega)) (trV_fr ht1 hF2 (fun x a b => by unfold rwP; omega)) (ctV_fr hct hF2 (by unfold rwP; omega))) (clW_fr hW hFa (by unfold rwP; omega) (by unfold rwP; omega) (by unfold rwP; omega) (fun x a b => by unfold rwP; omega))) rfl)
theorem okF_row {k b : Int32} (h : okF ((n, m, A, kd, bb, wh, dr), Z, wp, wq, hd, ah)) : okF (mRow k b ((n, m, A, kd, bb, wh, dr), Z, wp, wq, hd, ah)).1 := by
  obtain ⟨h1, h2, h3⟩ := okF_un h
  unfold mRow
  simp only
  by_cases z : (n ≠ 0 ∧ m < 12) ∧ (0 ≤ k.toInt ∧ k.toInt ≤ 2) ∧ -1000000 ≤ b.toInt ∧ b.toInt ≤ 1000000
  · rw [if_pos z]
    refine okF_mk ⟨⟨h1.1.1, by omega⟩, fun r x hr hx => ?_, fun r hr => ?_, fun x _ => by show (-1000000 : Int) ≤ 0 ∧ (0 : Int) ≤ 1000000; decide⟩ (zI_forget h2) h3
    · by_cases e : r = m
      · simp only [if_pos e]; exact h1.2.2.2 x hx
      · simp only [if_neg e]; exact h1.2.1 r x (by omega) hx
    · by_cases e : r = m
      · simp only [if_pos e]; exact ⟨by omega, z.2.2⟩
      · simp only [if_neg e]; exact h1.2.2.1 r (by omega)
  · rw [if_neg z]; exact h
theorem rwV_wh {x : Nat} {a : Int32} (hw : rwV σ o n m A kd bb wh dr) (ha : a = 0 ∨ a = 1) : rwV (tz_sA σ (o + 17) x a) o n m A kd bb (ups wh x (decide (a ≠ 0))) dr := by
  obtain ⟨h1, h4, h5, h6, h7, h8⟩ := hw
  have hF : Fr (fun y => y = o + 17) σ (tz_sA σ (o + 17) x a) := Fr_sA rfl
  refine ⟨h1, ?_, ?_, ?_, ?_, ?_⟩
  · intro r y hr hy
    rw [Fr_A hF (x := o + 3 + r) (by omega)]; exact h4 r y hr hy
  · rw [Fr_A hF (x := o + 15) (by omega)]; exact h5
  · rw [Fr_A hF (x := o + 16) (by omega)]; exact h6
  · intro y hy
    show tz_u2 (tz_A σ) (o + 17) x a (o + 17) y = _
    by_cases z : y = x
    · rw [z, tz_u2_same, ups_s]
      rcases ha with rfl | rfl <;> decide
    · rw [tz_u2_ne _ _ (Or.inr z), ups_n _ _ z]; exact h7 y hy
  · rw [Fr_A hF (x := o + 18) (by omega)]; exact h8
theorem c_whole {x a : Int32} (h : clV σ o q N ((n, m, A, kd, bb, wh, dr), Z, wp, wq, hd, ah)) (ha : a = 0 ∨ a = 1) (hf : 2000 ≤ f) : gp (X11_whole f (some o) x a) σ (cPo σ o q N (mWho x a ((n, m, A, kd, bb, wh, dr), Z, wp, wq, hd, ah)).1 (mWho x a ((n, m, A, kd, bb, wh, dr), Z, wp, wq, hd, ah)).2) := by
  obtain ⟨hsl, hW⟩ := clV_un h
  obtain ⟨hc, hw, hs⟩ := slV_cs hsl
  have hn := hw.1.2.2.1
  unfold X11_whole
  refine gp_rR (cs_me hc) rfl ?_
  refine gp_cV (cs_rows hc) (gp_mono (c_hasVariable hc hw) ?_)
  rintro y σ0 ⟨z0, hy⟩
  rw [z0]
  clear z0 σ0
  refine gp_if (fun z => ?_) (fun z => ?_)
  · have e : mWho x a ((n, m, A, kd, bb, wh, dr), Z, wp, wq, hd, ah) = (((n, m, A, kd, bb, wh, dr), Z, wp, wq, hd, ah), -1) := if_neg (ite0 hy z)
    rw [e]
    exact gp_ret (cPo_0 h rfl)
  have hx := ite1 hy z
  have e : mWho x a ((n, m, A, kd, bb, wh, dr), Z, wp, wq, hd, ah) = (((n, m, A, kd, bb, ups wh x.toInt.toNat (decide (a ≠ 0)), dr), mForget Z, wp, wq, hd, ah), if wh x.toInt.toNat = true then 1 else 0) := if_pos hx
  rw [e]
  clear e
  obtain ⟨k, hk, hk31, hk2⟩ := i32_nat hx.1
  rw [show x.toInt.toNat = k by omega, hk]
  have hk10 : k < 10 := by omega
  refine gp_rR (cs_me hc) rfl ?_
  refine gp_rR (cs_rows hc) rfl ?_
  refine gp_aI (j := k) (cs_iswh hc) (by decide) (by omega) (by omega) rfl ?_
  rw [hw.2.2.2.2.1 k hk10]
  have fin : ∀ s0 : Int32, s0 = (if wh k = true then 1 else 0) → gp (X11_whole_b30 f (some o) (nI k) a s0) σ (cPo σ o q N ((n, m, A, kd, bb, ups wh k (decide (a ≠ 0)), dr), mForget Z, wp, wq, hd, ah) (if wh k = true then 1 else 0)) := by
    intro s0 hs0
    unfold X11_whole_b30
    obtain ⟨⟨D, T, va, bs, cl⟩, ⟨K, lc, up, fi, se, vr, fo, to, cd, ln, op⟩, ⟨st, sp, ex, cf, spl⟩, mp, mq⟩ := Z
    obtain ⟨-, -, -, ht, -⟩ := slV_un hsl
    refine gp_rR (cs_me hc) rfl ?_
    refine gp_rR (cs_rows hc) rfl ?_
    refine gp_sZ (j := k) (cs_iswh hc) (by omega) (by omega) rfl ha ?_
    have hF : Fr (fun y => y = o + 17) σ (tz_sA σ (o + 17) k a) := Fr_sA rfl
    have hw1 := rwV_wh (x := k) hw ha
    have hc1 := cs_fr hc hF
    have hs1 := smOk_fr hs hF (by omega) (by omega)
    have ht1 := trV_fr ht hF (fun x a b => by omega)
    generalize tz_sA σ (o + 17) k a = σ1 at *
    refine gp_rR (cs_me hc1) rfl ?_
    refine gp_cV (cs_solv hc1) (gp_mono (c_forgetZ (D := D) (T := T) (va := va) (bs := bs) (cl := cl) (st := st) (sp := sp) (ex := ex) (cf := cf) (spl := spl) (mp := mp) (mq := mq) hc1 hw1 hs1 ht1) ?_)
    rintro _ σ2 ⟨hF2, hsl2⟩
    have hFa : Fr (fun x => x = o + 17 ∨ x = o + 312 ∨ x = o + 322) σ σ2 := Fr_trans (Fr_mono hF (fun x z => Or.inl z)) (Fr_mono hF2 (fun x z => Or.inr z))
    exact gp_ret (cPo_fr hFa (fun x z => by unfold clP; omega) (clV_mk hsl2 (clW_fr hW hFa (by omega) (by omega) (by omega) (fun x a b => by omega))) hs0)
  cases hwk : wh k with
  | false =>
    rw [hwk] at fin
    exact gp_t (by simp) (fin 0 (by simp))
  | true =>
    rw [hwk] at fin
    exact gp_f (by simp) (fin 1 (by simp))
theorem okF_whole {x a : Int32} (h : okF ((n, m, A, kd, bb, wh, dr), Z, wp, wq, hd, ah)) : okF (mWho x a ((n, m, A, kd, bb, wh, dr), Z, wp, wq, hd, ah)).1 := by
  obtain ⟨h1, h2, h3⟩ := okF_un h
  unfold mWho
  simp only
  by_cases z : 0 ≤ x.toInt ∧ x.toInt < n
  · rw [if_pos z]
    exact okF_mk h1 (zI_forget h2) h3
  · rw [if_neg z]; exact h
end M2
/-! ===== solve ===== -/
def mRun (n m : Nat) (kd : Nat → Nat) (bb : Nat → Int) (wh : Nat → Bool) : Nat → zS → zS × Nat
  | 0, Z => (Z, 0)
  | k + 1, Z => if Z.2.2.1.1 = 1 then ((mRun n m kd bb wh k (mStep n m kd bb wh Z)).1, (mRun n m kd bb wh k (mStep n m kd bb wh Z)).2 + 1) else (Z, 0)
def mSol (v : Int32) : zF → zF × Int32
  | ((n, m, A, kd, bb, wh, dr), Z, wp, wq, hd, ah) => if n ≠ 0 ∧ 1 ≤ v.toInt ∧ v.toInt ≤ 20000 then (((n, m, A, kd, bb, wh, dr), (mRun n m kd bb wh v.toInt.toNat (if Z.2.2.1.1 = 0 then mBegin n A Z else Z)).1, wp, wq, hd, ah), nI (mRun n m kd bb wh v.toInt.toNat (if Z.2.2.1.1 = 0 then mBegin n A Z else Z)).2) else (((n, m, A, kd, bb, wh, dr), Z, wp, wq, hd, ah), -1)
section M3
variable {σ : tz_S} {f o N n m q : Nat} {A : Nat → Nat → Int} {kd : Nat → Nat} {bb dr : Nat → Int} {wh : Nat → Bool} {wp wq : Nat → Int × Int} {hd : Int × Int} {ah : Bool} {Z : zS}
theorem zI_stepZ (hr : rwI n m A kd bb dr) (h : zI n m A kd bb Z) (h1 : Z.2.2.1.1 = 1) : zI n m A kd bb (mStep n m kd bb wh Z) := by
  obtain ⟨⟨D, T, va, bs, cl⟩, ⟨K, lc, up, fi, se, vr, fo, to, cd, ln, op⟩, ⟨st, sp, ex, cf, spl⟩, mp, mq⟩ := Z
  have h2 : st = 1 := h1
  subst h2
  exact zI_step hr h
theorem c_doStepZ (hr : rwI n m A kd bb dr) (h : slV σ o q N n m A kd bb wh dr Z) (hz : zI n m A kd bb Z) (h1 : Z.2.2.1.1 = 1) (hf : 2000 ≤ f) : gp (X7_doStep f (some (o + 322))) σ (fun _ σ' => ∃ q', q ≤ q' ∧ tz_ns σ' = tz_ns σ + 801 * (q' - q) ∧ Gr (slP o) σ σ' ∧ slV σ' o q' N n m A kd bb wh dr (mStep n m kd bb wh Z)) := by
  obtain ⟨⟨D, T, va, bs, cl⟩, ⟨K, lc, up, fi, se, vr, fo, to, cd, ln, op⟩, ⟨st, sp, ex, cf, spl⟩, mp, mq⟩ := Z
  have h2 : st = 1 := h1
  subst h2
  exact c_doStep hr h hz hf
theorem slV_st (h : slV σ o q N n m A kd bb wh dr Z) : tz_F σ (o + 322) 4 = nI Z.2.2.1.1 := by
  obtain ⟨⟨D, T, va, bs, cl⟩, ⟨K, lc, up, fi, se, vr, fo, to, cd, ln, op⟩, ⟨st, sp, ex, cf, spl⟩, mp, mq⟩ := Z
  exact (slV_un h).2.2.2.2.1.1
theorem slV_nc (h : slV σ o q N n m A kd bb wh dr Z) : tz_nc σ = o + 418 + 162 * q ∧ q ≤ 151 := by
  obtain ⟨⟨D, T, va, bs, cl⟩, ⟨K, lc, up, fi, se, vr, fo, to, cd, ln, op⟩, ⟨st, sp, ex, cf, spl⟩, mp, mq⟩ := Z
  have := (slV_un h).2.2.2.1
  exact ⟨this.2.1.1, this.1.2.2.2.2.2⟩
theorem zI_st (h : zI n m A kd bb Z) : Z.2.2.1.1 ≤ 4 := by
  obtain ⟨⟨D, T, va, bs, cl⟩, ⟨K, lc, up, fi, se, vr, fo, to, cd, ln, op⟩, ⟨st, sp, ex, cf, spl⟩, mp, mq⟩ := Z
  exact (zI_un h).1.1
theorem zI_run (hr : rwI n m A kd bb dr) : ∀ (k : Nat) (Z : zS), zI n m A kd bb Z → zI n m A kd bb (mRun n m kd bb wh k Z).1
  | 0, _, h => h
  | k + 1, Z, h => by
    simp only [mRun]
    by_cases z : Z.2.2.1.1 = 1
    · rw [if_pos z]
      exact zI_run hr k _ (zI_stepZ hr h z)
    · rw [if_neg z]; exact h
theorem zI_beginZ (hr : rwI n m A kd bb dr) (hn : 1 ≤ n) (h : zI n m A kd bb Z) (h0 : Z.2.2.1.1 = 0) : zI n m A kd bb (mBegin n A Z) := by
  obtain ⟨⟨D, T, va, bs, cl⟩, ⟨K, lc, up, fi, se, vr, fo, to, cd, ln, op⟩, ⟨st, sp, ex, cf, spl⟩, mp, mq⟩ := Z
  have h2 : st = 0 := h0
  subst h2
  exact zI_begin hr hn h
theorem c_sBeginZ (hr : rwI n m A kd bb dr) (h : slV σ o q N n m A kd bb wh dr Z) (hz : zI n m A kd bb Z) (h1 : Z.2.2.1.1 = 0) (hf : 2000 ≤ f) : gp (X7_begin f (some (o + 322))) σ (fun _ σ' => ∃ q', q ≤ q' ∧ tz_ns σ' = tz_ns σ + 801 * (q' - q) ∧ Gr (slP o) σ σ' ∧ slV σ' o q' N n m A kd bb wh dr (mBegin n A Z)) := by
  obtain ⟨⟨D, T, va, bs, cl⟩, ⟨K, lc, up, fi, se, vr, fo, to, cd, ln, op⟩, ⟨st, sp, ex, cf, spl⟩, mp, mq⟩ := Z
  have h2 : st = 0 := h1
  subst h2
  exact c_sBegin hr h hz hf
theorem mRun_le {n m : Nat} {kd : Nat → Nat} {bb : Nat → Int} {wh : Nat → Bool} : ∀ (k : Nat) (Z : zS), (mRun n m kd bb wh k Z).2 ≤ k
  | 0, _ => Nat.le_refl _
  | k + 1, Z => by
    simp only [mRun]
    by_cases z : Z.2.2.1.1 = 1
    · rw [if_pos z]
      have := mRun_le (n := n) (m := m) (kd := kd) (bb := bb) (wh := wh) k (mStep n m kd bb wh Z)
      show (mRun n m kd bb wh k (mStep n m kd bb wh Z)).2 + 1 ≤ k + 1
      omega
    · rw [if_neg z]; exact Nat.zero_le _
theorem c_solveL {v : Nat} (hr : rwI n m A kd bb dr) (h : slV σ o q N n m A kd bb wh dr Z) (hz : zI n m A kd bb Z) (hv : v ≤ 20000) (hf : 30000 ≤ f) : gp (X11_solve_b41 f (some o) (nI v)) σ (fun y σ' => y = nI (mRun n m kd bb wh v Z).2 ∧ ∃ q', q ≤ q' ∧ tz_ns σ' = tz_ns σ + 801 * (q' - q) ∧ Gr (slP o) σ σ' ∧ slV σ' o q' N n m A kd bb wh dr (mRun n m kd bb wh v Z).1) := by
  unfold X11_solve_b41 X11_solve_L43
  refine gp_loop (I := fun (τ : Int32) (σ' : tz_S) => ∃ j Zj q', τ = nI j ∧ j ≤ v ∧ (mRun n m kd bb wh v Z).1 = (mRun n m kd bb wh (v - j) Zj).1 ∧ (mRun n m kd bb wh v Z).2 = j + (mRun n m kd bb wh (v - j) Zj).2 ∧ q ≤ q' ∧ tz_ns σ' = tz_ns σ + 801 * (q' - q) ∧ Gr (slP o) σ σ' ∧ slV σ' o q' N n m A kd bb wh dr Zj ∧ zI n m A kd bb Zj) (fun τ _ => 20001 - τ.toNatClampNeg) ?_ f _ _ ⟨0, Z, q, rfl, Nat.zero_le _, by rw [Nat.sub_zero], by rw [Nat.sub_zero]; omega, Nat.le_refl _, by rw [Nat.sub_self]; rfl, Gr_refl, h, hz⟩ (by omega)
  rintro K l2 σ1 ⟨j, Zj, q', rfl, hj, e1, e2, hq, hns, hG, hsl, hzj⟩ hK
  show gp (X11_solve_L43_body f (some o) (nI v) (fun l2 => K l2) (nI j)) σ1 _
  unfold X11_solve_L43_body X11_solve_b72
  obtain ⟨hc, -, -⟩ := slV_cs hsl
  refine gp_if (fun z => ?_) (fun z => ?_)
  · rw [nI_leI (by omega) (by omega)] at z
    have hjv : v - j = 0 := by omega
    rw [hjv] at e1 e2
    refine gp_ret ⟨?_, q', hq, hns, hG, ?_⟩
    · rw [e2]; rfl
    · rw [e1]; exact hsl
  rw [nI_leI (by omega) (by omega)] at z
  refine gp_rR (cs_me hc) rfl ?_
  refine gp_rI (cs_solv hc) rfl ?_
  rw [slV_st hsl]
  have hst := zI_st hzj
  refine gp_if (fun y => ?_) (fun y => ?_)
  · rw [show (1 : Int32) = nI 1 from rfl, nI_eq (by omega) (by omega)] at y
    refine gp_rR (cs_me hc) rfl ?_
    refine gp_cV (cs_solv hc) (gp_mono (c_doStepZ hr hsl hzj y (by omega)) ?_)
    rintro _ σ2 ⟨q2, hq2, hns2, hG2, hsl2⟩
    refine gp_let ?_
    rw [nI_1]
    have hs : v - j = (v - (j + 1)) + 1 := by omega
    have e3 : mRun n m kd bb wh (v - j) Zj = ((mRun n m kd bb wh (v - (j + 1)) (mStep n m kd bb wh Zj)).1, (mRun n m kd bb wh (v - (j + 1)) (mStep n m kd bb wh Zj)).2 + 1) := by
      rw [hs]
      simp only [mRun]
      rw [if_pos y]
    rw [e3] at e1 e2
    refine hK _ _ ⟨j + 1, mStep n m kd bb wh Zj, q2, rfl, by omega, e1, by rw [e2]; show j + ((mRun n m kd bb wh (v - (j + 1)) (mStep n m kd bb wh Zj)).2 + 1) = _; omega, by omega, by rw [hns2, hns]; omega, Gr_trans hG hG2, hsl2, zI_stepZ hr hzj y⟩ (by rw [nI_clamp (by omega), nI_clamp (by omega)]; omega)
  · rw [show (1 : Int32) = nI 1 from rfl, nI_eq (by omega) (by omega)] at y
    have e3 : mRun n m kd bb wh (v - j) Zj = (Zj, 0) := by
      rw [show v - j = (v - (j + 1)) + 1 by omega]
      simp only [mRun]
      rw [if_neg y]
    rw [e3] at e1 e2
    refine gp_ret ⟨?_, q', hq, hns, hG, ?_⟩
    · rw [e2]; rfl
    · rw [e1]; exact hsl
theorem c_solve {v : Int32} (h : clV σ o q N ((n, m, A, kd, bb, wh, dr), Z, wp, wq, hd, ah)) (ho : okF ((n, m, A, kd, bb, wh, dr), Z, wp, wq, hd, ah)) (hf : 30000 ≤ f) : gp (X11_solve f (some o) v) σ (cPo σ o q N (mSol v ((n, m, A, kd, bb, wh, dr), Z, wp, wq, hd, ah)).1 (mSol v ((n, m, A, kd, bb, wh, dr), Z, wp, wq, hd, ah)).2) := by
  obtain ⟨hsl, hW⟩ := clV_un h
  obtain ⟨hr, hz, -⟩ := okF_un ho
  obtain ⟨hc, hw, hs⟩ := slV_cs hsl
  obtain ⟨hnc, hq⟩ := slV_nc hsl
  have hn := hw.1.2.2.1
  have bad : ¬ (n ≠ 0 ∧ 1 ≤ v.toInt ∧ v.toInt ≤ 20000) → gp (X11_solve_b22 f) σ (cPo σ o q N (mSol v ((n, m, A, kd, bb, wh, dr), Z, wp, wq, hd, ah)).1 (mSol v ((n, m, A, kd, bb, wh, dr), Z, wp, wq, hd, ah)).2) := by
    intro w
    have e : mSol v ((n, m, A, kd, bb, wh, dr), Z, wp, wq, hd, ah) = (((n, m, A, kd, bb, wh, dr), Z, wp, wq, hd, ah), -1) := if_neg w
    rw [e]
    exact gp_ret (cPo_0 h rfl)
  unfold X11_solve
  refine gp_rR (cs_me hc) rfl ?_
  refine gp_rI (cs_rows hc) rfl ?_
  rw [hw.1.1]
  refine gp_if (fun z => ?_) (fun z => ?_)
  · rw [show (0 : Int32) = nI 0 from rfl, nI_eq (by omega) (by omega)] at z
    exact bad (fun w => w.1 z)
  rw [show (0 : Int32) = nI 0 from rfl, nI_eq (by omega) (by omega)] at z
  refine gp_if (fun y => ?_) (fun y => ?_)
  · have y' : v.toInt < 1 := (i32_c v 1).1.1 y
    exact bad (by omega)
  have y' : ¬ v.toInt < 1 := fun w => y ((i32_c v 1).1.2 w)
  refine gp_if (fun x => ?_) (fun x => ?_)
  rotate_left
  · have x' : ¬ v.toInt ≤ 20000 := fun w => x ((i32_c v 20000).2.2 w)
    exact bad (by omega)
  have x' : v.toInt ≤ 20000 := (i32_c v 20000).2.1 x
  clear bad
  have e : mSol v ((n, m, A, kd, bb, wh, dr), Z, wp, wq, hd, ah) = (((n, m, A, kd, bb, wh, dr), (mRun n m kd bb wh v.toInt.toNat (if Z.2.2.1.1 = 0 then mBegin n A Z else Z)).1, wp, wq, hd, ah), nI (mRun n m kd bb wh v.toInt.toNat (if Z.2.2.1.1 = 0 then mBegin n A Z else Z)).2) := if_pos ⟨z, by omega, x'⟩
  rw [e]
  clear e
  obtain ⟨k, hk, hk31, hk2⟩ := i32_nat (show 0 ≤ v.toInt by omega)
  rw [show v.toInt.toNat = k by omega, hk]
  refine gp_rR (cs_me hc) rfl ?_
  refine gp_rI (cs_solv hc) rfl ?_
  rw [slV_st hsl]
  have hst := zI_st hz
  have fin : ∀ (σ1 : tz_S) (q1 : Nat) (Z1 : zS), q ≤ q1 → tz_ns σ1 = tz_ns σ + 801 * (q1 - q) → Gr (slP o) σ σ1 → slV σ1 o q1 N n m A kd bb wh dr Z1 → zI n m A kd bb Z1 → gp (X11_solve_b41 f (some o) (nI k)) σ1 (cPo σ o q N ((n, m, A, kd, bb, wh, dr), (mRun n m kd bb wh k Z1).1, wp, wq, hd, ah) (nI (mRun n m kd bb wh k Z1).2)) := by
    intro σ1 q1 Z1 hq1 hns1 hG1 hsl1 hz1
    refine gp_mono (c_solveL hr hsl1 hz1 (by omega) hf) ?_
    rintro y2 σ2 ⟨hy2, q2, hq2, hns2, hG2, hsl2⟩
    have hGa := Gr_trans hG1 hG2
    exact ⟨hy2, q2, by omega, by rw [hns2, hns1]; omega, Gr_mono hGa (fun x _ z => sl_c z), clV_mk hsl2 (clW_gro hW hGa (by omega) (by unfold slP; omega) (by unfold slP; omega) (by unfold slP; omega) (fun x a b => by unfold slP; omega))⟩
  refine gp_if (fun t => ?_) (fun t => ?_)
  · rw [show (0 : Int32) = nI 0 from rfl, nI_eq (by omega) (by omega)] at t
    rw [if_pos t]
    refine gp_rR (cs_me hc) rfl ?_
    refine gp_cV (cs_solv hc) (gp_mono (c_sBeginZ hr hsl hz t (by omega)) ?_)
    rintro _ σ1 ⟨q1, hq1, hns1, hG1, hsl1⟩
    exact fin σ1 q1 _ hq1 hns1 hG1 hsl1 (zI_beginZ hr (by omega) hz t)
  · rw [show (0 : Int32) = nI 0 from rfl, nI_eq (by omega) (by omega)] at t
    rw [if_neg t]
    exact fin σ q Z (Nat.le_refl _) (by rw [Nat.sub_self]; rfl) Gr_refl hsl hz
theorem okF_solve {v : Int32} (h : okF ((n, m, A, kd, bb, wh, dr), Z, wp, wq, hd, ah)) : okF (mSol v ((n, m, A, kd, bb, wh, dr), Z, wp, wq, hd, ah)).1 := by
  obtain ⟨h1, h2, h3⟩ := okF_un h
  unfold mSol
  simp only
  by_cases z : n ≠ 0 ∧ 1 ≤ v.toInt ∧ v.toInt ≤ 20000
  · rw [if_pos z]
    refine okF_mk h1 (zI_run h1 _ _ ?_) h3
    by_cases y : Z.2.2.1.1 = 0
    · rw [if_pos y]; exact zI_beginZ h1 (by omega) h2 y
    · rw [if_neg y]; exact h2
  · rw [if_neg z]; exact h
end M3
