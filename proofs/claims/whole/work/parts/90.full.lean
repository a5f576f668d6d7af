/-! ===== RowSolver: all that the class holds ===== -/
abbrev zR : Type := Nat × Nat × (Nat → Nat → Int) × (Nat → Nat) × (Nat → Int) × (Nat → Bool) × (Nat → Int)
abbrev zF : Type := zR × zS × (Nat → Int × Int) × (Nat → Int × Int) × (Int × Int) × Bool
def clP (o : Nat) : Nat → Prop := fun x => (o ≤ x ∧ x ≤ o + 396) ∨ o + 418 ≤ x
def clW (σ : tz_S) (o N : Nat) (wp : Nat → Int × Int) (hd : Int × Int) (ah : Bool) : Prop := smOk σ (o + 329) N ∧ (∀ x, x < 10 → Fz σ (o + 347 + 5 * x) 12 (wp x).1 (wp x).2) ∧ Fz σ (o + 342) 12 hd.1 hd.2 ∧ tz_F σ o 9 = if ah = true then 1 else 0
def clV (σ : tz_S) (o q N : Nat) : zF → Prop
  | ((n, m, A, kd, bb, wh, dr), Z, wp, _, hd, ah) => slV σ o q N n m A kd bb wh dr Z ∧ clW σ o N wp hd ah
def wvI (x y : Int × Int) : Prop := 0 < x.2 ∧ x.2.natAbs ≤ 10 ^ 70 ∧ x.1.natAbs ≤ 10 ^ 90 ∧ 0 < y.2 ∧ x.1 * y.2 = y.1 * x.2 ∧ y.1.natAbs ≤ x.1.natAbs ∧ y.2 ≤ x.2
def okF : zF → Prop
  | ((n, m, A, kd, bb, _, dr), Z, wp, wq, _, _) => rwI n m A kd bb dr ∧ zI n m A kd bb Z ∧ ∀ x, x < 10 → wvI (wp x) (wq x)
def cPo (σ : tz_S) (o q N : Nat) (F : zF) (a : Int32) : Int32 → tz_S → Prop := fun y σ' => y = a ∧ ∃ q', q ≤ q' ∧ tz_ns σ' = tz_ns σ + 801 * (q' - q) ∧ Gr (clP o) σ σ' ∧ clV σ' o q' N F
section CF
variable {P : Nat → Prop} {σ σ1 : tz_S} {f o N n m q K lc st sp ex cf spl : Nat} {A T : Nat → Nat → Int} {kd : Nat → Nat} {bb dr : Nat → Int} {wh : Nat → Bool} {D : Int} {va : Nat → Int} {bs cl : Nat → Nat} {up fi se : Nat → Option Nat} {vr : Nat → Nat} {fo to : Nat → Int} {cd : Nat → Bool} {ln : Nat → Nat} {op : Option Nat} {mp mq : Nat → Nat → Int × Int} {wp wq : Nat → Int × Int} {hd : Int × Int} {ah : Bool} {Z : zS} {F : zF}
theorem cPo_fr {y a : Int32} (hF : Fr P σ σ1) (hP : ∀ x, P x → clP o x) (hV : clV σ1 o q N F) (hy : y = a) : cPo σ o q N F a y σ1 := ⟨hy, q, Nat.le_refl _, by rw [hF.2.1, Nat.sub_self]; rfl, Gr_of_Fr (Fr_mono hF hP), hV⟩
theorem cPo_0 {y a : Int32} (hV : clV σ o q N F) (hy : y = a) : cPo σ o q N F a y σ := ⟨hy, q, Nat.le_refl _, by rw [Nat.sub_self]; rfl, Gr_refl, hV⟩
theorem clV_mk (h1 : slV σ o q N n m A kd bb wh dr Z) (h2 : clW σ o N wp hd ah) : clV σ o q N ((n, m, A, kd, bb, wh, dr), Z, wp, wq, hd, ah) := And.intro h1 h2
theorem clV_un (h : clV σ o q N ((n, m, A, kd, bb, wh, dr), Z, wp, wq, hd, ah)) : slV σ o q N n m A kd bb wh dr Z ∧ clW σ o N wp hd ah := h
theorem okF_un (h : okF ((n, m, A, kd, bb, wh, dr), Z, wp, wq, hd, ah)) : rwI n m A kd bb dr ∧ zI n m A kd bb Z ∧ ∀ x, x < 10 → wvI (wp x) (wq x) := h
theorem okF_mk (h1 : rwI n m A kd bb dr) (h2 : zI n m A kd bb Z) (h3 : ∀ x, x < 10 → wvI (wp x) (wq x)) : okF ((n, m, A, kd, bb, wh, dr), Z, wp, wq, hd, ah) := And.intro h1 (And.intro h2 h3)
theorem clW_fr (h : clW σ o N wp hd ah) (hf : Fr P σ σ1) (h0 : ¬ P o) (h1 : ¬ P (o + 329)) (h2 : ¬ P (o + 330)) (h3 : ∀ x, o + 342 ≤ x → x ≤ o + 396 → ¬ P x) : clW σ1 o N wp hd ah := by
  obtain ⟨a, b, c, d⟩ := h
  exact ⟨smOk_fr a hf h1 h2, fun x hx => Fz_fr (b x hx) hf (fun y e1 e2 => h3 y (by omega) (by omega)), Fz_fr c hf (fun y e1 e2 => h3 y (by omega) (by omega)), by rw [Fr_F hf h0]; exact d⟩
theorem clW_gro (h : clW σ o N wp hd ah) (hg : Gr P σ σ1) (hn : o + 396 < tz_nc σ) (h0 : ¬ P o) (h1 : ¬ P (o + 329)) (h2 : ¬ P (o + 330)) (h3 : ∀ x, o + 342 ≤ x → x ≤ o + 396 → ¬ P x) : clW σ1 o N wp hd ah := by
  obtain ⟨a, b, c, d⟩ := h
  exact ⟨smOk_gro a hg (by omega) h1 h2, fun x hx => Fz_gro (b x hx) hg (by omega) (fun y e1 e2 => h3 y (by omega) (by omega)), Fz_gro c hg (by omega) (fun y e1 e2 => h3 y (by omega) (by omega)), by rw [((hg.2.2 o (by omega)).2 h0).1]; exact d⟩
theorem sl_c {o x : Nat} (h : slP o x) : clP o x := by unfold slP at h; unfold clP; omega
/-! forget, over all -/
theorem slV_0 (hc : cSh σ o N) (hw : rwV σ o n m A kd bb wh dr) (hs : smOk σ (o + 30) N) (ht : trV σ o q 0 0 up fi se vr fo to cd ln none) (hct : ctV σ o 0 0 0 0 0) : slV σ o q N n m A kd bb wh dr (mForget ((D, T, va, bs, cl), (K, lc, up, fi, se, vr, fo, to, cd, ln, op), (st, sp, ex, cf, spl), mp, mq)) :=
  slV_mk hc hw hs ht hct (fun i hi => absurd hi (Nat.not_lt_zero _)) (fun z => absurd rfl z) (fun z => absurd z (by decide))
theorem c_forgetZ (hc : cSh σ o N) (hw : rwV σ o n m A kd bb wh dr) (hs : smOk σ (o + 30) N) (ht : trV σ o q K lc up fi se vr fo to cd ln op) : gp (X7_forget f (some (o + 322))) σ (fun _ σ' => Fr (fun x => x = o + 312 ∨ x = o + 322) σ σ' ∧ slV σ' o q N n m A kd bb wh dr (mForget ((D, T, va, bs, cl), (K, lc, up, fi, se, vr, fo, to, cd, ln, op), (st, sp, ex, cf, spl), mp, mq))) := by
  refine gp_mono (c_forget hc ht) ?_
  rintro _ σ' ⟨hF, hct, ht'⟩
  exact ⟨hF, slV_0 (cs_fr hc hF) (rwV_fr hw hF (fun x a b => by omega)) (smOk_fr hs hF (by omega) (by omega)) ht' hct⟩
end CF
/-! ===== variables, factor, row, whole ===== -/
def mVar (v : Int32) : zF → zF × Int32
  | ((n, m, A, kd, bb, wh, dr), Z, wp, wq, hd, ah) => if v.toInt < 1 ∨ 10 < v.toInt then (((n, m, A, kd, bb, wh, dr), Z, wp, wq, hd, ah), -1) else (((v.toInt.toNat, 0, A, kd, bb, (fun _ => false), fun _ => 0), mForget Z, wp, wq, hd, ah), v)
def mFac (x a : Int32) : zF → zF × Int32
  | ((n, m, A, kd, bb, wh, dr), Z, wp, wq, hd, ah) => if (0 ≤ x.toInt ∧ x.toInt < n) ∧ -1000000 ≤ a.toInt ∧ a.toInt ≤ 1000000 then (((n, m, A, kd, bb, wh, ups dr x.toInt.toNat a.toInt), Z, wp, wq, hd, ah), 0) else (((n, m, A, kd, bb, wh, dr), Z, wp, wq, hd, ah), -1)
def mRow (k b : Int32) : zF → zF × Int32
  | ((n, m, A, kd, bb, wh, dr), Z, wp, wq, hd, ah) => if (n ≠ 0 ∧ m < 12) ∧ (0 ≤ k.toInt ∧ k.toInt ≤ 2) ∧ -1000000 ≤ b.toInt ∧ b.toInt ≤ 1000000 then (((n, m + 1, (fun r x => if r = m then dr x else A r x), (fun r => if r = m then k.toInt.toNat else kd r), (fun r => if r = m then b.toInt else bb r), wh, fun _ => 0), mForget Z, wp, wq, hd, ah), nI m) else (((n, m, A, kd, bb, wh, dr), Z, wp, wq, hd, ah), -1)
def mWho (x b : Int32) : zF → zF × Int32
  | ((n, m, A, kd, bb, wh, dr), Z, wp, wq, hd, ah) => if 0 ≤ x.toInt ∧ x.toInt < n then (((n, m, A, kd, bb, ups wh x.toInt.toNat (decide (b ≠ 0)), dr), mForget Z, wp, wq, hd, ah), if wh x.toInt.toNat = true then 1 else 0) else (((n, m, A, kd, bb, wh, dr), Z, wp, wq, hd, ah), -1)
section M1
variable {σ : tz_S} {f o N n m q : Nat} {A : Nat → Nat → Int} {kd : Nat → Nat} {bb dr : Nat → Int} {wh : Nat → Bool} {wp wq : Nat → Int × Int} {hd : Int × Int} {ah : Bool} {Z : zS}
theorem i32_c (x : Int32) (a : Int32) : (x < a ↔ x.toInt < a.toInt) ∧ (x ≤ a ↔ x.toInt ≤ a.toInt) := ⟨Int32.lt_iff_toInt_lt, Int32.le_iff_toInt_le⟩
theorem c_variables {v : Int32} (h : clV σ o q N ((n, m, A, kd, bb, wh, dr), Z, wp, wq, hd, ah)) (hf : 2000 ≤ f) : gp (X11_variables f (some o) v) σ (cPo σ o q N (mVar v ((n, m, A, kd, bb, wh, dr), Z, wp, wq, hd, ah)).1 (mVar v ((n, m, A, kd, bb, wh, dr), Z, wp, wq, hd, ah)).2) := by
  obtain ⟨⟨D, T, va, bs, cl⟩, ⟨K, lc, up, fi, se, vr, fo, to, cd, ln, op⟩, ⟨st, sp, ex, cf, spl⟩, mp, mq⟩ := Z
  obtain ⟨hsl, hW⟩ := clV_un h
  obtain ⟨hc, hw, hs, ht, hct, hlf, htb, hbn⟩ := slV_un hsl
  unfold X11_variables
  refine gp_if (fun z => ?_) (fun z => ?_)
  · have z' : v.toInt < 1 := (i32_c v 1).1.1 z
    have e : mVar v ((n, m, A, kd, bb, wh, dr), ((D, T, va, bs, cl), (K, lc, up, fi, se, vr, fo, to, cd, ln, op), (st, sp, ex, cf, spl), mp, mq), wp, wq, hd, ah) = (((n, m, A, kd, bb, wh, dr), ((D, T, va, bs, cl), (K, lc, up, fi, se, vr, fo, to, cd, ln, op), (st, sp, ex, cf, spl), mp, mq), wp, wq, hd, ah), -1) := if_pos (Or.inl z')
    rw [e]
    exact gp_ret (cPo_0 h rfl)
  have z' : ¬ v.toInt < 1 := fun w => z ((i32_c v 1).1.2 w)
  refine gp_if (fun y => ?_) (fun y => ?_)
  rotate_left
  · have y' : ¬ v.toInt ≤ 10 := fun w => y ((i32_c v 10).2.2 w)
    have e : mVar v ((n, m, A, kd, bb, wh, dr), ((D, T, va, bs, cl), (K, lc, up, fi, se, vr, fo, to, cd, ln, op), (st, sp, ex, cf, spl), mp, mq), wp, wq, hd, ah) = (((n, m, A, kd, bb, wh, dr), ((D, T, va, bs, cl), (K, lc, up, fi, se, vr, fo, to, cd, ln, op), (st, sp, ex, cf, spl), mp, mq), wp, wq, hd, ah), -1) := if_pos (Or.inr (by omega))
    rw [e]
    exact gp_ret (cPo_0 h rfl)
  have y' : v.toInt ≤ 10 := (i32_c v 10).2.1 y
  have e : mVar v ((n, m, A, kd, bb, wh, dr), ((D, T, va, bs, cl), (K, lc, up, fi, se, vr, fo, to, cd, ln, op), (st, sp, ex, cf, spl), mp, mq), wp, wq, hd, ah) = (((v.toInt.toNat, 0, A, kd, bb, (fun _ => false), fun _ => 0), mForget ((D, T, va, bs, cl), (K, lc, up, fi, se, vr, fo, to, cd, ln, op), (st, sp, ex, cf, spl), mp, mq), wp, wq, hd, ah), v) := if_neg (by omega)
  rw [e]
  obtain ⟨k, hk, hk31, hk2⟩ := i32_nat (show 0 ≤ v.toInt by omega)
  have ek : v.toInt.toNat = k := by omega
  rw [ek]
  refine gp_rR (cs_me hc) rfl ?_
  have hren : gp (X6_renew f (some (o + 1)) v) σ (fun _ σ' => Fr (rwP o) σ σ' ∧ rwV σ' o k 0 A kd bb (fun _ => false) (fun _ => 0)) := by rw [hk]; exact c_renew hc hf (by omega)
  refine gp_cV (cs_rows hc) (gp_mono hren ?_)
  rintro _ σ1 ⟨hF, hw1⟩
  have hc1 := cs_fr hc hF
  refine gp_rR (cs_me hc1) rfl ?_
  refine gp_cV (cs_solv hc1) (gp_mono (c_forgetZ (D := D) (T := T) (va := va) (bs := bs) (cl := cl) (st := st) (sp := sp) (ex := ex) (cf := cf) (spl := spl) (mp := mp) (mq := mq) hc1 hw1 (smOk_fr hs hF (by unfold rwP; omega) (by unfold rwP; omega)) (trV_fr ht hF (fun x a b => by unfold rwP; omega))) ?_)
  rintro _ σ2 ⟨hF2, hsl2⟩
  have hFa : Fr (fun x => rwP o x ∨ x = o + 312 ∨ x = o + 322) σ σ2 := Fr_trans (Fr_mono hF (fun x z => Or.inl z)) (Fr_mono hF2 (fun x z => Or.inr z))
  exact gp_ret (cPo_fr hFa (fun x z => by unfold rwP at z; unfold clP; omega) (clV_mk hsl2 (clW_fr hW hFa (by unfold rwP; omega) (by unfold rwP; omega) (by unfold rwP; omega) (fun x a b => by unfold rwP; omega))) rfl)
theorem okF_variables {v : Int32} (h : okF ((n, m, A, kd, bb, wh, dr), Z, wp, wq, hd, ah)) : okF (mVar v ((n, m, A, kd, bb, wh, dr), Z, wp, wq, hd, ah)).1 := by
  obtain ⟨h1, h2, h3⟩ := okF_un h
  unfold mVar
  simp only
  by_cases z : v.toInt < 1 ∨ 10 < v.toInt
  · rw [if_pos z]; exact h
  · rw [if_neg z]
    exact okF_mk ⟨by omega, fun r x hr _ => absurd hr (Nat.not_lt_zero _), fun r hr => absurd hr (Nat.not_lt_zero _), fun x _ => by show (-1000000 : Int) ≤ 0 ∧ (0 : Int) ≤ 1000000; decide⟩ (zI_forget h2) h3
theorem rwV_dr {x : Nat} {a : Int32} (hw : rwV σ o n m A kd bb wh dr) (hx : x < 10) : rwV (tz_sA σ (o + 18) x a) o n m A kd bb wh (ups dr x a.toInt) := by
  obtain ⟨h1, h4, h5, h6, h7, h8⟩ := hw
  have hF : Fr (fun y => y = o + 18) σ (tz_sA σ (o + 18) x a) := Fr_sA rfl
  refine ⟨h1, ?_, ?_, ?_, ?_, ?_⟩
  · intro r y hr hy
    rw [Fr_A hF (x := o + 3 + r) (by omega)]; exact h4 r y hr hy
  · rw [Fr_A hF (x := o + 15) (by omega)]; exact h5
  · rw [Fr_A hF (x := o + 16) (by omega)]; exact h6
  · rw [Fr_A hF (x := o + 17) (by omega)]; exact h7
  · intro y hy
    show (tz_u2 (tz_A σ) (o + 18) x a (o + 18) y).toInt = _
    by_cases z : y = x
    · rw [z, tz_u2_same, ups_s]
    · rw [tz_u2_ne _ _ (Or.inr z), ups_n _ _ z]; exact h8 y hy
theorem slV_rw {P : Nat → Prop} {σ1 : tz_S} {dr2 : Nat → Int} (h : slV σ o q N n m A kd bb wh dr Z) (hF : Fr P σ σ1) (hP : ∀ x, P x → x = o + 18) (hw : rwV σ1 o n m A kd bb wh dr2) : slV σ1 o q N n m A kd bb wh dr2 Z := by
  obtain ⟨⟨D, T, va, bs, cl⟩, ⟨K, lc, up, fi, se, vr, fo, to, cd, ln, op⟩, ⟨st, sp, ex, cf, spl⟩, mp, mq⟩ := Z
  obtain ⟨hc, -, hs, ht, hct, hlf, htb, hbn⟩ := slV_un h
  refine slV_mk (cs_fr hc hF) hw (smOk_fr hs hF (fun z => by have := hP _ z; omega) (fun z => by have := hP _ z; omega)) (trV_fr ht hF (fun x a b z => by have := hP _ z; omega)) (ctV_fr hct hF (fun z => by have := hP _ z; omega)) (fun i hi => lfV_fr (hlf i hi) hF (fun x a b z => by have := hP _ z; unfold lfA at a; omega)) (fun z => tbV_fr (htb z) hF (fun x a b z => by have := hP _ z; omega) (fun x a b z => by have := hP _ z; omega)) (fun z k e => bnA_fr (hbn z k e) hF (fun x a b z => by have := hP _ z; omega))
theorem slV_cs (h : slV σ o q N n m A kd bb wh dr Z) : cSh σ o N ∧ rwV σ o n m A kd bb wh dr ∧ smOk σ (o + 30) N := by
  obtain ⟨⟨D, T, va, bs, cl⟩, ⟨K, lc, up, fi, se, vr, fo, to, cd, ln, op⟩, ⟨st, sp, ex, cf, spl⟩, mp, mq⟩ := Z
  obtain ⟨hc, hw, hs, -⟩ := slV_un h
  exact ⟨hc, hw, hs⟩
theorem c_factor {x a : Int32} (h : clV σ o q N ((n, m, A, kd, bb, wh, dr), Z, wp, wq, hd, ah)) (hf : 2000 ≤ f) : gp (X11_factor f (some o) x a) σ (cPo σ o q N (mFac x a ((n, m, A, kd, bb, wh, dr), Z, wp, wq, hd, ah)).1 (mFac x a ((n, m, A, kd, bb, wh, dr), Z, wp, wq, hd, ah)).2) := by
  obtain ⟨hsl, hW⟩ := clV_un h
  obtain ⟨hc, hw, hs⟩ := slV_cs hsl
  have hn := hw.1.2.2.1
  have bad : ¬ ((0 ≤ x.toInt ∧ x.toInt < n) ∧ -1000000 ≤ a.toInt ∧ a.toInt ≤ 1000000) → gp (X11_factor_b23 f) σ (cPo σ o q N (mFac x a ((n, m, A, kd, bb, wh, dr), Z, wp, wq, hd, ah)).1 (mFac x a ((n, m, A, kd, bb, wh, dr), Z, wp, wq, hd, ah)).2) := by
    intro w
    have e : mFac x a ((n, m, A, kd, bb, wh, dr), Z, wp, wq, hd, ah) = (((n, m, A, kd, bb, wh, dr), Z, wp, wq, hd, ah), -1) := if_neg w
    rw [e]
    exact gp_ret (cPo_0 h rfl)
  unfold X11_factor
  refine gp_rR (cs_me hc) rfl ?_
  refine gp_cV (cs_rows hc) (gp_mono (c_hasVariable hc hw) ?_)
  rintro y σ0 ⟨z0, hy⟩
  rw [z0]
  clear z0 σ0
  refine gp_if (fun z => ?_) (fun z => ?_)
  · exact bad (fun w => ite0 hy z w.1)
  have hx := ite1 hy z
  refine gp_if (fun z => ?_) (fun z => ?_)
  · have z' : a.toInt < -1000000 := (i32_c a (-1000000)).1.1 z
    exact bad (by omega)
  have z' : ¬ a.toInt < -1000000 := fun w => z ((i32_c a (-1000000)).1.2 w)
  refine gp_if (fun y => ?_) (fun y => ?_)
  rotate_left
  · have y' : ¬ a.toInt ≤ 1000000 := fun w => y ((i32_c a 1000000).2.2 w)
    exact bad (by omega)
  have y' : a.toInt ≤ 1000000 := (i32_c a 1000000).2.1 y
  have e : mFac x a ((n, m, A, kd, bb, wh, dr), Z, wp, wq, hd, ah) = (((n, m, A, kd, bb, wh, ups dr x.toInt.toNat a.toInt), Z, wp, wq, hd, ah), 0) := if_pos ⟨hx, by omega, y'⟩
  rw [e]
  obtain ⟨k, hk, hk31, hk2⟩ := i32_nat hx.1
  rw [show x.toInt.toNat = k by omega, hk]
  refine gp_rR (cs_me hc) rfl ?_
  refine gp_rR (cs_rows hc) rfl ?_
  refine gp_sI (j := k) (cs_draft hc) (by decide) (by omega) (by omega) rfl ?_
  have hF : Fr (fun y => y = o + 18) σ (tz_sA σ (o + 18) k a) := Fr_sA rfl
  exact gp_ret (cPo_fr hF (fun x z => by unfold clP; omega) (clV_mk (slV_rw hsl hF (fun x z => z) (rwV_dr hw (by omega))) (clW_fr hW hF (by omega) (by omega) (by omega) (fun x a b => by omega))) rfl)
theorem okF_factor {x a : Int32} (h : okF ((n, m, A, kd, bb, wh, dr), Z, wp, wq, hd, ah)) : okF (mFac x a ((n, m, A, kd, bb, wh, dr), Z, wp, wq, hd, ah)).1 := by
  obtain ⟨h1, h2, h3⟩ := okF_un h
  unfold mFac
  simp only
  by_cases z : (0 ≤ x.toInt ∧ x.toInt < n) ∧ -1000000 ≤ a.toInt ∧ a.toInt ≤ 1000000
  · rw [if_pos z]
    refine okF_mk ⟨h1.1, h1.2.1, h1.2.2.1, fun y hy => ?_⟩ h2 h3
    by_cases e : y = x.toInt.toNat
    · rw [e, ups_s]; exact z.2
    · rw [ups_n _ _ e]; exact h1.2.2.2 y hy
  · rw [if_neg z]; exact h
end M1
