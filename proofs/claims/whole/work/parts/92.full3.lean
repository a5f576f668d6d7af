/-! ===== state, basic, value, told ===== -/
theorem gp_tsw {ρ : Type} {σ : tz_S} {Q : ρ → tz_S → Prop} {ms : List (pz_C ρ)} {dm : pz_C ρ} {x : Int32} (h1 : (x.toInt < 0 ∨ ms.length ≤ x.toInt.toNat) → gp dm σ Q) (h2 : ∀ k m, x.toInt = (k : Nat) → ms[k]? = some m → gp m σ Q) : gp (pz_tsw 0 ms dm x) σ Q := by
  unfold pz_tsw
  by_cases z : x.toInt < 0
  · rw [if_pos z]; exact h1 (Or.inl z)
  · rw [if_neg z]
    have e : (x.toInt - 0).toNat = x.toInt.toNat := by omega
    rw [e]
    cases hm : ms[x.toInt.toNat]? with
    | none => exact h1 (Or.inr (List.getElem?_eq_none_iff.1 hm))
    | some m => exact h2 x.toInt.toNat m (by omega) hm
def mSta (v : Int32) : zF → Int32
  | ((n, m, _, _, _, _, _), ((_, _, _, _, _), (K, _, up, fi, _, _, _, _, _, _, op), (st, sp, ex, cf, spl), _, _), _, _, _, _) => if v.toInt = 0 then nI st else if v.toInt = 1 then nI sp else if v.toInt = 2 then nI ex else if v.toInt = 3 then nI cf else if v.toInt = 4 then nI spl else if v.toInt = 5 then (match op with
    | none => 0
    | some k => nI (pt up fi k).length) else if v.toInt = 6 then nI m else if v.toInt = 7 then nI n else if v.toInt = 8 then nI K else -1
section M4
variable {P : Nat → Prop} {σ σ1 : tz_S} {f o N n m q K lc st sp ex cf spl : Nat} {A T : Nat → Nat → Int} {kd : Nat → Nat} {bb dr : Nat → Int} {wh : Nat → Bool} {D : Int} {va : Nat → Int} {bs cl : Nat → Nat} {up fi se : Nat → Option Nat} {vr : Nat → Nat} {fo to : Nat → Int} {cd : Nat → Bool} {ln : Nat → Nat} {op : Option Nat} {mp mq : Nat → Nat → Int × Int} {wp wq : Nat → Int × Int} {hd : Int × Int} {ah : Bool} {Z : zS}
theorem slV_fr (h : slV σ o q N n m A kd bb wh dr Z) (hF : Fr P σ σ1) (hP : ∀ x, P x → x = o ∨ (o + 19 ≤ x ∧ x ≤ o + 29) ∨ (o + 328 ≤ x ∧ x ≤ o + 417)) : slV σ1 o q N n m A kd bb wh dr Z := by
  obtain ⟨⟨D, T, va, bs, cl⟩, ⟨K, lc, up, fi, se, vr, fo, to, cd, ln, op⟩, ⟨st, sp, ex, cf, spl⟩, mp, mq⟩ := Z
  obtain ⟨hc, hw, hs, ht, hct, hlf, htb, hbn⟩ := slV_un h
  refine slV_mk (cs_fr hc hF) (rwV_fr hw hF (fun x a b z => by have := hP _ z; omega)) (smOk_fr hs hF (fun z => by have := hP _ z; omega) (fun z => by have := hP _ z; omega)) (trV_fr ht hF (fun x a b z => by have := hP _ z; omega)) (ctV_fr hct hF (fun z => by have := hP _ z; omega)) (fun i hi => lfV_fr (hlf i hi) hF (fun x a b z => by have := hP _ z; unfold lfA at a; omega)) (fun z => tbV_fr (htb z) hF (fun x a b z => by have := hP _ z; omega) (fun x a b z => by have := hP _ z; omega)) (fun z k e => bnA_fr (hbn z k e) hF (fun x a b z => by have := hP _ z; omega))
theorem c_state {v : Int32} (h : clV σ o q N ((n, m, A, kd, bb, wh, dr), ((D, T, va, bs, cl), (K, lc, up, fi, se, vr, fo, to, cd, ln, op), (st, sp, ex, cf, spl), mp, mq), wp, wq, hd, ah)) (ho : okF ((n, m, A, kd, bb, wh, dr), ((D, T, va, bs, cl), (K, lc, up, fi, se, vr, fo, to, cd, ln, op), (st, sp, ex, cf, spl), mp, mq), wp, wq, hd, ah)) (hf : 2000 ≤ f) : gp (X11_state f (some o) v) σ (fun y σ' => σ' = σ ∧ y = mSta v ((n, m, A, kd, bb, wh, dr), ((D, T, va, bs, cl), (K, lc, up, fi, se, vr, fo, to, cd, ln, op), (st, sp, ex, cf, spl), mp, mq), wp, wq, hd, ah)) := by
  obtain ⟨hsl, hW⟩ := clV_un h
  obtain ⟨hr, hz, -⟩ := okF_un ho
  obtain ⟨hc, hw, hs, ht, ⟨c4, c5, c6, c7, c8⟩, hlf, htb, hbn⟩ := slV_un hsl
  obtain ⟨⟨z1, z2, z3⟩, -, hA, -, z5, -⟩ := zI_un hz
  unfold X11_state
  unfold mSta
  simp only
  refine gp_tsw (fun w => ?_) (fun k mm hk hm => ?_)
  · have w' : v.toInt < 0 ∨ 9 ≤ v.toInt := by
      rcases w with w | w
      · exact Or.inl w
      · simp only [List.length_cons, List.length_nil] at w
        omega
    rw [if_neg (by omega), if_neg (by omega), if_neg (by omega), if_neg (by omega), if_neg (by omega), if_neg (by omega), if_neg (by omega), if_neg (by omega), if_neg (by omega)]
    exact gp_ret ⟨rfl, rfl⟩
  rw [hk]
  match k, hm with
  | 0, hm =>
    cases hm
    refine gp_rR (cs_me hc) rfl (gp_rI (cs_solv hc) rfl (gp_ret ⟨rfl, ?_⟩))
    rw [c4]; rfl
  | 1, hm =>
    cases hm
    refine gp_rR (cs_me hc) rfl (gp_rI (cs_solv hc) rfl (gp_ret ⟨rfl, ?_⟩))
    rw [c5]; rfl
  | 2, hm =>
    cases hm
    refine gp_rR (cs_me hc) rfl (gp_rI (cs_solv hc) rfl (gp_ret ⟨rfl, ?_⟩))
    rw [c6]; rfl
  | 3, hm =>
    cases hm
    refine gp_rR (cs_me hc) rfl (gp_rI (cs_solv hc) rfl (gp_ret ⟨rfl, ?_⟩))
    rw [c7]; rfl
  | 4, hm =>
    cases hm
    refine gp_rR (cs_me hc) rfl (gp_rI (cs_solv hc) rfl (gp_ret ⟨rfl, ?_⟩))
    rw [c8]; rfl
  | 5, hm =>
    cases hm
    refine gp_rR (cs_me hc) rfl (gp_rR (cs_me hc) rfl (gp_rI (cs_tree hc) rfl ?_))
    rw [ht.1.2.2.1]
    cases hop : op with
    | none =>
      refine gp_cV (cs_tree hc) (gp_mono (c_splitsAbove0 hc ht hf) ?_)
      rintro y σ0 ⟨e0, e1⟩
      rw [e0, e1]
      exact gp_ret ⟨rfl, rfl⟩
    | some k =>
      have hk2 : k < K := by
        obtain ⟨k', e1, e2, -⟩ := z5 (fun e => by rw [hop] at z3; cases (z3 (Or.inl e))) (fun e => by rw [hop] at z3; cases (z3 (Or.inr e)))
        rw [hop] at e1
        cases e1
        have := e2.1
        omega
      refine gp_cV (cs_tree hc) (gp_mono (c_splitsAbove (k := k) hc ht (stA_w hA) hf hk2) ?_)
      rintro y σ0 ⟨e0, e1⟩
      rw [e0, e1]
      exact gp_ret ⟨rfl, rfl⟩
  | 6, hm =>
    cases hm
    refine gp_rR (cs_me hc) rfl (gp_rI (cs_rows hc) rfl (gp_ret ⟨rfl, ?_⟩))
    rw [hw.1.2.1]; rfl
  | 7, hm =>
    cases hm
    refine gp_rR (cs_me hc) rfl (gp_rI (cs_rows hc) rfl (gp_ret ⟨rfl, ?_⟩))
    rw [hw.1.1]; rfl
  | 8, hm =>
    cases hm
    refine gp_rR (cs_me hc) rfl (gp_rI (cs_tree hc) rfl (gp_ret ⟨rfl, ?_⟩))
    rw [ht.1.1]; rfl
  | k + 9, hm => simp at hm
theorem c_hasPlace {p : Int32} (hsl : slV σ o q N n m A kd bb wh dr Z) (hz : zI n m A kd bb Z) : gp (X11_hasPlace f (some o) p) σ (fun y σ' => σ' = σ ∧ y = if Z.2.2.1.1 ≠ 0 ∧ 0 ≤ p.toInt ∧ p.toInt < n + m then 1 else 0) := by
  obtain ⟨hc, hw, hs⟩ := slV_cs hsl
  have hst := zI_st hz
  have hn := hw.1.2.2.1
  have hm := hw.1.2.2.2
  unfold X11_hasPlace X11_hasPlace_b37 X11_hasPlace_b38
  refine gp_rR (cs_me hc) rfl ?_
  refine gp_rI (cs_solv hc) rfl ?_
  rw [slV_st hsl]
  refine gp_if (fun z => ?_) (fun z => ?_)
  · rw [show (0 : Int32) = nI 0 from rfl, nI_eq (by omega) (by omega)] at z
    refine gp_zz (Or.inl rfl) (gp_ret ⟨rfl, ?_⟩)
    rw [if_neg (fun w => w.1 z)]
  rw [show (0 : Int32) = nI 0 from rfl, nI_eq (by omega) (by omega)] at z
  refine gp_if (fun y => ?_) (fun y => ?_)
  · rw [i32_lt0] at y
    refine gp_zz (Or.inl rfl) (gp_ret ⟨rfl, ?_⟩)
    rw [if_neg (by omega)]
  rw [i32_lt0] at y
  refine gp_rR (cs_me hc) rfl ?_
  refine gp_rI (cs_rows hc) rfl ?_
  refine gp_rR (cs_me hc) rfl ?_
  refine gp_rI (cs_rows hc) rfl ?_
  rw [hw.1.1, hw.1.2.1, nI_add]
  refine gp_if (fun x => ?_) (fun x => ?_)
  · rw [i32_le (by omega)] at x
    refine gp_zz (Or.inl rfl) (gp_ret ⟨rfl, ?_⟩)
    rw [if_neg (by omega)]
  · rw [i32_le (by omega)] at x
    refine gp_zz (Or.inr rfl) (gp_ret ⟨rfl, ?_⟩)
    rw [if_pos ⟨z, by omega, by omega⟩]
end M4
def isPl (p : Int32) (st n m : Nat) : Prop := st ≠ 0 ∧ 0 ≤ p.toInt ∧ p.toInt < n + m
def mBas (p : Int32) : zF → Int32
  | ((n, m, _, _, _, _, _), ((_, _, _, bs, _), _, (st, _, _, _, _), _, _), _, _, _, _) => if st ≠ 0 ∧ 0 ≤ p.toInt ∧ p.toInt < n + m then (if ix bs p.toInt.toNat m = none then 0 else 1) else -1
def mVal (p : Int32) : zF → zF × Int32
  | ((n, m, A, kd, bb, wh, dr), ((D, T, va, bs, cl), tr, (st, sp, ex, cf, spl), mp, mq), wp, wq, hd, ah) => if st ≠ 0 ∧ 0 ≤ p.toInt ∧ p.toInt < n + m then (match ix bs p.toInt.toNat m with
    | some r => (((n, m, A, kd, bb, wh, dr), ((D, T, va, bs, cl), tr, (st, sp, ex, cf, spl), mp, mq), wp, wq, rd (amt n T va r) D, true), isg (amt n T va r))
    | none => match ix cl p.toInt.toNat n with
      | some c => (((n, m, A, kd, bb, wh, dr), ((D, T, va, bs, cl), tr, (st, sp, ex, cf, spl), mp, mq), wp, wq, rd (va c) 1, true), isg (va c))
      | none => (((n, m, A, kd, bb, wh, dr), ((D, T, va, bs, cl), tr, (st, sp, ex, cf, spl), mp, mq), wp, wq, hd, ah), -4)) else (((n, m, A, kd, bb, wh, dr), ((D, T, va, bs, cl), tr, (st, sp, ex, cf, spl), mp, mq), wp, wq, hd, ah), -4)
def mTol (p b : Int32) : zF → zF × Int32
  | ((n, m, A, kd, bb, wh, dr), ((D, T, va, bs, cl), tr, (st, sp, ex, cf, spl), mp, mq), wp, wq, hd, ah) => if (st ≠ 0 ∧ 0 ≤ p.toInt ∧ p.toInt < n + m) ∧ 0 ≤ b.toInt ∧ b.toInt < n + m then (match ix bs p.toInt.toNat m with
    | some r => (match ix cl b.toInt.toNat n with
      | some c => (((n, m, A, kd, bb, wh, dr), ((D, T, va, bs, cl), tr, (st, sp, ex, cf, spl), mp, mq), wp, wq, rd (T r c) D, true), isg (T r c))
      | none => (((n, m, A, kd, bb, wh, dr), ((D, T, va, bs, cl), tr, (st, sp, ex, cf, spl), mp, mq), wp, wq, hd, ah), -4))
    | none => (((n, m, A, kd, bb, wh, dr), ((D, T, va, bs, cl), tr, (st, sp, ex, cf, spl), mp, mq), wp, wq, hd, ah), -4)) else (((n, m, A, kd, bb, wh, dr), ((D, T, va, bs, cl), tr, (st, sp, ex, cf, spl), mp, mq), wp, wq, hd, ah), -4)
def taP (o : Nat) : Nat → Prop := fun x => x = o ∨ (o + 20 ≤ x ∧ x ≤ o + 29) ∨ (o + 342 ≤ x ∧ x ≤ o + 346)
section M5
variable {P : Nat → Prop} {σ σ1 : tz_S} {f o N n m q K lc st sp ex cf spl : Nat} {A T : Nat → Nat → Int} {kd : Nat → Nat} {bb dr : Nat → Int} {wh : Nat → Bool} {D : Int} {va : Nat → Int} {bs cl : Nat → Nat} {tr : zTr} {mp mq : Nat → Nat → Int × Int} {wp wq : Nat → Int × Int} {hd : Int × Int} {ah : Bool} {Z : zS}
theorem isg_rd {p q : Int} (hq : 0 < q) : isg (rd p q).1 = isg p := by
  obtain ⟨h1, h2, -⟩ := rd_ok (p := p) hq
  exact isg_same hq h1 (by rw [← h2]; exact Int.mul_comm _ _)
theorem c_take {p q : Int} (hc : cSh σ o N) (h : Fz σ (o + 342) 12 p q) (hq : 0 < q) (hf : 30000 ≤ f) : gp (X11_takeToHand f (some o)) σ (fun y σ' => Fr (taP o) σ σ' ∧ Fz σ' (o + 342) 12 (rd p q).1 (rd p q).2 ∧ tz_F σ' o 9 = 1 ∧ y = isg p) := by
  have hN := cs_N hc
  unfold X11_takeToHand
  refine gp_rR (cs_me hc) rfl ?_
  refine gp_rR (cs_me hc) rfl ?_
  refine gp_cV (cs_div hc).1 (gp_mono (c_reduce (cs_div hc) (by omega) h hq (by omega) (by omega) (Or.inl (by omega))) ?_)
  rintro _ σ1 ⟨hF, hz⟩
  have hc1 := cs_fr hc hF
  have hz1 : Fz σ1 (o + 342) 12 (rd p q).1 (rd p q).2 := hz
  have hF1 : Fr (taP o) σ σ1 := Fr_mono hF (fun x z => by unfold redP divQ fP at z; unfold taP; omega)
  refine gp_zz (Or.inr rfl) ?_
  refine gp_wI (cs_me hc1) rfl ?_
  have hF2 : Fr (fun x => x = o) σ1 (tz_sF σ1 o 9 1) := Fr_sF rfl
  have hc2 := cs_fr hc1 hF2
  have hz2 := Fz_fr hz1 hF2 (fun x a b => by omega)
  have h9 : tz_F (tz_sF σ1 o 9 1) o 9 = 1 := tz_u2_same _ _ _ _
  refine gp_rR (cs_me hc2) rfl ?_
  refine gp_rR hz2.1 rfl ?_
  refine gp_rI (Bz_cl hz2.2.1) rfl ?_
  refine gp_ret ⟨Fr_trans hF1 (Fr_mono hF2 (fun x z => Or.inl z)), hz2, h9, ?_⟩
  rw [Bz_sign hz2.2.1, isg_rd hq]
theorem clW_hd {hd2 : Int × Int} (h : clW σ o N wp hd ah) (hF : Fr P σ σ1) (hP : ∀ x, P x → x = o ∨ (o + 19 ≤ x ∧ x ≤ o + 29) ∨ (o + 342 ≤ x ∧ x ≤ o + 346)) (h2 : Fz σ1 (o + 342) 12 hd2.1 hd2.2) (h9 : tz_F σ1 o 9 = 1) : clW σ1 o N wp hd2 true := by
  obtain ⟨a, b, c, d⟩ := h
  exact ⟨smOk_fr a hF (fun z => by have := hP _ z; omega) (fun z => by have := hP _ z; omega), fun x hx => Fz_fr (b x hx) hF (fun y e1 e2 z => by have := hP _ z; omega), h2, by rw [h9]; rfl⟩
theorem c_basic {p : Int32} (h : clV σ o q N ((n, m, A, kd, bb, wh, dr), ((D, T, va, bs, cl), tr, (st, sp, ex, cf, spl), mp, mq), wp, wq, hd, ah)) (ho : okF ((n, m, A, kd, bb, wh, dr), ((D, T, va, bs, cl), tr, (st, sp, ex, cf, spl), mp, mq), wp, wq, hd, ah)) : gp (X11_basic f (some o) p) σ (fun y σ' => σ' = σ ∧ y = mBas p ((n, m, A, kd, bb, wh, dr), ((D, T, va, bs, cl), tr, (st, sp, ex, cf, spl), mp, mq), wp, wq, hd, ah)) := by
  obtain ⟨K, lc, up, fi, se, vr, fo, to, cd, ln, op⟩ := tr
  obtain ⟨hsl, hW⟩ := clV_un h
  obtain ⟨hr, hz, -⟩ := okF_un ho
  obtain ⟨hc, hw, hs, ht, hct, hlf, htb, hbn⟩ := slV_un hsl
  obtain ⟨-, z4, -⟩ := zI_un hz
  unfold X11_basic X11_basic_b26
  unfold mBas
  simp only
  refine gp_cV (cs_me hc) (gp_mono (c_hasPlace hsl hz) ?_)
  rintro y σ0 ⟨e0, hy⟩
  rw [e0]
  clear e0 σ0
  refine gp_if (fun z => ?_) (fun z => ?_)
  · have := ite0 hy z
    rw [if_neg this]
    exact gp_ret ⟨rfl, rfl⟩
  have hx : st ≠ 0 ∧ 0 ≤ p.toInt ∧ p.toInt < n + m := ite1 hy z
  rw [if_pos hx]
  obtain ⟨k, hk, hk31, hk2⟩ := i32_nat hx.2.1
  have ht1 := htb hx.1
  obtain ⟨-, -, hpm, -⟩ := z4 hx.1
  have hm12 := ht1.1.2.2.2
  rw [show p.toInt.toNat = k by omega, hk]
  refine gp_rR (cs_me hc) rfl ?_
  rcases hpm.2.2.2.2.2 k (by omega) with ⟨r, hrm, hbr⟩ | ⟨c, hcn, hcc⟩
  · rw [← hbr]
    refine gp_cV (cs_tab hc) (gp_mono (c_rowOfR hc ht1 hrm) ?_)
    rintro y σ0 ⟨e0, rfl⟩
    rw [e0, tb_ixR ht1 hrm]
    exact gp_f (nI_pos (by omega)) (gp_ret ⟨rfl, by simp⟩)
  · rw [← hcc]
    refine gp_cV (cs_tab hc) (gp_mono (c_rowOfC hc ht1 hcn) ?_)
    rintro y σ0 ⟨e0, rfl⟩
    rw [e0, tb_ixRn ht1 hcn]
    exact gp_t (by decide) (gp_ret ⟨rfl, by simp⟩)
theorem p90_12 {x : Nat} (h : x < 10 ^ 90) : (x : Int) < 1000000000 ^ 12 := p9 h (by omega)
theorem c_value {p : Int32} (h : clV σ o q N ((n, m, A, kd, bb, wh, dr), ((D, T, va, bs, cl), tr, (st, sp, ex, cf, spl), mp, mq), wp, wq, hd, ah)) (ho : okF ((n, m, A, kd, bb, wh, dr), ((D, T, va, bs, cl), tr, (st, sp, ex, cf, spl), mp, mq), wp, wq, hd, ah)) (hf : 30000 ≤ f) : gp (X11_value f (some o) p) σ (cPo σ o q N (mVal p ((n, m, A, kd, bb, wh, dr), ((D, T, va, bs, cl), tr, (st, sp, ex, cf, spl), mp, mq), wp, wq, hd, ah)).1 (mVal p ((n, m, A, kd, bb, wh, dr), ((D, T, va, bs, cl), tr, (st, sp, ex, cf, spl), mp, mq), wp, wq, hd, ah)).2) := by
  obtain ⟨K, lc, up, fi, se, vr, fo, to, cd, ln, op⟩ := tr
  obtain ⟨hsl, hW⟩ := clV_un h
  obtain ⟨hr, hz, -⟩ := okF_un ho
  obtain ⟨hc, hw, hs, ht, hct, hlf, htb, hbn⟩ := slV_un hsl
  obtain ⟨-, z4, -⟩ := zI_un hz
  unfold X11_value
  unfold mVal
  simp only
  refine gp_cV (cs_me hc) (gp_mono (c_hasPlace hsl hz) ?_)
  rintro y σ0 ⟨e0, hy⟩
  rw [e0]
  clear e0 σ0
  refine gp_if (fun z => ?_) (fun z => ?_)
  · have := ite0 hy z
    rw [if_neg this]
    exact gp_ret (cPo_0 h rfl)
  have hx : st ≠ 0 ∧ 0 ≤ p.toInt ∧ p.toInt < n + m := ite1 hy z
  rw [if_pos hx]
  obtain ⟨k, hk, hk31, hk2⟩ := i32_nat hx.2.1
  have ht1 := htb hx.1
  obtain ⟨-, hI, hpm, hva, -⟩ := z4 hx.1
  have hm12 := ht1.1.2.2.2
  rw [show p.toInt.toNat = k by omega, hk]
  refine gp_rR (cs_me hc) rfl ?_
  refine gp_rR (cs_me hc) rfl ?_
  have fin : ∀ (σ1 : tz_S) (x y : Int), 0 < y → Fr (fP (o + 342)) σ σ1 → Fz σ1 (o + 342) 12 x y → gp (pz_cV 11 (some o) (X11_takeToHand f (some o)) fun x5 => pz_ret x5) σ1 (cPo σ o q N ((n, m, A, kd, bb, wh, dr), ((D, T, va, bs, cl), (K, lc, up, fi, se, vr, fo, to, cd, ln, op), (st, sp, ex, cf, spl), mp, mq), wp, wq, rd x y, true) (isg x)) := by
    intro σ1 x y hy0 hF hz1
    have hc1 := cs_fr hc hF
    refine gp_cV (cs_me hc1) (gp_mono (c_take hc1 hz1 hy0 hf) ?_)
    rintro s σ2 ⟨hF2, hz2, h9, hs2⟩
    have hFa : Fr (taP o) σ σ2 := Fr_trans (Fr_mono hF (fun x z => by unfold fP at z; unfold taP; omega)) hF2
    exact gp_ret (cPo_fr hFa (fun x z => by unfold taP at z; unfold clP; omega) (clV_mk (slV_fr hsl hFa (fun x z => by unfold taP at z; omega)) (clW_hd hW hFa (fun x z => by unfold taP at z; omega) hz2 h9)) hs2)
  rcases hpm.2.2.2.2.2 k (by omega) with ⟨r, hrm, hbr⟩ | ⟨c, hcn, hcc⟩
  · rw [← hbr, tb_ixR ht1 hrm]
    refine gp_cV (cs_tab hc) (gp_mono (c_copyValueR (t := o + 342) hc ht1 (by omega) hrm (cs_hand hc) (by omega)) ?_)
    rintro _ σ1 ⟨hF, hz1⟩
    exact fin σ1 _ _ hI.1 hF hz1
  · rw [← hcc, tb_ixRn ht1 hcn]
    simp only
    rw [tb_ixC ht1 hcn]
    have hvc := hva c hcn
    refine gp_cV (cs_tab hc) (gp_mono (c_copyValueC (t := o + 342) hc ht1 (by omega) hcn (cs_hand hc) (by omega)) ?_)
    rintro _ σ1 ⟨hF, hz1⟩
    exact fin σ1 _ _ (by decide) hF hz1
theorem c_told {p b : Int32} (h : clV σ o q N ((n, m, A, kd, bb, wh, dr), ((D, T, va, bs, cl), tr, (st, sp, ex, cf, spl), mp, mq), wp, wq, hd, ah)) (ho : okF ((n, m, A, kd, bb, wh, dr), ((D, T, va, bs, cl), tr, (st, sp, ex, cf, spl), mp, mq), wp, wq, hd, ah)) (hf : 30000 ≤ f) : gp (X11_told f (some o) p b) σ (cPo σ o q N (mTol p b ((n, m, A, kd, bb, wh, dr), ((D, T, va, bs, cl), tr, (st, sp, ex, cf, spl), mp, mq), wp, wq, hd, ah)).1 (mTol p b ((n, m, A, kd, bb, wh, dr), ((D, T, va, bs, cl), tr, (st, sp, ex, cf, spl), mp, mq), wp, wq, hd, ah)).2) := by
  obtain ⟨K, lc, up, fi, se, vr, fo, to, cd, ln, op⟩ := tr
  obtain ⟨hsl, hW⟩ := clV_un h
  obtain ⟨hr, hz, -⟩ := okF_un ho
  obtain ⟨hc, hw, hs, ht, hct, hlf, htb, hbn⟩ := slV_un hsl
  obtain ⟨-, z4, -⟩ := zI_un hz
  unfold X11_told X11_told_b16 X11_told_b47
  unfold mTol
  simp only
  refine gp_cV (cs_me hc) (gp_mono (c_hasPlace hsl hz) ?_)
  rintro y σ0 ⟨e0, hy⟩
  rw [e0]
  clear e0 σ0
  refine gp_if (fun z => ?_) (fun z => ?_)
  · have := ite0 hy z
    rw [if_neg (fun w => this w.1)]
    exact gp_ret (cPo_0 h rfl)
  have hx : st ≠ 0 ∧ 0 ≤ p.toInt ∧ p.toInt < n + m := ite1 hy z
  refine gp_cV (cs_me hc) (gp_mono (c_hasPlace hsl hz) ?_)
  rintro y2 σ0 ⟨e0, hy2⟩
  rw [e0]
  clear e0 σ0
  refine gp_if (fun z => ?_) (fun z => ?_)
  · have := ite0 hy2 z
    rw [if_neg (fun w => this ⟨hx.1, w.2⟩)]
    exact gp_ret (cPo_0 h rfl)
  have hx2 : st ≠ 0 ∧ 0 ≤ b.toInt ∧ b.toInt < n + m := ite1 hy2 z
  rw [if_pos ⟨hx, hx2.2⟩]
  obtain ⟨k, hk, hk31, hk2⟩ := i32_nat hx.2.1
  obtain ⟨k2, hkb, hkb31, hkb2⟩ := i32_nat hx2.2.1
  have ht1 := htb hx.1
  obtain ⟨-, hI, hpm, hva, -⟩ := z4 hx.1
  have hm12 := ht1.1.2.2.2
  have hn10 := ht1.1.2.2.1
  rw [show p.toInt.toNat = k by omega, show b.toInt.toNat = k2 by omega, hk, hkb]
  refine gp_rR (cs_me hc) rfl ?_
  rcases hpm.2.2.2.2.2 k (by omega) with ⟨r, hrm, hbr⟩ | ⟨c, hcn, hcc⟩
  rotate_left
  · rw [← hcc, tb_ixRn ht1 hcn]
    refine gp_cV (cs_tab hc) (gp_mono (c_rowOfC hc ht1 hcn) ?_)
    rintro y σ0 ⟨e0, rfl⟩
    rw [e0]
    clear e0 σ0
    refine gp_rR (cs_me hc) rfl ?_
    have hcol : ∃ w, gp (X9_columnOf f (some (o + 32)) (nI k2)) σ (fun y σ' => σ' = σ ∧ y = w) := by
      rcases hpm.2.2.2.2.2 k2 (by omega) with ⟨r, hrm, hbr⟩ | ⟨c, hcn, hcc⟩
      · rw [← hbr]; exact ⟨_, c_columnOfR hc ht1 hrm⟩
      · rw [← hcc]; exact ⟨_, c_columnOfC hc ht1 hcn⟩
    obtain ⟨w, hcol⟩ := hcol
    refine gp_cV (cs_tab hc) (gp_mono hcol ?_)
    rintro y σ0 ⟨e0, rfl⟩
    rw [e0]
    exact gp_t (by decide) (gp_ret (cPo_0 h rfl))
  rw [← hbr, tb_ixR ht1 hrm]
  refine gp_cV (cs_tab hc) (gp_mono (c_rowOfR hc ht1 hrm) ?_)
  rintro y σ0 ⟨e0, rfl⟩
  rw [e0]
  clear e0 σ0
  refine gp_rR (cs_me hc) rfl ?_
  rcases hpm.2.2.2.2.2 k2 (by omega) with ⟨r2, hrm2, hbr2⟩ | ⟨c, hcn, hcc⟩
  · rw [← hbr2, tb_ixCn ht1 hrm2]
    refine gp_cV (cs_tab hc) (gp_mono (c_columnOfR hc ht1 hrm2) ?_)
    rintro y σ0 ⟨e0, rfl⟩
    rw [e0]
    exact gp_f (nI_pos (by omega)) (gp_f (by decide) (gp_ret (cPo_0 h rfl)))
  rw [← hcc, tb_ixC ht1 hcn]
  refine gp_cV (cs_tab hc) (gp_mono (c_columnOfC hc ht1 hcn) ?_)
  rintro y σ0 ⟨e0, rfl⟩
  rw [e0]
  clear e0 σ0
  refine gp_f (nI_pos (by omega)) (gp_t (by rw [show (0 : Int32) = nI 0 from rfl, nI_leI (by omega) (by omega)]; omega) ?_)
  refine gp_rR (cs_me hc) rfl ?_
  refine gp_rR (cs_me hc) rfl ?_
  refine gp_cV (cs_tab hc) (gp_mono (c_cell hc (by omega) (by omega)) ?_)
  rintro y σ0 ⟨e0, rfl⟩
  rw [e0]
  clear e0 σ0
  refine gp_rR (cs_me hc) rfl ?_
  refine gp_rR (cs_tab hc) rfl ?_
  have hT := ht1.2.2.1 r c hrm hcn
  have hTl := Bz_lt hT
  have hDl := Bz_lt ht1.2.1
  have hpm8 := mg_pmono (show 8 ≤ 12 by omega)
  refine gp_cV (cs_hand hc).1 (gp_mono (c_setQuotient (turn := 1) (cs_hand hc) (by omega) hT ht1.2.1 (by omega) (by omega) (Or.inr (Or.inl rfl)) (by omega)) ?_)
  rintro _ σ1 ⟨hF, hz1⟩
  have hc1 := cs_fr hc hF
  rw [show T r c * (1 : Int32).toInt = T r c from Int.mul_one _] at hz1
  refine gp_cV (cs_me hc1) (gp_mono (c_take hc1 hz1 hI.1 hf) ?_)
  rintro s σ2 ⟨hF2, hz2, h9, hs2⟩
  have hFa : Fr (taP o) σ σ2 := Fr_trans (Fr_mono hF (fun x z => by unfold fP at z; unfold taP; omega)) hF2
  exact gp_ret (cPo_fr hFa (fun x z => by unfold taP at z; unfold clP; omega) (clV_mk (slV_fr hsl hFa (fun x z => by unfold taP at z; omega)) (clW_hd hW hFa (fun x z => by unfold taP at z; omega) hz2 h9)) hs2)
end M5
