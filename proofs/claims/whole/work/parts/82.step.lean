/-! ===== Solving: split, doStep ===== -/
def slV (σ : tz_S) (o q N n m : Nat) (A : Nat → Nat → Int) (kd : Nat → Nat) (bb : Nat → Int) (wh : Nat → Bool) (dr : Nat → Int) : zS → Prop
  | ((D, T, va, bs, cl), (K, lc, up, fi, se, vr, fo, to, cd, ln, op), (st, sp, ex, cf, spl), mp, _) =>
    cSh σ o N ∧ rwV σ o n m A kd bb wh dr ∧ smOk σ (o + 30) N ∧ trV σ o q K lc up fi se vr fo to cd ln op ∧ ctV σ o st sp ex cf spl ∧ (∀ i, i < lc → lfV σ (lfA o i) (mp i)) ∧
    (st ≠ 0 → tbV σ o n m D T (amt n T va) va bs cl) ∧ (st = 1 → ∀ k, op = some k → bnA σ (o + 323) (n + m) (UB n kd bb vr fo up fi k) (LB n kd bb vr fo up fi k))
section SY
variable {f o N n m q K lc st sp ex cf spl k : Nat} {σ : tz_S} {A T : Nat → Nat → Int} {kd : Nat → Nat} {bb dr : Nat → Int} {wh : Nat → Bool} {D : Int} {va : Nat → Int} {bs cl : Nat → Nat} {up fi se : Nat → Option Nat} {vr : Nat → Nat} {fo to : Nat → Int} {cd : Nat → Bool} {ln : Nat → Nat} {op : Option Nat} {mp mq : Nat → Nat → Int × Int}
theorem slV_mk (h1 : cSh σ o N) (h2 : rwV σ o n m A kd bb wh dr) (h3 : smOk σ (o + 30) N) (h4 : trV σ o q K lc up fi se vr fo to cd ln op) (h5 : ctV σ o st sp ex cf spl) (h6 : ∀ i, i < lc → lfV σ (lfA o i) (mp i)) (h7 : st ≠ 0 → tbV σ o n m D T (amt n T va) va bs cl) (h8 : st = 1 → ∀ k, op = some k → bnA σ (o + 323) (n + m) (UB n kd bb vr fo up fi k) (LB n kd bb vr fo up fi k)) : slV σ o q N n m A kd bb wh dr ((D, T, va, bs, cl), (K, lc, up, fi, se, vr, fo, to, cd, ln, op), (st, sp, ex, cf, spl), mp, mq) :=
  And.intro h1 (And.intro h2 (And.intro h3 (And.intro h4 (And.intro h5 (And.intro h6 (And.intro h7 h8))))))
theorem slV_un (h : slV σ o q N n m A kd bb wh dr ((D, T, va, bs, cl), (K, lc, up, fi, se, vr, fo, to, cd, ln, op), (st, sp, ex, cf, spl), mp, mq)) : cSh σ o N ∧ rwV σ o n m A kd bb wh dr ∧ smOk σ (o + 30) N ∧ trV σ o q K lc up fi se vr fo to cd ln op ∧ ctV σ o st sp ex cf spl ∧ (∀ i, i < lc → lfV σ (lfA o i) (mp i)) ∧ (st ≠ 0 → tbV σ o n m D T (amt n T va) va bs cl) ∧ (st = 1 → ∀ k, op = some k → bnA σ (o + 323) (n + m) (UB n kd bb vr fo up fi k) (LB n kd bb vr fo up fi k)) := h
theorem ct_set {j : Nat} {v : Int32} (h : ctV σ o st sp ex cf spl) : ctV (tz_sF σ (o + 322) j v) o st sp ex cf spl ∨ True := Or.inr trivial
theorem ct_4 {v : Nat} (h : ctV σ o st sp ex cf spl) : ctV (tz_sF σ (o + 322) 4 (nI v)) o v sp ex cf spl := by
  obtain ⟨c1, c2, c3, c4, c5⟩ := h
  show tz_u2 (tz_F σ) (o + 322) 4 (nI v) (o + 322) 4 = _ ∧ tz_u2 (tz_F σ) (o + 322) 4 (nI v) (o + 322) 5 = _ ∧ tz_u2 (tz_F σ) (o + 322) 4 (nI v) (o + 322) 6 = _ ∧ tz_u2 (tz_F σ) (o + 322) 4 (nI v) (o + 322) 7 = _ ∧ tz_u2 (tz_F σ) (o + 322) 4 (nI v) (o + 322) 8 = _
  simp [tz_u2, c2, c3, c4, c5]
theorem ct_5 {v : Nat} (h : ctV σ o st sp ex cf spl) : ctV (tz_sF σ (o + 322) 5 (nI v)) o st v ex cf spl := by
  obtain ⟨c1, c2, c3, c4, c5⟩ := h
  show tz_u2 (tz_F σ) (o + 322) 5 (nI v) (o + 322) 4 = _ ∧ tz_u2 (tz_F σ) (o + 322) 5 (nI v) (o + 322) 5 = _ ∧ tz_u2 (tz_F σ) (o + 322) 5 (nI v) (o + 322) 6 = _ ∧ tz_u2 (tz_F σ) (o + 322) 5 (nI v) (o + 322) 7 = _ ∧ tz_u2 (tz_F σ) (o + 322) 5 (nI v) (o + 322) 8 = _
  simp [tz_u2, c1, c3, c4, c5]
theorem ct_6 {v : Nat} (h : ctV σ o st sp ex cf spl) : ctV (tz_sF σ (o + 322) 6 (nI v)) o st sp v cf spl := by
  obtain ⟨c1, c2, c3, c4, c5⟩ := h
  show tz_u2 (tz_F σ) (o + 322) 6 (nI v) (o + 322) 4 = _ ∧ tz_u2 (tz_F σ) (o + 322) 6 (nI v) (o + 322) 5 = _ ∧ tz_u2 (tz_F σ) (o + 322) 6 (nI v) (o + 322) 6 = _ ∧ tz_u2 (tz_F σ) (o + 322) 6 (nI v) (o + 322) 7 = _ ∧ tz_u2 (tz_F σ) (o + 322) 6 (nI v) (o + 322) 8 = _
  simp [tz_u2, c1, c2, c4, c5]
theorem ct_7 {v : Nat} (h : ctV σ o st sp ex cf spl) : ctV (tz_sF σ (o + 322) 7 (nI v)) o st sp ex v spl := by
  obtain ⟨c1, c2, c3, c4, c5⟩ := h
  show tz_u2 (tz_F σ) (o + 322) 7 (nI v) (o + 322) 4 = _ ∧ tz_u2 (tz_F σ) (o + 322) 7 (nI v) (o + 322) 5 = _ ∧ tz_u2 (tz_F σ) (o + 322) 7 (nI v) (o + 322) 6 = _ ∧ tz_u2 (tz_F σ) (o + 322) 7 (nI v) (o + 322) 7 = _ ∧ tz_u2 (tz_F σ) (o + 322) 7 (nI v) (o + 322) 8 = _
  simp [tz_u2, c1, c2, c3, c5]
theorem ct_8 {v : Nat} (h : ctV σ o st sp ex cf spl) : ctV (tz_sF σ (o + 322) 8 (nI v)) o st sp ex cf v := by
  obtain ⟨c1, c2, c3, c4, c5⟩ := h
  show tz_u2 (tz_F σ) (o + 322) 8 (nI v) (o + 322) 4 = _ ∧ tz_u2 (tz_F σ) (o + 322) 8 (nI v) (o + 322) 5 = _ ∧ tz_u2 (tz_F σ) (o + 322) 8 (nI v) (o + 322) 6 = _ ∧ tz_u2 (tz_F σ) (o + 322) 8 (nI v) (o + 322) 7 = _ ∧ tz_u2 (tz_F σ) (o + 322) 8 (nI v) (o + 322) 8 = _
  simp [tz_u2, c1, c2, c3, c4]
/-- a write into Solving alone changes nothing else -/
theorem sv_fr {j : Nat} {v : Int32} : Fr (fun x => x = o + 322) σ (tz_sF σ (o + 322) j v) := Fr_sF rfl
theorem c_far {x4 : Int64} {a : Int} (ha : x4.toInt = a) : (0 < lg_cmp x4 1000000000000000000 ↔ 1000000000000000000 < a) ∧ (0 ≤ lg_cmp x4 (-1000000000000000000) ↔ -1000000000000000000 ≤ a) := by
  rw [lg_cmp_gt, lg_cmp_ge, Int64.lt_iff_toInt_lt, Int64.le_iff_toInt_le, ha]
  exact ⟨Iff.rfl, Iff.rfl⟩
theorem c_splitD (hc : cSh σ o N) : gp (X7_split_b73 f (some (o + 322))) σ (fun _ σ' => σ' = tz_sF σ (o + 322) 4 (nI 4)) := by
  unfold X7_split_b73
  refine gp_wI (cs_solv hc) rfl ?_
  exact gp_ret rfl
set_option maxHeartbeats 1000000 in
theorem c_split {r x : Nat} (hc : cSh σ o N) (hr : rwI n m A kd bb dr) (hw : rwV σ o n m A kd bb wh dr) (hs : smOk σ (o + 30) N) (ht : trV σ o q K lc up fi se vr fo to cd ln (some k)) (hA : stA n K lc up fi se vr fo to ln) (ho : stO K lc spl up fi se ln k) (hct : ctV σ o 1 sp ex cf spl)
    (htb : tbV σ o n m D T (amt n T va) va bs cl) (hI : tbI n m A D T bs cl) (hbn : bnA σ (o + 323) (n + m) (UB n kd bb vr fo up fi k) (LB n kd bb vr fo up fi k)) (hlf : ∀ i, i < lc → lfV σ (lfA o i) (mp i)) (hrm : r < m) (hbr : bs r = x) (hxn : x < n) (hmod : amt n T va r % D ≠ 0) (hf : 2000 ≤ f) :
    gp (X7_split f (some (o + 322)) (nI x)) σ (fun _ σ' => tz_ns σ' = tz_ns σ ∧ Gr (slP o) σ σ' ∧ slV σ' o q N n m A kd bb wh dr (if (1000000000000000000 < flr (amt n T va r) D ∨ flr (amt n T va r) D < -1000000000000000000) ∨ 150 ≤ spl ∨ 24 ≤ (pt up fi k).length then ((D, T, va, bs, cl), (K, lc, up, fi, se, vr, fo, to, cd, ln, some k), (4, sp, ex, cf, spl), mp, mq)
            else ((D, T, va, bs, cl), (K + 1, lc, ups up K (some k), ups (ups fi k (some K)) K none, ups se K none, ups vr k x, ups fo k (flr (amt n T va r) D), ups to k (flr (amt n T va r) D), ups cd K false, ups ln K (ln k), some K), (1, sp, ex, cf, spl + 1), ups mp (ln k) (fun _ => (0, 1)), ups mq (ln k) (fun _ => (0, 1))))) := by
  have hk : k < K := by have := ho.1; omega
  have hn1 := hr.1.1
  have hm1 := hr.1.2
  have hfk := ho.2.1
  have hspl := ho.2.2.2.2.2.2.2
  have hK3 := ht.1.2.2.2.1
  have hlen := pt_len (fi := fi) (stA_up hA) k hk
  unfold X7_split
  refine gp_rR (cs_solv hc) rfl ?_
  refine gp_rR (cs_solv hc) rfl ?_
  have hrow : gp (X9_rowOf f (some (o + 32)) (nI x)) σ (fun y σ' => σ' = σ ∧ y = nI r) := by rw [← hbr]; exact c_rowOfR hc htb hrm
  refine gp_cV (cs_tab hc) (gp_mono hrow ?_)
  rintro y σ0 ⟨z0, rfl⟩
  rw [z0]
  clear z0 σ0
  refine gp_cV (cs_tab hc) (gp_mono (c_floorOfAmount hc htb hf hrm hI.1 hmod) ?_)
  rintro x4 σ1 ⟨hF, hx4⟩
  have hc1 := cs_fr hc hF
  have hw1 := rwV_fr hw hF (fun x a b => by unfold divP; omega)
  have hs1 := smOk_fr hs hF (by unfold divP; omega) (by unfold divP; omega)
  have hct1 := ctV_fr hct hF (by unfold divP; omega)
  have htb1 := tbV_fr htb hF (fun x a b => by unfold divP; omega) (fun x a b => by unfold divP; omega)
  have ht1 := trV_fr ht hF (fun x a b => by unfold divP; omega)
  have hlf1 : ∀ i, i < lc → lfV σ1 (lfA o i) (mp i) := fun i hi => lfV_fr (hlf i hi) hF (fun x a b => by unfold divP; unfold lfA at a; omega)
  have hbn1 := bnA_fr hbn hF (fun x a b => by unfold divP; omega)
  have hG1 : Gr (slP o) σ σ1 := Gr_of_Fr (Fr_mono hF (fun x z => by unfold divP at z; unfold slP; omega))
  have hns1 : tz_ns σ1 = tz_ns σ := hF.2.1
  clear hF hc hw hs hct htb ht hlf hbn
  obtain ⟨q1, q2⟩ := c_far hx4
  have deep : ∀ σ', σ' = tz_sF σ1 (o + 322) 4 (nI 4) → (1000000000000000000 < flr (amt n T va r) D ∨ flr (amt n T va r) D < -1000000000000000000) ∨ 150 ≤ spl ∨ 24 ≤ (pt up fi k).length → tz_ns σ' = tz_ns σ ∧ Gr (slP o) σ σ' ∧ slV σ' o q N n m A kd bb wh dr (if (1000000000000000000 < flr (amt n T va r) D ∨ flr (amt n T va r) D < -1000000000000000000) ∨ 150 ≤ spl ∨ 24 ≤ (pt up fi k).length then ((D, T, va, bs, cl), (K, lc, up, fi, se, vr, fo, to, cd, ln, some k), (4, sp, ex, cf, spl), mp, mq)
            else ((D, T, va, bs, cl), (K + 1, lc, ups up K (some k), ups (ups fi k (some K)) K none, ups se K none, ups vr k x, ups fo k (flr (amt n T va r) D), ups to k (flr (amt n T va r) D), ups cd K false, ups ln K (ln k), some K), (1, sp, ex, cf, spl + 1), ups mp (ln k) (fun _ => (0, 1)), ups mq (ln k) (fun _ => (0, 1)))) := by
    intro σ' e hd
    rw [if_pos hd, e]
    have hF := sv_fr (σ := σ1) (o := o) (j := 4) (v := nI 4)
    exact ⟨hns1, Gr_then hG1 hF (fun x z => by unfold slP; omega), slV_mk (cs_fr hc1 hF) (rwV_fr hw1 hF (fun x a b => by omega)) (smOk_fr hs1 hF (by omega) (by omega)) (trV_fr ht1 hF (fun x a b => by omega)) (ct_4 hct1) (fun i hi => lfV_fr (hlf1 i hi) hF (fun x a b => by unfold lfA at a; omega)) (fun _ => tbV_fr htb1 hF (fun x a b => by omega) (fun x a b => by omega)) (fun z => absurd z (by decide))⟩
  refine gp_if (fun z => ?_) (fun z => ?_)
  · unfold X7_split_b32 X7_split_b37
    refine gp_f (by decide) ?_
    exact gp_mono (c_splitD hc1) (fun _ σ' e => deep σ' e (Or.inl (Or.inl (q1.1 z))))
  refine gp_if (fun y => ?_) (fun y => ?_)
  rotate_left
  · unfold X7_split_b32 X7_split_b37
    refine gp_f (by decide) ?_
    refine gp_mono (c_splitD hc1) (fun _ σ' e => deep σ' e (Or.inl (Or.inr ?_)))
    rw [q2] at y
    omega
  rw [q1] at z
  rw [q2] at y
  unfold X7_split_b37
  refine gp_t rfl ?_
  refine gp_rI (cs_solv hc1) rfl ?_
  rw [hct1.2.2.2.2]
  refine gp_if (fun w => ?_) (fun w => ?_)
  · rw [show (150 : Int32) = nI 150 from rfl, nI_leI (by omega) (by omega)] at w
    exact gp_mono (c_splitD hc1) (fun _ σ' e => deep σ' e (Or.inr (Or.inl w)))
  rw [show (150 : Int32) = nI 150 from rfl, nI_leI (by omega) (by omega)] at w
  refine gp_rR (cs_solv hc1) rfl ?_
  refine gp_rR (cs_solv hc1) rfl ?_
  refine gp_rI (cs_tree hc1) rfl ?_
  rw [ht1.1.2.2.1]
  refine gp_cV (cs_tree hc1) (gp_mono (c_splitsAbove (k := k) hc1 ht1 (stA_w hA) hf hk) ?_)
  rintro y2 σ0 ⟨z0, rfl⟩
  rw [z0]
  clear z0 σ0
  refine gp_if (fun v => ?_) (fun v => ?_)
  rotate_left
  · rw [show (24 : Int32) = nI 24 from rfl, nI_ltI (by omega) (by omega)] at v
    exact gp_mono (c_splitD hc1) (fun _ σ' e => deep σ' e (Or.inr (Or.inr (by omega))))
  rw [show (24 : Int32) = nI 24 from rfl, nI_ltI (by omega) (by omega)] at v
  clear deep
  rw [if_neg (by omega)]
  refine gp_rI (cs_solv hc1) rfl ?_
  rw [hct1.2.2.2.2, nI_1]
  refine gp_wI (cs_solv hc1) rfl ?_
  have hF := sv_fr (σ := σ1) (o := o) (j := 8) (v := nI (spl + 1))
  have hc2 := cs_fr hc1 hF
  have hw2 := rwV_fr hw1 hF (fun x a b => by omega)
  have hs2 := smOk_fr hs1 hF (by omega) (by omega)
  have ht2 := trV_fr ht1 hF (fun x a b => by omega)
  have hct2 := ct_8 (v := spl + 1) hct1
  have hlf2 : ∀ i, i < lc → lfV (tz_sF σ1 (o + 322) 8 (nI (spl + 1))) (lfA o i) (mp i) := fun i hi => lfV_fr (hlf1 i hi) hF (fun x a b => by unfold lfA at a; omega)
  have htb2 := tbV_fr htb1 hF (fun x a b => by omega) (fun x a b => by omega)
  have hbn2 := bnA_fr hbn1 hF (fun x a b => by omega)
  have hG2 := Gr_then hG1 hF (fun x z => by unfold slP; omega)
  have hns2 : tz_ns (tz_sF σ1 (o + 322) 8 (nI (spl + 1))) = tz_ns σ := hns1
  clear hF hc1 hw1 hs1 ht1 hct1 hlf1 htb1 hbn1 hG1 hns1
  generalize tz_sF σ1 (o + 322) 8 (nI (spl + 1)) = σ2 at *
  refine gp_rR (cs_solv hc2) rfl ?_
  refine gp_rR (cs_solv hc2) rfl ?_
  refine gp_rI (cs_tree hc2) rfl ?_
  rw [ht2.1.2.2.1]
  refine gp_cV (cs_tree hc2) (gp_mono (c_setSplitAt (k := k) (x := x) (at1 := x4) hc2 ht2 hk hfk) ?_)
  rintro _ σ3 ⟨hF, ht3, hsp⟩
  rw [hx4] at ht3 hsp
  have hc3 := cs_fr hc2 hF
  have hw3 := rwV_fr hw2 hF (fun x a b => by omega)
  have hs3 := smOk_fr hs2 hF (by omega) (by omega)
  have hct3 := ctV_fr hct2 hF (by omega)
  have hlf3 : ∀ i, i < lc → lfV σ3 (lfA o i) (mp i) := fun i hi => lfV_fr (hlf2 i hi) hF (fun x a b => by unfold lfA at a; omega)
  have htb3 := tbV_fr htb2 hF (fun x a b => by omega) (fun x a b => by omega)
  have hbn3 := bnA_fr hbn2 hF (fun x a b => by omega)
  have hG3 := Gr_then hG2 hF (fun x z => by unfold slP; omega)
  have hns3 : tz_ns σ3 = tz_ns σ := hF.2.1.trans hns2
  clear hF hc2 hw2 hs2 ht2 hct2 hlf2 htb2 hbn2 hG2 hns2
  refine gp_rR (cs_solv hc3) rfl ?_
  refine gp_rR (cs_solv hc3) rfl ?_
  refine gp_rI (cs_tree hc3) rfl ?_
  rw [ht3.1.2.2.1]
  refine gp_cV (cs_tree hc3) (gp_mono (c_addLeafF (s := k) hc3 ht3 (stA_w hA) hf (by have := ho.2.2.2.1; have := ho.2.2.2.2.1; omega) hk hfk (by rw [ups_s, ups_s, ups_s]; exact hsp)) ?_)
  rintro _ σ4 ⟨hF, hlv, ht4⟩
  have hlnk : ln k < lc := by have := ho.2.2.1; omega
  have hP : ∀ x, adP o (ln k) x → (o + 312 ≤ x ∧ x ≤ o + 320) ∨ (lfA o (ln k) + 2 ≤ x ∧ x ≤ lfA o (ln k) + 161) := fun x z => z
  have hc4 := cs_fr hc3 hF
  have hw4 := rwV_fr hw3 hF (fun x a b z => by have := hP x z; unfold lfA at this; omega)
  have hs4 := smOk_fr hs3 hF (fun z => by have := hP _ z; unfold lfA at this; omega) (fun z => by have := hP _ z; unfold lfA at this; omega)
  have hct4 := ctV_fr hct3 hF (fun z => by have := hP _ z; unfold lfA at this; omega)
  have htb4 := tbV_fr htb3 hF (fun x a b z => by have := hP x z; unfold lfA at this; omega) (fun x a b z => by have := hP x z; unfold lfA at this; omega)
  have hlf4 : ∀ i, i < lc → lfV σ4 (lfA o i) (ups mp (ln k) (fun _ => (0, 1)) i) := fun i hi => by
    by_cases z : i = ln k
    · rw [z, ups_s]; exact hlv
    · rw [ups_n _ _ z]
      exact lfV_fr (hlf3 i hi) hF (fun x a b w => by have := hP x w; unfold lfA at this a b; omega)
  have hbr4 : ∀ p, n ≤ p → p < n + m → bp σ4 (o + 323) p (rub n kd bb p) (rlb n kd bb p) := fun p h1 h2 => bp_fr (bn_rows hbn3 p h1 h2) hF (fun x a b z => by have := hP x z; unfold lfA at this; omega)
  have hG4 := Gr_then hG3 hF (fun x z => by have := hP x z; unfold lfA at this; unfold slP; omega)
  have hns4 : tz_ns σ4 = tz_ns σ := hF.2.1.trans hns3
  clear hF hc3 hw3 hs3 ht3 hct3 hlf3 htb3 hbn3 hG3 hns3 hP hlv
  have hA4 := sp_A (x := x) (f := flr (amt n T va r) D) hA hk hfk hxn (by omega)
  refine gp_cV (cs_solv hc4) (gp_mono (c_setSplitBounds hc4 hw4 ht4 hA4 (by omega) hf) ?_)
  rintro _ σ5 ⟨hF, hb2, hb3⟩
  have hbn5 := bn_join hbr4 hb2 hb3
  refine gp_ret ⟨hF.2.1.trans hns4, Gr_then hG4 hF (fun x z => by unfold bnP at z; unfold slP; omega), slV_mk (cs_fr hc4 hF) (rwV_fr hw4 hF (fun x a b => by unfold bnP; omega)) (smOk_fr hs4 hF (by unfold bnP; omega) (by unfold bnP; omega)) (trV_fr ht4 hF (fun x a b => by unfold bnP; omega)) (ctV_fr hct4 hF (by unfold bnP; omega)) (fun i hi => lfV_fr (hlf4 i hi) hF (fun x a b => by unfold bnP; unfold lfA at a; omega)) (fun _ => tbV_fr htb4 hF (fun x a b => by unfold bnP; omega) (fun x a b => by unfold bnP; omega)) (fun _ k' e => by cases e; exact hbn5)⟩
end SY
