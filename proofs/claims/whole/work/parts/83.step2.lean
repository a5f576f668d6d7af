/-! ===== Solving.doStep ===== -/
section SZ2
variable {f o N n m q K lc st sp ex cf spl k : Nat} {P : Nat → Prop} {σ σ1 : tz_S} {A T : Nat → Nat → Int} {kd : Nat → Nat} {bb dr : Nat → Int} {wh : Nat → Bool} {D : Int} {va : Nat → Int} {bs cl : Nat → Nat} {up fi se : Nat → Option Nat} {vr : Nat → Nat} {fo to : Nat → Int} {cd : Nat → Bool} {ln : Nat → Nat} {op : Option Nat} {mp mq : Nat → Nat → Int × Int}
def slB (σ : tz_S) (o N q n m : Nat) (A : Nat → Nat → Int) (kd : Nat → Nat) (bb : Nat → Int) (wh : Nat → Bool) (dr : Nat → Int) (D : Int) (T : Nat → Nat → Int) (va : Nat → Int) (bs cl : Nat → Nat) (K lc : Nat) (up fi se : Nat → Option Nat) (vr : Nat → Nat) (fo to : Nat → Int) (cd : Nat → Bool) (ln : Nat → Nat) (mp : Nat → Nat → Int × Int) (k : Nat) : Prop :=
  cSh σ o N ∧ rwV σ o n m A kd bb wh dr ∧ trV σ o q K lc up fi se vr fo to cd ln (some k) ∧ (∀ i, i < lc → lfV σ (lfA o i) (mp i)) ∧ tbV σ o n m D T (amt n T va) va bs cl ∧ bnA σ (o + 323) (n + m) (UB n kd bb vr fo up fi k) (LB n kd bb vr fo up fi k)
theorem slB_fr (h : slB σ o N q n m A kd bb wh dr D T va bs cl K lc up fi se vr fo to cd ln mp k) (hF : Fr P σ σ1) (hP : ∀ x, P x → x = o + 322 ∨ (o + 19 ≤ x ∧ x ≤ o + 31)) : slB σ1 o N q n m A kd bb wh dr D T va bs cl K lc up fi se vr fo to cd ln mp k := by
  obtain ⟨h1, h2, h3, h4, h5, h6⟩ := h
  exact ⟨cs_fr h1 hF, rwV_fr h2 hF (fun x a b z => by have := hP x z; omega), trV_fr h3 hF (fun x a b z => by have := hP x z; omega), fun i hi => lfV_fr (h4 i hi) hF (fun x a b z => by have := hP x z; unfold lfA at a; omega), tbV_fr h5 hF (fun x a b z => by have := hP x z; omega) (fun x a b z => by have := hP x z; omega), bnA_fr h6 hF (fun x a b z => by have := hP x z; omega)⟩
theorem xT_if {r c : Nat} {g : Int} (i j : Nat) : (if i = r ∧ j = c then D * g else if i = r then T i j * (-g) else if j = c then T i j * g else xT D T r c g i j) = xT D T r c g i j := by
  unfold xT
  by_cases z : i = r ∧ j = c
  · rw [if_pos z, if_pos z]
  · rw [if_neg z, if_neg z]
    by_cases y : i = r
    · rw [if_pos y, if_pos y]
    · rw [if_neg y, if_neg y]
      by_cases w : j = c
      · rw [if_pos w, if_pos w]
      · rw [if_neg w, if_neg w]
set_option maxHeartbeats 1000000 in
/-- the exchange of the step -/
theorem c_stepEx {r c : Nat} {b : Int64} (hr : rwI n m A kd bb dr) (hc : cSh σ o N) (htb : tbV σ o n m D T (amt n T va) va bs cl) (hs : smOk σ (o + 30) N) (hI : tbI n m A D T bs cl) (hpm : pmI n m bs cl) (hva : vaB n va) (hrm : r < m) (hcn : c < n) (hT : T r c ≠ 0) (hb : -1000000000000000001 ≤ b.toInt ∧ b.toInt ≤ 1000000000000000001) (hf : 2000 ≤ f) :
    gp (X9_exchange f (some (o + 32)) (nI r) (nI c) b) σ (fun _ σ' => Fr (exP o) σ σ' ∧ smOk σ' (o + 30) N ∧ tbV σ' o n m (T r c * (isg (T r c)).toInt) (xT D T r c (isg (T r c)).toInt) (amt n (xT D T r c (isg (T r c)).toInt) (ups va c b.toInt)) (ups va c b.toInt) (fun i => if i = r then cl c else bs i) (fun j => if j = c then bs r else cl j)) := by
  have hn := hr.1.1
  obtain ⟨hg1, hg2⟩ := isg_pm hT
  have hI2 := tbI_ex hI hrm hcn hT hg1 hg2
  have hp2 := pmI_ex hpm hrm hcn
  have hv2 : vaB n (ups va c b.toInt) := vaB_ups hva hb
  have e72 : (10000000 : Nat) ^ 10 < 1000000000 ^ 8 := by decide
  have e90 : (10 : Nat) ^ 90 < 1000000000 ^ 12 := by decide
  have hvc := hva c hcn
  refine gp_mono (c_exchange (T' := xT D T r c (isg (T r c)).toInt) (am' := amt n (xT D T r c (isg (T r c)).toInt) (ups va c b.toInt)) hc htb hs hf hrm hcn hI.1 hT (by omega) (by omega) rfl rfl ?_ ?_ ?_ ?_) ?_
  · have h1 := am_le hI hpm hn (rw_A hr) hva hrm
    have h2 := tb_D hI hpm hn (rw_A hr)
    have h3 := mul_nab (show b.toInt.natAbs ≤ 1000000000000000001 by omega) h2
    have h4 : 1000000000000000001 * 10000000 ^ 10 + 10 ^ 90 < 1000000000 ^ 12 := by decide
    refine lt_cast (a := 1000000000) ?_
    omega
  · rw [← am_exr (D := D) (va := va) (b := b.toInt) hcn]
    have h1 := am_le hI2 hp2 hn (rw_A hr) hv2 hrm
    exact lt_cast (a := 1000000000) (by omega)
  · intro i j hi hj hir hjc
    have h1 := ex_mul hI hrm hcn hT (isg (T r c)).toInt hi hj hir
    rw [show xU D T r c i j = T i j * T r c - T i c * T r j from if_neg hjc] at h1
    have h2 := tb_T hI2 hp2 hn (rw_A hr) hi hj
    exact ⟨h1, lt_cast (a := 1000000000) (by omega)⟩
  · intro i hi hir
    have h1 := am_ex (g := (isg (T r c)).toInt) (b := b.toInt) (va := va) hI hrm hcn hT hi hir
    have h2 := am_le hI2 hp2 hn (rw_A hr) hv2 hi
    exact ⟨h1, lt_cast (a := 1000000000) (by omega)⟩
  · rintro _ σ' ⟨hF, hs2, ht2⟩
    refine ⟨hF, hs2, tbV_cong ht2 (fun i j _ _ => xT_if i j) (fun i _ => ?_) (fun j _ => rfl)⟩
    by_cases z : i = r
    · rw [if_pos z, z]
      exact (am_exr hcn).symm
    · rw [if_neg z]
set_option maxHeartbeats 4000000 in
theorem c_doStep (hr : rwI n m A kd bb dr) (h : slV σ o q N n m A kd bb wh dr ((D, T, va, bs, cl), (K, lc, up, fi, se, vr, fo, to, cd, ln, op), (1, sp, ex, cf, spl), mp, mq)) (hz : zI n m A kd bb ((D, T, va, bs, cl), (K, lc, up, fi, se, vr, fo, to, cd, ln, op), (1, sp, ex, cf, spl), mp, mq)) (hf : 2000 ≤ f) :
    gp (X7_doStep f (some (o + 322))) σ (fun _ σ' => ∃ q', q ≤ q' ∧ tz_ns σ' = tz_ns σ + 801 * (q' - q) ∧ Gr (slP o) σ σ' ∧ slV σ' o q' N n m A kd bb wh dr (mStep n m kd bb wh ((D, T, va, bs, cl), (K, lc, up, fi, se, vr, fo, to, cd, ln, op), (1, sp, ex, cf, spl), mp, mq))) := by
  obtain ⟨-, h4, hA, hB, h5, h6⟩ := zI_un hz
  obtain ⟨k, rfl, ho, hnb, hsm⟩ := h5 (by decide) (by decide)
  obtain ⟨hn1, hI, hpm, hva, hK0⟩ := h4 (by decide)
  obtain ⟨hc, hw, hs, ht, hct, hlf, htb', hbn'⟩ := slV_un h
  have htb := htb' (by decide)
  have hbn := hbn' rfl k rfl
  clear h hz h4 h5 htb' hbn'
  have hk : k < K := by have := ho.1; omega
  have hn := hr.1.1
  have hm1 := hr.1.2
  have hfk := ho.2.1
  have hpl := hpm.2.2.2.2.2
  have hlk : ln k < lc := by have := ho.2.2.1; omega
  have hbR := bn_R hr hA hk
  have hB0 : slB σ o N q n m A kd bb wh dr D T va bs cl K lc up fi se vr fo to cd ln mp k := ⟨hc, hw, ht, hlf, htb, hbn⟩
  clear hw ht hlf htb hbn
  unfold X7_doStep
  refine gp_rI (cs_solv hc) rfl ?_
  rw [hct.2.1, nI_1]
  refine gp_wI (cs_solv hc) rfl ?_
  have hF := sv_fr (σ := σ) (o := o) (j := 5) (v := nI (sp + 1))
  have hB1 := slB_fr hB0 hF (fun x z => Or.inl z)
  have hs1 := smOk_fr hs hF (by omega) (by omega)
  have hct1 := ct_5 (v := sp + 1) hct
  have hG1 : Gr (slP o) σ (tz_sF σ (o + 322) 5 (nI (sp + 1))) := Gr_of_Fr (Fr_mono hF (fun x z => by unfold slP; omega))
  have hns1 : tz_ns (tz_sF σ (o + 322) 5 (nI (sp + 1))) = tz_ns σ := rfl
  clear hF hB0 hs hct hc
  generalize tz_sF σ (o + 322) 5 (nI (sp + 1)) = σ1 at *
  obtain ⟨hc, -, -, -, htb, hbn⟩ := id hB1
  refine gp_cV (cs_solv hc) (gp_mono (c_firstBeyond hc htb hs1 hbn hbR hpl hf) ?_)
  rintro y σ2 ⟨hF, hs2, rfl⟩
  have hB2 := slB_fr hB1 hF (fun x z => by unfold bP at z; omega)
  have hct2 := ctV_fr hct1 hF (by unfold bP; omega)
  have hG2 := Gr_then hG1 hF (fun x z => by unfold bP at z; unfold slP; omega)
  have hns2 : tz_ns σ2 = tz_ns σ := hF.2.1.trans hns1
  clear hF hB1 hs1 hct1 hc htb hbn hG1 hns1
  obtain ⟨hc, hw, ht, hlf, htb, hbn⟩ := id hB2
  unfold mStep
  simp only
  cases hb : fst1 (isBey m D (amt n T va) bs (UB n kd bb vr fo up fi k) (LB n kd bb vr fo up fi k)) (n + m) with
  | none =>
    refine gp_f (by decide) ?_
    refine gp_cV (cs_solv hc) (gp_mono (c_firstNotWhole hc htb hw hpl hf) ?_)
    rintro y σ3 ⟨hF, rfl⟩
    have hB3 := slB_fr hB2 hF (fun x z => by unfold divP at z; omega)
    have hs3 := smOk_fr hs2 hF (by unfold divP; omega) (by unfold divP; omega)
    have hct3 := ctV_fr hct2 hF (by unfold divP; omega)
    have hG3 := Gr_then hG2 hF (fun x z => by unfold divP at z; unfold slP; omega)
    have hns3 : tz_ns σ3 = tz_ns σ := hF.2.1.trans hns2
    clear hF hB2 hs2 hct2 hc hw ht hlf htb hbn hG2 hns2
    obtain ⟨hc, hw, ht, hlf, htb, hbn⟩ := id hB3
    cases hx : fst1 (isBrk m D (amt n T va) bs wh) n with
    | none =>
      refine gp_t (by decide) ?_
      refine gp_wI (cs_solv hc) rfl ?_
      have hF := sv_fr (σ := σ3) (o := o) (j := 4) (v := nI 2)
      unfold X7_doStep_b41
      obtain ⟨hc4, hw4, ht4, hlf4, htb4, hbn4⟩ := slB_fr hB3 hF (fun x z => Or.inl z)
      refine gp_ret ⟨q, Nat.le_refl _, by rw [Nat.sub_self]; exact hns3, Gr_then hG3 hF (fun x z => by unfold slP; omega), slV_mk hc4 hw4 (smOk_fr hs3 hF (by omega) (by omega)) ht4 (ct_4 hct3) hlf4 (fun _ => htb4) (fun z => absurd z (by decide))⟩
    | some x =>
      obtain ⟨hxn, hxt, -⟩ := fst1_spec hx
      obtain ⟨r, hxr, -, hmod⟩ := brk_t hxt
      obtain ⟨hrm, hbr⟩ := ix_some hxr
      simp only [hxr]
      refine gp_f (nI_pos (by omega)) ?_
      refine gp_cV (cs_solv hc) (gp_mono (c_split (mq := mq) hc hr hw hs3 ht hA ho hct3 htb hI hbn hlf hrm hbr hxn hmod hf) ?_)
      rintro _ σ4 ⟨e1, e2, e3⟩
      unfold X7_doStep_b41
      exact gp_ret ⟨q, Nat.le_refl _, by rw [Nat.sub_self]; exact e1.trans hns3, Gr_trans hG3 e2, e3⟩
  | some p =>
    obtain ⟨hp, hbt, -⟩ := fst1_spec hb
    obtain ⟨r, hxr, hsd⟩ := bey_t hbt
    obtain ⟨hrm, hbr⟩ := ix_some hxr
    simp only [hxr]
    have hside := bey_side hsd
    have hbb := (hbn p hp).2.2
    refine gp_t (by show (0 : Int32) ≤ nI p; rw [show (0 : Int32) = nI 0 from rfl, nI_leI (by omega) (by omega)]; omega) ?_
    refine gp_rR (cs_solv hc) rfl ?_
    have hrow : gp (X9_rowOf f (some (o + 32)) (eN (some p))) σ2 (fun y σ' => σ' = σ2 ∧ y = nI r) := by
      show gp (X9_rowOf f (some (o + 32)) (nI p)) σ2 _
      rw [← hbr]; exact c_rowOfR hc htb hrm
    refine gp_cV (cs_tab hc) (gp_mono hrow ?_)
    rintro y σ0 ⟨z0, rfl⟩
    rw [z0]
    clear z0 σ0
    have hsdb := c_sideBeyond (f := f) hc htb hs2 hbn hbR hf hrm
    rw [hbr] at hsdb
    refine gp_cV (cs_solv hc) (gp_mono hsdb ?_)
    rintro y σ3 ⟨hF, hs3, rfl⟩
    have hB3 := slB_fr hB2 hF (fun x z => by unfold bP at z; omega)
    have hct3 := ctV_fr hct2 hF (by unfold bP; omega)
    have hG3 := Gr_then hG2 hF (fun x z => by unfold bP at z; unfold slP; omega)
    have hns3 : tz_ns σ3 = tz_ns σ := hF.2.1.trans hns2
    have hbb3 : (∀ v, UB n kd bb vr fo up fi k p = some v → (tz_L σ3 (o + 326) p).toInt = v) ∧ ∀ v, LB n kd bb vr fo up fi k p = some v → (tz_L σ3 (o + 327) p).toInt = v := (hB3.2.2.2.2.2 p hp).2.2
    clear hF hB2 hs2 hct2 hc hw ht hlf htb hbn hG2 hns2 hrow hsdb hbb
    obtain ⟨hc, hw, ht, hlf, htb, hbn⟩ := id hB3
    have hs32 : sdB D (amt n T va r) (UB n kd bb vr fo up fi k p) (LB n kd bb vr fo up fi k p) = 1 ∨ sdB D (amt n T va r) (UB n kd bb vr fo up fi k p) (LB n kd bb vr fo up fi k p) = -1 := by
      rcases hside with ⟨v, -, -, e3, -, -⟩ | ⟨v, -, -, e3, -, -⟩
      · exact Or.inr e3
      · exact Or.inl e3
    have hsI : (sdB D (amt n T va r) (UB n kd bb vr fo up fi k p) (LB n kd bb vr fo up fi k p)).toInt = sdI D (amt n T va r) (LB n kd bb vr fo up fi k p) := by
      rcases hside with ⟨v, -, -, e3, e4, -⟩ | ⟨v, -, -, e3, e4, -⟩
      · rw [e3, e4]; rfl
      · rw [e3, e4]; rfl
    have hent := c_enteringColumn (f := f) (r := r) hc htb hbn hpl hf hrm hs32
    rw [hsI] at hent
    refine gp_cV (cs_solv hc) (gp_mono hent ?_)
    rintro y σ0 ⟨z0, hy⟩
    rw [z0]
    clear z0 σ0 hent
    cases he : fst1 (isEnt n T va cl (UB n kd bb vr fo up fi k) (LB n kd bb vr fo up fi k) r (sdI D (amt n T va r) (LB n kd bb vr fo up fi k p))) (n + m) with
    | some p2 =>
      obtain ⟨hp2, het, -⟩ := fst1_spec he
      obtain ⟨c, hxc, hTc⟩ := ent_t het
      obtain ⟨hcn, hclc⟩ := ix_some hxc
      simp only [hxc]
      rw [he] at hy
      simp only [hxc] at hy
      have hy2 : y = nI c := hy
      rw [hy2]
      clear hy hy2 y
      refine gp_f (nI_pos (by omega)) ?_
      refine gp_rI (cs_solv hc) rfl ?_
      rw [hct3.2.2.1, nI_1]
      refine gp_wI (cs_solv hc) rfl ?_
      have hF := sv_fr (σ := σ3) (o := o) (j := 6) (v := nI (ex + 1))
      have hB4 := slB_fr hB3 hF (fun x z => Or.inl z)
      have hs4 := smOk_fr hs3 hF (by omega) (by omega)
      have hct4 := ct_6 (v := ex + 1) hct3
      have hG4 := Gr_then hG3 hF (fun x z => by unfold slP; omega)
      have hns4 : tz_ns (tz_sF σ3 (o + 322) 6 (nI (ex + 1))) = tz_ns σ := hns3
      have hbb4 : (∀ v, UB n kd bb vr fo up fi k p = some v → (tz_L (tz_sF σ3 (o + 322) 6 (nI (ex + 1))) (o + 326) p).toInt = v) ∧ ∀ v, LB n kd bb vr fo up fi k p = some v → (tz_L (tz_sF σ3 (o + 322) 6 (nI (ex + 1))) (o + 327) p).toInt = v := hbb3
      clear hF hB3 hs3 hct3 hc hw ht hlf htb hbn hG3 hns3 hbb3
      generalize tz_sF σ3 (o + 322) 6 (nI (ex + 1)) = σ4 at *
      obtain ⟨hc, hw, ht, hlf, htb, hbn⟩ := id hB4
      have fin : ∀ b : Int64, b.toInt = bdI (sdI D (amt n T va r) (LB n kd bb vr fo up fi k p)) (UB n kd bb vr fo up fi k p) (LB n kd bb vr fo up fi k p) → (-1000000000000000001 ≤ b.toInt ∧ b.toInt ≤ 1000000000000000001) → gp (X7_doStep_b113 f (some (o + 32)) (nI r) (nI c) b) σ4 (fun _ σ' => ∃ q', q ≤ q' ∧ tz_ns σ' = tz_ns σ + 801 * (q' - q) ∧ Gr (slP o) σ σ' ∧ slV σ' o q' N n m A kd bb wh dr (zEx D T va bs cl r c (bdI (sdI D (amt n T va r) (LB n kd bb vr fo up fi k p)) (UB n kd bb vr fo up fi k p) (LB n kd bb vr fo up fi k p)), (K, lc, up, fi, se, vr, fo, to, cd, ln, some k), (1, sp + 1, ex + 1, cf, spl), mp, mq)) := by
        intro b hb1 hb2
        rw [← hb1]
        unfold X7_doStep_b113
        refine gp_cV (cs_tab hc) (gp_mono (c_stepEx hr hc htb hs4 hI hpm hva hrm hcn hTc hb2 hf) ?_)
        rintro _ σ5 ⟨hF, hs5, htb5⟩
        unfold zEx
        exact gp_ret ⟨q, Nat.le_refl _, by rw [Nat.sub_self]; exact hF.2.1.trans hns4, Gr_then hG4 hF (fun x z => by unfold exP at z; unfold slP; omega), slV_mk (cs_fr hc hF) (rwV_fr hw hF (fun x a b => by unfold exP; omega)) hs5 (trV_fr ht hF (fun x a b => by unfold exP; omega)) (ctV_fr hct4 hF (by unfold exP; omega)) (fun i hi => lfV_fr (hlf i hi) hF (fun x a b => by unfold exP; unfold lfA at a; omega)) (fun _ => htb5) (fun _ k' e => by cases e; exact bnA_fr hbn hF (fun x a b => by unfold exP; omega))⟩
      refine gp_rR (cs_solv hc) rfl ?_
      rcases hside with ⟨v, e1, e2, e3, e4, e5⟩ | ⟨v, e1, e2, e3, e4, e5⟩
      · rw [e3]
        refine gp_f (by decide) ?_
        refine gp_rR (cs_solv hc) rfl ?_
        refine gp_rR (cs_bnd hc) rfl ?_
        refine gp_aL (j := p) (cs_lo hc) (by omega) (by omega) rfl ?_
        have hv := hbb4.2 v e1
        have hv2 := bn_L hr hA hk hp e1
        refine fin _ (by rw [e4, e5]; exact hv) (by omega)
      · rw [e3]
        refine gp_t (by decide) ?_
        refine gp_rR (cs_solv hc) rfl ?_
        refine gp_rR (cs_bnd hc) rfl ?_
        refine gp_aL (j := p) (cs_up hc) (by omega) (by omega) rfl ?_
        have hv := hbb4.1 v e1
        have hv2 := bn_U hr hA hk hp e1
        refine fin _ (by rw [e4, e5]; exact hv) (by omega)
    | none =>
      rw [he] at hy
      have hy2 : y = -2 := hy
      rw [hy2]
      clear hy hy2 y
      refine gp_t (by decide) ?_
      refine gp_rI (cs_solv hc) rfl ?_
      rw [hct3.2.2.2.1, nI_1]
      refine gp_wI (cs_solv hc) rfl ?_
      have hF := sv_fr (σ := σ3) (o := o) (j := 7) (v := nI (cf + 1))
      have hB4 := slB_fr hB3 hF (fun x z => Or.inl z)
      have hs4 := smOk_fr hs3 hF (by omega) (by omega)
      have hct4 := ct_7 (v := cf + 1) hct3
      have hG4 := Gr_then hG3 hF (fun x z => by unfold slP; omega)
      have hns4 : tz_ns (tz_sF σ3 (o + 322) 7 (nI (cf + 1))) = tz_ns σ := hns3
      clear hF hB3 hs3 hct3 hc hw ht hlf htb hbn hG3 hns3 hbb3
      generalize tz_sF σ3 (o + 322) 7 (nI (cf + 1)) = σ4 at *
      obtain ⟨hc, hw, ht, hlf, htb, hbn⟩ := id hB4
      have hcl := c_closeLeaf (f := f) hc htb hw ht (stA_w hA) hk hfk (hlf _ hlk) hf hrm hs32
      rw [hsI] at hcl
      refine gp_cV (cs_solv hc) (gp_mono hcl ?_)
      rintro _ σ5 ⟨hF, ht5, hlv5⟩
      clear hcl
      have hP : ∀ x, (x = o + 319 ∨ lfP (lfA o (ln k)) x) → x = o + 319 ∨ (lfA o (ln k) + 2 ≤ x ∧ x ≤ lfA o (ln k) + 161) := fun x z => z
      have hc5 := cs_fr hc hF
      have hw5 := rwV_fr hw hF (fun x a b z => by have := hP x z; unfold lfA at this; omega)
      have hs5 := smOk_fr hs4 hF (fun z => by have := hP _ z; unfold lfA at this; omega) (fun z => by have := hP _ z; unfold lfA at this; omega)
      have hct5 := ctV_fr hct4 hF (fun z => by have := hP _ z; unfold lfA at this; omega)
      have htb5 := tbV_fr htb hF (fun x a b z => by have := hP x z; unfold lfA at this; omega) (fun x a b z => by have := hP x z; unfold lfA at this; omega)
      have hlf5 : ∀ i, i < lc → lfV σ5 (lfA o i) (ups mp (ln k) (clM n r T D (sdI D (amt n T va r) (LB n kd bb vr fo up fi k p)) cl n (ups (mp (ln k)) (mix n (bs r) (sdI D (amt n T va r) (LB n kd bb vr fo up fi k p))) (D * sdI D (amt n T va r) (LB n kd bb vr fo up fi k p), D))) i) := fun i hi => by
        by_cases z : i = ln k
        · rw [z, ups_s]; exact hlv5
        · rw [ups_n _ _ z]
          exact lfV_fr (hlf i hi) hF (fun x a b w => by have := hP x w; unfold lfA at this a b; omega)
      have hbn5 := bnA_fr hbn hF (fun x a b z => by have := hP x z; unfold lfA at this; omega)
      have hG5 := Gr_then hG4 hF (fun x z => by have := hP x z; unfold lfA at this; unfold slP; omega)
      have hns5 : tz_ns σ5 = tz_ns σ := hF.2.1.trans hns4
      clear hF hB4 hc hw hs4 ht hct4 hlf htb hbn hG4 hns4 hP hlv5
      cases hl : lwt se (pt up fi k) with
      | none =>
        refine gp_cV (cs_solv hc5) (gp_mono (c_goBack0 hc5 ht5 hA hk hct5 hl hf) ?_)
        rintro _ σ6 ⟨hF, hct6, ht6⟩
        exact gp_ret ⟨q, Nat.le_refl _, by rw [Nat.sub_self]; exact hF.2.1.trans hns5, Gr_then hG5 hF (fun x z => by unfold slP; omega), slV_mk (cs_fr hc5 hF) (rwV_fr hw5 hF (fun x a b => by omega)) (smOk_fr hs5 hF (by omega) (by omega)) ht6 hct6 (fun i hi => lfV_fr (hlf5 i hi) hF (fun x a b => by unfold lfA at a; omega)) (fun _ => tbV_fr htb5 hF (fun x a b => by omega) (fun x a b => by omega)) (fun z => absurd z (by decide))⟩
      | some s =>
        refine gp_cV (cs_solv hc5) (gp_mono (c_goBack1 hc5 hr hw5 hs5 ht5 hA ho hct5 hl htb5 hI hpm hva hbn5 hlf5 hf) ?_)
        rintro _ σ6 ⟨q', hq', hns6, hG6, hc6, hw6, hs6, hct6, ht6, hlf6, htb6, hbn6⟩
        exact gp_ret ⟨q', hq', by rw [hns6, hns5], Gr_trans hG5 hG6, slV_mk hc6 hw6 hs6 ht6 hct6 hlf6 (fun _ => htb6) (fun _ k' e => by cases e; exact hbn6)⟩
end SZ2
