/-! ===== Solving: forget, begin ===== -/
def mBegin (n : Nat) (A : Nat → Nat → Int) : zS → zS
  | (_, (K, lc, up, fi, se, vr, fo, to, cd, ln, _), (_, sp, ex, cf, spl), mp, mq) => ((1, A, (fun _ => 0), (fun r => n + r), fun c => c), (K + 1, lc + 1, ups up K none, ups fi K none, (fun k => if k = K then none else if none = some k then some K else se k), vr, fo, to, ups cd K false, ups ln K lc, some K), (1, sp, ex, cf, spl), ups mp lc (fun _ => (0, 1)), ups mq lc (fun _ => (0, 1)))
def mForget : zS → zS
  | (tb, (_, _, up, fi, se, vr, fo, to, cd, ln, _), _, mp, mq) => (tb, (0, 0, up, fi, se, vr, fo, to, cd, ln, none), (0, 0, 0, 0, 0), mp, mq)
section SB
variable {f o N n m q K lc st sp ex cf spl k : Nat} {P : Nat → Prop} {σ σ1 : tz_S} {A A2 T : Nat → Nat → Int} {kd kd2 : Nat → Nat} {bb dr bb2 : Nat → Int} {wh : Nat → Bool} {D : Int} {va : Nat → Int} {bs cl : Nat → Nat} {up fi se : Nat → Option Nat} {vr : Nat → Nat} {fo to : Nat → Int} {cd : Nat → Bool} {ln : Nat → Nat} {op : Option Nat} {mp mq : Nat → Nat → Int × Int} {n2 m2 : Nat}
theorem c_forget (hc : cSh σ o N) (ht : trV σ o q K lc up fi se vr fo to cd ln op) : gp (X7_forget f (some (o + 322))) σ (fun _ σ' => Fr (fun x => x = o + 312 ∨ x = o + 322) σ σ' ∧ ctV σ' o 0 0 0 0 0 ∧ trV σ' o q 0 0 up fi se vr fo to cd ln none) := by
  unfold X7_forget
  refine gp_wI (cs_solv hc) rfl ?_
  have hc1 : cSh (tz_sF σ (o + 322) 4 0) o N := hc
  refine gp_wI (cs_solv hc1) rfl ?_
  have hc2 : cSh (tz_sF (tz_sF σ (o + 322) 4 0) (o + 322) 5 0) o N := hc
  refine gp_wI (cs_solv hc2) rfl ?_
  have hc3 : cSh (tz_sF (tz_sF (tz_sF σ (o + 322) 4 0) (o + 322) 5 0) (o + 322) 6 0) o N := hc
  refine gp_wI (cs_solv hc3) rfl ?_
  have hc4 : cSh (tz_sF (tz_sF (tz_sF (tz_sF σ (o + 322) 4 0) (o + 322) 5 0) (o + 322) 6 0) (o + 322) 7 0) o N := hc
  refine gp_wI (cs_solv hc4) rfl ?_
  have hc5 : cSh (tz_sF (tz_sF (tz_sF (tz_sF (tz_sF σ (o + 322) 4 0) (o + 322) 5 0) (o + 322) 6 0) (o + 322) 7 0) (o + 322) 8 0) o N := hc
  have hF : Fr (fun x => x = o + 322) σ (tz_sF (tz_sF (tz_sF (tz_sF (tz_sF σ (o + 322) 4 0) (o + 322) 5 0) (o + 322) 6 0) (o + 322) 7 0) (o + 322) 8 0) := Fr_trans (Fr_trans (Fr_trans (Fr_trans (Fr_sF rfl) (Fr_sF rfl)) (Fr_sF rfl)) (Fr_sF rfl)) (Fr_sF rfl)
  have hct : ctV (tz_sF (tz_sF (tz_sF (tz_sF (tz_sF σ (o + 322) 4 0) (o + 322) 5 0) (o + 322) 6 0) (o + 322) 7 0) (o + 322) 8 0) o 0 0 0 0 0 := by
    show tz_u2 (tz_u2 (tz_u2 (tz_u2 (tz_u2 (tz_F σ) (o + 322) 4 0) (o + 322) 5 0) (o + 322) 6 0) (o + 322) 7 0) (o + 322) 8 0 (o + 322) 4 = 0 ∧ tz_u2 (tz_u2 (tz_u2 (tz_u2 (tz_u2 (tz_F σ) (o + 322) 4 0) (o + 322) 5 0) (o + 322) 6 0) (o + 322) 7 0) (o + 322) 8 0 (o + 322) 5 = 0 ∧ tz_u2 (tz_u2 (tz_u2 (tz_u2 (tz_u2 (tz_F σ) (o + 322) 4 0) (o + 322) 5 0) (o + 322) 6 0) (o + 322) 7 0) (o + 322) 8 0 (o + 322) 6 = 0 ∧ tz_u2 (tz_u2 (tz_u2 (tz_u2 (tz_u2 (tz_F σ) (o + 322) 4 0) (o + 322) 5 0) (o + 322) 6 0) (o + 322) 7 0) (o + 322) 8 0 (o + 322) 7 = 0 ∧ tz_u2 (tz_u2 (tz_u2 (tz_u2 (tz_u2 (tz_F σ) (o + 322) 4 0) (o + 322) 5 0) (o + 322) 6 0) (o + 322) 7 0) (o + 322) 8 0 (o + 322) 8 = 0
    simp [tz_u2]
  have ht2 := trV_fr ht hF (fun x a b => by omega)
  clear hc1 hc2 hc3 hc4
  generalize tz_sF (tz_sF (tz_sF (tz_sF (tz_sF σ (o + 322) 4 0) (o + 322) 5 0) (o + 322) 6 0) (o + 322) 7 0) (o + 322) 8 0 = σ2 at *
  refine gp_rR (cs_solv hc5) rfl ?_
  refine gp_cV (cs_tree hc5) (gp_mono (c_treeClear hc5 ht2) ?_)
  rintro _ σ3 ⟨hF3, ht3⟩
  exact gp_ret ⟨Fr_trans (Fr_mono hF (fun x z => Or.inr z)) (Fr_mono hF3 (fun x z => Or.inl z)), ctV_fr hct hF3 (by omega), ht3⟩
theorem zI_forget {Z : zS} (h : zI n m A kd bb Z) : zI n2 m2 A2 kd2 bb2 (mForget Z) := by
  obtain ⟨⟨D, T, va, bs, cl⟩, ⟨K, lc, up, fi, se, vr, fo, to, cd, ln, op⟩, ⟨st, sp, ex, cf, spl⟩, mp, mq⟩ := Z
  exact zI_mk ⟨by decide, fun _ => ⟨rfl, rfl, rfl⟩, fun _ => rfl⟩ (fun z => absurd rfl z) (fun j hj => absurd hj (Nat.not_lt_zero _)) (fun j hj => absurd hj (Nat.not_lt_zero _)) (fun z => absurd rfl z) (fun i hi => absurd hi (Nat.not_lt_zero _))
theorem zI_begin (hr : rwI n m A kd bb dr) (h1 : 1 ≤ n) (h : zI n m A kd bb ((D, T, va, bs, cl), (K, lc, up, fi, se, vr, fo, to, cd, ln, op), (0, sp, ex, cf, spl), mp, mq)) : zI n m A kd bb (mBegin n A ((D, T, va, bs, cl), (K, lc, up, fi, se, vr, fo, to, cd, ln, op), (0, sp, ex, cf, spl), mp, mq)) := by
  obtain ⟨⟨-, h2, -⟩, -⟩ := zI_un h
  obtain ⟨rfl, rfl, rfl⟩ := h2 rfl
  have a0 : stA n 0 0 up fi se vr fo to ln := fun j hj => absurd hj (Nat.not_lt_zero _)
  have b0 : stB 0 up fi vr fo := fun j hj => absurd hj (Nat.not_lt_zero _)
  have hp : pt (ups up 0 none) (ups fi 0 none) 0 = [] := pt_none (ups_s _ _ _)
  refine zI_mk ⟨by decide, fun z => absurd z (by decide), fun z => absurd z (by decide)⟩ (fun _ => ⟨h1, tbI_0 hr.1.1, pmI_0, fun c hc => ⟨by show (-1000000000000000001 : Int) ≤ 0; decide, by show (0 : Int) ≤ 1000000000000000001; decide⟩, by decide⟩) (ad_A (u := none) a0 (fun s e => by cases e)) (ad_B (u := none) a0 b0) (fun _ _ => ⟨0, rfl, ⟨rfl, ups_s _ _ _, by rw [ups_s], rfl, by rw [hp]; rfl, ?_, by rw [hp]; decide, by decide⟩, ?_, ?_⟩) (fun i hi => ?_)
  · rw [hp]
    intro s b hs
    exact absurd hs (List.not_mem_nil)
  · intro c hc
    unfold UB LB
    rw [if_pos hc, if_pos hc, hp]
    exact ⟨fun v hv => absurd hv oU_none, fun v hv => absurd hv oL_none⟩
  · rw [ups_s, ups_s]; exact lfI_0.2
  · rw [show i = 0 by omega, ups_s, ups_s]; exact lfI_0.1
set_option maxHeartbeats 1000000 in
theorem c_sBegin (hr : rwI n m A kd bb dr) (h : slV σ o q N n m A kd bb wh dr ((D, T, va, bs, cl), (K, lc, up, fi, se, vr, fo, to, cd, ln, op), (0, sp, ex, cf, spl), mp, mq)) (hz : zI n m A kd bb ((D, T, va, bs, cl), (K, lc, up, fi, se, vr, fo, to, cd, ln, op), (0, sp, ex, cf, spl), mp, mq)) (hf : 2000 ≤ f) :
    gp (X7_begin f (some (o + 322))) σ (fun _ σ' => ∃ q', q ≤ q' ∧ tz_ns σ' = tz_ns σ + 801 * (q' - q) ∧ Gr (slP o) σ σ' ∧ slV σ' o q' N n m A kd bb wh dr (mBegin n A ((D, T, va, bs, cl), (K, lc, up, fi, se, vr, fo, to, cd, ln, op), (0, sp, ex, cf, spl), mp, mq))) := by
  obtain ⟨⟨-, h2, -⟩, -⟩ := zI_un hz
  obtain ⟨rfl, rfl, rfl⟩ := h2 rfl
  obtain ⟨hc, hw, hs, ht, hct, -, -, -⟩ := slV_un h
  clear h hz h2
  have hn := hr.1.1
  have hm1 := hr.1.2
  have a0 : stA n 0 0 up fi se vr fo to ln := fun j hj => absurd hj (Nat.not_lt_zero _)
  unfold X7_begin
  refine gp_wI (cs_solv hc) rfl ?_
  have hF := sv_fr (σ := σ) (o := o) (j := 4) (v := 1)
  have hc1 := cs_fr hc hF
  have hw1 := rwV_fr hw hF (fun x a b => by omega)
  have hs1 := smOk_fr hs hF (by omega) (by omega)
  have ht1 := trV_fr ht hF (fun x a b => by omega)
  have hct1 : ctV (tz_sF σ (o + 322) 4 1) o 1 sp ex cf 0 := ct_4 (v := 1) hct
  have hG1 : Gr (slP o) σ (tz_sF σ (o + 322) 4 1) := Gr_of_Fr (Fr_mono hF (fun x z => by unfold slP; omega))
  have hns1 : tz_ns (tz_sF σ (o + 322) 4 1) = tz_ns σ := rfl
  clear hF hc hw hs ht hct
  generalize tz_sF σ (o + 322) 4 1 = σ1 at *
  refine gp_rR (cs_solv hc1) rfl ?_
  refine gp_rR (cs_solv hc1) rfl ?_
  refine gp_cV (cs_tab hc1) (gp_mono (c_begin hc1 hw1 hf (rw_A hr)) ?_)
  rintro _ σ2 ⟨hF, hk, htb⟩
  have hc2 := cs_fr hc1 hF
  have hw2 := rwV_fr hw1 hF (fun x a b => by unfold exP; omega)
  have hs2 : smOk σ2 (o + 30) N := by
    obtain ⟨u, S, ⟨a1, a2, a3⟩, b1, b2, b3⟩ := hs1
    have k1 := hk (o + 30) (Or.inl rfl)
    have k2 := hk (o + 30 + 1) (Or.inr rfl)
    exact ⟨u, S, ⟨by rw [Fr_sh hF]; exact a1, by rw [Fr_sh hF]; exact a2, a3⟩, by rw [k1.1]; exact b1, by rw [k2.2]; exact b2, by rw [k2.2]; exact b3⟩
  have ht2 := trV_fr ht1 hF (fun x a b => by unfold exP; omega)
  have hct2 := ctV_fr hct1 hF (by unfold exP; omega)
  have htb2 : tbV σ2 o n m 1 A (amt n A (fun _ => 0)) (fun _ => 0) (fun r => n + r) (fun c => c) := by
    refine tbV_cong htb (fun _ _ _ _ => rfl) (fun r _ => ?_) (fun _ _ => rfl)
    unfold amt
    rw [su_cong (g := fun _ => 0) (fun j _ => Int.mul_zero _), su_0]
  have hG2 := Gr_then hG1 hF (fun x z => by unfold exP at z; unfold slP; omega)
  have hns2 : tz_ns σ2 = tz_ns σ := hF.2.1.trans hns1
  clear hF hk htb hc1 hw1 hs1 ht1 hct1 hG1 hns1
  have hnc := ht2.2.1.1
  refine gp_rR (cs_solv hc2) rfl ?_
  refine gp_cV (cs_tree hc2) (gp_mono (c_addLeafN (u := none) hc2 ht2 (stA_w a0) hf (by omega) (by omega) (fun s e => by cases e)) ?_)
  rintro _ σ3 ⟨q', hq', hns, hG, hc3, hlv, ht3⟩
  have hw3 := rwV_gro hw2 hG (by omega) (fun x a b z => by unfold aeP lfP lfA at z; omega)
  have hs3 := smOk_gro hs2 hG (by omega) (fun z => by unfold aeP lfP lfA at z; omega) (fun z => by unfold aeP lfP lfA at z; omega)
  have hct3 := ctV_gro hct2 hG (by omega) (fun z => by unfold aeP lfP lfA at z; omega)
  have htb3 := tbV_gro htb2 hG (by omega) (fun x a b z => by unfold aeP lfP lfA at z; omega)
  have hG3 := Gr_trans hG2 (Gr_mono hG (fun x _ z => slP_ae z))
  have hns3 : tz_ns σ3 = tz_ns σ + 801 * (q' - q) := by rw [hns, hns2]
  clear hc2 hw2 hs2 ht2 hct2 htb2 hG hG2 hns hns2
  refine gp_rR (cs_solv hc3) rfl ?_
  refine gp_rR (cs_solv hc3) rfl ?_
  refine gp_cV (cs_bnd hc3) (gp_mono (c_setRows (B := o + 323) hc3 hw3 (cs_bn1 hc3) hf (by omega)) ?_)
  rintro _ σ4 ⟨hF, hbr⟩
  have hc4 := cs_fr hc3 hF
  have hw4 := rwV_fr hw3 hF (fun x a b => by unfold bnP; omega)
  have hs4 := smOk_fr hs3 hF (by unfold bnP; omega) (by unfold bnP; omega)
  have ht4 := trV_fr ht3 hF (fun x a b => by unfold bnP; omega)
  have hct4 := ctV_fr hct3 hF (by unfold bnP; omega)
  have htb4 := tbV_fr htb3 hF (fun x a b => by unfold bnP; omega) (fun x a b => by unfold bnP; omega)
  have hlv4 := lfV_fr hlv hF (fun x a b => by unfold bnP; unfold lfA at a; omega)
  have hG4 := Gr_then hG3 hF (fun x z => by unfold bnP at z; unfold slP; omega)
  have hns4 : tz_ns σ4 = tz_ns σ + 801 * (q' - q) := hF.2.1.trans hns3
  clear hF hc3 hw3 hs3 ht3 hct3 htb3 hlv hG3 hns3
  refine gp_cV (cs_solv hc4) (gp_mono (c_setSplitBounds hc4 hw4 ht4 (ad_A (u := none) a0 (fun s e => by cases e)) (by omega) hf) ?_)
  rintro _ σ5 ⟨hF, hb2, hb3⟩
  have hbn5 := bn_join hbr hb2 hb3
  refine gp_ret ⟨q', hq', hF.2.1.trans hns4, Gr_then hG4 hF (fun x z => by unfold bnP at z; unfold slP; omega), slV_mk (cs_fr hc4 hF) (rwV_fr hw4 hF (fun x a b => by unfold bnP; omega)) (smOk_fr hs4 hF (by unfold bnP; omega) (by unfold bnP; omega)) (trV_fr ht4 hF (fun x a b => by unfold bnP; omega)) (ctV_fr hct4 hF (by unfold bnP; omega)) (fun i hi => ?_) (fun _ => tbV_fr htb4 hF (fun x a b => by unfold bnP; omega) (fun x a b => by unfold bnP; omega)) (fun _ k' e => by cases e; exact hbn5)⟩
  rw [show i = 0 by omega, ups_s]
  exact lfV_fr hlv4 hF (fun x a b => by unfold bnP; unfold lfA at a; omega)
end SB
