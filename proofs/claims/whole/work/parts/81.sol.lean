/-! ===== Solving over the state: bounds, goBack, split ===== -/
def slP (o : Nat) : Nat → Prop := fun x => (o + 1 ≤ x ∧ x ≤ o + 327) ∨ o + 418 ≤ x
def ctV (σ : tz_S) (o st sp ex cf spl : Nat) : Prop := tz_F σ (o + 322) 4 = nI st ∧ tz_F σ (o + 322) 5 = nI sp ∧ tz_F σ (o + 322) 6 = nI ex ∧ tz_F σ (o + 322) 7 = nI cf ∧ tz_F σ (o + 322) 8 = nI spl
theorem pw_cast (a b : Nat) : ((a ^ b : Nat) : Int) = (a : Int) ^ b := Int.natCast_pow a b
theorem lt_cast {x : Nat} {a b : Nat} (h : x < a ^ b) : (x : Int) < (a : Int) ^ b := by
  rw [← pw_cast]
  omega
section GS
variable {P : Nat → Prop} {σ σ1 : tz_S} {o N n m K lc q st sp ex cf spl : Nat} {A T : Nat → Nat → Int} {kd : Nat → Nat} {bb dr : Nat → Int} {wh : Nat → Bool} {D : Int} {am va : Nat → Int} {bs cl : Nat → Nat} {up fi se : Nat → Option Nat} {vr : Nat → Nat} {fo to : Nat → Int} {cd : Nat → Bool} {ln : Nat → Nat} {op : Option Nat}
theorem ctV_fr (h : ctV σ o st sp ex cf spl) (hf : Fr P σ σ1) (hP : ¬ P (o + 322)) : ctV σ1 o st sp ex cf spl := by
  unfold ctV at *
  rw [Fr_F hf hP]
  exact h
theorem ctV_gro (h : ctV σ o st sp ex cf spl) (hg : Gr P σ σ1) (hn : o + 322 < tz_nc σ) (hP : ¬ P (o + 322)) : ctV σ1 o st sp ex cf spl := by
  unfold ctV at *
  rw [((hg.2.2 _ hn).2 hP).1]
  exact h
theorem rwV_gro (h : rwV σ o n m A kd bb wh dr) (hg : Gr P σ σ1) (hn : o + 18 < tz_nc σ) (hP : ∀ x, o + 1 ≤ x → x ≤ o + 18 → ¬ P x) : rwV σ1 o n m A kd bb wh dr := by
  have k : ∀ x, o + 1 ≤ x → x ≤ o + 18 → tz_F σ1 x = tz_F σ x ∧ tz_A σ1 x = tz_A σ x ∧ tz_L σ1 x = tz_L σ x ∧ tz_R σ1 x = tz_R σ x := fun x h1 h2 => (hg.2.2 x (by omega)).2 (hP x h1 h2)
  obtain ⟨⟨h1, h2, h3, h3'⟩, h4, h5, h6, h7, h8⟩ := h
  refine ⟨⟨?_, ?_, h3, h3'⟩, ?_, ?_, ?_, ?_, ?_⟩
  · rw [(k _ (by omega) (by omega)).1]; exact h1
  · rw [(k _ (by omega) (by omega)).1]; exact h2
  · intro r x hr hx
    rw [(k _ (by omega) (by omega)).2.1]; exact h4 r x hr hx
  · rw [(k (o + 15) (by omega) (by omega)).2.1]; exact h5
  · rw [(k (o + 16) (by omega) (by omega)).2.1]; exact h6
  · rw [(k (o + 17) (by omega) (by omega)).2.1]; exact h7
  · rw [(k (o + 18) (by omega) (by omega)).2.1]; exact h8
theorem smOk_gro {s : Nat} (h : smOk σ s N) (hg : Gr P σ σ1) (hn : s + 1 < tz_nc σ) (h1 : ¬ P s) (h2 : ¬ P (s + 1)) : smOk σ1 s N := by
  obtain ⟨u, S, ⟨a1, a2, a3⟩, b1, b2, b3⟩ := h
  obtain ⟨q1, q2⟩ := hg.2.2 s (by omega)
  obtain ⟨r1, r2⟩ := hg.2.2 (s + 1) (by omega)
  obtain ⟨c1, c2, c3, c4⟩ := q2 h1
  obtain ⟨d1, d2, d3, d4⟩ := r2 h2
  exact ⟨u, S, ⟨q1.trans a1, r1.trans a2, a3⟩, by rw [c1]; exact b1, by rw [d3]; exact b2, by rw [d3]; exact b3⟩
theorem tbV_gro (h : tbV σ o n m D T am va bs cl) (hg : Gr P σ σ1) (hn : o + 311 < tz_nc σ) (hP : ∀ x, o + 32 ≤ x → x ≤ o + 311 → ¬ P x) : tbV σ1 o n m D T am va bs cl := by
  have k : ∀ x, o + 32 ≤ x → x ≤ o + 311 → tz_F σ1 x = tz_F σ x ∧ tz_A σ1 x = tz_A σ x ∧ tz_L σ1 x = tz_L σ x ∧ tz_R σ1 x = tz_R σ x := fun x h1 h2 => (hg.2.2 x (by omega)).2 (hP x h1 h2)
  obtain ⟨⟨h1, h2, h3, h3'⟩, h4, h5, h6, h7, h8, h9⟩ := h
  refine ⟨⟨?_, ?_, h3, h3'⟩, ?_, ?_, ?_, ?_, ?_, ?_⟩
  · rw [(k _ (by omega) (by omega)).1]; exact h1
  · rw [(k _ (by omega) (by omega)).1]; exact h2
  · exact Bz_gro h4 hg (by omega) (hP _ (by omega) (by omega)) (hP _ (by omega) (by omega))
  · exact fun r c hr hc => Bz_gro (h5 r c hr hc) hg (by omega) (hP _ (by omega) (by omega)) (hP _ (by omega) (by omega))
  · exact fun r hr => Bz_gro (h6 r hr) hg (by omega) (hP _ (by omega) (by omega)) (hP _ (by omega) (by omega))
  · rw [(k (o + 35) (by omega) (by omega)).2.2.1]; exact h7
  · rw [(k (o + 36) (by omega) (by omega)).2.1, (k (o + 38) (by omega) (by omega)).2.1, (k (o + 39) (by omega) (by omega)).2.1]; exact h8
  · rw [(k (o + 37) (by omega) (by omega)).2.1, (k (o + 38) (by omega) (by omega)).2.1, (k (o + 39) (by omega) (by omega)).2.1]; exact h9
theorem bp_gro {B p : Nat} {u l : Option Int} (h : bp σ B p u l) (hg : Gr P σ σ1) (hn : B + 4 < tz_nc σ) (hP : ∀ x, B + 1 ≤ x → x ≤ B + 4 → ¬ P x) : bp σ1 B p u l := by
  have k : ∀ x, B + 1 ≤ x → x ≤ B + 4 → tz_F σ1 x = tz_F σ x ∧ tz_A σ1 x = tz_A σ x ∧ tz_L σ1 x = tz_L σ x ∧ tz_R σ1 x = tz_R σ x := fun x h1 h2 => (hg.2.2 x (by omega)).2 (hP x h1 h2)
  unfold bp at *
  rw [(k (B + 1) (by omega) (by omega)).2.1, (k (B + 2) (by omega) (by omega)).2.1, (k (B + 3) (by omega) (by omega)).2.2.1, (k (B + 4) (by omega) (by omega)).2.2.1]
  exact h
end GS
section SX
variable {f o N n m q K lc st sp ex cf spl k : Nat} {σ : tz_S} {A T : Nat → Nat → Int} {kd : Nat → Nat} {bb dr : Nat → Int} {wh : Nat → Bool} {D : Int} {va : Nat → Int} {bs cl : Nat → Nat} {up fi se : Nat → Option Nat} {vr : Nat → Nat} {fo to : Nat → Int} {cd : Nat → Bool} {ln : Nat → Nat} {op : Option Nat} {mp mq : Nat → Nat → Int × Int}
theorem c_setSplitBounds (hc : cSh σ o N) (hw : rwV σ o n m A kd bb wh dr) (ht : trV σ o q K lc up fi se vr fo to cd ln (some k)) (hA : stA n K lc up fi se vr fo to ln) (hk : k < K) (hf : 2000 ≤ f) :
    gp (X7_setSplitBounds f (some (o + 322))) σ (fun _ σ' => Fr (bnP (o + 323)) σ σ' ∧ (∀ x, x < n → bp σ' (o + 323) x (fU vr fo x (pt up fi k) none) (fL vr fo x (pt up fi k) none)) ∧ ∀ p, n ≤ p → tz_A σ' (o + 323 + 1) p = tz_A σ (o + 323 + 1) p ∧ tz_A σ' (o + 323 + 2) p = tz_A σ (o + 323 + 2) p ∧ tz_L σ' (o + 323 + 3) p = tz_L σ (o + 323 + 3) p ∧ tz_L σ' (o + 323 + 4) p = tz_L σ (o + 323 + 4) p) := by
  unfold X7_setSplitBounds
  refine gp_rR (cs_solv hc) rfl ?_
  refine gp_rR (cs_solv hc) rfl ?_
  refine gp_rR (cs_solv hc) rfl ?_
  refine gp_rI (cs_rows hc) rfl ?_
  rw [hw.1.1]
  refine gp_rR (cs_solv hc) rfl ?_
  refine gp_rI (cs_tree hc) rfl ?_
  rw [ht.1.2.2.1]
  refine gp_rR (cs_solv hc) rfl ?_
  refine gp_rR (cs_tree hc) rfl ?_
  refine gp_cV (cs_bnd hc) (gp_mono (c_setSplits (B := o + 323) (k := k) (aa := o + 317) (at1 := fo) hc ht (stA_w hA) (cs_bn1 hc) hf (by omega) (Or.inr (by omega)) hw.1.2.2.1 hk (stA_par hA) (fun s hs h => ((hA s hs).2.2.2.2 h).1) (cs_found hc) (fun s hs h => ⟨(ht.2.2.2 s hs h).2.1, ?_⟩)) ?_)
  · have := ((hA s hs).2.2.2.2 h).2.1
    omega
  · rintro _ σ' h
    exact gp_ret h
theorem bn_join {B : Nat} {σ1 : tz_S} (h1 : ∀ p, n ≤ p → p < n + m → bp σ B p (rub n kd bb p) (rlb n kd bb p)) (h2 : ∀ x, x < n → bp σ1 B x (fU vr fo x (pt up fi k) none) (fL vr fo x (pt up fi k) none)) (h3 : ∀ p, n ≤ p → tz_A σ1 (B + 1) p = tz_A σ (B + 1) p ∧ tz_A σ1 (B + 2) p = tz_A σ (B + 2) p ∧ tz_L σ1 (B + 3) p = tz_L σ (B + 3) p ∧ tz_L σ1 (B + 4) p = tz_L σ (B + 4) p) : bnA σ1 B (n + m) (UB n kd bb vr fo up fi k) (LB n kd bb vr fo up fi k) := by
  intro p hp
  unfold UB LB
  by_cases z : p < n
  · rw [if_pos z, if_pos z]
    exact h2 p z
  · rw [if_neg z, if_neg z]
    obtain ⟨e1, e2, e3, e4⟩ := h3 p (by omega)
    have := h1 p (by omega) hp
    unfold bp at *
    rw [e1, e2, e3, e4]
    exact this
theorem bn_rows {B : Nat} (h : bnA σ B (n + m) (UB n kd bb vr fo up fi k) (LB n kd bb vr fo up fi k)) : ∀ p, n ≤ p → p < n + m → bp σ B p (rub n kd bb p) (rlb n kd bb p) := by
  intro p h1 h2
  have := h p h2
  unfold UB LB at this
  rw [if_neg (by omega), if_neg (by omega)] at this
  exact this
theorem bn_R (hr : rwI n m A kd bb dr) (hA : stA n K lc up fi se vr fo to ln) (hk : k < K) : bnR (n + m) (UB n kd bb vr fo up fi k) (LB n kd bb vr fo up fi k) := by
  intro p v hp h
  rcases h with h | h
  · have := bn_U hr hA hk hp h
    omega
  · have := bn_L hr hA hk hp h
    omega
/-! goBack -/
theorem c_goBack0 (hc : cSh σ o N) (ht : trV σ o q K lc up fi se vr fo to cd ln (some k)) (hA : stA n K lc up fi se vr fo to ln) (hk : k < K) (hct : ctV σ o st sp ex cf spl) (hl : lwt se (pt up fi k) = none) (hf : 2000 ≤ f) :
    gp (X7_goBack f (some (o + 322))) σ (fun _ σ' => Fr (fun x => x = o + 322 ∨ x = o + 312) σ σ' ∧ ctV σ' o 3 sp ex cf spl ∧ trV σ' o q K lc up fi se vr fo to cd ln none) := by
  obtain ⟨⟨h1, h2, h3, h4, h5, h6⟩, g, h8, h9⟩ := id ht
  obtain ⟨c1, c2, c3, c4, c5⟩ := hct
  unfold X7_goBack
  refine gp_rR (cs_solv hc) rfl ?_
  refine gp_cV (cs_tree hc) (gp_mono (c_lastWaiting hc ht (stA_w hA) hf hk) ?_)
  rintro y σ0 ⟨z0, rfl⟩
  rw [z0, hl]
  clear z0 σ0
  refine gp_f (by decide) ?_
  refine gp_wI (cs_solv hc) rfl ?_
  have hc1 : cSh (tz_sF σ (o + 322) 4 3) o N := hc
  refine gp_rR (cs_solv hc1) rfl ?_
  refine gp_wI (cs_tree hc1) rfl ?_
  refine gp_ret ⟨Fr_trans (Fr_sF (Or.inl rfl)) (Fr_sF (Or.inr rfl)), ?_, ⟨?_, ?_, ?_, h4, h5, h6⟩, g, h8, h9⟩
  · show tz_u2 (tz_u2 (tz_F σ) (o + 322) 4 3) (o + 312) 11 (-2) (o + 322) 4 = _ ∧ tz_u2 (tz_u2 (tz_F σ) (o + 322) 4 3) (o + 312) 11 (-2) (o + 322) 5 = _ ∧ tz_u2 (tz_u2 (tz_F σ) (o + 322) 4 3) (o + 312) 11 (-2) (o + 322) 6 = _ ∧ tz_u2 (tz_u2 (tz_F σ) (o + 322) 4 3) (o + 312) 11 (-2) (o + 322) 7 = _ ∧ tz_u2 (tz_u2 (tz_F σ) (o + 322) 4 3) (o + 312) 11 (-2) (o + 322) 8 = _
    simp [tz_u2, c2, c3, c4, c5]
    rfl
  · show tz_u2 (tz_u2 (tz_F σ) (o + 322) 4 3) (o + 312) 11 (-2) (o + 312) 10 = _
    simp [tz_u2, h1]
  · show tz_u2 (tz_u2 (tz_F σ) (o + 322) 4 3) (o + 312) 11 (-2) (o + 312) 9 = _
    simp [tz_u2, h2]
  · show tz_u2 (tz_u2 (tz_F σ) (o + 322) 4 3) (o + 312) 11 (-2) (o + 312) 11 = _
    simp [tz_u2]
    rfl
theorem slP_ae {i x : Nat} (h : aeP o i x) : slP o x := by
  unfold aeP lfP lfA at h
  unfold slP
  omega
set_option maxHeartbeats 1000000 in
theorem c_goBack1 {s : Nat} (hc : cSh σ o N) (hr : rwI n m A kd bb dr) (hw : rwV σ o n m A kd bb wh dr) (hs : smOk σ (o + 30) N) (ht : trV σ o q K lc up fi se vr fo to cd ln (some k)) (hA : stA n K lc up fi se vr fo to ln) (ho : stO K lc spl up fi se ln k) (hct : ctV σ o st sp ex cf spl) (hl : lwt se (pt up fi k) = some s)
    (htb : tbV σ o n m D T (amt n T va) va bs cl) (hI : tbI n m A D T bs cl) (hpm : pmI n m bs cl) (hva : vaB n va) (hbn : bnA σ (o + 323) (n + m) (UB n kd bb vr fo up fi k) (LB n kd bb vr fo up fi k)) (hlf : ∀ i, i < lc → lfV σ (lfA o i) (mp i)) (hf : 2000 ≤ f) :
    gp (X7_goBack f (some (o + 322))) σ (fun _ σ' => ∃ q', q ≤ q' ∧ tz_ns σ' = tz_ns σ + 801 * (q' - q) ∧ Gr (slP o) σ σ' ∧ cSh σ' o N ∧ rwV σ' o n m A kd bb wh dr ∧ smOk σ' (o + 30) N ∧ ctV σ' o st sp ex cf spl ∧
      trV σ' o q' (K + 1) (lc + 1) (ups up K (some s)) (ups fi K none) (fun j => if j = K then none else if some s = some j then some K else se j) vr fo to (ups cd K false) (ups ln K lc) (some K) ∧
      (∀ i, i < lc + 1 → lfV σ' (lfA o i) (ups mp lc (fun _ => (0, 1)) i)) ∧ tbV σ' o n m D T (amt n T (mvV n cl va (vr s) (fL vr fo (vr s) ((s, false) :: pt up fi s) none))) (mvV n cl va (vr s) (fL vr fo (vr s) ((s, false) :: pt up fi s) none)) bs cl ∧
      bnA σ' (o + 323) (n + m) (UB n kd bb vr fo (ups up K (some s)) (ups fi K none) K) (LB n kd bb vr fo (ups up K (some s)) (ups fi K none) K)) := by
  obtain ⟨hs1, hfs, hls, hsub, ho2⟩ := ad_O hA ho hl
  have hk : k < K := by have := ho.1; omega
  have hn1 := hr.1.1
  have hm1 := hr.1.2
  have hnc := ht.2.1.1
  have hu : ∀ j, some s = some j → j < K ∧ fi j ≠ none := fun j e => by cases e; exact ⟨hs1, hfs⟩
  have hA2 := ad_A hA hu
  have hlc : lc < 151 := by have := ho.2.2.2.2.2.2.2; omega
  have hK3 : K < 301 := by have := ho.2.2.2.2.2.2.2; have := ho.2.2.2.1; omega
  have hlq := ht.1.2.2.2.2.1
  have hptK := ad_ptK hA hs1 hfs
  obtain ⟨hvn, -, -⟩ := (hA s hs1).2.2.2.2 hfs
  unfold X7_goBack
  refine gp_rR (cs_solv hc) rfl ?_
  refine gp_cV (cs_tree hc) (gp_mono (c_lastWaiting hc ht (stA_w hA) hf hk) ?_)
  rintro y σ0 ⟨z0, rfl⟩
  rw [z0, hl]
  clear z0 σ0
  refine gp_t (by show (0 : Int32) ≤ nI s; rw [show (0 : Int32) = nI 0 from rfl, nI_leI (by omega) (by omega)]; omega) ?_
  refine gp_rR (cs_solv hc) rfl ?_
  refine gp_cV (cs_tree hc) (gp_mono (c_addLeafN (u := some s) hc ht (stA_w hA) hf hK3 hlc hu) ?_)
  rintro _ σ1 ⟨q', hq', hns, hG, hc1, hlv, ht1⟩
  have hw1 := rwV_gro hw hG (by omega) (fun x a b z => by unfold aeP lfP lfA at z; omega)
  have hs2 := smOk_gro hs hG (by omega) (fun z => by unfold aeP lfP lfA at z; omega) (fun z => by unfold aeP lfP lfA at z; omega)
  have hct1 := ctV_gro hct hG (by omega) (fun z => by unfold aeP lfP lfA at z; omega)
  have htb1 := tbV_gro htb hG (by omega) (fun x a b z => by unfold aeP lfP lfA at z; omega)
  have hbr1 : ∀ p, n ≤ p → p < n + m → bp σ1 (o + 323) p (rub n kd bb p) (rlb n kd bb p) := fun p h1 h2 => bp_gro (bn_rows hbn p h1 h2) hG (by omega) (fun x a b z => by unfold aeP lfP lfA at z; omega)
  have hlf1 : ∀ i, i < lc + 1 → lfV σ1 (lfA o i) (ups mp lc (fun _ => (0, 1)) i) := fun i hi => by
    by_cases z : i = lc
    · rw [z, ups_s]; exact hlv
    · rw [ups_n _ _ z]
      exact lfV_gro (hlf i (by omega)) hG (by unfold lfA; omega) (fun x a b z => by unfold aeP lfP lfA at z; unfold lfA at a b; omega)
  have hG1 : Gr (slP o) σ σ1 := Gr_mono hG (fun x _ z => slP_ae z)
  clear hG hw hs hct htb hbn hlf hlv
  refine gp_cV (cs_solv hc1) (gp_mono (c_setSplitBounds hc1 hw1 ht1 hA2 (by omega) hf) ?_)
  rintro _ σ2 ⟨hF, hb2, hb3⟩
  have hbn2 := bn_join hbr1 hb2 hb3
  have hc2 := cs_fr hc1 hF
  have hw2 := rwV_fr hw1 hF (fun x a b => by unfold bnP; omega)
  have hs3 := smOk_fr hs2 hF (by unfold bnP; omega) (by unfold bnP; omega)
  have hct2 := ctV_fr hct1 hF (by unfold bnP; omega)
  have htb2 := tbV_fr htb1 hF (fun x a b => by unfold bnP; omega) (fun x a b => by unfold bnP; omega)
  have ht2 := trV_fr ht1 hF (fun x a b => by unfold bnP; omega)
  have hlf2 : ∀ i, i < lc + 1 → lfV σ2 (lfA o i) (ups mp lc (fun _ => (0, 1)) i) := fun i hi => lfV_fr (hlf1 i hi) hF (fun x a b => by unfold bnP; unfold lfA at a; omega)
  have hG2 : Gr (slP o) σ σ2 := Gr_then hG1 hF (fun x z => by unfold bnP at z; unfold slP; omega)
  have hns2 : tz_ns σ2 = tz_ns σ + 801 * (q' - q) := by rw [hF.2.1]; exact hns
  clear hF hb2 hb3 hc1 hw1 hs2 hct1 htb1 ht1 hlf1 hG1 hns hbr1
  obtain ⟨w, hw3⟩ := fL_has (vr := vr) (fo := fo) (s := s) (l := pt up fi s)
  have hwb := st_L hA2 (k := K) (x := vr s) (by omega) (by rw [hptK]; exact hw3)
  have hlow : (tz_L σ2 (o + 327) (vr s)).toInt = w := by
    have := (hbn2 (vr s) (by omega)).2.2.2 w
    unfold LB at this
    rw [if_pos hvn, hptK] at this
    exact this hw3
  have hvar : tz_A σ2 (o + 316) s = nI (vr s) := (ht2.2.2.2 s (by omega) (by rw [ups_n _ _ (by omega)]; exact hfs)).1
  have fin : mvV n cl va (vr s) (fL vr fo (vr s) ((s, false) :: pt up fi s) none) = va → gp (X7_goBack_b101 f) σ2 (fun _ σ' => ∃ q', q ≤ q' ∧ tz_ns σ' = tz_ns σ + 801 * (q' - q) ∧ Gr (slP o) σ σ' ∧ cSh σ' o N ∧ rwV σ' o n m A kd bb wh dr ∧ smOk σ' (o + 30) N ∧ ctV σ' o st sp ex cf spl ∧
      trV σ' o q' (K + 1) (lc + 1) (ups up K (some s)) (ups fi K none) (fun j => if j = K then none else if some s = some j then some K else se j) vr fo to (ups cd K false) (ups ln K lc) (some K) ∧
      (∀ i, i < lc + 1 → lfV σ' (lfA o i) (ups mp lc (fun _ => (0, 1)) i)) ∧ tbV σ' o n m D T (amt n T (mvV n cl va (vr s) (fL vr fo (vr s) ((s, false) :: pt up fi s) none))) (mvV n cl va (vr s) (fL vr fo (vr s) ((s, false) :: pt up fi s) none)) bs cl ∧
      bnA σ' (o + 323) (n + m) (UB n kd bb vr fo (ups up K (some s)) (ups fi K none) K) (LB n kd bb vr fo (ups up K (some s)) (ups fi K none) K)) := by
    intro e
    rw [e]
    unfold X7_goBack_b101
    exact gp_ret ⟨q', hq', hns2, hG2, hc2, hw2, hs3, hct2, ht2, hlf2, htb2, hbn2⟩
  refine gp_rR (cs_solv hc2) rfl ?_
  refine gp_rR (cs_tree hc2) rfl ?_
  refine gp_aI (j := s) (cs_variable hc2) (by decide) (by omega) (by omega) rfl ?_
  rw [hvar]
  refine gp_rR (cs_solv hc2) rfl ?_
  rcases hpm.2.2.2.2.2 (vr s) (by omega) with ⟨r, hrm, hbr⟩ | ⟨c, hcn, hcc⟩
  · rw [← hbr]
    refine gp_cV (cs_tab hc2) (gp_mono (c_columnOfR hc2 htb2 hrm) ?_)
    rintro y σ0 ⟨z0, rfl⟩
    rw [z0]
    clear z0 σ0
    refine gp_t (by decide) ?_
    rw [hbr]
    refine fin ?_
    unfold mvV
    rw [← hbr, tb_ixCn htb2 hrm]
  · have hix : ix cl (vr s) n = some c := by rw [← hcc]; exact tb_ixC htb2 hcn
    rw [← hcc]
    refine gp_cV (cs_tab hc2) (gp_mono (c_columnOfC hc2 htb2 hcn) ?_)
    rintro y σ0 ⟨z0, rfl⟩
    rw [z0]
    clear z0 σ0
    rw [hcc]
    refine gp_f (nI_pos (by omega)) ?_
    refine gp_rR (cs_solv hc2) rfl ?_
    refine gp_rR (cs_tab hc2) rfl ?_
    refine gp_aL (j := c) (cs_rest hc2) (by omega) (by omega) rfl ?_
    have hvc := htb2.2.2.2.2.1 c hcn
    refine gp_rR (cs_solv hc2) rfl ?_
    refine gp_rR (cs_bnd hc2) rfl ?_
    refine gp_aL (j := vr s) (cs_lo hc2) (by omega) (by omega) rfl ?_
    refine gp_if (fun z => ?_) (fun z => ?_)
    · rw [lg_cmp_ge, Int64.le_iff_toInt_le, hlow, hvc] at z
      refine fin ?_
      unfold mvV
      rw [hix, hw3]
      show (if va c < w then ups va c w else va) = va
      rw [if_neg (by omega)]
    · rw [lg_cmp_ge, Int64.le_iff_toInt_le, hlow, hvc] at z
      have e : mvV n cl va (vr s) (fL vr fo (vr s) ((s, false) :: pt up fi s) none) = ups va c w := by
        unfold mvV
        rw [hix, hw3]
        show (if va c < w then ups va c w else va) = _
        rw [if_pos (by omega)]
      refine gp_rR (cs_solv hc2) rfl ?_
      refine gp_rR (cs_solv hc2) rfl ?_
      refine gp_rR (cs_bnd hc2) rfl ?_
      refine gp_aL (j := vr s) (cs_lo hc2) (by omega) (by omega) rfl ?_
      have hvb := hva c hcn
      have hva2 : vaB n (ups va c w) := vaB_ups hva (by omega)
      refine gp_cV (cs_tab hc2) (gp_mono (c_move hc2 htb2 hs3 hf hcn (by omega) (by rw [hlow]; omega) (fun i hi => ?_)) ?_)
      · rw [hlow, ← am_mv hcn i]
        have h1 := am_le hI hpm hn1 (rw_A hr) hva2 hi
        have h2 : (10 : Nat) ^ 90 < 1000000000 ^ 12 := by decide
        exact lt_cast (a := 1000000000) (by omega)
      · rintro _ σ3 ⟨hF, hs4, htb3⟩
        rw [hlow] at htb3
        unfold X7_goBack_b101
        rw [e]
        refine gp_ret ⟨q', hq', by rw [hF.2.1]; exact hns2, Gr_then hG2 hF (fun x z => by unfold exP at z; unfold slP; omega), cs_fr hc2 hF, rwV_fr hw2 hF (fun x a b => by unfold exP; omega), hs4, ctV_fr hct2 hF (by unfold exP; omega), trV_fr ht2 hF (fun x a b => by unfold exP; omega), fun i hi => lfV_fr (hlf2 i hi) hF (fun x a b => by unfold exP; unfold lfA at a; omega), tbV_cong htb3 (fun _ _ _ _ => rfl) (fun r _ => (am_mv hcn r).symm) (fun _ _ => rfl), fun p hp => bp_fr (hbn2 p hp) hF (fun x a b => by unfold exP; omega)⟩
end SX
