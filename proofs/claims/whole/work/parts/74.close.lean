/-! ===== Solving.closeLeaf ===== -/
/-- which multiplier of a leaf belongs to a place, on a side -/
def mix (n p : Nat) (s : Int) : Nat := if n ≤ p then p - n else (if 0 < s then 12 else 22) + p
def clM (n r : Nat) (T : Nat → Nat → Int) (D s : Int) (cl : Nat → Nat) : Nat → (Nat → Int × Int) → Nat → Int × Int
  | 0, mp => mp
  | c + 1, mp => if T r c = 0 then clM n r T D s cl c mp else ups (clM n r T D s cl c mp) (mix n (cl c) (wayI s (T r c))) (T r c * (-s), D)
section CL
variable {f o N n m : Nat} {σ : tz_S} {D : Int} {T : Nat → Nat → Int} {am va : Nat → Int} {bs cl : Nat → Nat} {A : Nat → Nat → Int} {kd : Nat → Nat} {bb dr : Nat → Int} {wh : Nat → Bool} {ub lb : Nat → Option Int}
  {q K lc : Nat} {up fi se : Nat → Option Nat} {vr : Nat → Nat} {fo to : Nat → Int} {cd : Nat → Bool} {ln : Nat → Nat} {op : Option Nat}
theorem mix_lt {p : Nat} {s : Int} (hp : p < n + 12) (hn : n ≤ 10) : mix n p s < 32 := by
  unfold mix
  by_cases z : n ≤ p
  · rw [if_pos z]; omega
  · rw [if_neg z]
    by_cases y : 0 < s
    · rw [if_pos y]; omega
    · rw [if_neg y]; omega
theorem c_ofPlace {l p : Nat} {s : Int32} (h : lfSh σ l) (hpn : p < n + 12) (hn : n ≤ 10) : gp (X5_ofPlace f (some l) (nI p) (nI n) s) σ (fun x σ' => σ' = σ ∧ x = some (l + 2 + 5 * mix n p s.toInt)) := by
  unfold mix
  by_cases z : n ≤ p
  · rw [if_pos z]
    exact c_ofPlaceR h z hpn hn
  · rw [if_neg z]
    exact c_ofPlaceV h (by omega) hn
theorem lfV_set {l i : Nat} {σ1 : tz_S} {mp : Nat → Int × Int} {p q : Int} (h : lfV σ l mp) (hf : Fr (fP (l + 2 + 5 * i)) σ σ1) (hz : Fz σ1 (l + 2 + 5 * i) 8 p q) : lfV σ1 l (ups mp i (p, q)) := by
  intro j hj
  by_cases z : j = i
  · subst z
    rw [ups_s]
    exact hz
  · rw [ups_n _ _ z]
    exact Fz_fr (h j hj) hf (fun x a b => by unfold fP; omega)
theorem fP_lf {l i x : Nat} (hi : i < 32) (h : fP (l + 2 + 5 * i) x) : lfP l x := by
  unfold fP at h
  unfold lfP
  omega
set_option maxHeartbeats 1000000 in
theorem c_closeLeaf {k r : Nat} {s : Int32} {mp : Nat → Int × Int} (hc : cSh σ o N) (ht : tbV σ o n m D T am va bs cl) (hw : rwV σ o n m A kd bb wh dr) (htr : trV σ o q K lc up fi se vr fo to cd ln (some k)) (hwf : trW K lc up fi se ln) (hk : k < K) (hfk : fi k = none) (hmp : lfV σ (lfA o (ln k)) mp) (hf : 2000 ≤ f) (hr : r < m) (hsd : s = 1 ∨ s = -1) :
    gp (X7_closeLeaf f (some (o + 322)) (nI r) s) σ (fun _ σ' => Fr (fun x => x = o + 319 ∨ lfP (lfA o (ln k)) x) σ σ' ∧ trV σ' o q K lc up fi se vr fo to (ups cd k true) ln (some k) ∧ lfV σ' (lfA o (ln k)) (clM n r T D s.toInt cl n (ups mp (mix n (bs r) s.toInt) (D * s.toInt, D)))) := by
  obtain ⟨⟨-, -, hn1, hm1⟩, h4, h5, h6, h7, h8, h9⟩ := id ht
  obtain ⟨⟨w1, w2, -, -⟩, w3, w4, w5, w6, w7⟩ := id hw
  obtain ⟨⟨t1, t2, t3, t4, t5, t6⟩, ⟨g1, g2, g3⟩, t8, t9⟩ := id htr
  have hln := (hwf k hk).2.2.2
  have hlA : o + 418 ≤ lfA o (ln k) := by unfold lfA; omega
  obtain ⟨hg1, hg2, hg3⟩ := turn_neg hsd
  unfold X7_closeLeaf
  refine gp_rR (cs_solv hc) rfl ?_
  refine gp_rR (cs_solv hc) rfl ?_
  refine gp_rI (cs_tree hc) rfl ?_
  rw [t3]
  refine gp_cV (cs_tree hc) (gp_mono (c_leafOf hc htr hwf) ?_)
  rintro y σ0 ⟨z0, hy⟩
  rw [z0]
  clear z0 σ0
  have hy' : y = some (lfA o (ln k)) := by
    rcases hy with ⟨j, e1, e2, e3, e4⟩ | ⟨e1, e2⟩
    · have e1' : nI k = nI j := e1
      rw [nI_eq (by omega) (by omega)] at e1'
      rw [e1']; exact e4
    · exact absurd hfk (e2 k rfl (by omega) hk)
  rw [hy']
  refine gp_f (by simp) ?_
  refine gp_rR (cs_solv hc) rfl ?_
  refine gp_rR (cs_tree hc) rfl ?_
  refine gp_rR (cs_solv hc) rfl ?_
  refine gp_rI (cs_tree hc) rfl ?_
  refine gp_sZ (j := k) (cs_closed hc) (by omega) (by omega) t3 (Or.inr rfl) ?_
  have hF1 : Fr (fun x => x = o + 319) σ (tz_sA σ (o + 319) k 1) := Fr_sA rfl
  have htr1 : trV (tz_sA σ (o + 319) k 1) o q K lc up fi se vr fo to (ups cd k true) ln (some k) := by
    refine ⟨⟨t1, t2, t3, t4, t5, t6⟩, ⟨g1, g2, g3⟩, ?_, ?_⟩
    · intro j hj
      obtain ⟨x1, x2, x3, x4, x5⟩ := t8 j hj
      rw [Fr_A hF1 (x := o + 313) (by omega), Fr_A hF1 (x := o + 314) (by omega), Fr_A hF1 (x := o + 315) (by omega), Fr_A hF1 (x := o + 320) (by omega)]
      refine ⟨x1, x2, x3, ?_, x5⟩
      show tz_u2 (tz_A σ) (o + 319) k 1 (o + 319) j = _
      by_cases z : j = k
      · subst z; rw [tz_u2_same, ups_s]; rfl
      · rw [tz_u2_ne _ _ (Or.inr z), ups_n _ _ z]; exact x4
    · intro j hj hfj
      rw [Fr_A hF1 (x := o + 316) (by omega)]
      exact t9 j hj hfj
  have hc1 := cs_fr hc hF1
  have ht1 := tbV_fr ht hF1 (fun x a b => by omega) (fun x a b => by omega)
  have hw1 := rwV_fr hw hF1 (fun x a b => by omega)
  have hmp1 := lfV_fr hmp hF1 (fun x a b => by omega)
  have hF10 : Fr (fun x => x = o + 319 ∨ lfP (lfA o (ln k)) x) σ (tz_sA σ (o + 319) k 1) := Fr_mono hF1 (fun x hx => Or.inl hx)
  clear hF1 h4 h5 h6 h7 h8 h9 w1 w2 w3 w4 w5 w6 w7 t1 t2 t3 g1 g2 g3 t8 t9
  generalize tz_sA σ (o + 319) k 1 = σ1 at *
  have htr0 : ∀ σ', Fr (lfP (lfA o (ln k))) σ1 σ' → trV σ' o q K lc up fi se vr fo to (ups cd k true) ln (some k) ∧ cSh σ' o N ∧ tbV σ' o n m D T am va bs cl ∧ rwV σ' o n m A kd bb wh dr := by
    intro σ' hF
    exact ⟨trV_fr htr1 hF (fun x a b => by unfold lfP; omega), cs_fr hc1 hF, tbV_fr ht1 hF (fun x a b => by unfold lfP; omega) (fun x a b => by unfold lfP; omega), rwV_fr hw1 hF (fun x a b => by unfold lfP; omega)⟩
  obtain ⟨-, h4, h5, h6, h7, h8, h9⟩ := id ht1
  have hl1 := htr1.2.1.2.2 (ln k) (by omega)
  have hbr := h8 r hr
  refine gp_rR (cs_solv hc1) rfl ?_
  refine gp_rR (cs_tab hc1) rfl ?_
  refine gp_rR (cs_solv hc1) rfl ?_
  refine gp_rR (cs_tab hc1) rfl ?_
  refine gp_aI (j := r) (cs_rpl hc1) (by decide) (by omega) (by omega) rfl ?_
  rw [hbr.1]
  refine gp_rR (cs_solv hc1) rfl ?_
  refine gp_rI (cs_rows hc1) rfl ?_
  rw [hw1.1.1]
  refine gp_cV hl1.1 (gp_mono (c_ofPlace hl1 (by omega) hn1) ?_)
  rintro y σ0 ⟨z0, rfl⟩
  rw [z0]
  clear z0 σ0
  have hmi := mix_lt (n := n) (p := bs r) (s := s.toInt) (by omega) hn1
  have hfs := (hl1.2.2 _ hmi).1
  refine gp_cV hfs.1 (gp_mono (c_setQuotient (turn := s) hfs hf h4 h4 (Bz_lt h4) (Bz_lt h4) (Or.inr hsd) (by omega)) ?_)
  rintro _ σ2 ⟨hF2, hz2⟩
  have hmp2 := lfV_set hmp1 hF2 hz2
  have hF12 : Fr (lfP (lfA o (ln k))) σ1 σ2 := Fr_mono hF2 (fun x hx => fP_lf hmi hx)
  unfold X7_closeLeaf_L77
  refine gp_loop (I := fun (τ : Int32) (σ' : tz_S) => ∃ i, τ = nI i ∧ i ≤ n ∧ Fr (lfP (lfA o (ln k))) σ1 σ' ∧ lfV σ' (lfA o (ln k)) (clM n r T D s.toInt cl i (ups mp (mix n (bs r) s.toInt) (D * s.toInt, D)))) (fun τ _ => 100 - τ.toNatClampNeg) ?_ f _ _ ⟨0, rfl, Nat.zero_le _, hF12, hmp2⟩ (by omega)
  clear hF12 hmp2 hz2 hF2 σ2 hfs hmi hbr hl1 h4 h5 h6 h7 h8 h9
  rintro K' l5 σ2 ⟨i, rfl, hi, hF2, hv2⟩ hK
  show gp (X7_closeLeaf_L77_body f (some (o + 322)) (nI r) s (some (lfA o (ln k))) (some (o + 40)) (fun l5 => K' l5) (nI i)) σ2 _
  unfold X7_closeLeaf_L77_body
  obtain ⟨htr2, hc2, ht2, hw2⟩ := htr0 σ2 hF2
  obtain ⟨-, h4, h5, h6, h7, h8, h9⟩ := id ht2
  have hl2 := htr2.2.1.2.2 (ln k) (by omega)
  refine gp_rR (cs_solv hc2) rfl ?_
  refine gp_rI (cs_rows hc2) rfl ?_
  rw [hw2.1.1]
  refine gp_if (fun z => ?_) (fun z => ?_)
  · rw [nI_leI (by omega) (by omega)] at z
    have : i = n := by omega
    subst this
    exact gp_ret ⟨Fr_trans hF10 (Fr_mono hF2 (fun x hx => Or.inr hx)), htr2, hv2⟩
  rw [nI_leI (by omega) (by omega)] at z
  refine gp_rR (cs_solv hc2) rfl ?_
  refine gp_cV (cs_tab hc2) (gp_mono (c_cell hc2 (by omega) (by omega)) ?_)
  rintro y σ0 ⟨z0, rfl⟩
  rw [z0]
  clear z0 σ0
  have hce := h5 r i hr (by omega)
  refine gp_rI (Bz_cl hce) rfl ?_
  rw [Bz_sign hce]
  refine gp_let ?_
  have hway := way_i (t := T r i) hsd
  have hwz : wayI s.toInt (T r i) = 0 ↔ T r i = 0 := by
    unfold wayI
    rcases hg3 with e | e <;> rcases isg_cases (T r i) with y | y | y <;> rw [e, y.2]
    · rw [show (1 : Int32).toInt = 1 from rfl]; omega
    · rw [show (-1 : Int32).toInt = -1 from rfl]; omega
    · rw [show (0 : Int32).toInt = 0 from rfl]; omega
    · rw [show (1 : Int32).toInt = 1 from rfl]; omega
    · rw [show (-1 : Int32).toInt = -1 from rfl]; omega
    · rw [show (0 : Int32).toInt = 0 from rfl]; omega
  generalize (-s) * isg (T r i) = w at hway ⊢
  have next : ∀ σ3, Fr (lfP (lfA o (ln k))) σ1 σ3 → lfV σ3 (lfA o (ln k)) (clM n r T D s.toInt cl (i + 1) (ups mp (mix n (bs r) s.toInt) (D * s.toInt, D))) → gp (X7_closeLeaf_b152 f (fun l5 => K' l5) (some (o + 322)) (nI r) s (some (lfA o (ln k))) (some (o + 40)) (nI i)) σ3 (fun _ σ' => Fr (fun x => x = o + 319 ∨ lfP (lfA o (ln k)) x) σ σ' ∧ trV σ' o q K lc up fi se vr fo to (ups cd k true) ln (some k) ∧ lfV σ' (lfA o (ln k)) (clM n r T D s.toInt cl n (ups mp (mix n (bs r) s.toInt) (D * s.toInt, D)))) := by
    intro σ3 q1 q2
    unfold X7_closeLeaf_b152
    refine gp_let ?_
    rw [nI_1]
    exact hK _ _ ⟨i + 1, rfl, by omega, q1, q2⟩ (by rw [nI_clamp (by omega), nI_clamp (by omega)]; omega)
  refine gp_if (fun y => ?_) (fun y => ?_)
  · have hT0 : T r i = 0 := by rw [← hwz, ← hway, y]; rfl
    refine next σ2 hF2 ?_
    simp only [clM, hT0, if_true]
    exact hv2
  · have hT0 : T r i ≠ 0 := fun e => by
      rw [← hwz, ← hway] at e
      exact y (az_iz.mp e)
    have hci := h9 i (by omega)
    refine gp_rR (cs_solv hc2) rfl ?_
    refine gp_rR (cs_tab hc2) rfl ?_
    refine gp_aI (j := i) (cs_cpl hc2) (by decide) (by omega) (by omega) rfl ?_
    rw [hci.1]
    refine gp_rR (cs_solv hc2) rfl ?_
    refine gp_rI (cs_rows hc2) rfl ?_
    rw [hw2.1.1]
    refine gp_cV hl2.1 (gp_mono (c_ofPlace hl2 (by omega) hn1) ?_)
    rintro x30 σ0 ⟨z0, rfl⟩
    rw [z0]
    clear z0 σ0
    rw [hway]
    have hmi := mix_lt (n := n) (p := cl i) (s := wayI s.toInt (T r i)) (by omega) hn1
    have hfs := (hl2.2.2 _ hmi).1
    refine gp_cV hfs.1 (gp_mono (c_setQuotient (turn := -s) hfs hf hce h4 (Bz_lt hce) (Bz_lt h4) (Or.inr hg2) (by omega)) ?_)
    rintro _ σ3 ⟨hF3, hz3⟩
    rw [hg1] at hz3
    refine next σ3 (Fr_then hF2 hF3 (fun x hx => fP_lf hmi hx)) ?_
    simp only [clM, hT0, if_false]
    exact lfV_set hv2 hF3 hz3
end CL
