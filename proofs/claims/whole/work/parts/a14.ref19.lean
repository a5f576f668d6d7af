/-! ===== the reference: exchange, all together ===== -/
section RU
variable {f M n m ex sd : Nat} {σ : tz_S} {A T : Nat → Nat → Int} {kd : Nat → Nat} {bb dr : Nat → Int} {wh : Nat → Bool} {D b : Int} {va : Nat → Int} {bs cl : Nat → Nat} {ub lb : Nat → Option Int} {r c : Nat}
theorem cls_of (hT : rtV σ M n m D T va bs cl) (hz : tSz n m D T va) : clsV σ M n m T := fun r c hr hc => by
  obtain ⟨k, k1, k2⟩ := hT.2.2.2.1 r c hr hc
  exact ⟨k, nV_le k1 (hz.2.2.1 r c hr hc), k1⟩
set_option maxHeartbeats 2000000 in
theorem r_exchange (h : mSh σ M) (ht : tz_F σ M 35 = nI 447200) (hrr : rrV σ M n m A kd bb wh dr) (hT : rtV σ M n m D T va bs cl) (hz : tSz n m D T va) (hb : rbV σ M n ub lb) (hbz : bSz n m kd bb ub lb) (hI : tbI n m A D T bs cl) (hpm : pmI n m bs cl) (hr : r < m) (hc : c < n) (hp : T r c ≠ 0) (hXz : ∀ a b, a < m → b < n → ((xT D T r c (isg (T r c)).toInt a b).natAbs : Int) < 1000000000 ^ 8) (h9 : tz_F σ M 9 = nI ex) (h29 : tz_F σ M 29 = nI sd) (hsd : sd < 2) (hbv : bdS n kd bb ub lb (bs r) sd = some b) (hf : 2000 ≤ f) :
    gp (X12_exchange f (some M) (nI r) (nI c)) σ (fun _ σ' => Fr (fun x => x = M ∨ x = M + 7 ∨ x = M + 8 ∨ x = M + 20) σ σ' ∧ (∀ k, k ≠ 9 → k ≠ 36 → tz_F σ' M k = tz_F σ M k) ∧ tz_F σ' M 9 = nI (ex + 1) ∧ (∀ i, i < 447200 → 10456 ≤ i → tz_A σ' (M + 20) i = tz_A σ (M + 20) i) ∧ rtV σ' M n m (T r c * (isg (T r c)).toInt) (xT D T r c (isg (T r c)).toInt) (ups va c b) (fun i => if i = r then cl c else bs i) (fun j => if j = c then bs r else cl j)) := by
  obtain ⟨⟨a1, a2, a3, a4⟩, -⟩ := id hrr
  have hbr := hpm.1 r hr
  have hcc := hpm.2.1 c hc
  have hcls := cls_of hT hz
  unfold X12_exchange
  refine gp_rI (mh_me h) rfl ?_
  rw [h9, nI_1]
  refine gp_wI (mh_me h) rfl ?_
  have hs1 : mSh (tz_sF σ M 9 (nI (ex + 1))) M := h
  have hF1 : ∀ k, k ≠ 9 → tz_F (tz_sF σ M 9 (nI (ex + 1))) M k = tz_F σ M k := fun k hk => tz_u2_ne _ _ (Or.inr hk)
  have hF19 : tz_F (tz_sF σ M 9 (nI (ex + 1))) M 9 = nI (ex + 1) := tz_u2_same _ _ _ _
  have hFr1 : Fr (fun x => x = M) σ (tz_sF σ M 9 (nI (ex + 1))) := Fr_sF rfl
  have hA1 : tz_A (tz_sF σ M 9 (nI (ex + 1))) = tz_A σ := rfl
  have hrr1 : rrV (tz_sF σ M 9 (nI (ex + 1))) M n m A kd bb wh dr := by
    unfold rrV at *
    rw [hF1 0 (by decide), hF1 1 (by decide)]
    exact hrr
  have hb1 : rbV (tz_sF σ M 9 (nI (ex + 1))) M n ub lb := hb
  generalize tz_sF σ M 9 (nI (ex + 1)) = σ1 at *
  refine gp_rR (mh_me hs1) rfl ?_
  refine gp_aI (j := r) (mh_7 hs1) (by decide) (by omega) (by omega) rfl ?_
  rw [hA1, hT.1 r hr]
  refine gp_rR (mh_me hs1) rfl ?_
  refine gp_aI (j := c) (mh_8 hs1) (by decide) (by omega) (by omega) rfl ?_
  rw [hA1, hT.2.1 c hc]
  refine gp_rI (mh_me hs1) rfl ?_
  rw [hF1 35 (by decide), ht]
  refine gp_rI (mh_me hs1) rfl ?_
  rw [hF1 29 (by decide), h29]
  refine gp_cV (mh_me hs1) (gp_mono (r_bound hs1 (by rw [hF1 35 (by decide)]; exact ht) (Nat.le_refl _) (by omega) hrr1 hb1 hbr hsd hbv hf) ?_)
  rintro _ σ2 ⟨hP2, x, kx, t2, rfl, x1, x2, x3, h352, hvx, hx10⟩
  have hs2 := mSh_fr hs1 hP2.1
  have hkx := nV_le hvx (hbz _ _ _ hbr hsd hbv)
  unfold X12_valueAt
  refine gp_cB (gp_ret ?_)
  rw [at_v]
  refine gp_cV (mh_me hs2) (gp_mono (r_copyTo (to := 3856 + 300 * bs r) hs2 hvx (by omega) (by omega) (Or.inl (by omega)) hf) ?_)
  rintro _ σ3 ⟨hP3, hF3, hv3⟩
  have hs3 := mSh_fr hs2 hP3.1
  refine gp_wI (mh_me hs3) rfl ?_
  have hs4 : mSh (tz_sF σ3 M 35 (nI 447200)) M := hs3
  have hF4 : ∀ k, k ≠ 9 → k ≠ 36 → tz_F (tz_sF σ3 M 35 (nI 447200)) M k = tz_F σ M k := fun k k9 k36 => by
    show tz_u2 (tz_F σ3) M 35 (nI 447200) M k = _
    by_cases e : k = 35
    · rw [e, tz_u2_same, ht]
    · rw [tz_u2_ne _ _ (Or.inr e), hF3, hP2.2.1 k e k36]; exact hF1 k k9
  have hF49 : tz_F (tz_sF σ3 M 35 (nI 447200)) M 9 = nI (ex + 1) := by
    show tz_u2 (tz_F σ3) M 35 (nI 447200) M 9 = _
    rw [tz_u2_ne _ _ (Or.inr (by decide)), hF3, hP2.2.1 9 (by decide) (by decide)]; exact hF19
  have hA4 : ∀ i, i < 447200 → (i < 3856 + 300 * bs r ∨ 3856 + 300 * bs r + kx + 1 ≤ i) → tz_A (tz_sF σ3 M 35 (nI 447200)) (M + 20) i = tz_A σ (M + 20) i := fun i i1 i2 => by
    show tz_A σ3 (M + 20) i = _
    rw [hP3.2.2 i (by omega), hP2.2.2 i (by omega), hA1]
  have hv4 : nV (tz_A (tz_sF σ3 M 35 (nI 447200)) (M + 20)) (3856 + 300 * bs r) kx b := hv3
  have hFr4 : Fr (fun x => x = M ∨ x = M + 20) σ (tz_sF σ3 M 35 (nI 447200)) := Fr_trans (Fr_mono hFr1 (fun x z => Or.inl z)) (Fr_trans hP2.1 (Fr_trans hP3.1 (Fr_sF (Or.inl rfl))))
  have h354 : tz_F (tz_sF σ3 M 35 (nI 447200)) M 35 = nI 447200 := tz_u2_same _ _ _ _
  clear hP2 hP3 hv3 hvx h352 hs2 hs3 hF3 hrr1 hb1 hs1 hF1 hF19 hA1 hFr1
  generalize tz_sF σ3 M 35 (nI 447200) = σ4 at *
  clear σ3 σ2 σ1
  have hcls4 : clsV σ4 M n m T := fun i j hi hj => by
    obtain ⟨k, k1, k2⟩ := hcls i j hi hj
    exact ⟨k, k1, nV_congr k2 (fun y y1 y2 => hA4 y (by omega) (by omega))⟩
  obtain ⟨kD0, d1, d2⟩ := hT.2.2.1
  have hkD := nV_le d1 hz.2.1
  have hD4 : nV (tz_A σ4 (M + 20)) 0 kD0 D := nV_congr d1 (fun y y1 y2 => hA4 y (by omega) (by omega))
  obtain ⟨kp, p1, p2⟩ := hcls4 r c hr hc
  unfold X12_factorAt
  refine gp_cB (gp_ret ?_)
  rw [at_f]
  refine gp_cV (mh_me hs4) (gp_mono (r_again hs4 h354 p2 (by omega) (by omega) hf) ?_)
  rintro _ σ5 ⟨rfl, hP5, h355, hp5⟩
  have hs5 := mSh_fr hs4 hP5.1
  refine gp_cV (mh_me hs5) (gp_mono (r_sgn hs5 hp5 (by omega)) ?_)
  rintro _ σ0 ⟨z0, rfl⟩
  rw [z0]
  clear z0 σ0
  have rest : ∀ l7 : Int32, ((l7 = 0 ∧ (isg (T r c)).toInt = 1) ∨ (l7 ≠ 0 ∧ (isg (T r c)).toInt = -1)) → gp (X12_exchange_b79 f (some M) (nI r) (nI c) (nI (bs r)) (nI (cl c)) (nI 447200) (nI 447200) l7) σ5 (fun _ σ' => Fr (fun x => x = M ∨ x = M + 7 ∨ x = M + 8 ∨ x = M + 20) σ σ' ∧ (∀ k, k ≠ 9 → k ≠ 36 → tz_F σ' M k = tz_F σ M k) ∧ tz_F σ' M 9 = nI (ex + 1) ∧ (∀ i, i < 447200 → 10456 ≤ i → tz_A σ' (M + 20) i = tz_A σ (M + 20) i) ∧ rtV σ' M n m (T r c * (isg (T r c)).toInt) (xT D T r c (isg (T r c)).toInt) (ups va c b) (fun i => if i = r then cl c else bs i) (fun j => if j = c then bs r else cl j)) := by
    intro l7 hg
    unfold X12_exchange_b79
    have hD5 := nV_pq hD4 hP5 (Or.inl (by omega))
    refine gp_cV (mh_me hs5) (gp_mono (r_again (x := 0) hs5 h355 hD5 (by omega) (by omega) hf) ?_)
    rintro _ σ6 ⟨rfl, hP6, h356, hD6⟩
    have hE : exI σ4 M n m 447200 (447200 + kp + 1) kp kD0 (T r c) D (xC D T r c (isg (T r c)).toInt 0 0) (447200 + kp + 1 + kD0 + 1) σ6 := ⟨Xq_pq (Xq_pq Xq_refl hP5 (Or.inr (Nat.le_refl _))) hP6 (Or.inr (by omega)), h356, by omega, nV_pq hp5 hP6 (Or.inl (by omega)), hD6, cls_cong (cls_pq (cls_pq hcls4 hP5 (Nat.le_refl _) a3 a4) hP6 (by omega) a3 a4) (fun a b _ _ => (xC_0 a b).symm)⟩
    unfold X12_exchange_L91
    refine gp_loop (I := fun (τ : Int32) (σ' : tz_S) => ∃ i tp, τ = nI i ∧ i ≤ m ∧ tp ≤ 447220 + 20 * i ∧ exI σ4 M n m 447200 (447200 + kp + 1) kp kD0 (T r c) D (xC D T r c (isg (T r c)).toInt i 0) tp σ') (fun τ _ => 100 - τ.toNatClampNeg) ?_ f _ _ ⟨0, _, rfl, Nat.zero_le _, by omega, hE⟩ (by omega)
    clear hE h356 hD6 hP6 σ6
    rintro K l9 σ6 ⟨i, tp, rfl, hi, htp, hE⟩ hK
    show gp (X12_exchange_L91_body f (some M) (nI r) (nI c) (nI (bs r)) (nI (cl c)) (nI 447200) (nI 447200) l7 (nI (447200 + kp + 1)) (fun l9 => K l9) (nI i)) σ6 _
    unfold X12_exchange_L91_body
    obtain ⟨e1, e2, e3, e4, e5, e6⟩ := id hE
    have hs6 := mSh_fr hs4 e1.1
    refine gp_rI (mh_me hs6) rfl ?_
    rw [e1.2.1 1 (by decide) (by decide), hF4 1 (by decide) (by decide), a2]
    refine gp_if (fun z => ?_) (fun z => ?_)
    · rw [nI_leI (by omega) (by omega)] at z
      have him : i = m := by omega
      subst him
      refine gp_mono (r_exSelf (pb := bs r) (pc := cl c) (by rw [hF4 0 (by decide) (by decide)]; exact a1) hs4 a3 a4 hr hc hg rfl (by omega) p1 hkD (by omega) ⟨e1, e2, e3, e4, e5, cls_cong e6 (fun a b ha _ => xR_0 a b ha)⟩ hf) ?_
      rintro _ σ' ⟨σ7, b1, b2, b3, b4, b5, b6, rfl⟩
      have hkeep : ∀ y kk v, 1936 ≤ y → y + kk < 447200 → nV (tz_A σ4 (M + 20)) y kk v → nV (tz_A σ7 (M + 20)) y kk v := fun y kk v y1 y2 y3 => nV_congr y3 (fun q q1 q2 => b3 q (by omega) (by omega))
      have b55 : nP (tz_sA (tz_sA σ7 (M + 7) r (nI (cl c))) (M + 8) c (nI (bs r))) M 0 (T r c * (isg (T r c)).toInt) := by
        obtain ⟨k, k1, k2⟩ := b5
        exact ⟨k, nV_congr k1 (fun q q1 q2 => by
          show tz_u2 (tz_u2 (tz_A σ7) (M + 7) r (nI (cl c))) (M + 8) c (nI (bs r)) (M + 20) q = _
          rw [tz_u2_ne _ _ (Or.inl (by omega)), tz_u2_ne _ _ (Or.inl (by omega))]), k2⟩
      refine ⟨?_, fun k k9 k36 => ?_, ?_, fun q q1 q2 => ?_, ?_, ?_, b55, ?_, ?_⟩
      · exact Fr_trans (Fr_mono hFr4 (fun y w => by omega)) (Fr_trans (Fr_mono b1 (fun y w => by omega)) (Fr_trans (Fr_sA (Or.inr (Or.inl rfl))) (Fr_sA (Or.inr (Or.inr (Or.inl rfl))))))
      · show tz_F σ7 M k = _
        by_cases e : k = 35
        · rw [e, b4, ht]
        · rw [b2 k e k36]; exact hF4 k k9 k36
      · show tz_F σ7 M 9 = _
        rw [b2 9 (by decide) (by decide)]; exact hF49
      · show tz_u2 (tz_u2 (tz_A σ7) (M + 7) r (nI (cl c))) (M + 8) c (nI (bs r)) (M + 20) q = _
        rw [tz_u2_ne _ _ (Or.inl (by omega)), tz_u2_ne _ _ (Or.inl (by omega)), b3 q q1 (by omega)]
        exact hA4 q q1 (by omega)
      · intro y hy
        show tz_u2 (tz_u2 (tz_A σ7) (M + 7) r (nI (cl c))) (M + 8) c (nI (bs r)) (M + 7) y = nI (if y = r then cl c else bs y)
        rw [tz_u2_ne _ _ (Or.inl (by omega))]
        by_cases e : y = r
        · rw [e, tz_u2_same, if_pos rfl]
        · rw [tz_u2_ne _ _ (Or.inr e), if_neg e, Fr_A b1 (by omega), Fr_A hFr4 (by omega)]
          exact hT.1 y hy
      · intro y hy
        show tz_u2 (tz_u2 (tz_A σ7) (M + 7) r (nI (cl c))) (M + 8) c (nI (bs r)) (M + 8) y = nI (if y = c then bs r else cl y)
        by_cases e : y = c
        · rw [e, tz_u2_same, if_pos rfl]
        · rw [tz_u2_ne _ _ (Or.inr e), tz_u2_ne _ _ (Or.inl (by omega)), if_neg e, Fr_A b1 (by omega), Fr_A hFr4 (by omega)]
          exact hT.2.1 y hy
      · intro y1 y2 hy1 hy2
        obtain ⟨k, k1, k2⟩ := b6 y1 y2 hy1 hy2
        exact ⟨k, nV_congr k2 (fun q q1 q2 => by
          show tz_u2 (tz_u2 (tz_A σ7) (M + 7) r (nI (cl c))) (M + 8) c (nI (bs r)) (M + 20) q = _
          rw [tz_u2_ne _ _ (Or.inl (by omega)), tz_u2_ne _ _ (Or.inl (by omega))]), by omega⟩
      · intro y hy
        have hfin : ∀ kk v, nV (tz_A σ7 (M + 20)) (3856 + 300 * (if y = c then bs r else cl y)) kk v → kk ≤ 3 → v = ups va c b y → (if y = c then bs r else cl y) < 22 → nP (tz_sA (tz_sA σ7 (M + 7) r (nI (cl c))) (M + 8) c (nI (bs r))) M (3856 + 300 * (if y = c then bs r else cl y)) (ups va c b y) := by
          intro kk v w1 w2 w3 w4
          rw [← w3]
          exact ⟨kk, nV_congr w1 (fun q q1 q2 => by
            show tz_u2 (tz_u2 (tz_A σ7) (M + 7) r (nI (cl c))) (M + 8) c (nI (bs r)) (M + 20) q = _
            rw [tz_u2_ne _ _ (Or.inl (by omega)), tz_u2_ne _ _ (Or.inl (by omega))]), by omega⟩
        by_cases e : y = c
        · rw [if_pos e] at hfin
          simp only [if_pos e]
          refine hfin kx b (hkeep _ _ _ (by omega) (by omega) hv4) hkx (by rw [e, ups_s]) (by omega)
        · rw [if_neg e] at hfin
          simp only [if_neg e]
          have hcy := hpm.2.1 y hy
          have hne := hpm.2.2.2.2.1 r y hr hy
          obtain ⟨k, k1, k2⟩ := hT.2.2.2.2 y hy
          have hk3 := nV_le k1 (hz.2.2.2.1 y hy)
          refine hfin k (va y) (hkeep _ _ _ (by omega) (by omega) (nV_congr k1 (fun q q1 q2 => hA4 q (by omega) (by omega)))) hk3 (by rw [ups_n _ _ e]) (by omega)
    · rw [nI_leI (by omega) (by omega)] at z
      have him : i < m := by omega
      refine gp_if (fun q => ?_) (fun q => ?_)
      · rw [nI_eq (by omega) (by omega)] at q
        subst q
        unfold X12_exchange_b244
        refine gp_let ?_
        rw [nI_1]
        exact hK _ _ ⟨i + 1, tp, rfl, by omega, by omega, e1, e2, e3, e4, e5, cls_cong e6 (fun a b _ _ => xC_skip a b)⟩ (by rw [nI_clamp (by omega), nI_clamp (by omega)]; omega)
      · rw [nI_eq (by omega) (by omega)] at q
        refine r_exRow (K91 := fun l9 => K l9) hI (by rw [hF4 0 (by decide) (by decide)]; exact a1) hs4 a3 a4 hr hc hp hz.2.2.1 hXz hg (Nat.le_refl _) (by omega) p1 hkD (by omega) him q hE hf ?_
        intro σ7 tp2 g1 g2 g3
        exact hK _ _ ⟨i + 1, tp2, rfl, by omega, by omega, g3⟩ (by rw [nI_clamp (by omega), nI_clamp (by omega)]; omega)
  refine gp_if (fun q => ?_) (fun q => ?_)
  · rw [isg_n.2.2.2] at q
    refine rest 0 (Or.inl ⟨rfl, ?_⟩)
    rw [isg_pos (by omega)]; rfl
  · rw [isg_n.2.2.2] at q
    refine rest 1 (Or.inr ⟨by decide, ?_⟩)
    rw [isg_neg (by omega)]; rfl
end RU
