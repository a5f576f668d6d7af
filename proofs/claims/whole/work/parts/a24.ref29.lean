/-! ===== the reference: conflict, the leaf is closed ===== -/
section SE
variable {f M n m k lc lf r sd op cf : Nat} {σ : tz_S} {T : Nat → Nat → Int} {D s : Int} {va : Nat → Int} {bs cl : Nat → Nat} {mq : Nat → Nat → Int × Int} {g0 : Nat → Int × Int} {Q : Unit → tz_S → Prop}
theorem isg_way (s : Int) (t : Int) (x : Int32) (hs : s = -1 ∧ x = isg t ∨ s = 1 ∧ x = -isg t) : (x = 0 ∧ t = 0) ∨ (x = 1 ∧ 0 < wayI s t ∧ t ≠ 0) ∨ (x = -1 ∧ ¬ 0 < wayI s t ∧ t ≠ 0) := by
  unfold wayI
  rcases isg_cases t with ⟨z, e⟩ | ⟨z, e⟩ | ⟨z, e⟩ <;> rcases hs with ⟨h1, h2⟩ | ⟨h1, h2⟩ <;> rw [e] at h2 ⊢ <;> rw [h1, h2]
  · exact Or.inr (Or.inl ⟨rfl, by decide, by omega⟩)
  · exact Or.inr (Or.inr ⟨rfl, by decide, by omega⟩)
  · exact Or.inr (Or.inr ⟨rfl, by decide, by omega⟩)
  · exact Or.inr (Or.inl ⟨rfl, by decide, by omega⟩)
  · exact Or.inl ⟨rfl, z⟩
  · exact Or.inl ⟨rfl, z⟩
set_option maxHeartbeats 2000000 in
theorem r_cfL {t : Nat} (hI : cfI σ M n m k lf sd op D T va bs cl) (ht : tz_F σ M 35 = nI t) (ht2 : 447200 ≤ t) (hb : t ≤ 447300) (hn : n ≤ 10) (hm : m ≤ 12) (hz : tSz n m D T va) (hpm : pmI n m bs cl) (hk : k < 310) (hlf : lf < lc) (hl : lc ≤ 152) (hr : r < m) (hsd : (sd = 1 ∧ s = -1) ∨ (sd = 0 ∧ s = 1)) (hM : rmV σ M lc (ups mq lf g0)) (hf : 20000 ≤ f)
    (hK : ∀ σ2, Rq M (fun k => k = 35) (fun _ => False) (lvP lf) σ σ2 → rmV σ2 M lc (ups mq lf (clQ n r T D s cl n g0)) → gp (X12_conflict_L177 f (some M) (nI op - 1)) (tz_sA (tz_sF σ2 M 35 (nI 447200)) (M + 10) k 1) Q) :
    gp (X12_conflict_L59 f (some M) (nI r) (nI 447200) 0) σ Q := by
  have hcl : ∀ c, c < n → cl c < 22 := fun c hc => by have := hpm.2.1 c hc; omega
  unfold X12_conflict_L59
  refine gp_loop (I := fun (τ : Int32) (σ' : tz_S) => ∃ c t', τ = nI c ∧ c ≤ n ∧ Rq M (fun k => k = 35) (fun _ => False) (lvP lf) σ σ' ∧ tz_F σ' M 35 = nI t' ∧ 447200 ≤ t' ∧ t' ≤ 447300 + 20 * c ∧ rmV σ' M lc (ups mq lf (clQ n r T D s cl c g0))) (fun τ _ => 100 - τ.toNatClampNeg) ?_ f _ _ ⟨0, t, rfl, Nat.zero_le _, Rq_refl, ht, ht2, by omega, hM⟩ (by omega)
  rintro K l1 σ1 ⟨c, t', rfl, hc, hS, h35, e1, e2, hM1⟩ hK1
  show gp (X12_conflict_L59_body f (some M) (nI r) (nI 447200) (fun l1 => K l1) (nI c)) σ1 _
  have hI1 := cfI_rq hI hS hn hm hcl
  obtain ⟨h1, ⟨h0, h29, h24, h25⟩, h15, hT⟩ := id hI1
  unfold X12_conflict_L59_body
  refine gp_rI (mh_me h1) rfl ?_
  rw [h0]
  refine gp_if (fun z => ?_) (fun z => ?_)
  · rw [nI_leI (by omega) (by omega)] at z
    have e : c = n := by omega
    subst e
    refine gp_wI (mh_me h1) rfl ?_
    have h2 : mSh (tz_sF σ1 M 35 (nI 447200)) M := h1
    refine gp_rR (mh_me h2) rfl ?_
    refine gp_rI (mh_me h2) rfl ?_
    rw [show tz_F (tz_sF σ1 M 35 (nI 447200)) M 24 = nI k from (tz_u2_ne _ _ (Or.inr (by decide))).trans h24]
    refine gp_sZ (j := k) (mh_10 h2) hk (by omega) rfl (Or.inr rfl) ?_
    have h3 : mSh (tz_sA (tz_sF σ1 M 35 (nI 447200)) (M + 10) k 1) M := h1
    refine gp_rI (mh_me h3) rfl ?_
    rw [show tz_F (tz_sA (tz_sF σ1 M 35 (nI 447200)) (M + 10) k 1) M 25 = nI op from (tz_u2_ne _ _ (Or.inr (by decide))).trans h25]
    refine gp_let ?_
    exact hK σ1 hS hM1
  rw [nI_leI (by omega) (by omega)] at z
  have hcn : c < n := by omega
  unfold X12_factorAt
  refine gp_cB (gp_ret ?_)
  rw [at_f]
  obtain ⟨kT, t1, tt2⟩ := hT.2.2.2.1 r c hr hcn
  have fin : ∀ x, (s = -1 ∧ x = isg (T r c) ∨ s = 1 ∧ x = -isg (T r c)) → gp (X12_conflict_b98 f (fun l1 => K l1) (some M) (nI r) (nI 447200) (nI c) (nI (16 + 16 * (10 * r + c))) x) σ1 Q := fun x hx => r_cfB hI1 h35 e1 (by omega) hn hm hz hpm hk hlf hl hr hcn hsd hM1 (isg_way s (T r c) x hx) hf (fun σ2 t2 g1 g2 g3 g4 g5 => hK1 _ _ ⟨c + 1, t2, rfl, by omega, Rq_trans hS g1, g2, g3, by omega, g5⟩ (by rw [nI_clamp (by omega), nI_clamp (by omega)]; omega))
  refine gp_rI (mh_me h1) rfl ?_
  rw [h29]
  rcases hsd with ⟨hs1, hs2⟩ | ⟨hs1, hs2⟩
  · refine gp_t (by rw [hs1]; rfl) ?_
    refine gp_cV (mh_me h1) (gp_mono (r_sgn h1 t1 (by omega)) ?_)
    rintro _ σ0 ⟨z0, rfl⟩
    rw [z0]
    exact fin _ (Or.inl ⟨hs2, rfl⟩)
  · refine gp_f (by rw [hs1]; decide) ?_
    refine gp_cV (mh_me h1) (gp_mono (r_sgn h1 t1 (by omega)) ?_)
    rintro _ σ0 ⟨z0, rfl⟩
    rw [z0]
    exact fin _ (Or.inr ⟨hs2, rfl⟩)
set_option maxHeartbeats 2000000 in
/-- the counter, the first multiplier, then the others -/
theorem r_cf0 (hI : cfI σ M n m k lf sd op D T va bs cl) (h10 : tz_F σ M 10 = nI cf) (ht : tz_F σ M 35 = nI 447200) (hn : n ≤ 10) (hm : m ≤ 12) (hz : tSz n m D T va) (hpm : pmI n m bs cl) (hk : k < 310) (hlf : lf < lc) (hl : lc ≤ 152) (hr : r < m) (hsd : (sd = 1 ∧ s = -1) ∨ (sd = 0 ∧ s = 1)) (hM : rmV σ M lc mq) (hf : 20000 ≤ f)
    (hK : ∀ σ2, Rq M (fun k => k = 10) (fun x => x = M + 10) (lvP lf) σ σ2 → tz_F σ2 M 10 = nI (cf + 1) → (∀ j, tz_A σ2 (M + 10) j = if j = k then 1 else tz_A σ (M + 10) j) → rmV σ2 M lc (ups mq lf (clQ n r T D s cl n (ups (mq lf) (mix n (bs r) s) (s, 1)))) → gp (X12_conflict_L177 f (some M) (nI op - 1)) σ2 Q) :
    gp (X12_conflict f (some M) (nI r)) σ Q := by
  have hcl : ∀ c, c < n → cl c < 22 := fun c hc => by have := hpm.2.1 c hc; omega
  obtain ⟨h, ⟨h0, h29, h24, h25⟩, h15, hT⟩ := id hI
  unfold X12_conflict
  refine gp_rI (mh_me h) rfl ?_
  rw [h10, nI_1]
  refine gp_wI (mh_me h) rfl ?_
  have qa : Rq M (fun k => k = 10 ∨ k = 35) (fun _ => False) (lvP lf) σ (tz_sF σ M 10 (nI (cf + 1))) := Rq_F (Or.inl rfl)
  have hFa : ∀ j, j ≠ 10 → tz_F (tz_sF σ M 10 (nI (cf + 1))) M j = tz_F σ M j := fun j hj => tz_u2_ne _ _ (Or.inr hj)
  have hFb : tz_F (tz_sF σ M 10 (nI (cf + 1))) M 10 = nI (cf + 1) := tz_u2_same _ _ _ _
  have hAa : tz_A (tz_sF σ M 10 (nI (cf + 1))) = tz_A σ := rfl
  have hIa : cfI (tz_sF σ M 10 (nI (cf + 1))) M n m k lf sd op D T va bs cl := ⟨h, ⟨(hFa 0 (by decide)).trans h0, (hFa 29 (by decide)).trans h29, (hFa 24 (by decide)).trans h24, (hFa 25 (by decide)).trans h25⟩, h15, hT⟩
  have hMa : rmV (tz_sF σ M 10 (nI (cf + 1))) M lc mq := hM
  have hta := (hFa 35 (by decide)).trans ht
  generalize tz_sF σ M 10 (nI (cf + 1)) = σa at *
  obtain ⟨ha, ⟨ha0, ha29, ha24, ha25⟩, ha15, haT⟩ := id hIa
  refine gp_rI (mh_me ha) rfl ?_
  rw [hta]
  refine gp_rR (mh_me ha) rfl ?_
  refine gp_aI (j := r) (mh_7 ha) (by decide) (by omega) (by omega) rfl ?_
  rw [haT.1 r hr]
  have hbr := hpm.1 r hr
  refine gp_rI (mh_me ha) rfl ?_
  rw [ha29]
  refine gp_cV (mh_me ha) (gp_mono (r_multiplierOf (s := s) ha ha0 hn (by omega) (by rcases hsd with ⟨a, b⟩ | ⟨a, b⟩; exact Or.inr ⟨a, by omega⟩; exact Or.inl ⟨a, by omega⟩)) ?_)
  rintro _ σ0 ⟨z0, rfl⟩
  rw [z0]
  clear z0 σ0
  have hmx : mix n (bs r) s < 32 := mix_32 hn hm hbr
  refine gp_rI (mh_me ha) rfl ?_
  rw [ha29]
  have main : ∀ x : Int64, x.toInt = s → gp (X12_conflict_b46 f (some M) (nI r) (nI 447200) (some M) (nI (mix n (bs r) s)) (some M) x) σa Q := by
    intro x hx
    unfold X12_conflict_b46
    refine gp_cV (mh_me ha) (gp_mono (r_plainOf (v := x) ha hta (by rcases hsd with ⟨a, b⟩ | ⟨a, b⟩ <;> omega) (by omega) (by omega)) ?_)
    rintro _ σ1 ⟨rfl, hP1, k1, hk1, h351, hv1⟩
    have h1 := mSh_fr ha hP1.1
    refine gp_cV (mh_me h1) (gp_mono (r_plainOf (v := 1) h1 h351 (by decide) (by omega) (by omega)) ?_)
    rintro _ σ2 ⟨rfl, hP2, k2, hk2, h352, hv2⟩
    have h2 := mSh_fr h1 hP2.1
    rw [hx] at hv1
    have q2 : Rq M (fun k => k = 35) (fun _ => False) (fun _ => False) σa σ2 := Rq_trans (Rq_pq hP1 rfl (fun j a b c => by omega)) (Rq_pq hP2 rfl (fun j a b c => by omega))
    have q2' : Rq M (fun k => k = 35) (fun _ => False) (lvP lf) σa σ2 := Rq_mono q2 (fun _ e => e) (fun _ e => e) (fun _ e => e.elim)
    have hI2 := cfI_rq hIa q2' hn hm hcl
    have hM2 := rmV_rq hMa q2 (fun _ _ _ e => e) hl
    have hv12 := nV_pq hv1 hP2 (Or.inl (by omega))
    refine gp_cV (mh_me h2) (gp_mono (r_multiply h2 h352 (by omega) (by omega) hI2.2.1.2.2.1 hk hI2.2.2.1 hM2 hlf hl hmx hv12 hv2 (by decide) (by omega) (by omega) (Or.inr (by omega)) (Or.inr (by omega)) (by omega) (by omega) hf) ?_)
    rintro _ σ3 ⟨g1, g2, g3⟩
    have q3 : Rq M (fun k => k = 35) (fun _ => False) (lvP lf) σa σ3 := Rq_trans q2' (Rq_mono g1 (fun _ e => e.elim) (fun _ e => e) (fun x e => lvP_sub hmx e))
    have hI3 := cfI_rq hIa q3 hn hm hcl
    have hrd : rd s (1 : Int64).toInt = (s, 1) := by rcases hsd with ⟨a, b⟩ | ⟨a, b⟩ <;> rw [b] <;> decide
    rw [hrd] at g3
    refine r_cfL hI3 (by rw [g1.2.1 35 (fun e => e) (by decide)]; exact h352) (by omega) (by omega) hn hm hz hpm hk hlf hl hr hsd g3 hf (fun σ4 w1 w2 => ?_)
    have q4 : Rq M (fun k => k = 10 ∨ k = 35) (fun _ => False) (lvP lf) σ σ4 := Rq_trans qa (Rq_mono (Rq_trans q3 w1) (fun _ e => Or.inr e) (fun _ e => e) (fun _ e => e))
    have q5 := Rq_trans q3 w1
    refine hK _ ⟨?_, ?_, ?_⟩ ?_ ?_ ?_
    · exact Fr_trans (Fr_trans (Fr_mono q4.1 (fun x e => by rcases e with e | e | e; exact Or.inl e; exact Or.inr (Or.inl e); exact e.elim)) (Fr_sF (Or.inl rfl))) (Fr_sA (Or.inr (Or.inr rfl)))
    · intro j a b
      show tz_u2 (tz_F σ4) M 35 (nI 447200) M j = _
      by_cases e : j = 35
      · rw [e, tz_u2_same, ht]
      · rw [tz_u2_ne _ _ (Or.inr e)]; exact q4.2.1 j (fun w => w.elim a e) b
    · intro i a b
      rw [sA_at, if_neg (by omega)]
      exact q4.2.2 i a b
    · show tz_u2 (tz_F σ4) M 35 (nI 447200) M 10 = _
      rw [tz_u2_ne _ _ (Or.inr (by decide)), q5.2.1 10 (by decide) (by decide)]; exact hFb
    · intro j
      rw [sA_at]
      by_cases e : j = k
      · rw [if_pos ⟨rfl, e⟩, if_pos e]
      · rw [if_neg (fun w => e w.2), if_neg e]
        show tz_A σ4 (M + 10) j = _
        rw [Rq_get q4 (by omega) (by omega) (fun e => e)]
    · intro i j hi hj
      obtain ⟨a, b⟩ := w2 i j hi hj
      obtain ⟨ka, a1, a2⟩ := a
      obtain ⟨kb, b1, b2⟩ := b
      exact ⟨⟨ka, nV_congr a1 (fun i _ _ => by rw [sA_at, if_neg (by omega)]; rfl), a2⟩, ⟨kb, nV_congr b1 (fun i _ _ => by rw [sA_at, if_neg (by omega)]; rfl), b2⟩⟩
  rcases hsd with ⟨hs1, hs2⟩ | ⟨hs1, hs2⟩
  · exact gp_t (by rw [hs1]; rfl) (main (-1) (by rw [hs2]; decide))
  · exact gp_f (by rw [hs1]; decide) (main 1 (by rw [hs2]; decide))
end SE
