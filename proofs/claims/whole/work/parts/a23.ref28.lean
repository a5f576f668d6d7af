/-! ===== the reference: conflict, the multipliers ===== -/
theorem ups_ups {α : Type} (f : Nat → α) (k : Nat) (a b : α) : ups (ups f k a) k b = ups f k b := by
  funext j
  by_cases e : j = k
  · rw [e, ups_s, ups_s]
  · rw [ups_n _ _ e, ups_n _ _ e, ups_n _ _ e]
theorem mix_32 {n m p : Nat} {s : Int} (hn : n ≤ 10) (hm : m ≤ 12) (hp : p < n + m) : mix n p s < 32 := by
  unfold mix
  by_cases z : n ≤ p
  · rw [if_pos z]; omega
  · rw [if_neg z]
    by_cases w : 0 < s
    · rw [if_pos w]; omega
    · rw [if_neg w]; omega
section SD
variable {f M n m k lc lf r sd op : Nat} {σ : tz_S} {T : Nat → Nat → Int} {D s : Int} {va : Nat → Int} {bs cl : Nat → Nat} {mq : Nat → Nat → Int × Int} {g0 : Nat → Int × Int} {Q : Unit → tz_S → Prop}
theorem lvP_sub {lf j x : Nat} (hj : j < 32) (h : 116056 + 16 * (2 * (32 * lf + j)) ≤ x ∧ x < 116056 + 16 * (2 * (32 * lf + j)) + 32) : lvP lf x := by unfold lvP; omega
/-- what a conflict's loop needs of the state -/
def cfI (σ : tz_S) (M n m k lf sd op : Nat) (D : Int) (T : Nat → Nat → Int) (va : Nat → Int) (bs cl : Nat → Nat) : Prop := mSh σ M ∧ (tz_F σ M 0 = nI n ∧ tz_F σ M 29 = nI sd ∧ tz_F σ M 24 = nI k ∧ tz_F σ M 25 = nI op) ∧ tz_A σ (M + 15) k = nI lf ∧ rtV σ M n m D T va bs cl
theorem cfI_rq {σ1 : tz_S} (h : cfI σ M n m k lf sd op D T va bs cl) (hq : Rq M (fun k => k = 35) (fun _ => False) (lvP lf) σ σ1) (hn : n ≤ 10) (hm : m ≤ 12) (hcl : ∀ c, c < n → cl c < 22) : cfI σ1 M n m k lf sd op D T va bs cl := by
  obtain ⟨h1, ⟨h2, h3, h4, h5⟩, h6, h7⟩ := h
  exact ⟨mSh_fr h1 hq.1, ⟨by rw [hq.2.1 0 (by decide) (by decide)]; exact h2, by rw [hq.2.1 29 (by decide) (by decide)]; exact h3, by rw [hq.2.1 24 (by decide) (by decide)]; exact h4, by rw [hq.2.1 25 (by decide) (by decide)]; exact h5⟩, by rw [Rq_get hq (by omega) (by omega) (fun e => e)]; exact h6, rtV_rq h7 hq (fun e => e) (fun e => e) (fun i hi e => by unfold lvP at e; omega) hn hm hcl⟩
set_option maxHeartbeats 2000000 in
theorem r_cfB {K : Int32 → pz_C Unit} {c t : Nat} {s0 l1 l2 : Int32} (hI : cfI σ M n m k lf sd op D T va bs cl) (ht : tz_F σ M 35 = nI t) (ht2 : 447200 ≤ t) (hb : t ≤ 447800) (hn : n ≤ 10) (hm : m ≤ 12) (hz : tSz n m D T va) (hpm : pmI n m bs cl) (hk : k < 310) (hlf : lf < lc) (hl : lc ≤ 152) (hr : r < m) (hc : c < n) (hsd : (sd = 1 ∧ s = -1) ∨ (sd = 0 ∧ s = 1)) (hM : rmV σ M lc (ups mq lf (clQ n r T D s cl c g0))) (hs0 : (s0 = 0 ∧ T r c = 0) ∨ (s0 = 1 ∧ 0 < wayI s (T r c) ∧ T r c ≠ 0) ∨ (s0 = -1 ∧ ¬ 0 < wayI s (T r c) ∧ T r c ≠ 0)) (hf : 20000 ≤ f)
    (hK : ∀ σ2 t2, Rq M (fun k => k = 35) (fun _ => False) (lvP lf) σ σ2 → tz_F σ2 M 35 = nI t2 → 447200 ≤ t2 → t2 ≤ t + 20 → rmV σ2 M lc (ups mq lf (clQ n r T D s cl (c + 1) g0)) → gp (K (nI (c + 1))) σ2 Q) :
    gp (X12_conflict_b98 f K (some M) l1 l2 (nI c) (nI (16 + 16 * (10 * r + c))) s0) σ Q := by
  obtain ⟨h, ⟨h0, h29, h24, h25⟩, h15, hT⟩ := id hI
  have hcc := hpm.2.1 c hc
  have nxt : ∀ σ2 t2, Rq M (fun k => k = 35) (fun _ => False) (lvP lf) σ σ2 → tz_F σ2 M 35 = nI t2 → 447200 ≤ t2 → t2 ≤ t + 20 → rmV σ2 M lc (ups mq lf (clQ n r T D s cl (c + 1) g0)) → gp (X12_conflict_b149 f K (some M) l1 l2 (nI c)) σ2 Q := by
    intro σ2 t2 g1 g2 g3 g4 g5
    unfold X12_conflict_b149
    refine gp_let ?_
    rw [nI_1]
    exact hK σ2 t2 g1 g2 g3 g4 g5
  unfold X12_conflict_b98
  rcases hs0 with ⟨rfl, z⟩ | ⟨hs0, hway, z⟩ | ⟨hs0, hway, z⟩
  · refine gp_t rfl (nxt σ t Rq_refl ht ht2 (by omega) ?_)
    rw [show clQ n r T D s cl (c + 1) g0 = clQ n r T D s cl c g0 from if_pos z]
    exact hM
  all_goals
    have main : ∀ sx : Nat, (sx = 0 ∧ 0 < wayI s (T r c)) ∨ (sx = 1 ∧ ¬ 0 < wayI s (T r c)) → gp (X12_conflict_b123 f K (some M) l1 l2 (nI c) (nI (16 + 16 * (10 * r + c))) (some M) (some M) (nI (cl c)) (nI sx)) σ Q := by
      intro sx hsx
      unfold X12_conflict_b123
      refine gp_cV (mh_me h) (gp_mono (r_multiplierOf h h0 hn (by omega) hsx) ?_)
      rintro _ σ0 ⟨z0, rfl⟩
      rw [z0]
      clear z0 σ0
      have hmx : mix n (cl c) (wayI s (T r c)) < 32 := mix_32 hn hm hcc
      refine gp_rI (mh_me h) rfl ?_
      rw [h29]
      obtain ⟨kT, t1, tt2⟩ := hT.2.2.2.1 r c hr hc
      obtain ⟨kD, d1, d2⟩ := hT.2.2.1
      have hkT := nV_le t1 (hz.2.2.1 r c hr hc)
      have hkD := nV_le d1 hz.2.1
      have hcl1 : clQ n r T D s cl (c + 1) g0 = ups (clQ n r T D s cl c g0) (mix n (cl c) (wayI s (T r c))) (rd (T r c * (-s)) D) := if_neg z
      unfold X12_conflict_b145
      rcases hsd with ⟨hs1, hs2⟩ | ⟨hs1, hs2⟩
      · refine gp_t (by rw [hs1]; rfl) ?_
        refine gp_cV (mh_me h) (gp_mono (r_multiply (y := 0) h ht ht2 (by omega) h24 hk h15 hM hlf hl hmx t1 d1 hz.1 (by omega) (by omega) (Or.inl (by omega)) (Or.inl (by omega)) (by omega) (by omega) hf) ?_)
        rintro _ σ2 ⟨g1, g2, g3⟩
        refine nxt σ2 t (Rq_mono g1 (fun _ e => e.elim) (fun _ e => e) (fun x e => lvP_sub hmx e)) (by rw [g1.2.1 35 (fun e => e) (by decide)]; exact ht) ht2 (by omega) ?_
        rw [ups_s, ups_ups] at g3
        rw [hcl1, hs2, show T r c * -(-1) = T r c by omega, ← hs2]
        exact g3
      · refine gp_f (by rw [hs1]; decide) ?_
        refine gp_cV (mh_me h) (gp_mono (r_less h ht t1 (by omega) (by omega) (by omega)) ?_)
        rintro _ σ2 ⟨rfl, hP2, h352, hv2⟩
        have h2 := mSh_fr h hP2.1
        have q2 : Rq M (fun k => k = 35) (fun _ => False) (fun _ => False) σ σ2 := Rq_pq hP2 rfl (fun j a b c => by omega)
        have hM2 := rmV_rq hM q2 (fun _ _ _ e => e) hl
        refine gp_cV (mh_me h2) (gp_mono (r_multiply (y := 0) h2 h352 (by omega) (by omega) (by rw [q2.2.1 24 (by decide) (by decide)]; exact h24) hk (by rw [Rq_get q2 (by omega) (by omega) (fun e => e)]; exact h15) hM2 hlf hl hmx hv2 (nV_pq d1 hP2 (Or.inl (by omega))) hz.1 (by omega) (by omega) (Or.inr (by omega)) (Or.inl (by omega)) (by omega) (by omega) hf) ?_)
        rintro _ σ3 ⟨g1, g2, g3⟩
        refine nxt σ3 (t + kT + 1) (Rq_trans (Rq_mono q2 (fun _ e => e) (fun _ e => e) (fun _ e => e.elim)) (Rq_mono g1 (fun _ e => e.elim) (fun _ e => e) (fun x e => lvP_sub hmx e))) (by rw [g1.2.1 35 (fun e => e) (by decide)]; exact h352) (by omega) (by omega) ?_
        rw [ups_s, ups_ups] at g3
        rw [hcl1, hs2, show T r c * (-1) = -T r c by omega, ← hs2]
        exact g3
  · refine gp_f (by rw [hs0]; decide) ?_
    refine gp_rR (mh_me h) rfl ?_
    refine gp_aI (j := c) (mh_8 h) (by decide) (by omega) (by omega) rfl ?_
    rw [hT.2.1 c hc]
    exact gp_f (by rw [hs0]; decide) (main 0 (Or.inl ⟨rfl, hway⟩))
  · refine gp_f (by rw [hs0]; decide) ?_
    refine gp_rR (mh_me h) rfl ?_
    refine gp_aI (j := c) (mh_8 h) (by decide) (by omega) (by omega) rfl ?_
    rw [hT.2.1 c hc]
    exact gp_t (by rw [hs0]; decide) (main 1 (Or.inr ⟨rfl, hway⟩))
end SD
