/-! ===== the reference: multiplierOf, multiply ===== -/
section SC
variable {f M n m t k lc lf j p sd x y n1 n2 : Nat} {σ σ1 : tz_S} {v w s : Int} {mq : Nat → Nat → Int × Int}
theorem r_multiplierOf (h : mSh σ M) (h0 : tz_F σ M 0 = nI n) (hn : n ≤ 10) (hp : p < 1000) (hsd : (sd = 0 ∧ 0 < s) ∨ (sd = 1 ∧ ¬ 0 < s)) : gp (X12_multiplierOf f (some M) (nI p) (nI sd)) σ (fun y σ' => σ' = σ ∧ y = nI (mix n p s)) := by
  unfold X12_multiplierOf X12_multiplierOf_b32
  refine gp_rI (mh_me h) rfl ?_
  rw [h0]
  have hle : nI p < nI n ↔ p < n := by
    have := nI_leI (a := n) (b := p) (by omega) (by omega)
    rw [← Int32.not_le, this]; omega
  refine gp_if (fun z => ?_) (fun z => ?_)
  · rw [hle] at z
    have e : mix n p s = (if 0 < s then 12 else 22) + p := if_neg (by omega)
    rw [e]
    rcases hsd with ⟨rfl, h2⟩ | ⟨rfl, h2⟩
    · rw [if_pos h2]
      refine gp_t rfl (gp_ret ⟨rfl, ?_⟩)
      rw [show (12 : Int32) = nI 12 from rfl, nI_add]
    · rw [if_neg h2]
      refine gp_f (by decide) (gp_ret ⟨rfl, ?_⟩)
      rw [show (22 : Int32) = nI 22 from rfl, nI_add]
  · rw [hle] at z
    refine gp_rI (mh_me h) rfl ?_
    rw [h0, nI_subN (by omega)]
    refine gp_ret ⟨rfl, ?_⟩
    rw [show mix n p s = p - n from if_pos (by omega)]
theorem rmV_put {Fs As : Nat → Prop} {a b : Int} (hm : rmV σ M lc mq) (hl : lc ≤ 152) (hj : j < 32) (hq : Rq M Fs As (fun i => 116056 + 16 * (2 * (32 * lf + j)) ≤ i ∧ i < 116056 + 16 * (2 * (32 * lf + j)) + 32) σ σ1) (h1 : nP σ1 M (116056 + 16 * (2 * (32 * lf + j))) a) (h2 : nP σ1 M (116056 + 16 * (2 * (32 * lf + j) + 1)) b) : rmV σ1 M lc (ups mq lf (ups (mq lf) j (a, b))) := by
  intro i j1 hi hj1
  by_cases e : i = lf
  · rw [e, ups_s]
    by_cases e2 : j1 = j
    · rw [e2, ups_s]; exact ⟨h1, h2⟩
    · rw [ups_n _ _ e2]
      rw [e] at hi
      obtain ⟨g1, g2⟩ := hm lf j1 hi hj1
      exact ⟨nP_rq g1 hq (fun x a b c => by omega), nP_rq g2 hq (fun x a b c => by omega)⟩
  · rw [ups_n _ _ e]
    obtain ⟨g1, g2⟩ := hm i j1 hi hj1
    exact ⟨nP_rq g1 hq (fun x a b c => by omega), nP_rq g2 hq (fun x a b c => by omega)⟩
set_option maxRecDepth 20000 in
set_option maxHeartbeats 2000000 in
theorem r_multiply (h : mSh σ M) (ht : tz_F σ M 35 = nI t) (ht2 : 447200 ≤ t) (hb : t ≤ 448000) (h24 : tz_F σ M 24 = nI k) (hk : k < 310) (h15 : tz_A σ (M + 15) k = nI lf) (hm : rmV σ M lc mq) (hlf : lf < lc) (hl : lc ≤ 152) (hj : j < 32) (hv : nV (tz_A σ (M + 20)) x n1 v) (hw : nV (tz_A σ (M + 20)) y n2 w) (hw0 : 0 < w) (hx : x + n1 < t) (hy : y + n2 < t) (hx2 : x + n1 < 10456 ∨ 447200 ≤ x) (hy2 : y + n2 < 10456 ∨ 447200 ≤ y) (hn1 : n1 ≤ 13) (hn2 : n2 ≤ 13) (hf : 20000 ≤ f) :
    gp (X12_multiply f (some M) (nI j) (nI x) (nI y)) σ (fun _ σ' => Rq M (fun _ => False) (fun _ => False) (fun i => 116056 + 16 * (2 * (32 * lf + j)) ≤ i ∧ i < 116056 + 16 * (2 * (32 * lf + j)) + 32) σ σ' ∧ (∀ i, 447200 ≤ i → i < t → tz_A σ' (M + 20) i = tz_A σ (M + 20) i) ∧ rmV σ' M lc (ups mq lf (ups (mq lf) j (rd v w)))) := by
  unfold X12_multiply X12_multiplierAt
  refine gp_rI (mh_me h) rfl ?_
  rw [ht]
  refine gp_cV (mh_me h) (gp_mono (r_gcd (N := 13) h ht hv hw hx hy hn1 hn2 (by omega) (by omega) hf) ?_)
  rintro _ σ1 ⟨rfl, hP1, k1, hk1, h351, hv1⟩
  have h1 := mSh_fr h hP1.1
  have hg : 0 < (Int.gcd v w : Int) := by
    have : 0 < Int.gcd v w := Int.gcd_pos_of_ne_zero_right _ (by omega)
    omega
  refine gp_cV (mh_me h1) (gp_mono (r_over h1 h351 (nV_pq hv hP1 (Or.inl (by omega))) hv1 hg (by omega) (by omega) (by omega) (by omega) (by omega) (by omega)) ?_)
  rintro _ σ2 ⟨rfl, hP2, k2, hk2, h352, hv2⟩
  have h2 := mSh_fr h1 hP2.1
  have hA2 : ∀ z, z ≠ M → z ≠ M + 20 → tz_A σ2 z = tz_A σ z := fun z a b => (Fr_A hP2.1 (by omega)).trans (Fr_A hP1.1 (by omega))
  refine gp_rR (mh_me h2) rfl ?_
  refine gp_rI (mh_me h2) rfl ?_
  rw [hP2.2.1 24 (by decide) (by decide), hP1.2.1 24 (by decide) (by decide), h24]
  refine gp_aI (j := k) (mh_15 h2) (by decide) hk (by omega) rfl ?_
  rw [hA2 _ (by omega) (by omega), h15]
  refine gp_cB (gp_ret ?_)
  rw [show (116056 : Int32) + 16 * (2 * (32 * nI lf + nI j) + 0) = nI (116056 + 16 * (2 * (32 * lf + j))) from at_m lf j 0]
  refine gp_cV (mh_me h2) (gp_mono (r_copyTo (to := 116056 + 16 * (2 * (32 * lf + j))) h2 hv2 (by omega) (by omega) (Or.inl (by omega)) (by omega)) ?_)
  rintro _ σ3 ⟨hP3, hF3, hv3⟩
  have h3 := mSh_fr h2 hP3.1
  have hw3 : nV (tz_A σ3 (M + 20)) y n2 w := nV_pq (nV_pq (nV_pq hw hP1 (Or.inl (by omega))) hP2 (Or.inl (by omega))) hP3 (by omega)
  have hg3 := nV_pq (nV_pq hv1 hP2 (Or.inl (by omega))) hP3 (Or.inr (by omega))
  have h353 : tz_F σ3 M 35 = nI (t + k1 + 1 + k2 + 1) := by rw [hF3]; exact h352
  refine gp_cV (mh_me h3) (gp_mono (r_over h3 h353 hw3 hg3 hg (by omega) (by omega) (by omega) (by omega) (by omega) (by omega)) ?_)
  rintro _ σ4 ⟨rfl, hP4, k4, hk4, h354, hv4⟩
  have h4 := mSh_fr h3 hP4.1
  have hA4 : ∀ z, z ≠ M → z ≠ M + 20 → tz_A σ4 z = tz_A σ z := fun z a b => (Fr_A hP4.1 (by omega)).trans ((Fr_A hP3.1 (by omega)).trans (hA2 z a b))
  refine gp_rR (mh_me h4) rfl ?_
  refine gp_rI (mh_me h4) rfl ?_
  rw [hP4.2.1 24 (by decide) (by decide), hF3, hP2.2.1 24 (by decide) (by decide), hP1.2.1 24 (by decide) (by decide), h24]
  refine gp_aI (j := k) (mh_15 h4) (by decide) hk (by omega) rfl ?_
  rw [hA4 _ (by omega) (by omega), h15]
  refine gp_cB (gp_ret ?_)
  rw [show (116056 : Int32) + 16 * (2 * (32 * nI lf + nI j) + 1) = nI (116056 + 16 * (2 * (32 * lf + j) + 1)) from at_m lf j 1]
  refine gp_cV (mh_me h4) (gp_mono (r_copyTo (to := 116056 + 16 * (2 * (32 * lf + j) + 1)) h4 hv4 (by omega) (by omega) (Or.inl (by omega)) (by omega)) ?_)
  rintro _ σ5 ⟨hP5, hF5, hv5⟩
  have h5 := mSh_fr h4 hP5.1
  refine gp_wI (mh_me h5) rfl ?_
  have q : Rq M (fun k => k = 35) (fun _ => False) (fun i => 116056 + 16 * (2 * (32 * lf + j)) ≤ i ∧ i < 116056 + 16 * (2 * (32 * lf + j)) + 32) σ (tz_sF σ5 M 35 (nI t)) := Rq_trans (Rq_pq hP1 rfl (fun j a b c => by omega)) (Rq_trans (Rq_pq hP2 rfl (fun j a b c => by omega)) (Rq_trans (Rq_pq hP3 rfl (fun j a b c => by omega)) (Rq_trans (Rq_pq hP4 rfl (fun j a b c => by omega)) (Rq_trans (Rq_pq hP5 rfl (fun j a b c => by omega)) (Rq_F rfl)))))
  have q2 := Rq_35 q (by rw [ht]; exact tz_u2_same _ _ _ _)
  refine gp_ret ⟨q2, fun i a b => ?_, rmV_put hm hl hj q2 ?_ ?_⟩
  · show tz_A σ5 (M + 20) i = _
    rw [hP5.2.2 i (by omega), hP4.2.2 i (by omega), hP3.2.2 i (by omega), hP2.2.2 i (by omega), hP1.2.2 i (by omega)]
  · have e1 := nV_pq hv3 hP4 (Or.inl (by omega))
    have e2 := nV_pq e1 hP5 (Or.inl (by omega))
    exact ⟨k2, e2, by omega, by omega⟩
  · exact ⟨k4, hv5, by omega, by omega⟩
end SC
