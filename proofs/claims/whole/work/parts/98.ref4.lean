/-! ===== the reference: plus, minus ===== -/
section RD
variable {f M t : Nat} {σ σ1 : tz_S}
theorem r_joined {x y n m : Nat} {v w e : Int} {al be : Int32} (h : mSh σ M) (ht : tz_F σ M 35 = nI t) (hv : nV (tz_A σ (M + 20)) x n v) (hw : nV (tz_A σ (M + 20)) y m w) (hx : x + n < t) (hy : y + m < t) (hn : n ≤ 400) (hm : m ≤ 400) (hb : t + max n m + 2 ≤ 527200) (he : (al = 0 ∧ e = -1) ∨ (al ≠ 0 ∧ e = 1)) (hs : 0 ≤ (v.natAbs : Int) + e * w.natAbs) (hf : 2000 ≤ f) :
    gp (X12_joined f (some M) (nI x) (nI y) al be) σ (fun z σ' => z = nI t ∧ Pq M t (t + max n m + 2) σ σ' ∧ ∃ k, k ≤ max n m + 1 ∧ tz_F σ' M 35 = nI (t + k + 1) ∧ nV (tz_A σ' (M + 20)) t k (if be = 0 then (v.natAbs : Int) + e * w.natAbs else -((v.natAbs : Int) + e * w.natAbs))) := by
  have hsl : ∀ mo, n ≤ mo → m ≤ mo → (v.natAbs : Int) + e * w.natAbs < 1000000000 ^ (mo + 1) := by
    intro mo h1 h2
    have hv1 := nV_lt hv
    have hw1 := nV_lt hw
    have hp1 := mg_pmono h1
    have hp2 := mg_pmono h2
    have hp4 := mg_pw mo
    rw [mg_ps]
    generalize (1000000000 : Int) ^ mo = p at *
    generalize (1000000000 : Int) ^ n = p1 at *
    generalize (1000000000 : Int) ^ m = p2 at *
    rcases he with ⟨-, rfl⟩ | ⟨-, rfl⟩ <;> omega
  have go : ∀ mo : Nat, mo = max n m → gp (X12_joined_b34 f (some M) (nI x) (nI y) al be (nI t) (nI n) (nI m) (nI mo)) σ (fun z σ' => z = nI t ∧ Pq M t (t + max n m + 2) σ σ' ∧ ∃ k, k ≤ max n m + 1 ∧ tz_F σ' M 35 = nI (t + k + 1) ∧ nV (tz_A σ' (M + 20)) t k (if be = 0 then (v.natAbs : Int) + e * w.natAbs else -((v.natAbs : Int) + e * w.natAbs))) := by
    intro mo hmo
    rw [← hmo] at hb ⊢
    refine r_joinedC (s := (v.natAbs : Int) + e * w.natAbs) h ht hx hy (by omega) (by omega) (by omega) hb (xd_b hv) (xd_b hw) he (by rw [xd_mg hv (by omega), xd_mg hw (by omega)]) hs (hsl mo (by omega) (by omega)) hf ?_
    intro σ' k a1 a2 a3 a4
    exact ⟨rfl, a2, k, a1, a3, a4⟩
  have hn1 := hv.2.2.2.2
  have hm1 := hw.2.2.2.2
  unfold X12_joined
  refine gp_rI (mh_me h) rfl ?_
  rw [ht]
  refine gp_cV (mh_me h) (gp_mono (r_limbs h hv (by omega)) ?_)
  rintro _ σ0 ⟨z0, rfl⟩
  rw [z0]
  clear z0 σ0
  refine gp_cV (mh_me h) (gp_mono (r_limbs h hw (by omega)) ?_)
  rintro _ σ0 ⟨z0, rfl⟩
  rw [z0]
  clear z0 σ0
  refine gp_if (fun z => ?_) (fun z => ?_)
  · rw [nI_leI (by omega) (by omega)] at z
    exact go m (by omega)
  · rw [nI_leI (by omega) (by omega)] at z
    exact go n (by omega)
set_option maxHeartbeats 1000000 in
theorem r_plus {x y n m : Nat} {v w : Int} (h : mSh σ M) (ht : tz_F σ M 35 = nI t) (hv : nV (tz_A σ (M + 20)) x n v) (hw : nV (tz_A σ (M + 20)) y m w) (hx : x + n < t) (hy : y + m < t) (hn : n ≤ 400) (hm : m ≤ 400) (hb : t + max n m + 2 ≤ 527200) (hf : 2000 ≤ f) :
    gp (X12_plus f (some M) (nI x) (nI y)) σ (fun z σ' => z = nI t ∧ Pq M t (t + max n m + 2) σ σ' ∧ ∃ k, k ≤ max n m + 1 ∧ tz_F σ' M 35 = nI (t + k + 1) ∧ nV (tz_A σ' (M + 20)) t k (v + w)) := by
  have jn : ∀ (al be : Int32) (e : Int), ((al = 0 ∧ e = -1) ∨ (al ≠ 0 ∧ e = 1)) → 0 ≤ (v.natAbs : Int) + e * w.natAbs → (if be = 0 then (v.natAbs : Int) + e * w.natAbs else -((v.natAbs : Int) + e * w.natAbs)) = v + w → ∀ K : Int32 → pz_C Int32, (∀ z, K z = pz_ret z) → gp (pz_cV 12 (some M) (X12_joined f (some M) (nI x) (nI y) al be) K) σ (fun z σ' => z = nI t ∧ Pq M t (t + max n m + 2) σ σ' ∧ ∃ k, k ≤ max n m + 1 ∧ tz_F σ' M 35 = nI (t + k + 1) ∧ nV (tz_A σ' (M + 20)) t k (v + w)) := by
    intro al be e he hs hr K hK
    refine gp_cV (mh_me h) (gp_mono (r_joined (be := be) h ht hv hw hx hy hn hm hb he hs hf) ?_)
    intro z σ' hz
    rw [hr] at hz
    rw [hK]
    exact gp_ret hz
  have jn2 : ∀ (be : Int32), 0 ≤ (w.natAbs : Int) + -1 * v.natAbs → (if be = 0 then (w.natAbs : Int) + -1 * v.natAbs else -((w.natAbs : Int) + -1 * v.natAbs)) = v + w → ∀ K : Int32 → pz_C Int32, (∀ z, K z = pz_ret z) → gp (pz_cV 12 (some M) (X12_joined f (some M) (nI y) (nI x) 0 be) K) σ (fun z σ' => z = nI t ∧ Pq M t (t + max n m + 2) σ σ' ∧ ∃ k, k ≤ max n m + 1 ∧ tz_F σ' M 35 = nI (t + k + 1) ∧ nV (tz_A σ' (M + 20)) t k (v + w)) := by
    intro be hs hr K hK
    refine gp_cV (mh_me h) (gp_mono (r_joined (be := be) h ht hw hv hy hx hm hn (by omega) (Or.inl ⟨rfl, rfl⟩) hs hf) ?_)
    intro z σ' hz
    rw [hr, Nat.max_comm m n] at hz
    rw [hK]
    exact gp_ret hz
  have ag : ∀ (s0 k : Nat), s0 + k < t → k ≤ max n m → nV (tz_A σ (M + 20)) s0 k (v + w) → gp (X12_plus_b32 f (some M) (nI s0)) σ (fun z σ' => z = nI t ∧ Pq M t (t + max n m + 2) σ σ' ∧ ∃ k, k ≤ max n m + 1 ∧ tz_F σ' M 35 = nI (t + k + 1) ∧ nV (tz_A σ' (M + 20)) t k (v + w)) := by
    intro s0 k h1 h2 h3
    unfold X12_plus_b32
    refine gp_cV (mh_me h) (gp_mono (r_again h ht h3 h1 (by omega) hf) ?_)
    rintro z σ' ⟨rfl, hP, h35, hv'⟩
    exact gp_ret ⟨rfl, Pq_mono hP (Nat.le_refl _) (by omega), k, by omega, h35, hv'⟩
  unfold X12_plus X12_plus_b22
  refine gp_cV (mh_me h) (gp_mono (r_sgn h hv (by omega)) ?_)
  rintro _ σ0 ⟨z0, rfl⟩
  rw [z0]
  clear z0 σ0
  refine gp_cV (mh_me h) (gp_mono (r_sgn h hw (by omega)) ?_)
  rintro _ σ0 ⟨z0, rfl⟩
  rw [z0]
  clear z0 σ0
  have wz : gp (X12_weigh f (some M) (nI x) (nI y)) σ (fun z σ' => σ' = σ ∧ z = isg ((v.natAbs : Int) - w.natAbs)) := r_weigh h hv hw (by omega) (by omega) hf
  rcases isg_cases v with a | a | a <;> rcases isg_cases w with b | b | b <;> rw [a.2, b.2]
  · exact gp_f (by decide) (gp_f (by decide) (gp_t rfl (gp_t (by decide) (jn 1 0 1 (Or.inr ⟨by decide, rfl⟩) (by omega) (by rw [if_pos rfl]; omega) _ (fun z => rfl)))))
  · refine gp_f (by decide) (gp_f (by decide) (gp_f (by decide) (gp_cV (mh_me h) (gp_mono wz ?_))))
    rintro s σ0 ⟨z0, rfl⟩
    rw [z0]
    refine gp_if (fun q => ?_) (fun q => ?_)
    · rw [isg_n.1] at q
      exact gp_f (by decide) (jn2 1 (by omega) (by rw [if_neg (by decide)]; omega) _ (fun z => rfl))
    · rw [isg_n.1] at q
      exact gp_t (by decide) (jn 0 0 (-1) (Or.inl ⟨rfl, rfl⟩) (by omega) (by rw [if_pos rfl]; omega) _ (fun z => rfl))
  · exact gp_f (by decide) (gp_t rfl (gp_f (by decide) (ag x n hx (by omega) (by rw [b.1, Int.add_zero]; exact hv))))
  · refine gp_f (by decide) (gp_f (by decide) (gp_f (by decide) (gp_cV (mh_me h) (gp_mono wz ?_))))
    rintro s σ0 ⟨z0, rfl⟩
    rw [z0]
    refine gp_if (fun q => ?_) (fun q => ?_)
    · rw [isg_n.1] at q
      exact gp_t (by decide) (jn2 0 (by omega) (by rw [if_pos rfl]; omega) _ (fun z => rfl))
    · rw [isg_n.1] at q
      exact gp_f (by decide) (jn 0 1 (-1) (Or.inl ⟨rfl, rfl⟩) (by omega) (by rw [if_neg (by decide)]; omega) _ (fun z => rfl))
  · exact gp_f (by decide) (gp_f (by decide) (gp_t rfl (gp_f (by decide) (jn 1 1 1 (Or.inr ⟨by decide, rfl⟩) (by omega) (by rw [if_neg (by decide)]; omega) _ (fun z => rfl)))))
  · exact gp_f (by decide) (gp_t rfl (gp_f (by decide) (ag x n hx (by omega) (by rw [b.1, Int.add_zero]; exact hv))))
  · exact gp_t rfl (gp_t rfl (ag y m hy (by omega) (by rw [a.1, Int.zero_add]; exact hw)))
  · exact gp_t rfl (gp_t rfl (ag y m hy (by omega) (by rw [a.1, Int.zero_add]; exact hw)))
  · exact gp_t rfl (gp_t rfl (ag y m hy (by omega) (by rw [a.1, Int.zero_add]; exact hw)))
theorem r_minus {x y n m : Nat} {v w : Int} (h : mSh σ M) (ht : tz_F σ M 35 = nI t) (hv : nV (tz_A σ (M + 20)) x n v) (hw : nV (tz_A σ (M + 20)) y m w) (hx : x + n < t) (hy : y + m < t) (hn : n ≤ 400) (hm : m ≤ 400) (hb : t + m + max n m + 4 ≤ 527200) (hf : 2000 ≤ f) :
    gp (X12_minus f (some M) (nI x) (nI y)) σ (fun z σ' => z = nI t ∧ Pq M t (t + m + max n m + 4) σ σ' ∧ ∃ k, k ≤ max n m + 1 ∧ tz_F σ' M 35 = nI (t + k + 1) ∧ nV (tz_A σ' (M + 20)) t k (v - w)) := by
  unfold X12_minus
  refine gp_rI (mh_me h) rfl ?_
  rw [ht]
  refine gp_cV (mh_me h) (gp_mono (r_less h ht hw hy (by omega) hf) ?_)
  rintro _ σ1 ⟨rfl, hP1, h351, hv1⟩
  have h1 := mSh_fr h hP1.1
  refine gp_cV (mh_me h1) (gp_mono (r_plus h1 h351 (nV_pq hv hP1 (Or.inl hx)) hv1 (by omega) (by omega) hn hm (by omega) hf) ?_)
  rintro _ σ2 ⟨rfl, hP2, k, hk, h352, hv2⟩
  have h2 := mSh_fr h1 hP2.1
  refine gp_cV (mh_me h2) (gp_mono (r_keep (mk := t) h2 hv2 (by omega) (by omega) hf) ?_)
  rintro _ σ3 ⟨rfl, hP3, h353, hv3⟩
  refine gp_ret ⟨rfl, Pq_trans (Pq_mono hP1 (Nat.le_refl _) (by omega)) (Pq_trans (Pq_mono hP2 (by omega) (by omega)) (Pq_mono hP3 (Nat.le_refl _) (by omega))), k, hk, h353, ?_⟩
  rw [Int.sub_eq_add_neg]
  exact hv3
end RD
