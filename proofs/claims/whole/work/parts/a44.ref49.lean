/-! ===== the reference: hand ===== -/
section SY
variable {f M t x y n1 n2 : Nat} {σ σ1 : tz_S} {v w : Int}
theorem isg_rd2 (hw : 0 < w) : isg (rd v w).1 = isg v := by
  obtain ⟨h1, h2, h3, h4, -⟩ := rd_ok (p := v) hw
  rcases Int.lt_trichotomy v 0 with z | z | z
  · have : (rd v w).1 < 0 := by
      have e := Int.mul_neg_of_neg_of_pos z h1
      rw [h2] at e
      by_cases q : (rd v w).1 < 0
      · exact q
      · have := Int.mul_nonneg (show 0 ≤ (rd v w).1 by omega) (show 0 ≤ w by omega)
        omega
    rw [isg_neg z, isg_neg this]
  · subst z
    have : (rd 0 w).1 = 0 := by omega
    rw [this]
  · have : 0 < (rd v w).1 := by
      have e := Int.mul_pos z h1
      rw [h2] at e
      by_cases q : 0 < (rd v w).1
      · exact q
      · have := Int.mul_nonneg (show 0 ≤ -(rd v w).1 by omega) (show 0 ≤ w by omega)
        rw [Int.neg_mul] at this
        omega
    rw [isg_pos z, isg_pos this]
def hdF (k : Nat) : Prop := k = 28
def hdP (i : Nat) : Prop := 115456 ≤ i ∧ i < 116056
set_option maxRecDepth 20000 in
set_option maxHeartbeats 2000000 in
theorem r_hand (h : mSh σ M) (ht : tz_F σ M 35 = nI t) (ht2 : 447200 ≤ t) (hb : t ≤ 448000) (hv : nV (tz_A σ (M + 20)) x n1 v) (hw : nV (tz_A σ (M + 20)) y n2 w) (hw0 : 0 < w) (hx : x + n1 < t) (hy : y + n2 < t) (hy2 : y + n2 < 115456 ∨ 116056 ≤ y) (hn1 : n1 ≤ 13) (hn2 : n2 ≤ 13) (hf : 20000 ≤ f) :
    gp (X12_hand f (some M) (nI x) (nI y)) σ (fun z σ' => z = isg v ∧ Rq M hdF (fun _ => False) hdP σ σ' ∧ rhV σ' M (rd v w) true) := by
  unfold X12_hand
  refine gp_rI (mh_me h) rfl ?_
  rw [ht]
  refine gp_cV (mh_me h) (gp_mono (r_gcd (N := 13) h ht hv hw hx hy hn1 hn2 (by omega) (by omega) hf) ?_)
  rintro _ σ1 ⟨rfl, hP1, k1, hk1, h351, hv1⟩
  have h1 := mSh_fr h hP1.1
  have hg : 0 < (Int.gcd v w : Int) := by
    have : 0 < Int.gcd v w := Int.gcd_pos_of_ne_zero_right _ (by omega)
    omega
  refine gp_cV (mh_me h1) (gp_mono (r_over h1 h351 (nV_pq hv hP1 (Or.inl (by omega))) hv1 hg (by omega) (by omega) (by omega) (by omega) (by omega) (by omega)) ?_)
  rintro _ σ2 ⟨rfl, hP2, k2, hk2, h352, hv2⟩
  have h2 := mSh_fr h1 hP2.1
  rw [show (115456 : Int32) = nI 115456 from rfl, show (115756 : Int32) = nI 115756 from rfl]
  refine gp_cV (mh_me h2) (gp_mono (r_copyTo (to := 115456) h2 hv2 (by omega) (by omega) (Or.inl (by omega)) (by omega)) ?_)
  rintro _ σ3 ⟨hP3, hF3, hv3⟩
  have h3 := mSh_fr h2 hP3.1
  have hw3 : nV (tz_A σ3 (M + 20)) y n2 w := nV_pq (nV_pq (nV_pq hw hP1 (Or.inl (by omega))) hP2 (Or.inl (by omega))) hP3 (by omega)
  have hg3 := nV_pq (nV_pq hv1 hP2 (Or.inl (by omega))) hP3 (Or.inr (by omega))
  have h353 : tz_F σ3 M 35 = nI (t + k1 + 1 + k2 + 1) := by rw [hF3]; exact h352
  refine gp_cV (mh_me h3) (gp_mono (r_over h3 h353 hw3 hg3 hg (by omega) (by omega) (by omega) (by omega) (by omega) (by omega)) ?_)
  rintro _ σ4 ⟨rfl, hP4, k4, hk4, h354, hv4⟩
  have h4 := mSh_fr h3 hP4.1
  refine gp_cV (mh_me h4) (gp_mono (r_copyTo (to := 115756) h4 hv4 (by omega) (by omega) (Or.inl (by omega)) (by omega)) ?_)
  rintro _ σ5 ⟨hP5, hF5, hv5⟩
  have h5 := mSh_fr h4 hP5.1
  refine gp_wI (mh_me h5) rfl ?_
  refine gp_zz (Or.inr rfl) ?_
  have h6 : mSh (tz_sF σ5 M 35 (nI t)) M := h5
  refine gp_wI (mh_me h6) rfl ?_
  have h7 : mSh (tz_sF (tz_sF σ5 M 35 (nI t)) M 28 1) M := h5
  have e1 := nV_pq hv3 hP4 (Or.inl (by omega))
  have e2 := nV_pq e1 hP5 (Or.inl (by omega))
  have e3 : nV (tz_A (tz_sF (tz_sF σ5 M 35 (nI t)) M 28 1) (M + 20)) 115456 k2 (v / (Int.gcd v w : Int)) := e2
  have q5 : Rq M (fun k => k = 35) (fun _ => False) hdP σ σ5 := Rq_trans (Rq_pq hP1 rfl (fun j a b c => by omega)) (Rq_trans (Rq_pq hP2 rfl (fun j a b c => by omega)) (Rq_trans (Rq_pq hP3 rfl (fun j a b c => by unfold hdP; omega)) (Rq_trans (Rq_pq hP4 rfl (fun j a b c => by omega)) (Rq_pq hP5 rfl (fun j a b c => by unfold hdP; omega)))))
  refine gp_cV (mh_me h7) (gp_mono (r_sgn h7 e3 (by omega)) ?_)
  rintro _ σ0 ⟨z0, rfl⟩
  rw [z0]
  refine gp_ret ⟨isg_rd2 hw0, ⟨?_, ?_, ?_⟩, ?_⟩
  · exact Fr_trans (Fr_trans q5.1 (Fr_sF (Or.inl rfl))) (Fr_sF (Or.inl rfl))
  · intro j a b
    rw [sF_at, if_neg (fun e => a e.2), sF_at]
    by_cases e : j = 35
    · rw [if_pos ⟨rfl, e⟩, e, ht]
    · rw [if_neg (fun w => e w.2)]; exact q5.2.1 j e b
  · intro i a b
    exact q5.2.2 i a b
  · refine ⟨tz_u2_same _ _ _ _, fun _ => ⟨⟨k2, e3, by omega, by omega⟩, ⟨k4, hv5, by omega, by omega⟩⟩⟩
end SY
