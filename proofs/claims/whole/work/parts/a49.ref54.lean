/-! ===== the reference: witness ===== -/
section TD
variable {f M n m K lc st sp ex cf spl : Nat} {σ σ1 : tz_S} {A T : Nat → Nat → Int} {kd : Nat → Nat} {bb dr : Nat → Int} {wh : Nat → Bool} {D : Int} {va : Nat → Int} {bs cl : Nat → Nat} {tr : zTr} {mp mq : Nat → Nat → Int × Int} {wp wq : Nat → Int × Int} {hd : Int × Int} {ah : Bool} {Q : Int32 → tz_S → Prop}
set_option maxRecDepth 20000 in
set_option maxHeartbeats 2000000 in
/-- a fraction goes to its witness place -/
theorem r_witP {KK : Int32 → pz_C Int32} {x t a b n1 n2 : Nat} {v w : Int} (h : mSh σ M) (ht : tz_F σ M 35 = nI t) (ht2 : 447200 ≤ t) (hb : t ≤ 448000) (hx : x < 10) (hv : nV (tz_A σ (M + 20)) a n1 v) (hw : nV (tz_A σ (M + 20)) b n2 w) (hw0 : 0 < w) (ha : a + n1 < t) (hb1 : b + n2 < t) (ha2 : 447200 ≤ a) (hb2 : 447200 ≤ b) (hn1 : n1 ≤ 13) (hn2 : n2 ≤ 13) (hf : 20000 ≤ f)
    (hK : ∀ σ2, Rq M (fun j => j = 35) (fun _ => False) (wtP x) σ σ2 → tz_F σ2 M 35 = nI 447200 → nP σ2 M (109456 + 300 * (2 * x)) (rd v w).1 → nP σ2 M (109456 + 300 * (2 * x + 1)) (rd v w).2 → gp (KK (nI (x + 1))) σ2 Q) :
    gp (X12_witness_b72 f KK (some M) (nI x) (nI 447200) (nI a) (nI b)) σ Q := by
  unfold X12_witness_b72 X12_witnessAt
  refine gp_cV (mh_me h) (gp_mono (r_gcd (N := 13) h ht hv hw ha hb1 hn1 hn2 (by omega) (by omega) hf) ?_)
  rintro _ σ1 ⟨rfl, hP1, k1, hk1, h351, hv1⟩
  have h1 := mSh_fr h hP1.1
  have hg : 0 < (Int.gcd v w : Int) := by
    have : 0 < Int.gcd v w := Int.gcd_pos_of_ne_zero_right _ (by omega)
    omega
  refine gp_cV (mh_me h1) (gp_mono (r_over h1 h351 (nV_pq hv hP1 (Or.inl (by omega))) hv1 hg (by omega) (by omega) (by omega) (by omega) (by omega) (by omega)) ?_)
  rintro _ σ2 ⟨rfl, hP2, k2, hk2, h352, hv2⟩
  have h2 := mSh_fr h1 hP2.1
  refine gp_cB (gp_ret ?_)
  rw [show (109456 : Int32) + 300 * (2 * nI x + 0) = nI (109456 + 300 * (2 * x)) from at_w x 0]
  refine gp_cV (mh_me h2) (gp_mono (r_copyTo (to := 109456 + 300 * (2 * x)) h2 hv2 (by omega) (by omega) (Or.inl (by omega)) (by omega)) ?_)
  rintro _ σ3 ⟨hP3, hF3, hv3⟩
  have h3 := mSh_fr h2 hP3.1
  have hw3 : nV (tz_A σ3 (M + 20)) b n2 w := nV_pq (nV_pq (nV_pq hw hP1 (Or.inl (by omega))) hP2 (Or.inl (by omega))) hP3 (Or.inr (by omega))
  have hg3 := nV_pq (nV_pq hv1 hP2 (Or.inl (by omega))) hP3 (Or.inr (by omega))
  have h353 : tz_F σ3 M 35 = nI (t + k1 + 1 + k2 + 1) := by rw [hF3]; exact h352
  refine gp_cV (mh_me h3) (gp_mono (r_over h3 h353 hw3 hg3 hg (by omega) (by omega) (by omega) (by omega) (by omega) (by omega)) ?_)
  rintro _ σ4 ⟨rfl, hP4, k4, hk4, h354, hv4⟩
  have h4 := mSh_fr h3 hP4.1
  refine gp_cB (gp_ret ?_)
  rw [show (109456 : Int32) + 300 * (2 * nI x + 1) = nI (109456 + 300 * (2 * x + 1)) from at_w x 1]
  refine gp_cV (mh_me h4) (gp_mono (r_copyTo (to := 109456 + 300 * (2 * x + 1)) h4 hv4 (by omega) (by omega) (Or.inl (by omega)) (by omega)) ?_)
  rintro _ σ5 ⟨hP5, hF5, hv5⟩
  have h5 := mSh_fr h4 hP5.1
  refine gp_wI (mh_me h5) rfl ?_
  refine gp_let ?_
  rw [nI_1]
  have e1 := nV_pq hv3 hP4 (Or.inl (by omega))
  have e2 := nV_pq e1 hP5 (Or.inl (by omega))
  refine hK _ ?_ (tz_u2_same _ _ _ _) ⟨k2, e2, by omega, by omega⟩ ⟨k4, hv5, by omega, by omega⟩
  exact Rq_trans (Rq_pq hP1 rfl (fun j a b c => by omega)) (Rq_trans (Rq_pq hP2 rfl (fun j a b c => by omega)) (Rq_trans (Rq_pq hP3 rfl (fun j a b c => by unfold wtP; omega)) (Rq_trans (Rq_pq hP4 rfl (fun j a b c => by omega)) (Rq_trans (Rq_pq hP5 rfl (fun j a b c => by unfold wtP; omega)) (Rq_F rfl)))))
end TD
