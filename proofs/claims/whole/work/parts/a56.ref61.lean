/-! ===== the reference: sums of fractions ===== -/
def Tq (M t : Nat) (σ σ' : tz_S) : Prop := Fr (fun x => x = M ∨ x = M + 20) σ σ' ∧ (∀ k, k ≠ 30 → k ≠ 31 → k ≠ 35 → k ≠ 36 → tz_F σ' M k = tz_F σ M k) ∧ ∀ i, i < t → tz_A σ' (M + 20) i = tz_A σ (M + 20) i
def smV (σ : tz_S) (M t : Nat) (U V : Int) : Prop := ∃ a1 a2 k1 k2, tz_F σ M 30 = nI a1 ∧ tz_F σ M 31 = nI a2 ∧ a1 + k1 < t ∧ a2 + k2 < t ∧ nV (tz_A σ (M + 20)) a1 k1 U ∧ nV (tz_A σ (M + 20)) a2 k2 V ∧ tz_F σ M 35 = nI t
def smI (M0 E U V : Int) : Prop := 0 < V ∧ Int.gcd U V = 1 ∧ U * M0 = V * E
section TJ
variable {f M t lo hi : Nat} {σ σ1 σ2 : tz_S} {U V : Int}
theorem Tq_refl : Tq M t σ σ := ⟨Fr_refl, fun _ _ _ _ _ => rfl, fun _ _ => rfl⟩
theorem Tq_trans (h1 : Tq M t σ σ1) (h2 : Tq M t σ1 σ2) : Tq M t σ σ2 := ⟨Fr_trans h1.1 h2.1, fun k a b c d => (h2.2.1 k a b c d).trans (h1.2.1 k a b c d), fun i hi => (h2.2.2 i hi).trans (h1.2.2 i hi)⟩
theorem Tq_mono (h : Tq M hi σ σ1) (hl : lo ≤ hi) : Tq M lo σ σ1 := ⟨h.1, h.2.1, fun i z => h.2.2 i (by omega)⟩
theorem Tq_pq (h : Pq M lo hi σ σ1) (hl : t ≤ lo) : Tq M t σ σ1 := ⟨h.1, fun k _ _ a b => h.2.1 k a b, fun i z => h.2.2 i (by omega)⟩
theorem Tq_F {k : Nat} {v : Int32} (hk : k = 30 ∨ k = 31 ∨ k = 35) : Tq M t σ (tz_sF σ M k v) := ⟨Fr_sF (Or.inl rfl), fun j a b c d => by rw [sF_at, if_neg (fun w => by omega)], fun i _ => by rw [sF_A]⟩
theorem nV_tq {h n : Nat} {v : Int} (hv : nV (tz_A σ (M + 20)) h n v) (hq : Tq M t σ σ1) (hx : h + n < t) : nV (tz_A σ1 (M + 20)) h n v := nV_congr hv (fun i _ b => hq.2.2 i (by omega))
theorem nV_sF {h n k : Nat} {v : Int} {x : Int32} (hv : nV (tz_A σ (M + 20)) h n v) : nV (tz_A (tz_sF σ M k x) (M + 20)) h n v := nV_congr hv (fun i _ _ => by rw [sF_A])
theorem smV_top (h : smV σ M t U V) : tz_F σ M 35 = nI t := by
  obtain ⟨_, _, _, _, _, _, _, _, _, _, h⟩ := h
  exact h
theorem smI_0 {M0 : Int} : smI M0 0 0 1 := ⟨by decide, by decide, by omega⟩
theorem smI_add {M0 E U V e s x y : Int} (h : smI M0 E U V) (hy : 0 < y) (he : e * y = s * x * M0) : smI M0 (E + e) (rd (U * y + s * x * V) (V * y)).1 (rd (U * y + s * x * V) (V * y)).2 := by
  obtain ⟨h1, h2, h3⟩ := h
  have hq : 0 < V * y := Int.mul_pos h1 hy
  obtain ⟨a1, a2, -, -, a5⟩ := rd_ok (p := U * y + s * x * V) hq
  refine ⟨a1, a5, ?_⟩
  generalize (rd (U * y + s * x * V) (V * y)).1 = U2 at *
  generalize (rd (U * y + s * x * V) (V * y)).2 = V2 at *
  have hu : (U * y + s * x * V) * M0 = (V * y) * (E + e) := by
    have e1 : (U * y + s * x * V) * M0 = (U * M0) * y + (s * x * M0) * V := by grind
    rw [e1, h3, ← he]
    grind
  have : (U2 * M0) * (V * y) = (V2 * (E + e)) * (V * y) := by
    have e1 : (U2 * M0) * (V * y) = (U2 * (V * y)) * M0 := by grind
    rw [e1, ← a2]
    have e2 : (U * y + s * x * V) * V2 * M0 = ((U * y + s * x * V) * M0) * V2 := by grind
    rw [e2, hu]
    grind
  exact Int.eq_of_mul_eq_mul_right (by omega) this
/-- the sizes of a sum -/
theorem smI_sz {M0 E U V : Int} {W : Nat} (h : smI M0 E U V) (h0 : 0 < M0) (hW : W ≤ 959) (hM : M0.natAbs ≤ 10 ^ W) (hE : E.natAbs ≤ M0.natAbs * (32 * 10 ^ 97)) : (U.natAbs : Int) < 1000000000 ^ 118 ∧ (V.natAbs : Int) < 1000000000 ^ 107 := by
  obtain ⟨h1, h2, h3⟩ := h
  have hn : U.natAbs * M0.natAbs = V.natAbs * E.natAbs := by rw [← Int.natAbs_mul, ← Int.natAbs_mul, h3]
  have hg : Nat.Coprime V.natAbs U.natAbs := (Nat.gcd_comm _ _).trans h2
  have hd : V.natAbs ∣ M0.natAbs := Nat.Coprime.dvd_of_dvd_mul_left hg ⟨E.natAbs, hn⟩
  have hV : V.natAbs ≤ 10 ^ W := Nat.le_trans (Nat.le_of_dvd (by omega) hd) hM
  have k0 : 32 * 10 ^ 97 ≤ 10 ^ 99 := by decide
  have hU : U.natAbs ≤ 10 ^ (W + 99) := by
    have e1 : U.natAbs * M0.natAbs ≤ (V.natAbs * (32 * 10 ^ 97)) * M0.natAbs := by
      rw [hn, Nat.mul_assoc, Nat.mul_comm (32 * 10 ^ 97)]
      exact Nat.mul_le_mul_left _ hE
    have e2 := Nat.le_of_mul_le_mul_right e1 (by omega)
    rw [Nat.pow_add]
    exact Nat.le_trans e2 (Nat.mul_le_mul hV k0)
  exact ⟨p9 (p10_s hU) (by omega), p9 (p10_s hV) (by omega)⟩
theorem r_beginSum (h : mSh σ M) (ht : tz_F σ M 35 = nI t) (hb : t + 8 ≤ 527200) (hf : 2000 ≤ f) : gp (X12_beginSum f (some M)) σ (fun _ σ' => Tq M t σ σ' ∧ ∃ t', t' ≤ t + 8 ∧ t ≤ t' ∧ smV σ' M t' 0 1) := by
  unfold X12_beginSum
  refine gp_cV (mh_me h) (gp_mono (r_plainOf (v := 0) h ht (by decide) (by omega) hf) ?_)
  rintro _ σ1 ⟨rfl, hP1, k1, hk1, h351, hv1⟩
  have h1 := mSh_fr h hP1.1
  refine gp_wI (mh_me h1) rfl ?_
  have h2 : mSh (tz_sF σ1 M 30 (nI t)) M := h1
  have h352 : tz_F (tz_sF σ1 M 30 (nI t)) M 35 = nI (t + k1 + 1) := by rw [sF_at, if_neg (by omega)]; exact h351
  have q2 : Tq M t σ (tz_sF σ1 M 30 (nI t)) := Tq_trans (Tq_pq hP1 (Nat.le_refl _)) (Tq_F (Or.inl rfl))
  have hv2 := nV_sF (k := 30) (x := nI t) hv1
  have h302 : tz_F (tz_sF σ1 M 30 (nI t)) M 30 = nI t := by rw [sF_at, if_pos ⟨rfl, rfl⟩]
  generalize tz_sF σ1 M 30 (nI t) = σ2 at *
  refine gp_cV (mh_me h2) (gp_mono (r_plainOf (v := 1) h2 h352 (by decide) (by omega) hf) ?_)
  rintro _ σ3 ⟨rfl, hP3, k3, hk3, h353, hv3⟩
  have h3 := mSh_fr h2 hP3.1
  refine gp_wI (mh_me h3) rfl ?_
  refine gp_ret ⟨Tq_trans q2 (Tq_trans (Tq_pq hP3 (by omega)) (Tq_F (Or.inr (Or.inl rfl)))), t + k1 + 1 + k3 + 1, by omega, by omega, t, t + k1 + 1, k1, k3, ?_, ?_, by omega, by omega, nV_sF (nV_pq hv2 hP3 (Or.inl (by omega))), nV_sF hv3, ?_⟩
  · rw [sF_at, if_neg (by omega), hP3.2.1 30 (by decide) (by decide)]; exact h302
  · rw [sF_at, if_pos ⟨rfl, rfl⟩]
  · rw [sF_at, if_neg (by omega)]; exact h353
set_option maxRecDepth 20000 in
set_option maxHeartbeats 4000000 in
theorem r_addTo {p x y ks kx ky : Nat} {s vx vy U V : Int} (h : mSh σ M) (hs : smV σ M t U V) (hV0 : 0 < V) (hy0 : 0 < vy) (hv : nV (tz_A σ (M + 20)) p ks s) (hx : nV (tz_A σ (M + 20)) x kx vx) (hy : nV (tz_A σ (M + 20)) y ky vy) (hp : p + ks < t) (hx2 : x + kx < t) (hy2 : y + ky < t) (hks : ks ≤ 20) (hkx : kx ≤ 20) (hsU : (U.natAbs : Int) < 1000000000 ^ 118) (hsV : (V.natAbs : Int) < 1000000000 ^ 107) (hsy : (vy.natAbs : Int) < 1000000000 ^ 8) (hsx : ((s * vx).natAbs : Int) < 1000000000 ^ 11) (hb : t + 3000 ≤ 527200) (hf : 20000 ≤ f) :
    gp (X12_addTo f (some M) (nI p) (nI x) (nI y)) σ (fun _ σ' => Tq M t σ σ' ∧ ∃ t', t ≤ t' ∧ t' ≤ t + 1000 ∧ smV σ' M t' (rd (U * vy + s * vx * V) (V * vy)).1 (rd (U * vy + s * vx * V) (V * vy)).2) := by
  obtain ⟨a1, a2, k1, k2, f30, f31, l1, l2, n1, n2, h35⟩ := hs
  have hk1 := nV_le n1 hsU
  have hk2 := nV_le n2 hsV
  have hky := nV_le hy hsy
  clear hsU hsV hsy
  unfold X12_addTo
  refine gp_rI (mh_me h) rfl ?_
  rw [f30]
  refine gp_cV (mh_me h) (gp_mono (r_by h h35 n1 hy l1 hy2 (by omega) (by omega) (by omega) (by omega)) ?_)
  rintro _ σ1 ⟨rfl, hP1, kA, hkA, h351, hvA⟩
  have h1 := mSh_fr h hP1.1
  have q1 : Tq M t σ σ1 := Tq_pq hP1 (Nat.le_refl _)
  refine gp_cV (mh_me h1) (gp_mono (r_by h1 h351 (nV_tq hv q1 hp) (nV_tq hx q1 hx2) (by omega) (by omega) (by omega) (by omega) (by omega) (by omega)) ?_)
  rintro _ σ2 ⟨rfl, hP2, kB, hkB, h352, hvB⟩
  have h2 := mSh_fr h1 hP2.1
  have q2 : Tq M t σ σ2 := Tq_trans q1 (Tq_pq hP2 (by omega))
  have hkB2 := nV_le hvB hsx
  clear hsx
  have hvA2 := nV_pq hvA hP2 (Or.inl (by omega))
  refine gp_rI (mh_me h2) rfl ?_
  rw [show tz_F σ2 M 31 = nI a2 by rw [hP2.2.1 31 (by decide) (by decide), hP1.2.1 31 (by decide) (by decide)]; exact f31]
  refine gp_cV (mh_me h2) (gp_mono (r_by h2 h352 hvB (nV_tq n2 q2 l2) (by omega) (by omega) (by omega) (by omega) (by omega) (by omega)) ?_)
  rintro _ σ3 ⟨rfl, hP3, kC, hkC, h353, hvC⟩
  have h3 := mSh_fr h2 hP3.1
  have q3 : Tq M t σ σ3 := Tq_trans q2 (Tq_pq hP3 (by omega))
  have hvA3 := nV_pq hvA2 hP3 (Or.inl (by omega))
  refine gp_cV (mh_me h3) (gp_mono (r_plus h3 h353 hvA3 hvC (by omega) (by omega) (by omega) (by omega) (by omega) (by omega)) ?_)
  rintro _ σ4 ⟨rfl, hP4, kD, hkD, h354, hvD⟩
  have h4 := mSh_fr h3 hP4.1
  have q4 : Tq M t σ σ4 := Tq_trans q3 (Tq_pq hP4 (by omega))
  have hkD2 : kD ≤ 127 := by omega
  refine gp_rI (mh_me h4) rfl ?_
  rw [show tz_F σ4 M 31 = nI a2 by rw [hP4.2.1 31 (by decide) (by decide), hP3.2.1 31 (by decide) (by decide), hP2.2.1 31 (by decide) (by decide), hP1.2.1 31 (by decide) (by decide)]; exact f31]
  refine gp_cV (mh_me h4) (gp_mono (r_by h4 h354 (nV_tq n2 q4 l2) (nV_tq hy q4 hy2) (by omega) (by omega) (by omega) (by omega) (by omega) (by omega)) ?_)
  rintro _ σ5 ⟨rfl, hP5, kE, hkE, h355, hvE⟩
  have h5 := mSh_fr h4 hP5.1
  have q5 : Tq M t σ σ5 := Tq_trans q4 (Tq_pq hP5 (by omega))
  have hvD5 := nV_pq hvD hP5 (Or.inl (by omega))
  clear hP1 hP2 hP3 hP4 hP5 q1 q2 q3 q4 hvA hvA2 hvA3 hvB hvC hvD h1 h2 h3 h4 h351 h352 h353 h354
  have eD1 : t ≤ t + kA + 1 + kB + 1 + kC + 1 := by omega
  have eD2 : t + kA + 1 + kB + 1 + kC + 1 ≤ t + 300 := by omega
  clear hkA hkB hkC hkD hkB2
  generalize t + kA + 1 + kB + 1 + kC + 1 = tD at *
  have hg : 0 < (Int.gcd (U * vy + s * vx * V) (V * vy) : Int) := by
    have := Int.mul_pos hV0 hy0
    have : 0 < Int.gcd (U * vy + s * vx * V) (V * vy) := Int.gcd_pos_of_ne_zero_right _ (by omega)
    omega
  refine gp_cV (mh_me h5) (gp_mono (r_gcd (N := 127) h5 h355 hvD5 hvE (by omega) (by omega) hkD2 (by omega) (by omega) (by omega) hf) ?_)
  rintro _ σ6 ⟨rfl, hP6, kG, hkG, h356, hvG⟩
  have h6 := mSh_fr h5 hP6.1
  have q6 : Tq M t σ σ6 := Tq_trans q5 (Tq_pq hP6 (by omega))
  have hvD6 := nV_pq hvD5 hP6 (Or.inl (by omega))
  have hvE6 := nV_pq hvE hP6 (Or.inl (by omega))
  refine gp_cV (mh_me h6) (gp_mono (r_over h6 h356 hvD6 hvG hg (by omega) (by omega) (by omega) (by omega) (by omega) (by omega)) ?_)
  rintro _ σ7 ⟨rfl, hP7, kH, hkH, h357, hvH⟩
  have h7 := mSh_fr h6 hP7.1
  have q7 : Tq M t σ σ7 := Tq_trans q6 (Tq_pq hP7 (by omega))
  have hvG7 := nV_pq hvG hP7 (Or.inl (by omega))
  have hvE7 := nV_pq hvE6 hP7 (Or.inl (by omega))
  refine gp_wI (mh_me h7) rfl ?_
  clear hP6 hP7 q5 q6 hvD5 hvE hvD6 hvE6 hvG h5 h6 h355 h356
  generalize hw1 : tD + kD + 1 + kE + 1 + kG + 1 = tG at *
  have q8 : Tq M t σ (tz_sF σ7 M 30 (nI tG)) := Tq_trans q7 (Tq_F (Or.inl rfl))
  have h8 : mSh (tz_sF σ7 M 30 (nI tG)) M := h7
  have h358 : tz_F (tz_sF σ7 M 30 (nI tG)) M 35 = nI (tG + kH + 1) := by rw [sF_at, if_neg (by omega)]; exact h357
  have h308 : tz_F (tz_sF σ7 M 30 (nI tG)) M 30 = nI tG := by rw [sF_at, if_pos ⟨rfl, rfl⟩]
  have hvH8 := nV_sF (k := 30) (x := nI tG) hvH
  have hvE8 := nV_sF (k := 30) (x := nI tG) hvE7
  have hvG8 := nV_sF (k := 30) (x := nI tG) hvG7
  generalize tz_sF σ7 M 30 (nI tG) = σ8 at *
  clear q7 h7 h357 hvH hvE7 hvG7
  refine gp_cV (mh_me h8) (gp_mono (r_over h8 h358 hvE8 hvG8 hg (by omega) (by omega) (by omega) (by omega) (by omega) (by omega)) ?_)
  rintro _ σ9 ⟨rfl, hP9, kJ, hkJ, h359, hvJ⟩
  have h9 := mSh_fr h8 hP9.1
  refine gp_wI (mh_me h9) rfl ?_
  refine gp_ret ⟨Tq_trans q8 (Tq_trans (Tq_pq hP9 (by omega)) (Tq_F (Or.inr (Or.inl rfl)))), tG + kH + 1 + kJ + 1, by omega, by omega, tG, tG + kH + 1, kH, kJ, ?_, ?_, by omega, by omega, nV_sF (nV_pq hvH8 hP9 (Or.inl (by omega))), nV_sF hvJ, ?_⟩
  · rw [sF_at, if_neg (by omega), hP9.2.1 30 (by decide) (by decide)]; exact h308
  · rw [sF_at, if_pos ⟨rfl, rfl⟩]
  · rw [sF_at, if_neg (by omega)]; exact h359
end TJ
