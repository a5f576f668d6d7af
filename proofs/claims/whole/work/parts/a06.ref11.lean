/-! ===== the reference: over, gcd ===== -/
theorem fl_neg {v w : Int} (hw : 0 < w) (hv : v < 0) : (v.natAbs : Int) % w = 0 ∧ v / w = -((v.natAbs : Int) / w) ∨ (v.natAbs : Int) % w ≠ 0 ∧ v / w = -((v.natAbs : Int) / w) - 1 := by
  have h1 := Int.mul_ediv_add_emod (v.natAbs : Int) w
  have h2 := Int.emod_nonneg (v.natAbs : Int) (show w ≠ 0 by omega)
  have h3 := Int.emod_lt_of_pos (v.natAbs : Int) hw
  have hva : (v.natAbs : Int) = -v := by omega
  generalize (v.natAbs : Int) / w = q at *
  generalize (v.natAbs : Int) % w = r at *
  rw [hva] at h1
  by_cases z : r = 0
  · left
    refine ⟨z, dq_uniq hw ?_ ?_⟩
    · rw [Int.neg_mul, Int.mul_comm]; omega
    · rw [Int.add_mul, Int.one_mul, Int.neg_mul, Int.mul_comm q w]; omega
  · right
    refine ⟨z, dq_uniq hw ?_ ?_⟩
    · rw [Int.sub_mul, Int.neg_mul, Int.one_mul, Int.mul_comm q w]; omega
    · rw [show -q - 1 + 1 = -q by omega, Int.neg_mul, Int.mul_comm]; omega
theorem nV_abs {a b : Nat → Int32} {x n : Nat} {v : Int} (hv : nV a x n v) (h0 : b x = nI n) (hb : ∀ i, x < i → b i = a i) : nV b x n (v.natAbs : Int) := by
  obtain ⟨h1, h2, h3, h4, h5⟩ := hv
  have e : ∀ j, dI b (x + 1 + j) = dI a (x + 1 + j) := fun j => by unfold dI; rw [hb _ (by omega)]
  refine ⟨by rw [h0, nI_toInt (by omega), if_neg (by omega)], fun j hj => by rw [e j]; exact h2 j hj, fun hn => by rw [e]; exact h3 hn, ?_, h5⟩
  rw [Int.natAbs_natCast, ← h4]
  exact mg_congr (fun j _ => e j)
def nval (a : Nat → Int32) (h : Nat) : Nat := (mg (fun j => dI a (h + 1 + j)) (a h).toInt.natAbs).natAbs
theorem nV_val {a : Nat → Int32} {x n : Nat} {v : Int} (hv : nV a x n v) : nval a x = v.natAbs := by
  obtain ⟨h1, h2, h3, h4, h5⟩ := hv
  have e : (a x).toInt.natAbs = n := by
    rw [h1]
    by_cases z : v < 0
    · rw [if_pos z]; omega
    · rw [if_neg z]; omega
  unfold nval
  rw [e, h4]
  omega
theorem bl_le {d e : Nat} (h : d ≤ e) : bl d ≤ bl e := by
  unfold bl
  by_cases z : d = 0
  · rw [if_pos z]; exact Nat.zero_le _
  · rw [if_neg z, if_neg (by omega)]
    have h1 : e < 2 ^ (e.log2 + 1) := (Nat.log2_lt (by omega)).1 (by omega)
    have := (Nat.log2_lt z).2 (show d < 2 ^ (e.log2 + 1) by omega)
    omega
theorem bl_pw {d k : Nat} (h : d < 2 ^ k) : bl d ≤ k := by
  unfold bl
  by_cases z : d = 0
  · rw [if_pos z]; exact Nat.zero_le _
  · rw [if_neg z]
    have := (Nat.log2_lt z).2 h
    omega
def gM (g l : Nat) : Nat := 2 * bl (g * l) + (if l < g then 0 else 1)
theorem gM_lt {g l : Nat} (hl : 0 < l) (hg : 0 < g) : gM l (g % l) < gM g l := by
  have h1 := Nat.mod_lt g hl
  unfold gM
  rw [if_pos h1]
  by_cases z : l < g
  · rw [if_pos z]
    have e1 := Nat.div_add_mod g l
    have e2 : 1 ≤ g / l := (Nat.le_div_iff_mul_le hl).mpr (by omega)
    have e3 : l * 1 ≤ l * (g / l) := Nat.mul_le_mul_left _ e2
    have e4 : l * (2 * (g % l)) ≤ l * g := Nat.mul_le_mul_left _ (by omega)
    have e5 : 2 * (l * (g % l)) ≤ g * l := by
      have : l * (2 * (g % l)) = 2 * (l * (g % l)) := by grind
      rw [Nat.mul_comm g l]
      omega
    have e6 : g * l ≠ 0 := Nat.ne_of_gt (Nat.mul_pos hg hl)
    have := bl_lt e6 e5
    omega
  · rw [if_neg z]
    have e4 : l * (g % l) ≤ l * g := Nat.mul_le_mul_left _ (Nat.mod_le _ _)
    rw [Nat.mul_comm l g] at e4
    have := bl_le e4
    omega
theorem lt_uncast {x n : Nat} (h : (x : Int) < 1000000000 ^ n) : x < 1000000000 ^ n := by
  have h2 : (x : Int) < ((1000000000 : Nat) : Int) ^ n := h
  rw [← pw_cast] at h2
  omega
theorem gM_bd {g l n m : Nat} (hg : (g : Int) < 1000000000 ^ n) (hl : (l : Int) < 1000000000 ^ m) (hn : n ≤ 130) (hm : m ≤ 130) : gM g l ≤ 15601 := by
  have h1 : g < 1000000000 ^ n := lt_uncast hg
  have h2 : l < 1000000000 ^ m := lt_uncast hl
  have h3 : 1000000000 ^ n ≤ 2 ^ (30 * n) := by rw [Nat.pow_mul]; exact Nat.pow_le_pow_left (by decide) _
  have h4 : 1000000000 ^ m ≤ 2 ^ (30 * m) := by rw [Nat.pow_mul]; exact Nat.pow_le_pow_left (by decide) _
  have h5 : g * l < 2 ^ (30 * n + 30 * m) := by
    rw [Nat.pow_add]
    exact Nat.mul_lt_mul_of_lt_of_le (by omega) (by omega) (Nat.two_pow_pos _)
  have := bl_pw h5
  unfold gM
  by_cases z : l < g
  · rw [if_pos z]; omega
  · rw [if_neg z]; omega
section RJ
variable {f M t : Nat} {σ : tz_S}
set_option maxHeartbeats 1000000 in
/-- the quotient, rounded down -/
theorem r_over {x y n m : Nat} {v w : Int} (h : mSh σ M) (ht : tz_F σ M 35 = nI t) (hv : nV (tz_A σ (M + 20)) x n v) (hw : nV (tz_A σ (M + 20)) y m w) (hw0 : 0 < w) (hx : x + n < t) (hy : y + m < t) (hn : n ≤ 300) (hm : m ≤ 300) (hb : t + 4 * n + 30 ≤ 527200) (hf : 2000 ≤ f) :
    gp (X12_over f (some M) (nI x) (nI y)) σ (fun z σ' => z = nI t ∧ Pq M t (t + 4 * n + 30) σ σ' ∧ ∃ k, k ≤ n + 2 ∧ tz_F σ' M 35 = nI (t + k + 1) ∧ nV (tz_A σ' (M + 20)) t k (v / w)) := by
  have hwa : (w.natAbs : Int) = w := by omega
  unfold X12_over
  refine gp_rI (mh_me h) rfl ?_
  rw [ht]
  refine gp_cV (mh_me h) (gp_mono (r_divide h ht hv hw (by omega) hx hy (by omega) (by omega) (by omega) hf) ?_)
  rintro z σ1 ⟨R, rfl, hR1, hR2, hP1, h351, h361, kq, kr, k1, k2, k3, hq1, hr1⟩
  rw [hwa] at hq1 hr1
  have h1 := mSh_fr h hP1.1
  have hv1 := nV_pq hv hP1 (Or.inl hx)
  have hw1 := nV_pq hw hP1 (Or.inl hy)
  have hP1' : Pq M t (t + 4 * n + 30) σ σ1 := Pq_mono hP1 (Nat.le_refl _) (by omega)
  refine gp_rI (mh_me h1) rfl ?_
  rw [h361]
  refine gp_cV (mh_me h1) (gp_mono (r_sgn h1 hv1 (by omega)) ?_)
  rintro _ σ0 ⟨z0, rfl⟩
  rw [z0]
  clear z0 σ0
  refine gp_cV (mh_me h1) (gp_mono (r_sgn h1 hw1 (by omega)) ?_)
  rintro _ σ0 ⟨z0, rfl⟩
  rw [z0]
  clear z0 σ0
  rw [isg_pos hw0]
  have hhead : (tz_A σ1 (M + 20) R = 0) ↔ (v.natAbs : Int) % w = 0 := by
    have e0 := nV_0 hr1
    have e1 := hr1.1
    have e2 := Int.emod_nonneg (v.natAbs : Int) (show w ≠ 0 by omega)
    rw [if_neg (by omega)] at e1
    rw [← e0, ← az_iz, e1]
    omega
  have kp : ∀ (σ2 : tz_S) (l5 k : Nat) (r : Int), mSh σ2 M → Pq M t (t + 4 * n + 30) σ σ2 → nV (tz_A σ2 (M + 20)) l5 k r → t ≤ l5 → l5 + k < 527200 → k ≤ n + 2 → r = v / w → gp (X12_over_b110 f (some M) (nI t) (nI l5)) σ2 (fun z σ' => z = nI t ∧ Pq M t (t + 4 * n + 30) σ σ' ∧ ∃ k, k ≤ n + 2 ∧ tz_F σ' M 35 = nI (t + k + 1) ∧ nV (tz_A σ' (M + 20)) t k (v / w)) := by
    intro σ2 l5 k r g1 g2 g3 g4 g5 g6 g7
    unfold X12_over_b110
    refine gp_cV (mh_me g1) (gp_mono (r_keep (mk := t) g1 g3 g5 g4 hf) ?_)
    rintro _ σ3 ⟨rfl, a1, a2, a3⟩
    rw [g7] at a3
    exact gp_ret ⟨rfl, Pq_trans g2 (Pq_mono a1 (Nat.le_refl _) (by omega)), k, g6, a2, a3⟩
  unfold X12_over_b38 X12_over_b55 X12_over_b86
  by_cases hvn : v < 0
  · rw [isg_neg hvn]
    refine gp_f (by decide) ?_
    refine gp_pl (j := R) h1 (by omega) rfl ?_
    have neg : ∀ s0 : Int32, (s0 = 0 ↔ (v.natAbs : Int) % w = 0) → gp (pz_gB (pz_rR 12 34 (some M)) fun x8 => pz_if ((1 : Int32) = 0) (pz_gB (pz_rR 12 34 (some M)) fun x9 => pz_gB (pz_aI 0 x9 (nI t)) fun x10 => pz_uB (pz_sI 0 x8 (nI t) x10) (pz_if ((1 : Int32) = 0) (X12_over_b110 f (some M) (nI t) (nI t)) (pz_if (s0 = 0) (X12_over_b110 f (some M) (nI t) (nI t)) (pz_cV 12 (some M) (X12_plainOf f (some M) 1) fun x12 => pz_cV 12 (some M) (X12_minus f (some M) (nI t) x12) fun x13 => X12_over_b110 f (some M) (nI t) x13)))) (pz_gB (pz_rR 12 34 (some M)) fun x14 => pz_gB (pz_aI 0 x14 (nI t)) fun x15 => pz_uB (pz_sI 0 x8 (nI t) (-x15)) (pz_if ((1 : Int32) = 0) (X12_over_b110 f (some M) (nI t) (nI t)) (pz_if (s0 = 0) (X12_over_b110 f (some M) (nI t) (nI t)) (pz_cV 12 (some M) (X12_plainOf f (some M) 1) fun x12 => pz_cV 12 (some M) (X12_minus f (some M) (nI t) x12) fun x13 => X12_over_b110 f (some M) (nI t) x13))))) σ1 (fun z σ' => z = nI t ∧ Pq M t (t + 4 * n + 30) σ σ' ∧ ∃ k, k ≤ n + 2 ∧ tz_F σ' M 35 = nI (t + k + 1) ∧ nV (tz_A σ' (M + 20)) t k (v / w)) := by
      intro s0 hs0
      refine gp_rR (mh_me h1) rfl ?_
      refine gp_f (by decide) ?_
      refine gp_pl (j := t) h1 (by omega) rfl ?_
      refine gp_ps (j := t) h1 (by omega) rfl ?_
      have h2 : mSh (tz_sA σ1 (M + 20) t (-tz_A σ1 (M + 20) t)) M := h1
      have hq2 : nV (tz_A (tz_sA σ1 (M + 20) t (-tz_A σ1 (M + 20) t)) (M + 20)) t kq (-((v.natAbs : Int) / w)) := nV_neg hq1 (tz_u2_same _ _ _ _) (fun i hi => tz_u2_ne _ _ (Or.inr (by omega)))
      have hP2 : Pq M t (t + 4 * n + 30) σ (tz_sA σ1 (M + 20) t (-tz_A σ1 (M + 20) t)) := Pq_trans hP1' (Pq_cell (Nat.le_refl _) (by omega))
      have h352 : tz_F (tz_sA σ1 (M + 20) t (-tz_A σ1 (M + 20) t)) M 35 = nI (R + n + 2) := h351
      generalize tz_sA σ1 (M + 20) t (-tz_A σ1 (M + 20) t) = σ2 at *
      refine gp_f (by decide) ?_
      rcases fl_neg hw0 hvn with ⟨b1, b2⟩ | ⟨b1, b2⟩
      · exact gp_t (hs0.2 b1) (kp σ2 t kq _ h2 hP2 hq2 (Nat.le_refl _) (by omega) (by omega) b2.symm)
      · refine gp_f (fun e => b1 (hs0.1 e)) ?_
        refine gp_cV (mh_me h2) (gp_mono (r_plainOf (v := 1) h2 h352 (by decide) (by omega) hf) ?_)
        rintro _ σ3 ⟨rfl, hP3, c, hc3, h353, hc⟩
        have h3 := mSh_fr h2 hP3.1
        have hc1 : c ≤ 1 := nV_le hc (by decide)
        refine gp_cV (mh_me h3) (gp_mono (r_minus h3 h353 (nV_pq hq2 hP3 (Or.inl (by omega))) hc (by omega) (by omega) (by omega) (by omega) (by omega) hf) ?_)
        rintro _ σ4 ⟨rfl, hP4, k, hk4, h354, hk⟩
        have h4 := mSh_fr h3 hP4.1
        refine kp σ4 _ k _ h4 (Pq_trans hP2 (Pq_trans (Pq_mono hP3 (by omega) (by omega)) (Pq_mono hP4 (by omega) (by omega)))) hk (by omega) (by omega) (by omega) ?_
        rw [b2]
        rfl
    refine gp_if (fun q => ?_) (fun q => ?_)
    · exact neg 0 ⟨fun _ => hhead.1 q, fun _ => rfl⟩
    · exact neg 1 ⟨fun e => absurd e (by decide), fun e => absurd (hhead.2 e) q⟩
  · have hsg : (0 : Int32) ≤ isg v * 1 := by
      rcases isg_cases v with c | c | c
      · rw [c.2]; decide
      · exact absurd c.1 hvn
      · rw [c.2]; decide
    refine gp_t hsg ?_
    refine gp_pl (j := R) h1 (by omega) rfl ?_
    have hva : (v.natAbs : Int) = v := by omega
    rw [hva] at hq1
    have pos : ∀ s0 : Int32, gp (pz_gB (pz_rR 12 34 (some M)) fun x8 => pz_if ((0 : Int32) = 0) (pz_gB (pz_rR 12 34 (some M)) fun x9 => pz_gB (pz_aI 0 x9 (nI t)) fun x10 => pz_uB (pz_sI 0 x8 (nI t) x10) (pz_if ((0 : Int32) = 0) (X12_over_b110 f (some M) (nI t) (nI t)) (pz_if (s0 = 0) (X12_over_b110 f (some M) (nI t) (nI t)) (pz_cV 12 (some M) (X12_plainOf f (some M) 1) fun x12 => pz_cV 12 (some M) (X12_minus f (some M) (nI t) x12) fun x13 => X12_over_b110 f (some M) (nI t) x13)))) (pz_gB (pz_rR 12 34 (some M)) fun x14 => pz_gB (pz_aI 0 x14 (nI t)) fun x15 => pz_uB (pz_sI 0 x8 (nI t) (-x15)) (pz_if ((0 : Int32) = 0) (X12_over_b110 f (some M) (nI t) (nI t)) (pz_if (s0 = 0) (X12_over_b110 f (some M) (nI t) (nI t)) (pz_cV 12 (some M) (X12_plainOf f (some M) 1) fun x12 => pz_cV 12 (some M) (X12_minus f (some M) (nI t) x12) fun x13 => X12_over_b110 f (some M) (nI t) x13))))) σ1 (fun z σ' => z = nI t ∧ Pq M t (t + 4 * n + 30) σ σ' ∧ ∃ k, k ≤ n + 2 ∧ tz_F σ' M 35 = nI (t + k + 1) ∧ nV (tz_A σ' (M + 20)) t k (v / w)) := by
      intro s0
      refine gp_rR (mh_me h1) rfl ?_
      refine gp_t rfl ?_
      refine gp_pl (j := t) h1 (by omega) rfl ?_
      refine gp_ps (j := t) h1 (by omega) rfl ?_
      have h2 : mSh (tz_sA σ1 (M + 20) t (tz_A σ1 (M + 20) t)) M := h1
      have hq2 : nV (tz_A (tz_sA σ1 (M + 20) t (tz_A σ1 (M + 20) t)) (M + 20)) t kq (v / w) := nV_congr hq1 (fun i a b => by
        show tz_u2 (tz_A σ1) (M + 20) t (tz_A σ1 (M + 20) t) (M + 20) i = _
        by_cases e : i = t
        · rw [e, tz_u2_same]
        · rw [tz_u2_ne _ _ (Or.inr e)])
      exact gp_t rfl (kp _ t kq _ h2 (Pq_trans hP1' (Pq_cell (Nat.le_refl _) (by omega))) hq2 (Nat.le_refl _) (by omega) (by omega) rfl)
    exact gp_if (fun q => pos 0) (fun q => pos 1)
end RJ
