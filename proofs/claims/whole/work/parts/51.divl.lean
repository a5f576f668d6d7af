/-! ===== Division: divideByLimbs ===== -/
theorem rg_20 (t s : Int) : (t - 1) * (s - 1) = t * s - t - s + 1 := by grind
theorem rg_21 (t s : Int) : s * (t + 1) = t * s + s := by grind
/-- scaled, the highest limb is at least half the base -/
theorem sc_half {s t : Int} (ht : 1 ≤ t) (ht2 : t < 1000000000) (h1 : s * (t + 1) ≤ 1000000000) (h2 : 1000000000 < s * (t + 1) + (t + 1)) : 500000000 ≤ t * s ∧ 0 < s ∧ s ≤ 500000000 := by
  have hs : 0 < s := by
    rcases Int.lt_or_le 0 s with h | h
    · exact h
    · have : s * (t + 1) ≤ 0 := Int.mul_nonpos_of_nonpos_of_nonneg h (by omega)
      omega
  have hs2 : s ≤ 500000000 := by
    have : s * 2 ≤ s * (t + 1) := Int.mul_le_mul_of_nonneg_left (by omega) (by omega)
    omega
  refine ⟨?_, hs, hs2⟩
  rcases Int.lt_or_le (t * s) 500000000 with h | h
  · rw [rg_21] at h1 h2
    by_cases ht1 : t = 1
    · subst ht1; omega
    · by_cases hs1 : s = 1
      · subst hs1; omega
      · have h3 : 1 * 1 ≤ (t - 1) * (s - 1) := Int.mul_le_mul (by omega) (by omega) (by decide) (by omega)
        rw [rg_20] at h3
        omega
  · exact h
set_option maxHeartbeats 2000000 in
/-- what is left is divided by the scale -/
theorem c_dl109 {n d N m : Nat} {σ : tz_S} {s : Int64} {R : Int} (hd : dSh σ d N) (hn : 2000 ≤ n) (hm : m ≤ N) (hs : 0 < s.toInt ∧ s.toInt < 1000000000) (hw : ∀ i, i < m → 0 ≤ dL (tz_L σ (d + 9)) i ∧ dL (tz_L σ (d + 9)) i < 1000000000) (hY : mg (dL (tz_L σ (d + 9))) m = R * s.toInt) :
    gp (X2_divideByLimbs_L109 n (some d) (nI m) s 0 (nI m - 1)) σ (fun _ σ' => ∃ (fr : Nat → Int32) (kr : Nat) (sr : Int32), σ' = bPut σ (d + 3) (d + 4) fr kr sr ∧ kr ≤ N ∧ bN fr kr sr R) := by
  obtain ⟨d1, d2, d3, d4, d5, d6, d7, d8⟩ := hd
  unfold X2_divideByLimbs_L109
  refine gp_loop (I := fun (τ : Int64 × Int32) (σ' : tz_S) => ∃ (f : Nat → Int32) (j : Nat), σ' = tz_rowA σ (d + 4) f ∧ τ.2 = nI j - 1 ∧ j ≤ m ∧ (∀ i, j ≤ i → i < m → 0 ≤ dI f i ∧ dI f i < 1000000000) ∧ 0 ≤ τ.1.toInt ∧ τ.1.toInt < s.toInt ∧ mgh (dL (tz_L σ (d + 9))) j m = mgh (dI f) j m * s.toInt + τ.1.toInt) (fun τ _ => (τ.2 + 1).toNatClampNeg) ?_ n _ _ ⟨tz_A σ (d + 4), m, (tz_rowA_self _ _).symm, rfl, Nat.le_refl _, fun i h1 h2 => absurd h2 (by omega), by show 0 ≤ (0 : Int64).toInt; decide, by show (0 : Int64).toInt < _; exact hs.1, by rw [mgh_top, mgh_top]; show 0 = 0 * _ + 0; omega⟩ (by simp only; rw [show nI m - 1 + 1 = nI m from Int32.sub_add_cancel _ _, nI_clamp (by omega)]; omega)
  rintro K ⟨l7, l9⟩ σ' ⟨f, j, rfl, h9, hj, hf, ho1, ho2, hv⟩ hK
  simp only at h9 ho1 ho2 hv hK
  subst h9
  show gp (X2_divideByLimbs_L109_body n (some d) (nI m) s (fun l7 l9 => K (l7, l9)) l7 (nI j - 1)) (tz_rowA σ (d + 4) f) _
  unfold X2_divideByLimbs_L109_body
  cases j with
  | zero =>
    refine gp_t (by decide) ?_
    rw [mgh_zero, mgh_zero, hY] at hv
    unfold X2_divideByLimbs_b166
    refine gp_rR (σ := tz_rowA σ (d + 4) f) d1 rfl ?_
    refine gp_cB (gp_mono (c_trim (σ := tz_rowA σ (d + 4) f) (m := m) d3 hn hm (by rw [tz_rowA_at]; exact fun i hi => hf i (by omega) hi)) ?_)
    rintro _ σ2 ⟨kq, sq, rfl, hkq, hbq⟩
    rw [tz_rowA_at] at hbq ⊢
    rw [bPut_rowA]
    have h0 : R * s.toInt = R * s.toInt + 0 := by omega
    have q1 := (nat_divmod (A := R * s.toInt) hs.1 h0 (by omega) hs.1).1
    have q2 := (nat_divmod (A := R * s.toInt) hs.1 hv ho1 ho2).1
    have hR : mg (dI f) m = R := by rw [← q2, q1]
    rw [hR] at hbq
    exact gp_ret ⟨f, kq, sq, rfl, by omega, hbq⟩
  | succ j =>
    rw [nI_pred]
    refine gp_f (nI_pos (by omega)) ?_
    have hs0 : ¬ lg_cmp s 0 ≤ 0 := by rw [lg_cmp_le, Int64.le_iff_toInt_le]; show ¬ s.toInt ≤ 0; omega
    refine gp_f hs0 ?_
    refine gp_rR (σ := tz_rowA σ (d + 4) f) d1 rfl ?_
    refine gp_aL (σ := tz_rowA σ (d + 4) f) (j := j) d6 (by omega) (by omega) rfl ?_
    rw [show tz_L (tz_rowA σ (d + 4) f) = tz_L σ from rfl]
    have hdj : 0 ≤ (tz_L σ (d + 9) j).toInt ∧ (tz_L σ (d + 9) j).toInt < 1000000000 := hw j (by omega)
    have hstep := mgh_step (dL (tz_L σ (d + 9))) (show j < m by omega)
    rw [show dL (tz_L σ (d + 9)) j = (tz_L σ (d + 9) j).toInt from rfl] at hstep
    refine gp_let ?_
    generalize tz_L σ (d + 9) j = y at hdj hstep ⊢
    have e2 : (l7 * 1000000000).toInt = l7.toInt * 1000000000 := by rw [az_lmul (by rw [az_B]; omega) (by rw [az_B]; omega), az_B]
    have e3 : (l7 * 1000000000 + y).toInt = l7.toInt * 1000000000 + y.toInt := by rw [az_ladd (by rw [e2]; omega) (by rw [e2]; omega), e2]
    obtain ⟨q, r, g1, g2, g3, g4, g5, g6⟩ := az_dstep hs.1 ho1 ho2 hdj
    generalize l7 * 1000000000 + y = w at e3 ⊢
    have ht0 : s ≠ 0 := fun h => by rw [h] at hs; exact absurd hs.1 (by decide)
    have htm : s ≠ -1 := fun h => by rw [h] at hs; exact absurd hs.1 (by decide)
    refine gp_rR (σ := tz_rowA σ (d + 4) f) d1 rfl ?_
    refine gp_rR (σ := tz_rowA σ (d + 4) f) d3.1 rfl ?_
    refine gp_dvL ht0 ?_
    have hq1 : (w / s).toInt = q := by rw [az_ldiv htm, e3, g1]
    refine gp_sI (σ := tz_rowA σ (d + 4) f) (j := j) d3.2.1 (by decide) (by omega) (by omega) rfl ?_
    rw [tz_rowA_put]
    refine gp_rmL ht0 ?_
    refine gp_let ?_
    have hql : ((w / s).toInt32).toInt = q := by rw [az_l2iB (by rw [hq1]; exact g5) (by rw [hq1]; exact g6), hq1]
    have hqd : 0 ≤ q * s.toInt ∧ q * s.toInt ≤ w.toInt := by
      rw [e3]
      have := Int.mul_nonneg g5 (Int.le_of_lt hs.1)
      omega
    have hw2 := az_hi64 w
    have hr1 : (w - w / s * s).toInt = r := by
      have m1 : (w / s * s).toInt = q * s.toInt := by rw [az_lmul (by rw [hq1]; omega) (by rw [hq1]; omega), hq1]
      rw [az_lsub (by rw [m1]; omega) (by rw [m1]; omega), m1, e3]
      omega
    generalize (w / s).toInt32 = z at hql ⊢
    generalize w - w / s * s = ov at hr1 ⊢
    rw [← Int32.sub_eq_add_neg]
    refine hK (_, _) _ ⟨_, j, rfl, rfl, by omega, ?_, ?_, ?_, ?_⟩ ?_
    · intro i h1 h2
      by_cases hij : i = j
      · subst hij; rw [dI_upd]; simp only [if_true]; rw [hql]; exact ⟨g5, g6⟩
      · rw [dI_upd]; simp only [hij, if_false]; exact hf i (by omega) h2
    · simp only; rw [hr1]; exact g3
    · simp only; rw [hr1]; exact g4
    · simp only
      rw [hstep, mgh_step (dI (upd f j z)) (by omega), hr1, hv]
      rw [mgh_congr (d := dI (upd f j z)) (e := dI f) (fun i h1 h2 => by rw [dI_upd]; simp only [show ¬ i = j by omega, if_false])]
      have : dI (upd f j z) j = q := by rw [dI_upd]; simp only [if_true]; exact hql
      rw [this]
      generalize mgh (dI f) (j + 1) m = H
      exact rg_11 _ _ _ _ _ _ g2
    · simp only
      rw [show nI j - 1 + 1 = nI j from Int32.sub_add_cancel _ _, show nI (j + 1) - 1 + 1 = nI (j + 1) from Int32.sub_add_cancel _ _, nI_clamp (by omega), nI_clamp (by omega)]
      omega
