/-! ===== Big.compareSize, Big.lowPair ===== -/
theorem mg_sub {d e : Nat → Int} : ∀ {k : Nat}, mg (fun j => d j - e j) k = mg d k - mg e k
  | 0 => rfl
  | k + 1 => by simp only [mg]; rw [mg_sub (k := k), Int.sub_mul]; omega
set_option maxHeartbeats 1000000 in
theorem c_compareSize {n a b nb k a2 b2 n2 k2 : Nat} {σ : tz_S} {v v2 : Int} (hB : BigV σ a b nb k v) (hC : BigV σ a2 b2 n2 k2 v2) (hn : 2000 ≤ n) : gp (X0_compareSize n (some a) (some a2)) σ (fun r σ' => σ' = σ ∧ r = isg ((v.natAbs : Int) - v2.natAbs)) := by
  have hab := BigV_abs hB
  have hab2 := BigV_abs hC
  have hsz := BigV_size hB
  have hsz2 := BigV_size hC
  obtain ⟨b1, b2', b3, b4, -⟩ := hB
  obtain ⟨c1, c2, c3, c4, -⟩ := hC
  have hnb := b1.2.2
  have hn2 := c1.2.2
  unfold X0_compareSize
  refine gp_rI b1.1 rfl ?_
  refine gp_rI c1.1 rfl ?_
  rw [b3, c3]
  refine gp_if (fun h => ?_) (fun h => ?_)
  · rw [nI_eq (by omega) (by omega)] at h
    subst h
    refine gp_rI b1.1 rfl ?_
    rw [b3]
    refine gp_let ?_
    unfold X0_compareSize_L35
    refine gp_loop (I := fun (τ : Int32) (σ' : tz_S) => σ' = σ ∧ ∃ j, j ≤ k ∧ τ = nI j - 1 ∧ ∀ i, j ≤ i → i < k → dI (tz_A σ b) i = dI (tz_A σ b2) i) (fun τ _ => (τ + 1).toNatClampNeg) ?_ n _ _ ⟨rfl, k, Nat.le_refl _, rfl, fun i h1 h2 => absurd h2 (by omega)⟩ (by rw [show nI k - 1 + 1 = nI k from Int32.sub_add_cancel _ _, nI_clamp (by omega)]; omega)
    rintro K l2 σ' ⟨rfl, j, hj, rfl, hz⟩ hK
    show gp (X0_compareSize_L35_body n (some a) (some a2) (fun l2 => K l2) (nI j - 1)) σ' _
    unfold X0_compareSize_L35_body
    cases j with
    | zero =>
      refine gp_t (by decide) (gp_ret ⟨rfl, ?_⟩)
      rw [hab, hab2, mg_congr (e := dI (tz_A σ' b2)) (fun i hi => hz i (by omega) hi), Int.sub_self, isg_zero]
    | succ j =>
      rw [nI_pred]
      refine gp_f (nI_pos (by omega)) ?_
      refine gp_rR b1.1 rfl ?_
      refine gp_aI (j := j) b1.2.1 (by decide) (by omega) (by omega) rfl ?_
      refine gp_rR c1.1 rfl ?_
      refine gp_aI (j := j) c1.2.1 (by decide) (by omega) (by omega) rfl ?_
      refine gp_if (fun h0 => ?_) (fun h0 => ?_)
      · refine gp_let ?_
        refine hK _ _ ⟨rfl, j, by omega, by rw [Int32.sub_eq_add_neg], fun i h1 h2 => ?_⟩ ?_
        · by_cases hij : i = j
          · subst hij; show (tz_A σ' b i).toInt = _; rw [h0]
          · exact hz i (by omega) h2
        · rw [show nI j + -1 + 1 = nI j by rw [← Int32.sub_eq_add_neg, Int32.sub_add_cancel], show nI (j + 1) - 1 + 1 = nI (j + 1) from Int32.sub_add_cancel _ _, nI_clamp (by omega), nI_clamp (by omega)]
          omega
      · refine gp_rR b1.1 rfl ?_
        refine gp_aI (j := j) b1.2.1 (by decide) (by omega) (by omega) rfl ?_
        refine gp_rR c1.1 rfl ?_
        refine gp_aI (j := j) c1.2.1 (by decide) (by omega) (by omega) rfl ?_
        have hne : dI (tz_A σ' b) j ≠ dI (tz_A σ' b2) j := fun q => h0 (Int32.toInt_inj.mp q)
        have hdiff : mg (dI (tz_A σ' b)) k - mg (dI (tz_A σ' b2)) k = mg (fun i => dI (tz_A σ' b) i - dI (tz_A σ' b2) i) (j + 1) := by
          have := mg_z (d := fun i => dI (tz_A σ' b) i - dI (tz_A σ' b2) i) (k := j + 1) (m := k - (j + 1)) (fun i h1 h2 => by show dI (tz_A σ' b) i - dI (tz_A σ' b2) i = 0; rw [hz i h1 (by omega)]; omega)
          rw [show j + 1 + (k - (j + 1)) = k by omega] at this
          rw [← mg_sub, this]
        obtain ⟨t1, t2⟩ := mg_top (d := fun i => dI (tz_A σ' b) i - dI (tz_A σ' b2) i) (k := j) (fun i hi => by
          have h1 := b4 i (by omega)
          have h2 := c4 i (by omega)
          show -1000000000 < dI (tz_A σ' b) i - dI (tz_A σ' b2) i ∧ dI (tz_A σ' b) i - dI (tz_A σ' b2) i < 1000000000
          omega)
        unfold X0_compareSize_b74
        rw [hab, hab2, hdiff]
        refine gp_if (fun hc => ?_) (fun hc => ?_)
        · rw [Int32.le_iff_toInt_le] at hc
          have hc : dI (tz_A σ' b2) j ≤ dI (tz_A σ' b) j := hc
          exact gp_ret ⟨rfl, (isg_pos (t1 (by show 0 < dI (tz_A σ' b) j - dI (tz_A σ' b2) j; omega))).symm⟩
        · rw [Int32.le_iff_toInt_le] at hc
          have hc : ¬ dI (tz_A σ' b2) j ≤ dI (tz_A σ' b) j := hc
          exact gp_ret ⟨rfl, (isg_neg (t2 (by show dI (tz_A σ' b) j - dI (tz_A σ' b2) j < 0; omega))).symm⟩
  · rw [nI_eq (by omega) (by omega)] at h
    refine gp_rI b1.1 rfl ?_
    refine gp_rI c1.1 rfl ?_
    rw [b3, c3]
    unfold X0_compareSize_b27
    refine gp_if (fun hc => ?_) (fun hc => ?_)
    · rw [nI_leI (by omega) (by omega)] at hc
      have h1 := hsz.2 (by omega)
      have h2 := mg_pmono (show k2 ≤ k - 1 by omega)
      exact gp_ret ⟨rfl, (isg_pos (by omega)).symm⟩
    · rw [nI_leI (by omega) (by omega)] at hc
      have h1 := hsz2.2 (by omega)
      have h2 := mg_pmono (show k ≤ k2 - 1 by omega)
      exact gp_ret ⟨rfl, (isg_neg (by omega)).symm⟩
theorem c_lowPair {n a b nb k : Nat} {σ : tz_S} {v : Int} (hB : BigV σ a b nb k v) (hk : k ≤ 2) : gp (X0_lowPair n (some a)) σ (fun r σ' => σ' = σ ∧ r.toInt = v.natAbs) := by
  have hab := BigV_abs hB
  unfold X0_lowPair
  refine gp_cV hB.1.1 (gp_mono (c_limbAt hB 1) ?_)
  rintro _ _ ⟨rfl, rfl⟩
  rename_i σ
  refine gp_cV hB.1.1 (gp_mono (c_limbAt hB 0) ?_)
  rintro _ _ ⟨rfl, rfl⟩
  rename_i σ
  obtain ⟨b1, b2, b3, b4, -⟩ := hB
  refine gp_ret ⟨rfl, ?_⟩
  have e1 : (1 : Int32).toInt = 1 := rfl
  have e0 : (0 : Int32).toInt = 0 := rfl
  rw [e1, e0, show (1 : Int32).toNatClampNeg = 1 from rfl, show (0 : Int32).toNatClampNeg = 0 from rfl, hab]
  have key : ∀ x y : Int32, 0 ≤ x.toInt ∧ x.toInt < 1000000000 → 0 ≤ y.toInt ∧ y.toInt < 1000000000 → (x.toInt64 * 1000000000 + y.toInt64).toInt = x.toInt * 1000000000 + y.toInt := by
    intro x y hx hy
    have f1 : x.toInt64.toInt = x.toInt := Int32.toInt_toInt64 _
    have f2 : y.toInt64.toInt = y.toInt := Int32.toInt_toInt64 _
    have f3 : (x.toInt64 * 1000000000).toInt = x.toInt * 1000000000 := by rw [az_lmul (by rw [f1, az_B]; omega) (by rw [f1, az_B]; omega), f1, az_B]
    rw [az_ladd (by rw [f3, f2]; omega) (by rw [f3, f2]; omega), f3, f2]
  have z0 : (0 : Int32).toInt = 0 := rfl
  rcases Nat.lt_or_ge k 1 with q | q
  · have : k = 0 := by omega
    subst this
    rw [if_neg (by omega), if_neg (by omega), key 0 0 (by decide) (by decide)]
    rfl
  · rcases Nat.lt_or_ge k 2 with q2 | q2
    · have : k = 1 := by omega
      subst this
      rw [if_neg (by omega), if_pos (by omega), key 0 _ (by decide) (b4 0 (by decide))]
      simp [mg]
    · have : k = 2 := by omega
      subst this
      rw [if_pos (by omega), if_pos (by omega), key _ _ (b4 1 (by decide)) (b4 0 (by decide))]
      simp only [mg, Int.pow_zero, Int.pow_one]
      show _ = 0 + (tz_A σ b 0).toInt * 1 + (tz_A σ b 1).toInt * 1000000000
      omega
