/-! ===== Division: trim, divideByLimb ===== -/
def dSh (σ : tz_S) (d N : Nat) : Prop := tz_sh σ d = some (.inl (2, [some (some (d + 1)), some (some (d + 3)), some (some (d + 5)), some (some (d + 7)), some (some (d + 9)), some (some (d + 10))])) ∧ bSh σ (d + 1) (d + 2) N ∧ bSh σ (d + 3) (d + 4) N ∧ bSh σ (d + 5) (d + 6) N ∧ bSh σ (d + 7) (d + 8) N ∧ tz_sh σ (d + 9) = some (.inr (2, N + 1)) ∧ tz_sh σ (d + 10) = some (.inr (2, N)) ∧ N = 128
theorem bPut_F {σ : tz_S} {a b k : Nat} {sg : Int32} : tz_sF (tz_sF σ a 1 (nI k)) a 2 sg = bPut σ a b (tz_A σ b) k sg := by
  unfold bPut
  rw [tz_rowA_self]
theorem bPut_rowA {σ : tz_S} {a b k : Nat} {f f' : Nat → Int32} {sg : Int32} : bPut (tz_rowA σ b f) a b f' k sg = bPut σ a b f' k sg := by
  refine bPut_eq rfl (funext fun y => ?_)
  show (if y = b then f' else (if y = b then f else tz_A σ y)) = (if y = b then f' else tz_A σ y)
  by_cases h : y = b <;> simp [h]
set_option maxHeartbeats 1000000 in
theorem c_trim {n a b nb m : Nat} {σ : tz_S} (hB : bSh σ a b nb) (hn : 2000 ≤ n) (hm : m ≤ nb) (hd : ∀ j, j < m → 0 ≤ dI (tz_A σ b) j ∧ dI (tz_A σ b) j < 1000000000) :
    gp (X2_trim n (some a) (nI m)) σ (fun _ σ' => ∃ (k : Nat) (sg : Int32), σ' = bPut σ a b (tz_A σ b) k sg ∧ k ≤ m ∧ bN (tz_A σ b) k sg (mg (dI (tz_A σ b)) m)) := by
  have hnb := hB.2.2
  unfold X2_trim
  refine gp_rR hB.1 rfl ?_
  refine gp_len hB.2.1 ?_
  rw [show (if nI nb < nI m then nI nb else nI m) = nI m by rw [if_neg]; rw [nI_ltI (by omega) (by omega)]; omega]
  refine gp_let ?_
  unfold X2_trim_L10
  refine gp_loop (I := fun (τ : Int32) (σ' : tz_S) => σ' = σ ∧ ∃ j, j ≤ m ∧ τ = nI j ∧ mg (dI (tz_A σ b)) m = mg (dI (tz_A σ b)) j) (fun τ _ => τ.toNatClampNeg) ?_ n _ _ ⟨rfl, m, Nat.le_refl _, rfl, rfl⟩ (by rw [nI_clamp (by omega)]; omega)
  rintro K l2 σ' ⟨rfl, j, hj, rfl, hz⟩ hK
  show gp (X2_trim_L10_body n (some a) (fun l2 => K l2) (nI j)) σ' _
  unfold X2_trim_L10_body
  have fin : (0 < j → dI (tz_A σ' b) (j - 1) ≠ 0) → gp (X2_trim_b31 n (some a) (nI j)) σ' (fun _ σ'' => ∃ (k : Nat) (sg : Int32), σ'' = bPut σ' a b (tz_A σ' b) k sg ∧ k ≤ m ∧ bN (tz_A σ' b) k sg (mg (dI (tz_A σ' b)) m)) := by
    intro htop
    unfold X2_trim_b31 X2_trim_b46
    refine gp_wI hB.1 rfl ?_
    refine gp_if (fun h => ?_) (fun h => ?_)
    · rw [show (0 : Int32) = nI 0 from rfl, nI_eq (by omega) (by omega)] at h
      subst h
      refine gp_wI (σ := tz_sF σ' a 1 (nI 0)) hB.1 rfl ?_
      refine gp_ret ⟨0, 0, bPut_F, by omega, fun i hi => absurd hi (Nat.not_lt_zero _), htop, Or.inl rfl, by simp, ?_⟩
      rw [hz]
      rfl
    · rw [show (0 : Int32) = nI 0 from rfl, nI_eq (by omega) (by omega)] at h
      refine gp_wI (σ := tz_sF σ' a 1 (nI j)) hB.1 rfl ?_
      refine gp_ret ⟨j, 1, bPut_F, by omega, fun i hi => hd i (by omega), htop, Or.inr (Or.inl rfl), by simp [h], ?_⟩
      rw [hz, show (1 : Int32).toInt = 1 from rfl, Int.one_mul]
  cases j with
  | zero => exact gp_t (by decide) (fin (fun h => absurd h (Nat.lt_irrefl _)))
  | succ j =>
    refine gp_f (nI_nle (by omega) (by omega)) ?_
    refine gp_rR hB.1 rfl ?_
    refine gp_aI (j := j) hB.2.1 (by decide) (by omega) (by omega) (nI_pred j) ?_
    refine gp_if (fun h => ?_) (fun h => ?_)
    · refine gp_let ?_
      rw [pk_m1]
      refine hK _ _ ⟨rfl, j, by omega, rfl, ?_⟩ (by rw [nI_clamp (by omega), nI_clamp (by omega)]; omega)
      rw [hz]
      show mg _ j + (tz_A σ' b j).toInt * _ = _
      rw [h]
      show mg _ j + 0 * _ = _
      omega
    · exact fin (fun _ => by show (tz_A σ' b j).toInt ≠ 0; exact fun q => h (az_iz.mp q))
theorem rg_11 (x H T o q r : Int) (h : o * 1000000000 + x = q * T + r) : x + 1000000000 * (H * T + o) = (q + 1000000000 * H) * T + r := by grind
/-- high limbs -/
def mgh (d : Nat → Int) (j : Nat) : Nat → Int := fun k => mg (fun i => d (j + i)) (k - j)
theorem mgh_top (d : Nat → Int) (k : Nat) : mgh d k k = 0 := by simp [mgh, mg]
theorem mg_low {d : Nat → Int} : ∀ {m : Nat}, mg d (m + 1) = d 0 + 1000000000 * mg (fun i => d (1 + i)) m := by
  intro m
  rw [Nat.add_comm, mg_add]
  simp [mg]
theorem mgh_step (d : Nat → Int) {j k : Nat} (h : j < k) : mgh d j k = d j + 1000000000 * mgh d (j + 1) k := by
  unfold mgh
  rw [show k - j = (k - (j + 1)) + 1 by omega, mg_low]
  congr 2
  refine mg_congr (fun i _ => ?_)
  show d (j + (1 + i)) = d (j + 1 + i)
  rw [show j + (1 + i) = j + 1 + i by omega]
theorem mgh_zero (d : Nat → Int) (k : Nat) : mgh d 0 k = mg d k := by
  unfold mgh
  refine mg_congr (fun i _ => ?_)
  rw [Nat.zero_add]
theorem mgh_congr {d e : Nat → Int} {j k : Nat} (h : ∀ i, j ≤ i → i < k → d i = e i) : mgh d j k = mgh e j k := mg_congr (fun i hi => h _ (by omega) (by omega))
/-- one step of a division by one limb -/
theorem az_dstep {ov x D : Int} (hD : 0 < D) (h1 : 0 ≤ ov) (h2 : ov < D) (hx : 0 ≤ x ∧ x < 1000000000) : ∃ q r : Int, (ov * 1000000000 + x).tdiv D = q ∧ ov * 1000000000 + x = q * D + r ∧ 0 ≤ r ∧ r < D ∧ 0 ≤ q ∧ q < 1000000000 := by
  obtain ⟨q, r, e1, e2, e3, e4, e5, e6⟩ := az_td (ov * 1000000000 + x) D hD
  obtain ⟨e7, e8⟩ := e5 (by omega)
  refine ⟨q, r, e1, e2, e7, e4, e8, ?_⟩
  rcases Int.lt_or_le q 1000000000 with h | h
  · exact h
  · have : 1000000000 * D ≤ q * D := Int.mul_le_mul_of_nonneg_right h (by omega)
    omega
theorem nat_divmod {A D Q R : Int} (hD : 0 < D) (h : A = Q * D + R) (h1 : 0 ≤ R) (h2 : R < D) : A / D = Q ∧ A % D = R := by
  have h3 : A = R + D * Q := by rw [h, Int.mul_comm]; omega
  constructor
  · rw [h3, Int.add_mul_ediv_left _ _ (by omega), Int.ediv_eq_zero_of_lt h1 h2]; omega
  · rw [h3, Int.add_mul_emod_self_left, Int.emod_eq_of_lt h1 h2]
set_option maxHeartbeats 2000000 in
theorem c_divideByLimb {n d N a b nb k : Nat} {σ : tz_S} {v : Int} {t : Int64} (hd : dSh σ d N) (hB : BigV σ a b nb k v) (hn : 2000 ≤ n) (hk : k ≤ N) (ha : a ≠ d + 1 ∧ a ≠ d + 3) (hb : b ≠ d + 2 ∧ b ≠ d + 4) (ht : 0 < t.toInt ∧ t.toInt < 1000000000) :
    gp (X2_divideByLimb n (some d) (some a) t) σ (fun _ σ' => ∃ (fq : Nat → Int32) (kq : Nat) (sq : Int32) (fr : Nat → Int32) (kr : Nat) (sr : Int32), σ' = bPut (bPut σ (d + 1) (d + 2) fq kq sq) (d + 3) (d + 4) fr kr sr ∧ kq ≤ N ∧ kr ≤ N ∧ bN fq kq sq ((v.natAbs : Int) / t.toInt) ∧ bN fr kr sr ((v.natAbs : Int) % t.toInt)) := by
  have hab := BigV_abs hB
  obtain ⟨d1, d2, d3, d4, d5, d6, d7, d8⟩ := hd
  obtain ⟨b1, b2, b3, b4, b5, b6, b7, b8⟩ := hB
  have hnb := b1.2.2
  unfold X2_divideByLimb
  refine gp_t (by rw [lg_cmp_gt, Int64.lt_iff_toInt_lt]; exact ht.1) ?_
  refine gp_rI b1.1 rfl ?_
  rw [b3]
  refine gp_rR d1 rfl ?_
  refine gp_rR d2.1 rfl ?_
  refine gp_len d2.2.1 ?_
  rw [show (if nI N < nI k then nI N else nI k) = nI k by rw [if_neg]; rw [nI_ltI (by omega) (by omega)]; omega]
  refine gp_let ?_
  unfold X2_divideByLimb_L29
  refine gp_loop (I := fun (τ : Int64 × Int32) (σ' : tz_S) => ∃ (f : Nat → Int32) (j : Nat), σ' = tz_rowA σ (d + 2) f ∧ τ.2 = nI j - 1 ∧ j ≤ k ∧ (∀ i, j ≤ i → i < k → 0 ≤ dI f i ∧ dI f i < 1000000000) ∧ 0 ≤ τ.1.toInt ∧ τ.1.toInt < t.toInt ∧ mgh (dI (tz_A σ b)) j k = mgh (dI f) j k * t.toInt + τ.1.toInt) (fun τ _ => (τ.2 + 1).toNatClampNeg) ?_ n _ _ ⟨tz_A σ (d + 2), k, (tz_rowA_self _ _).symm, rfl, Nat.le_refl _, fun i h1 h2 => absurd h2 (by omega), by show 0 ≤ (0 : Int64).toInt; decide, by show (0 : Int64).toInt < _; exact ht.1, by rw [mgh_top, mgh_top]; show 0 = 0 * _ + 0; omega⟩ (by simp only; rw [show nI k - 1 + 1 = nI k from Int32.sub_add_cancel _ _, nI_clamp (by omega)]; omega)
  rintro K ⟨l4, l6⟩ σ' ⟨f, j, rfl, h6, hj, hf, ho1, ho2, hv⟩ hK
  simp only at h6 ho1 ho2 hv hK
  subst h6
  show gp (X2_divideByLimb_L29_body n (some d) (some a) t (fun l4 l6 => K (l4, l6)) l4 (nI j - 1)) (tz_rowA σ (d + 2) f) _
  unfold X2_divideByLimb_L29_body
  have hD : tz_sh (tz_rowA σ (d + 2) f) d = tz_sh σ d := rfl
  cases j with
  | zero =>
    refine gp_t (by decide) ?_
    rw [mgh_zero, mgh_zero] at hv
    refine gp_rR (σ := tz_rowA σ (d + 2) f) d1 rfl ?_
    refine gp_rI (σ := tz_rowA σ (d + 2) f) b1.1 rfl ?_
    rw [show tz_F (tz_rowA σ (d + 2) f) a 1 = nI k from b3]
    refine gp_cB (gp_mono (c_trim (σ := tz_rowA σ (d + 2) f) (m := k) d2 hn hk (by rw [tz_rowA_at]; exact fun i hi => hf i (by omega) hi)) ?_)
    rintro _ σ2 ⟨kq, sq, rfl, hkq, hbq⟩
    rw [tz_rowA_at] at hbq ⊢
    rw [bPut_rowA]
    refine gp_rR (σ := bPut σ (d + 1) (d + 2) f kq sq) d1 rfl ?_
    have hbig : t.toInt < 1000000000 ^ N := by
      have := mg_pmono (show 1 ≤ N by omega)
      rw [Int.pow_one] at this
      omega
    refine gp_cV (σ := bPut σ (d + 1) (d + 2) f kq sq) d3.1 (gp_mono (c_setLong (σ := bPut σ (d + 1) (d + 2) f kq sq) d3 hn ⟨by omega, by omega⟩) ?_)
    rintro _ σ3 ⟨fr, kr, rfl, hkr, hbr⟩
    obtain ⟨q1, q2⟩ := nat_divmod (A := (v.natAbs : Int)) ht.1 (by rw [hab, hv]) ho1 ho2
    exact gp_ret ⟨f, kq, sq, fr, kr, _, rfl, by omega, hkr, by rw [q1]; exact hbq, by rw [q2]; exact hbr⟩
  | succ j =>
    rw [nI_pred]
    refine gp_f (nI_pos (by omega)) ?_
    refine gp_rR (σ := tz_rowA σ (d + 2) f) b1.1 rfl ?_
    refine gp_aI (σ := tz_rowA σ (d + 2) f) (j := j) b1.2.1 (by decide) (by omega) (by omega) rfl ?_
    rw [tz_rowA_ne _ _ hb.1]
    refine gp_let ?_
    have hdj := b4 j (by omega)
    have e1 : (tz_A σ b j).toInt64.toInt = dI (tz_A σ b) j := Int32.toInt_toInt64 _
    have e2 : (l4 * 1000000000).toInt = l4.toInt * 1000000000 := by rw [az_lmul (by rw [az_B]; omega) (by rw [az_B]; omega), az_B]
    have e3 : (l4 * 1000000000 + (tz_A σ b j).toInt64).toInt = l4.toInt * 1000000000 + dI (tz_A σ b) j := by rw [az_ladd (by rw [e1, e2]; omega) (by rw [e1, e2]; omega), e1, e2]
    obtain ⟨q, r, g1, g2, g3, g4, g5, g6⟩ := az_dstep ht.1 ho1 ho2 hdj
    generalize l4 * 1000000000 + (tz_A σ b j).toInt64 = w at e3 ⊢
    have ht0 : t ≠ 0 := fun h => by rw [h] at ht; exact absurd ht.1 (by decide)
    have htm : t ≠ -1 := fun h => by rw [h] at ht; exact absurd ht.1 (by decide)
    refine gp_dvL ht0 ?_
    have hq1 : (w / t).toInt = q := by rw [az_ldiv htm, e3, g1]
    refine gp_rR (σ := tz_rowA σ (d + 2) f) d1 rfl ?_
    refine gp_rR (σ := tz_rowA σ (d + 2) f) d2.1 rfl ?_
    refine gp_sI (σ := tz_rowA σ (d + 2) f) (j := j) d2.2.1 (by decide) (by omega) (by omega) rfl ?_
    rw [tz_rowA_put]
    refine gp_let ?_
    refine gp_let ?_
    have hql : ((w / t).toInt32).toInt = q := by rw [az_l2iB (by rw [hq1]; exact g5) (by rw [hq1]; exact g6), hq1]
    have hqd : 0 ≤ q * t.toInt ∧ q * t.toInt ≤ w.toInt := by
      rw [e3]
      have := Int.mul_nonneg g5 (Int.le_of_lt ht.1)
      omega
    have hw2 := az_hi64 w
    have hr1 : (w - w / t * t).toInt = r := by
      have m1 : (w / t * t).toInt = q * t.toInt := by rw [az_lmul (by rw [hq1]; omega) (by rw [hq1]; omega), hq1]
      rw [az_lsub (by rw [m1]; omega) (by rw [m1]; omega), m1, e3]
      omega
    generalize (w / t).toInt32 = y at hql ⊢
    rw [← Int32.sub_eq_add_neg]
    refine hK (_, _) _ ⟨_, j, rfl, rfl, by omega, ?_, ?_, ?_, ?_⟩ ?_
    · intro i h1 h2
      by_cases hij : i = j
      · subst hij; rw [dI_upd]; simp only [if_true]; rw [hql]; exact ⟨g5, g6⟩
      · rw [dI_upd]; simp only [hij, if_false]; exact hf i (by omega) h2
    · simp only; rw [hr1]; exact g3
    · simp only; rw [hr1]; exact g4
    · simp only
      rw [mgh_step _ (by omega), mgh_step (dI (upd f j y)) (by omega), hr1, hv]
      rw [mgh_congr (d := dI (upd f j y)) (e := dI f) (fun i h1 h2 => by rw [dI_upd]; simp only [show ¬ i = j by omega, if_false])]
      have : dI (upd f j y) j = q := by rw [dI_upd]; simp only [if_true]; exact hql
      rw [this]
      generalize mgh (dI f) (j + 1) k = H
      exact rg_11 _ _ _ _ _ _ g2
    · simp only
      rw [show nI j - 1 + 1 = nI j from Int32.sub_add_cancel _ _, show nI (j + 1) - 1 + 1 = nI (j + 1) from Int32.sub_add_cancel _ _, nI_clamp (by omega), nI_clamp (by omega)]
      omega
