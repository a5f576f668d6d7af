/-! ===== the reference: its shape, its pool of numbers ===== -/
def mLay (M : Nat) : List (Option (Option Nat)) := [none, none, some (some (M + 1)), some (some (M + 2)), some (some (M + 3)), some (some (M + 4)), some (some (M + 5)), none, none, none, none, none, some (some (M + 6)), some (some (M + 7)), some (some (M + 8)), none, some (some (M + 9)), some (some (M + 10)), some (some (M + 11)), some (some (M + 12)), some (some (M + 13)), some (some (M + 14)), some (some (M + 15)), none, none, none, some (some (M + 16)), some (some (M + 17)), none, none, none, none, some (some (M + 18)), some (some (M + 19)), some (some (M + 20)), none, none]
def mSh (σ : tz_S) (M : Nat) : Prop := tz_sh σ M = some (.inl (12, mLay M)) ∧ tz_sh σ (M + 1) = some (.inr (0, 120)) ∧ tz_sh σ (M + 2) = some (.inr (0, 12)) ∧ tz_sh σ (M + 3) = some (.inr (0, 12)) ∧ tz_sh σ (M + 4) = some (.inr (0, 10)) ∧ tz_sh σ (M + 5) = some (.inr (1, 10)) ∧ tz_sh σ (M + 6) = some (.inr (1, 20)) ∧ tz_sh σ (M + 7) = some (.inr (0, 12)) ∧ tz_sh σ (M + 8) = some (.inr (0, 10)) ∧ tz_sh σ (M + 9) = some (.inr (1, 310)) ∧ tz_sh σ (M + 10) = some (.inr (1, 310)) ∧ tz_sh σ (M + 11) = some (.inr (0, 310)) ∧ tz_sh σ (M + 12) = some (.inr (0, 310)) ∧ tz_sh σ (M + 13) = some (.inr (0, 310)) ∧ tz_sh σ (M + 14) = some (.inr (0, 310)) ∧ tz_sh σ (M + 15) = some (.inr (0, 310)) ∧ tz_sh σ (M + 16) = some (.inr (0, 25)) ∧ tz_sh σ (M + 17) = some (.inr (1, 25)) ∧ tz_sh σ (M + 18) = some (.inr (1, 20)) ∧ tz_sh σ (M + 19) = some (.inr (0, 20)) ∧ tz_sh σ (M + 20) = some (.inr (0, 527200))
theorem mh_me {σ : tz_S} {M : Nat} (h : mSh σ M) : tz_sh σ M = some (.inl (12, mLay M)) := h.1
theorem mh_a {σ : tz_S} {M : Nat} (h : mSh σ M) : tz_sh σ (M + 20) = some (.inr (0, 527200)) := h.2.2.2.2.2.2.2.2.2.2.2.2.2.2.2.2.2.2.2.2
theorem mSh_fr {P : Nat → Prop} {σ σ1 : tz_S} {M : Nat} (h : mSh σ M) (hf : Fr P σ σ1) : mSh σ1 M := by
  unfold mSh at *
  rw [Fr_sh hf]
  exact h
/-- the number v, of n limbs, at h -/
def nV (a : Nat → Int32) (h n : Nat) (v : Int) : Prop := (a h).toInt = (if v < 0 then -(n : Int) else n) ∧ (∀ j, j < n → 0 ≤ dI a (h + 1 + j) ∧ dI a (h + 1 + j) < 1000000000) ∧ (0 < n → dI a (h + 1 + (n - 1)) ≠ 0) ∧ mg (fun j => dI a (h + 1 + j)) n = v.natAbs ∧ n < 1000
theorem nV_le {a : Nat → Int32} {h n m : Nat} {v : Int} (hv : nV a h n v) (hm : (v.natAbs : Int) < 1000000000 ^ m) : n ≤ m := by
  obtain ⟨-, h2, h3, h4, -⟩ := hv
  by_cases z : n ≤ m
  · exact z
  · obtain ⟨k, rfl⟩ : ∃ k, n = k + 1 := ⟨n - 1, by omega⟩
    have h5 := mg_ge (d := fun j => dI a (h + 1 + j)) (k := k) (fun j hj => (h2 j hj).1) (by have := h3 (by omega); exact this)
    have h6 := mg_pmono (show m ≤ k by omega)
    rw [h4] at h5
    omega
theorem nV_lt {a : Nat → Int32} {h n : Nat} {v : Int} (hv : nV a h n v) : (v.natAbs : Int) < 1000000000 ^ n := by
  obtain ⟨-, h2, -, h4, -⟩ := hv
  rw [← h4]
  exact (mg_lt h2).2
theorem nV_0 {a : Nat → Int32} {h n : Nat} {v : Int} (hv : nV a h n v) : n = 0 ↔ v = 0 := by
  constructor
  · intro e
    subst e
    have := hv.2.2.2.1
    have e0 : mg (fun j => dI a (h + 1 + j)) 0 = 0 := rfl
    omega
  · intro e
    have := nV_le hv (m := 0) (by rw [e]; decide)
    omega
theorem nV_congr {a b : Nat → Int32} {h n : Nat} {v : Int} (hv : nV a h n v) (hb : ∀ i, h ≤ i → i ≤ h + n → b i = a i) : nV b h n v := by
  obtain ⟨h1, h2, h3, h4, h5⟩ := hv
  have e : ∀ j, j < n → dI b (h + 1 + j) = dI a (h + 1 + j) := fun j hj => by unfold dI; rw [hb _ (by omega) (by omega)]
  refine ⟨by rw [hb _ (by omega) (by omega)]; exact h1, fun j hj => by rw [e j hj]; exact h2 j hj, fun hn => by rw [e _ (by omega)]; exact h3 hn, ?_, h5⟩
  rw [← h4]
  exact mg_congr e
theorem nV_copy {a b : Nat → Int32} {h k n : Nat} {v : Int} (hv : nV a h n v) (hb : ∀ i, i ≤ n → b (k + i) = a (h + i)) : nV b k n v := by
  obtain ⟨h1, h2, h3, h4, h5⟩ := hv
  have e : ∀ j, j < n → dI b (k + 1 + j) = dI a (h + 1 + j) := fun j hj => by
    unfold dI
    have := hb (1 + j) (by omega)
    rw [show k + 1 + j = k + (1 + j) by omega, this, show h + (1 + j) = h + 1 + j by omega]
  refine ⟨by have := hb 0 (by omega); rw [Nat.add_zero, Nat.add_zero] at this; rw [this]; exact h1, fun j hj => by rw [e j hj]; exact h2 j hj, fun hn => by rw [e _ (by omega)]; exact h3 hn, ?_, h5⟩
  rw [← h4]
  exact mg_congr e
def Pq (M lo hi : Nat) (σ σ' : tz_S) : Prop := Fr (fun x => x = M ∨ x = M + 20) σ σ' ∧ (∀ k, k ≠ 35 → k ≠ 36 → tz_F σ' M k = tz_F σ M k) ∧ ∀ i, (i < lo ∨ hi ≤ i) → tz_A σ' (M + 20) i = tz_A σ (M + 20) i
section PQ
variable {M lo hi lo2 hi2 : Nat} {σ σ1 σ2 : tz_S}
theorem Pq_refl : Pq M lo hi σ σ := ⟨Fr_refl, fun _ _ _ => rfl, fun _ _ => rfl⟩
theorem Pq_trans (h1 : Pq M lo hi σ σ1) (h2 : Pq M lo hi σ1 σ2) : Pq M lo hi σ σ2 := ⟨Fr_trans h1.1 h2.1, fun k a b => (h2.2.1 k a b).trans (h1.2.1 k a b), fun i hi => (h2.2.2 i hi).trans (h1.2.2 i hi)⟩
theorem Pq_mono (h : Pq M lo hi σ σ1) (h1 : lo2 ≤ lo) (h2 : hi ≤ hi2) : Pq M lo2 hi2 σ σ1 := ⟨h.1, h.2.1, fun i z => h.2.2 i (by omega)⟩
theorem Pq_top {v : Int32} : Pq M lo hi σ (tz_sF σ M 35 v) := ⟨Fr_sF (Or.inl rfl), fun k a _ => tz_u2_ne _ _ (Or.inr a), fun _ _ => rfl⟩
theorem Pq_quo {v : Int32} : Pq M lo hi σ (tz_sF σ M 36 v) := ⟨Fr_sF (Or.inl rfl), fun k _ a => tz_u2_ne _ _ (Or.inr a), fun _ _ => rfl⟩
theorem Pq_cell {j : Nat} {v : Int32} (h1 : lo ≤ j) (h2 : j < hi) : Pq M lo hi σ (tz_sA σ (M + 20) j v) := ⟨Fr_sA (Or.inr rfl), fun _ _ _ => rfl, fun i z => tz_u2_ne _ _ (Or.inr (by omega))⟩
theorem nV_pq {h n : Nat} {v : Int} (hv : nV (tz_A σ (M + 20)) h n v) (hp : Pq M lo hi σ σ1) (hx : h + n < lo ∨ hi ≤ h) : nV (tz_A σ1 (M + 20)) h n v := nV_congr hv (fun i h1 h2 => hp.2.2 i (by omega))
end PQ
section RA
variable {ρ : Type} {f M t : Nat} {σ : tz_S} {Q : ρ → tz_S → Prop}
/-- a cell of the pool is read, or written -/
theorem gp_pl {K : Int32 → pz_C ρ} {i : Int32} {j : Nat} (h : mSh σ M) (hj : j < 527200) (hi : i = nI j) (k : gp (K (tz_A σ (M + 20) j)) σ Q) : gp (pz_gB (pz_rR 12 34 (some M)) fun x => pz_gB (pz_aI 0 x i) K) σ Q := gp_rR (mh_me h) rfl (gp_aI (j := j) (mh_a h) (by decide) hj (by omega) hi k)
theorem gp_ps {m : pz_C ρ} {i v : Int32} {j : Nat} (h : mSh σ M) (hj : j < 527200) (hi : i = nI j) (k : gp m (tz_sA σ (M + 20) j v) Q) : gp (pz_uB (pz_sI 0 (some (M + 20)) i v) m) σ Q := gp_sI (j := j) (mh_a h) (by decide) hj (by omega) hi k
theorem r_limbs {x n : Nat} {v : Int} (h : mSh σ M) (hv : nV (tz_A σ (M + 20)) x n v) (hx : x < 527200) : gp (X12_limbs f (some M) (nI x)) σ (fun y σ' => σ' = σ ∧ y = nI n) := by
  obtain ⟨h1, -, -, -, hn⟩ := hv
  unfold X12_limbs X12_limbs_b25
  refine gp_pl h hx rfl ?_
  refine gp_if (fun z => ?_) (fun z => ?_)
  · have z' : 0 ≤ (tz_A σ (M + 20) x).toInt := (i32_c 0 _).2.1 z
    refine gp_pl h hx rfl (gp_ret ⟨rfl, ?_⟩)
    rw [← Int32.toInt_inj, nI_toInt (by omega), h1]
    by_cases y : v < 0
    · rw [if_pos y] at h1 ⊢; omega
    · rw [if_neg y]
  · have z' : ¬ 0 ≤ (tz_A σ (M + 20) x).toInt := fun w => z ((i32_c 0 _).2.2 w)
    refine gp_pl h hx rfl (gp_ret ⟨rfl, ?_⟩)
    rw [← Int32.toInt_inj, nI_toInt (by omega)]
    by_cases y : v < 0
    · rw [if_pos y] at h1
      rw [Int32.toInt_neg, h1, Int.neg_neg]
      exact Int.bmod_eq_of_le (by omega) (by omega)
    · rw [if_neg y] at h1; omega
theorem r_sgn {x n : Nat} {v : Int} (h : mSh σ M) (hv : nV (tz_A σ (M + 20)) x n v) (hx : x < 527200) : gp (X12_sgn f (some M) (nI x)) σ (fun y σ' => σ' = σ ∧ y = isg v) := by
  have h0 := nV_0 hv
  obtain ⟨h1, -, -, -, hn⟩ := hv
  unfold X12_sgn X12_sgn_b27
  refine gp_pl h hx rfl ?_
  refine gp_if (fun z => ?_) (fun z => ?_)
  · have z' : (tz_A σ (M + 20) x).toInt ≤ 0 := (i32_c _ 0).2.1 z
    refine gp_pl h hx rfl ?_
    refine gp_if (fun w => ?_) (fun w => ?_)
    · have w' : 0 ≤ (tz_A σ (M + 20) x).toInt := (i32_c 0 _).2.1 w
      refine gp_ret ⟨rfl, ?_⟩
      have : v = 0 := by
        by_cases y : v < 0
        · rw [if_pos y] at h1; omega
        · rw [if_neg y] at h1; omega
      rw [this]; rfl
    · have w' : ¬ 0 ≤ (tz_A σ (M + 20) x).toInt := fun e => w ((i32_c 0 _).2.2 e)
      refine gp_ret ⟨rfl, ?_⟩
      have : v < 0 := by
        by_cases y : v < 0
        · exact y
        · rw [if_neg y] at h1; omega
      rw [isg_neg this]
  · have z' : ¬ (tz_A σ (M + 20) x).toInt ≤ 0 := fun e => z ((i32_c _ 0).2.2 e)
    refine gp_ret ⟨rfl, ?_⟩
    have : 0 < v := by
      by_cases y : v < 0
      · rw [if_pos y] at h1; omega
      · rw [if_neg y] at h1; omega
    rw [isg_pos this]
theorem r_copyTo {x to n : Nat} {v : Int} (h : mSh σ M) (hv : nV (tz_A σ (M + 20)) x n v) (hx : x + n < 527200) (hto : to + n < 527200) (hd : to ≤ x ∨ x + n < to) (hf : 2000 ≤ f) : gp (X12_copyTo f (some M) (nI x) (nI to)) σ (fun _ σ' => Pq M to (to + n + 1) σ σ' ∧ tz_F σ' M = tz_F σ M ∧ nV (tz_A σ' (M + 20)) to n v) := by
  have hn := hv.2.2.2.2
  unfold X12_copyTo
  refine gp_cV (mh_me h) (gp_mono (r_limbs h hv (by omega)) ?_)
  rintro y σ0 ⟨z0, rfl⟩
  rw [z0]
  clear z0 σ0
  unfold X12_copyTo_L9
  refine gp_loop (I := fun (τ : Int32) (σ' : tz_S) => ∃ k, τ = nI k ∧ k ≤ n + 1 ∧ Pq M to (to + k) σ σ' ∧ tz_F σ' M = tz_F σ M ∧ ∀ i, i < k → tz_A σ' (M + 20) (to + i) = tz_A σ (M + 20) (x + i)) (fun τ _ => 1100 - τ.toNatClampNeg) ?_ f _ _ ⟨0, rfl, Nat.zero_le _, Pq_refl, rfl, fun i hi => absurd hi (Nat.not_lt_zero _)⟩ (by omega)
  rintro K l4 σ1 ⟨k, rfl, hk, hP, hF, hc⟩ hK
  show gp (X12_copyTo_L9_body f (some M) (nI x) (nI to) (nI n) (fun l4 => K l4) (nI k)) σ1 _
  unfold X12_copyTo_L9_body
  have h1 := mSh_fr h hP.1
  refine gp_if (fun z => ?_) (fun z => ?_)
  · rw [nI_ltI (by omega) (by omega)] at z
    have : k = n + 1 := by omega
    subst this
    exact gp_ret ⟨hP, hF, nV_copy hv (fun i hi => hc i (by omega))⟩
  rw [nI_ltI (by omega) (by omega)] at z
  refine gp_rR (mh_me h1) rfl ?_
  refine gp_pl (j := x + k) h1 (by omega) (nI_add x k) ?_
  have ex : tz_A σ1 (M + 20) (x + k) = tz_A σ (M + 20) (x + k) := hP.2.2 _ (by omega)
  refine gp_ps (j := to + k) h1 (by omega) (nI_add to k) ?_
  refine gp_let ?_
  rw [nI_1]
  refine hK _ _ ⟨k + 1, rfl, by omega, Pq_trans (Pq_mono hP (Nat.le_refl _) (by omega)) (Pq_cell (by omega) (by omega)), hF, fun i hi => ?_⟩ (by rw [nI_clamp (by omega), nI_clamp (by omega)]; omega)
  show tz_u2 (tz_A σ1) (M + 20) (to + k) (tz_A σ1 (M + 20) (x + k)) (M + 20) (to + i) = _
  by_cases y : i = k
  · rw [y, tz_u2_same, ex]
  · rw [tz_u2_ne _ _ (Or.inr (by omega))]; exact hc i (by omega)
/-- a number is kept at a mark, and what lies above is let go -/
theorem r_keep {x mk n : Nat} {v : Int} (h : mSh σ M) (hv : nV (tz_A σ (M + 20)) x n v) (hx : x + n < 527200) (hd : mk ≤ x) (hf : 2000 ≤ f) : gp (X12_keep f (some M) (nI mk) (nI x)) σ (fun y σ' => y = nI mk ∧ Pq M mk (mk + n + 1) σ σ' ∧ tz_F σ' M 35 = nI (mk + n + 1) ∧ nV (tz_A σ' (M + 20)) mk n v) := by
  have hn := hv.2.2.2.2
  unfold X12_keep
  refine gp_cV (mh_me h) (gp_mono (r_copyTo h hv hx (by omega) (Or.inl hd) hf) ?_)
  rintro _ σ1 ⟨hP, -, hv1⟩
  have h1 := mSh_fr h hP.1
  refine gp_cV (mh_me h1) (gp_mono (r_limbs h1 hv1 (by omega)) ?_)
  rintro y σ0 ⟨z0, rfl⟩
  rw [z0]
  clear z0 σ0
  rw [nI_add, nI_1]
  refine gp_wI (mh_me h1) rfl ?_
  exact gp_ret ⟨rfl, Pq_trans hP Pq_top, tz_u2_same _ _ _ _, hv1⟩
theorem r_again {x n : Nat} {v : Int} (h : mSh σ M) (ht : tz_F σ M 35 = nI t) (hv : nV (tz_A σ (M + 20)) x n v) (hx : x + n < t) (hb : t + n < 527200) (hf : 2000 ≤ f) : gp (X12_again f (some M) (nI x)) σ (fun y σ' => y = nI t ∧ Pq M t (t + n + 1) σ σ' ∧ tz_F σ' M 35 = nI (t + n + 1) ∧ nV (tz_A σ' (M + 20)) t n v) := by
  have hn := hv.2.2.2.2
  unfold X12_again
  refine gp_rI (mh_me h) rfl ?_
  rw [ht]
  refine gp_cV (mh_me h) (gp_mono (r_copyTo h hv (by omega) (by omega) (Or.inr hx) hf) ?_)
  rintro _ σ1 ⟨hP, -, hv1⟩
  have h1 := mSh_fr h hP.1
  refine gp_cV (mh_me h1) (gp_mono (r_limbs h1 hv1 (by omega)) ?_)
  rintro y σ0 ⟨z0, rfl⟩
  rw [z0]
  clear z0 σ0
  rw [nI_add, nI_1]
  refine gp_wI (mh_me h1) rfl ?_
  exact gp_ret ⟨rfl, Pq_trans hP Pq_top, tz_u2_same _ _ _ _, hv1⟩
theorem nV_neg {a b : Nat → Int32} {x n : Nat} {v : Int} (hv : nV a x n v) (h0 : b x = -a x) (hb : ∀ i, x < i → b i = a i) : nV b x n (-v) := by
  have hz := nV_0 hv
  obtain ⟨h1, h2, h3, h4, h5⟩ := hv
  have e : ∀ j, dI b (x + 1 + j) = dI a (x + 1 + j) := fun j => by unfold dI; rw [hb _ (by omega)]
  refine ⟨?_, fun j hj => by rw [e j]; exact h2 j hj, fun hn => by rw [e]; exact h3 hn, ?_, h5⟩
  · rw [h0, Int32.toInt_neg, h1]
    by_cases y : v < 0
    · rw [if_pos y, if_neg (by omega), Int.neg_neg]
      exact Int.bmod_eq_of_le (by omega) (by omega)
    · rw [if_neg y]
      by_cases w : v = 0
      · rw [w, if_neg (by omega)]
        have : n = 0 := hz.2 w
        subst this
        rfl
      · rw [if_pos (by omega)]
        exact Int.bmod_eq_of_le (by omega) (by omega)
  · rw [Int.natAbs_neg, ← h4]
    exact mg_congr (fun j _ => e j)
end RA
