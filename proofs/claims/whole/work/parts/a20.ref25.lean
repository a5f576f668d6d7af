/-! ===== the reference: takeBounds, whole ===== -/
def tkA (M x : Nat) : Prop := x = M + 6
def tkP (i : Nat) : Prop := 10456 ≤ i ∧ i < 16456
section SA
variable {f M n k x0 p i : Nat} {σ σ1 : tz_S} {v : Int} {ub lb ub2 lb2 : Nat → Option Int} {vr : Nat → Nat} {fo : Nat → Int} {Q : Unit → tz_S → Prop}
set_option maxHeartbeats 1000000 in
theorem r_tb0 {K : Int32 → pz_C Unit} (h : mSh σ M) (hb : rbV σ M n ub lb) (hx : x0 < n) (hn : n ≤ 10) (hv : nV (tz_A σ (M + 20)) p k v) (hp : 440000 ≤ p) (hp2 : p + k < 527200) (hk : k ≤ 15) (hf : 2000 ≤ f)
    (hK : ∀ σ2, Rq M (fun k => k = 35) (tkA M) tkP σ σ2 → tz_F σ2 M 35 = nI 447200 → rbV σ2 M n (ups ub x0 (tU (ub x0) v)) lb → gp (K (nI (i + 1))) σ2 Q) :
    gp (X12_takeBounds_b88 f K (some M) (nI i) (nI x0) 0 (nI 447200) (nI p)) σ Q := by
  obtain ⟨a1, a2, a3, a4⟩ := hb x0 hx
  have don : ∀ σ2, mSh σ2 M → Rq M (fun k => k = 35) (tkA M) tkP σ σ2 → rbV σ2 M n (ups ub x0 (tU (ub x0) v)) lb → gp (X12_takeBounds_b172 f K (some M) (nI i) (nI 447200)) σ2 Q := by
    intro σ2 g1 g2 g3
    unfold X12_takeBounds_b172
    refine gp_wI (mh_me g1) rfl ?_
    refine gp_let ?_
    rw [nI_1]
    exact hK _ (Rq_trans g2 (Rq_F rfl)) (tz_u2_same _ _ _ _) g3
  have yes : tU (ub x0) v = some v → gp (X12_takeBounds_b138 f K (some M) (nI i) (nI x0) 0 (nI 447200) (nI p)) σ Q := by
    intro hu
    unfold X12_takeBounds_b138 X12_takeBounds_b143 X12_boundAt
    refine gp_f (by decide) ?_
    refine gp_cB (gp_ret ?_)
    rw [show (0 : Int32) = nI 0 from rfl, at_b]
    refine gp_cV (mh_me h) (gp_mono (r_copyTo (to := 10456 + 300 * (2 * x0 + 0)) h hv (by omega) (by omega) (Or.inl (by omega)) hf) ?_)
    rintro _ σ5 ⟨hP5, hF5, hv5⟩
    have h5 := mSh_fr h hP5.1
    refine gp_rR (mh_me h5) rfl ?_
    refine gp_sZ (j := 2 * x0) (mh_6 h5) (by omega) (by omega) (by rw [show (2 : Int32) = nI 2 from rfl, nI_mul, nI_add]; rfl) (Or.inr rfl) ?_
    refine don _ h5 (Rq_trans (Rq_pq hP5 rfl (fun j _ y z => by unfold tkP; omega)) (Rq_A rfl (by omega))) ?_
    rw [hu]
    exact rbV_put0 hb hx hn hP5 hv5 hk
  have no : ub x0 = tU (ub x0) v → gp (X12_takeBounds_b142 f K (some M) (nI i) (nI x0) 0 (nI 447200) (nI p)) σ Q := by
    intro hu
    unfold X12_takeBounds_b142 X12_takeBounds_b143
    refine gp_t rfl (don _ h Rq_refl (rbV_cong hb (fun x _ => ?_) (fun _ _ => rfl)))
    by_cases e : x = x0
    · rw [e, ups_s]; exact hu
    · rw [ups_n _ _ e]
  unfold X12_takeBounds_b88 X12_boundAt
  refine gp_rR (mh_me h) rfl ?_
  refine gp_aI (j := 2 * x0) (mh_6 h) (by decide) (by omega) (by omega) (by rw [show (2 : Int32) = nI 2 from rfl, nI_mul, show (0 : Int32) = nI 0 from rfl, nI_add]; rfl) ?_
  rw [a1]
  cases hu : ub x0 with
  | none => exact gp_t (if_pos rfl) (yes (by rw [hu]; rfl))
  | some w =>
    refine gp_f (by simp) ?_
    refine gp_t rfl ?_
    refine gp_cB (gp_ret ?_)
    obtain ⟨kw, w1, w2⟩ := a3 w hu
    rw [show (10456 : Int32) + 300 * (2 * nI x0 + 0) = nI (10456 + 300 * (2 * x0)) from at_b x0 0]
    refine gp_cV (mh_me h) (gp_mono (r_compare (y := 10456 + 300 * (2 * x0)) h hv w1 (by omega) (by omega) hf) ?_)
    rintro _ σ0 ⟨z0, rfl⟩
    rw [z0]
    clear z0 σ0
    refine gp_if (fun q => ?_) (fun q => ?_)
    · rw [isg_n.2.2.2] at q
      refine no ?_
      rw [hu]
      show some w = some (min w v)
      rw [show min w v = w by omega]
    · rw [isg_n.2.2.2] at q
      refine yes ?_
      rw [hu]
      show some (min w v) = some v
      rw [show min w v = v by omega]
set_option maxRecDepth 20000 in
set_option maxHeartbeats 1000000 in
theorem r_tb1 {K : Int32 → pz_C Unit} (h : mSh σ M) (hb : rbV σ M n ub lb) (hx : x0 < n) (hn : n ≤ 10) (hv : nV (tz_A σ (M + 20)) p k v) (hp : 440000 ≤ p) (hp2 : p + k < 527200) (hk : k ≤ 15) (hf : 2000 ≤ f)
    (hK : ∀ σ2, Rq M (fun k => k = 35) (tkA M) tkP σ σ2 → tz_F σ2 M 35 = nI 447200 → rbV σ2 M n ub (ups lb x0 (tL (lb x0) v)) → gp (K (nI (i + 1))) σ2 Q) :
    gp (X12_takeBounds_b88 f K (some M) (nI i) (nI x0) 1 (nI 447200) (nI p)) σ Q := by
  obtain ⟨a1, a2, a3, a4⟩ := hb x0 hx
  have don : ∀ σ2, mSh σ2 M → Rq M (fun k => k = 35) (tkA M) tkP σ σ2 → rbV σ2 M n ub (ups lb x0 (tL (lb x0) v)) → gp (X12_takeBounds_b172 f K (some M) (nI i) (nI 447200)) σ2 Q := by
    intro σ2 g1 g2 g3
    unfold X12_takeBounds_b172
    refine gp_wI (mh_me g1) rfl ?_
    refine gp_let ?_
    rw [nI_1]
    exact hK _ (Rq_trans g2 (Rq_F rfl)) (tz_u2_same _ _ _ _) g3
  have yes : tL (lb x0) v = some v → gp (X12_takeBounds_b138 f K (some M) (nI i) (nI x0) 1 (nI 447200) (nI p)) σ Q := by
    intro hu
    unfold X12_takeBounds_b138 X12_takeBounds_b143 X12_boundAt
    refine gp_f (by decide) ?_
    refine gp_cB (gp_ret ?_)
    rw [show (10456 : Int32) + 300 * (2 * nI x0 + 1) = nI (10456 + 300 * (2 * x0 + 1)) from at_b x0 1]
    refine gp_cV (mh_me h) (gp_mono (r_copyTo (to := 10456 + 300 * (2 * x0 + 1)) h hv (by omega) (by omega) (Or.inl (by omega)) hf) ?_)
    rintro _ σ5 ⟨hP5, hF5, hv5⟩
    have h5 := mSh_fr h hP5.1
    refine gp_rR (mh_me h5) rfl ?_
    refine gp_sZ (j := 2 * x0 + 1) (mh_6 h5) (by omega) (by omega) (by rw [show (2 : Int32) = nI 2 from rfl, nI_mul, show (1 : Int32) = nI 1 from rfl, nI_add]) (Or.inr rfl) ?_
    refine don _ h5 (Rq_trans (Rq_pq hP5 rfl (fun j _ y z => by unfold tkP; omega)) (Rq_A rfl (by omega))) ?_
    rw [hu]
    exact rbV_put1 hb hx hn hP5 hv5 hk
  have no : lb x0 = tL (lb x0) v → gp (X12_takeBounds_b142 f K (some M) (nI i) (nI x0) 1 (nI 447200) (nI p)) σ Q := by
    intro hu
    unfold X12_takeBounds_b142 X12_takeBounds_b143
    refine gp_t rfl (don _ h Rq_refl (rbV_cong hb (fun _ _ => rfl) (fun x _ => ?_)))
    by_cases e : x = x0
    · rw [e, ups_s]; exact hu
    · rw [ups_n _ _ e]
  unfold X12_takeBounds_b88 X12_boundAt
  refine gp_rR (mh_me h) rfl ?_
  refine gp_aI (j := 2 * x0 + 1) (mh_6 h) (by decide) (by omega) (by omega) (by rw [show (2 : Int32) = nI 2 from rfl, nI_mul, show (1 : Int32) = nI 1 from rfl, nI_add]) ?_
  rw [a2]
  cases hu : lb x0 with
  | none => exact gp_t (if_pos rfl) (yes (by rw [hu]; rfl))
  | some w =>
    refine gp_f (by simp) ?_
    refine gp_f (by decide) ?_
    refine gp_cB (gp_ret ?_)
    obtain ⟨kw, w1, w2⟩ := a4 w hu
    rw [show (10456 : Int32) + 300 * (2 * nI x0 + 1) = nI (10456 + 300 * (2 * x0 + 1)) from at_b x0 1]
    refine gp_cV (mh_me h) (gp_mono (r_compare (y := 10456 + 300 * (2 * x0 + 1)) h hv w1 (by omega) (by omega) hf) ?_)
    rintro _ σ0 ⟨z0, rfl⟩
    rw [z0]
    clear z0 σ0
    refine gp_if (fun q => ?_) (fun q => ?_)
    · rw [isg_n.2.1] at q
      refine no ?_
      rw [hu]
      show some w = some (max w v)
      rw [show max w v = w by omega]
    · rw [isg_n.2.1] at q
      refine yes ?_
      rw [hu]
      show some (max w v) = some v
      rw [show max w v = v by omega]
end SA
