/-! ===== the reference: lookAround ===== -/
def Uq (M t : Nat) (σ σ' : tz_S) : Prop := Fr (fun x => x = M ∨ x = M + 18 ∨ x = M + 19 ∨ x = M + 20) σ σ' ∧ (∀ k, k ≠ 30 → k ≠ 31 → k ≠ 35 → k ≠ 36 → tz_F σ' M k = tz_F σ M k) ∧ ∀ i, i < t → tz_A σ' (M + 20) i = tz_A σ (M + 20) i
def raP (σ : tz_S) (M t i : Nat) (u : Option Int) : Prop := (tz_A σ (M + 18) i = if u = none then 0 else 1) ∧ ∀ v, u = some v → ∃ p k, tz_A σ (M + 19) i = nI p ∧ p + k < t ∧ k ≤ 17 ∧ nV (tz_A σ (M + 20)) p k v
def raV (σ : tz_S) (M t : Nat) (g : Nat → Option Int) : Prop := ∀ j, j < 20 → raP σ M t j (g j)
section TN
variable {f M t t2 lo hi : Nat} {σ σ1 σ2 : tz_S} {g : Nat → Option Int}
theorem Uq_refl : Uq M t σ σ := ⟨Fr_refl, fun _ _ _ _ _ => rfl, fun _ _ => rfl⟩
theorem Uq_trans (h1 : Uq M t σ σ1) (h2 : Uq M t σ1 σ2) : Uq M t σ σ2 := ⟨Fr_trans h1.1 h2.1, fun k a b c d => (h2.2.1 k a b c d).trans (h1.2.1 k a b c d), fun i hi => (h2.2.2 i hi).trans (h1.2.2 i hi)⟩
theorem Uq_mono (h : Uq M hi σ σ1) (hl : lo ≤ hi) : Uq M lo σ σ1 := ⟨h.1, h.2.1, fun i z => h.2.2 i (by omega)⟩
theorem Uq_tq (h : Tq M hi σ σ1) (hl : lo ≤ hi) : Uq M lo σ σ1 := ⟨Fr_mono h.1 (fun x e => by omega), h.2.1, fun i z => h.2.2 i (by omega)⟩
theorem raV_tq (h : raV σ M t g) (hq : Tq M t σ σ1) (ht : t ≤ t2) : raV σ1 M t2 g := fun j hj => by
  obtain ⟨h1, h2⟩ := h j hj
  have ea : ∀ x, x = M + 18 ∨ x = M + 19 → tz_A σ1 x = tz_A σ x := fun x a => Fr_A hq.1 (by omega)
  refine ⟨by rw [ea _ (Or.inl rfl)]; exact h1, fun v e => ?_⟩
  obtain ⟨p, k, p1, p2, p3, p4⟩ := h2 v e
  exact ⟨p, k, by rw [ea _ (Or.inr rfl)]; exact p1, by omega, p3, nV_tq p4 hq p2⟩
theorem raV_cong {g2 : Nat → Option Int} (h : raV σ M t g) (he : ∀ j, j < 20 → g j = g2 j) : raV σ M t g2 := fun j hj => by rw [← he j hj]; exact h j hj
end TN
section TO
variable {f M t p k s i : Nat} {σ σ1 : tz_S} {g : Nat → Option Int} {v : Int} {Q : Unit → tz_S → Prop} {K30 : Int32 → Int32 → pz_C Unit}
theorem r_laP (h : mSh σ M) (hr : raV σ M t g) (hi : i < 20) (hv : nV (tz_A σ (M + 20)) p k v) (hp : p + k < t) (hk : k ≤ 17) (hs : s < 310) (hK : ∀ σ2, Uq M 527200 σ σ2 → tz_F σ2 M = tz_F σ M → raV σ2 M t (ups g i (some v)) → gp (K30 (nI s) (tz_A σ (M + 14) s)) σ2 Q) : gp (X12_lookAround_b143 f K30 (some M) (nI s) (nI i) (nI p)) σ Q := by
  unfold X12_lookAround_b143 X12_lookAround_b160
  refine gp_rR (mh_me h) rfl ?_
  refine gp_sZ (j := i) (mh_18 h) hi (by omega) rfl (Or.inr rfl) ?_
  have ha : mSh (tz_sA σ (M + 18) i 1) M := h
  refine gp_rR (mh_me ha) rfl ?_
  refine gp_sI (j := i) (mh_19 ha) (by decide) hi (by omega) rfl ?_
  have hb : mSh (tz_sA (tz_sA σ (M + 18) i 1) (M + 19) i (nI p)) M := h
  refine gp_rR (mh_me hb) rfl ?_
  refine gp_aI (j := s) (mh_14 hb) (by decide) (by omega) (by omega) rfl ?_
  rw [sA_at, if_neg (by omega), sA_at, if_neg (by omega)]
  have eP : ∀ j, tz_A (tz_sA (tz_sA σ (M + 18) i 1) (M + 19) i (nI p)) (M + 20) j = tz_A σ (M + 20) j := fun j => by rw [sA_at, if_neg (by omega), sA_at, if_neg (by omega)]
  refine hK _ ⟨Fr_trans (Fr_sA (Or.inr (Or.inl rfl))) (Fr_sA (Or.inr (Or.inr (Or.inl rfl)))), fun _ _ _ _ _ => rfl, fun j _ => eP j⟩ rfl (fun j hj => ?_)
  by_cases e : j = i
  · rw [e, ups_s]
    refine ⟨by rw [sA_at, if_neg (by omega), sA_at, if_pos ⟨rfl, rfl⟩]; rfl, fun v1 e1 => ?_⟩
    cases e1
    exact ⟨p, k, by rw [sA_at, if_pos ⟨rfl, rfl⟩], hp, hk, nV_congr hv (fun j _ _ => eP j)⟩
  · rw [ups_n _ _ e]
    obtain ⟨h1, h2⟩ := hr j hj
    refine ⟨by rw [sA_at, if_neg (by omega), sA_at, if_neg (by omega)]; exact h1, fun v1 e1 => ?_⟩
    obtain ⟨p2, k2, p3, p4, p5, p6⟩ := h2 v1 e1
    exact ⟨p2, k2, by rw [sA_at, if_neg (by omega), sA_at, if_neg (by omega)]; exact p3, p4, p5, nV_congr p6 (fun j _ _ => eP j)⟩
theorem r_laN (h : mSh σ M) (hs : s < 310) (hK : gp (K30 (nI s) (tz_A σ (M + 14) s)) σ Q) : gp (X12_lookAround_b160 f K30 (some M) (nI s)) σ Q := by
  unfold X12_lookAround_b160
  refine gp_rR (mh_me h) rfl ?_
  exact gp_aI (j := s) (mh_14 h) (by decide) (by omega) (by omega) rfl hK
theorem r_la0 (h : mSh σ M) (hr : raV σ M t g) (ht : t < 527200) (hi : i < 20) (hv : nV (tz_A σ (M + 20)) p k v) (hp : p + k < t) (hk : k ≤ 17) (hs : s < 310) (hf : 2000 ≤ f) (hK : ∀ σ2, Uq M 527200 σ σ2 → tz_F σ2 M = tz_F σ M → raV σ2 M t (ups g i (tU (g i) v)) → gp (K30 (nI s) (tz_A σ (M + 14) s)) σ2 Q) : gp (X12_lookAround_b91 f K30 (some M) (nI s) 0 (nI i) (nI p)) σ Q := by
  obtain ⟨h1, h2⟩ := hr i hi
  unfold X12_lookAround_b91
  refine gp_rR (mh_me h) rfl ?_
  refine gp_aI (j := i) (mh_18 h) (by decide) hi (by omega) rfl ?_
  rw [h1]
  cases hu : g i with
  | none =>
    refine gp_t (if_pos rfl) (r_laP h hr hi hv hp hk hs (fun σ2 a b c => hK σ2 a b ?_))
    rw [hu]; exact c
  | some w =>
    refine gp_f (by simp) ?_
    refine gp_t rfl ?_
    obtain ⟨p2, k2, p3, p4, p5, p6⟩ := h2 w hu
    refine gp_rR (mh_me h) rfl ?_
    refine gp_aI (j := i) (mh_19 h) (by decide) hi (by omega) rfl ?_
    rw [p3]
    refine gp_cV (mh_me h) (gp_mono (r_compare h hv p6 (by omega) (by omega) hf) ?_)
    rintro _ σ0 ⟨z0, rfl⟩
    rw [z0]
    clear z0 σ0
    refine gp_if (fun q => ?_) (fun q => ?_)
    · rw [isg_n.2.2.2] at q
      refine r_laN h hs (hK σ Uq_refl rfl (raV_cong hr (fun j hj => ?_)))
      by_cases e : j = i
      · rw [e, ups_s, hu]
        show some w = some (min w v)
        rw [show min w v = w by omega]
      · rw [ups_n _ _ e]
    · rw [isg_n.2.2.2] at q
      refine r_laP h hr hi hv hp hk hs (fun σ2 a b c => hK σ2 a b ?_)
      rw [hu]
      show raV σ2 M t (ups g i (some (min w v)))
      rw [show min w v = v by omega]
      exact c
theorem r_la1 (h : mSh σ M) (hr : raV σ M t g) (ht : t < 527200) (hi : i < 20) (hv : nV (tz_A σ (M + 20)) p k v) (hp : p + k < t) (hk : k ≤ 17) (hs : s < 310) (hf : 2000 ≤ f) (hK : ∀ σ2, Uq M 527200 σ σ2 → tz_F σ2 M = tz_F σ M → raV σ2 M t (ups g i (tL (g i) v)) → gp (K30 (nI s) (tz_A σ (M + 14) s)) σ2 Q) : gp (X12_lookAround_b91 f K30 (some M) (nI s) 1 (nI i) (nI p)) σ Q := by
  obtain ⟨h1, h2⟩ := hr i hi
  unfold X12_lookAround_b91
  refine gp_rR (mh_me h) rfl ?_
  refine gp_aI (j := i) (mh_18 h) (by decide) hi (by omega) rfl ?_
  rw [h1]
  cases hu : g i with
  | none =>
    refine gp_t (if_pos rfl) (r_laP h hr hi hv hp hk hs (fun σ2 a b c => hK σ2 a b ?_))
    rw [hu]; exact c
  | some w =>
    refine gp_f (by simp) ?_
    refine gp_f (by decide) ?_
    obtain ⟨p2, k2, p3, p4, p5, p6⟩ := h2 w hu
    refine gp_rR (mh_me h) rfl ?_
    refine gp_aI (j := i) (mh_19 h) (by decide) hi (by omega) rfl ?_
    rw [p3]
    refine gp_cV (mh_me h) (gp_mono (r_compare h hv p6 (by omega) (by omega) hf) ?_)
    rintro _ σ0 ⟨z0, rfl⟩
    rw [z0]
    clear z0 σ0
    refine gp_if (fun q => ?_) (fun q => ?_)
    · rw [isg_n.2.1] at q
      refine r_laN h hs (hK σ Uq_refl rfl (raV_cong hr (fun j hj => ?_)))
      by_cases e : j = i
      · rw [e, ups_s, hu]
        show some w = some (max w v)
        rw [show max w v = w by omega]
      · rw [ups_n _ _ e]
    · rw [isg_n.2.1] at q
      refine r_laP h hr hi hv hp hk hs (fun σ2 a b c => hK σ2 a b ?_)
      rw [hu]
      show raV σ2 M t (ups g i (some (max w v)))
      rw [show max w v = v by omega]
      exact c
end TO
section TP
variable {f M n K lc k : Nat} {σ σ1 : tz_S} {up fi se : Nat → Option Nat} {vr : Nat → Nat} {fo to : Nat → Int} {cd : Nat → Bool} {ln : Nat → Nat}
theorem Fr_Au {P : Nat → Prop} {t : Nat} (hq : Uq M t σ σ1) {x : Nat} (h1 : x ≠ M) (h2 : x ≠ M + 18) (h3 : x ≠ M + 19) (h4 : x ≠ M + 20) : tz_A σ1 x = tz_A σ x := Fr_A hq.1 (by omega)
set_option maxRecDepth 20000 in
set_option maxHeartbeats 2000000 in
theorem r_laL (h : mSh σ M) (h35 : tz_F σ M 35 = nI 447200) (hk : rkV σ M K lc up fi se vr to cd ln) (hA : stA n K lc up fi se vr fo to ln) (hK : K ≤ 310) (hn : n ≤ 10) (hkK : k < K) (hz : raV σ M 447200 (fun _ => none)) (hf : 2000 ≤ f) :
    gp (X12_lookAround_L30 f (some M) (nI k) (eN (up k))) σ (fun _ σ' => Uq M 447200 σ σ' ∧ ∃ t g, tz_F σ' M 35 = nI t ∧ 447200 ≤ t ∧ t ≤ 455000 ∧ raV σ' M t g ∧ ∀ x, x < 10 → g (2 * x) = fU vr to x (pt up fi k) none ∧ g (2 * x + 1) = fL vr to x (pt up fi k) none) := by
  have hw := stA_up hA
  unfold X12_lookAround_L30
  refine gp_loop (I := fun (τ : Int32 × Int32) (σ' : tz_S) => ∃ b t g, τ = (nI b, eN (up b)) ∧ b ≤ k ∧ Uq M 447200 σ σ' ∧ tz_F σ' M 35 = nI t ∧ 447200 ≤ t ∧ t + 25 * b ≤ 447200 + 25 * k ∧ raV σ' M t g ∧ ∀ x, x < 10 → fU vr to x (pt up fi b) (g (2 * x)) = fU vr to x (pt up fi k) none ∧ fL vr to x (pt up fi b) (g (2 * x + 1)) = fL vr to x (pt up fi k) none) (fun τ _ => τ.1.toNatClampNeg) ?_ f _ _ ⟨k, 447200, _, rfl, Nat.le_refl _, Uq_refl, h35, by omega, by omega, hz, fun x hx => ⟨rfl, rfl⟩⟩ (by show (nI k).toNatClampNeg < f; rw [nI_clamp (by omega)]; omega)
  rintro Kx ⟨l2, l3⟩ σ1 ⟨b, t, g, e0, hb, q1, h351, ht1, ht2, hr1, hg1⟩ hKx
  obtain ⟨rfl, rfl⟩ := Prod.mk.inj e0
  clear e0
  show gp (X12_lookAround_L30_body f (some M) (fun l2 l3 => Kx (l2, l3)) (nI b) (eN (up b))) σ1 _
  have h1 := mSh_fr h q1.1
  have hbK : b < K := by omega
  unfold X12_lookAround_L30_body
  cases hu : up b with
  | none =>
    refine gp_t rfl (gp_ret ⟨q1, t, g, h351, ht1, by omega, hr1, fun x hx => ?_⟩)
    have := hg1 x hx
    rw [pt_none hu] at this
    exact this
  | some s =>
    have hsb := hw b hbK s hu
    have hfs := stA_par hA b s hbK hu
    have hsK : s < K := by omega
    refine gp_f (fun w => by
      have w1 : eN (some s) < 0 := by rw [w]; decide
      have := (eN_neg (x := some s) (fun k e => by cases e; omega)).1 w1
      cases this) ?_
    have eA : ∀ x, x ≠ M → x ≠ M + 18 → x ≠ M + 19 → x ≠ M + 20 → tz_A σ1 x = tz_A σ x := fun x a b c d => Fr_A q1.1 (by omega)
    obtain ⟨-, -, a3, a4, -, -, a7⟩ := hk.2 s hsK
    obtain ⟨b1, ⟨nn, b2, b3, b4⟩⟩ := a7 hfs
    obtain ⟨-, -, -, -, s5⟩ := hA s hsK
    obtain ⟨s6, -, s7⟩ := s5 hfs
    have hsplit : nV (tz_A σ1 (M + 20)) (16456 + 300 * s) nn (to s) := nV_congr b2 (fun i _ c => q1.2.2 i (by omega))
    have hptb : pt up fi b = (s, decide (fi s = some b)) :: pt up fi s := pt_some hw hbK hu
    have e14 : tz_A σ1 (M + 14) s = eN (up s) := by rw [eA _ (by omega) (by omega) (by omega) (by omega)]; exact a3
    show gp (pz_gB (pz_rR 12 19 (some M)) fun x3 => pz_gB (pz_aI 0 x3 (nI s)) fun x4 => pz_if (x4 = nI b) (X12_lookAround_b51 f (fun l2 l3 => Kx (l2, l3)) (some M) (nI s) 0) <| X12_lookAround_b51 f (fun l2 l3 => Kx (l2, l3)) (some M) (nI s) 1) σ1 _
    refine gp_rR (mh_me h1) rfl ?_
    refine gp_aI (j := s) (mh_12 h1) (by decide) (by omega) (by omega) rfl ?_
    rw [eA _ (by omega) (by omega) (by omega) (by omega), a4]
    have hfi31 : ∀ k, fi s = some k → k < 2 ^ 31 := fun k e => by
      have := (hA s hsK).2.1 k e
      omega
    have e1 : tz_A σ1 (M + 11) s = nI (vr s) := by rw [eA _ (by omega) (by omega) (by omega) (by omega)]; exact b1
    unfold X12_lookAround_b51 X12_splitAt
    refine gp_if (fun z => ?_) (fun z => ?_)
    · rw [eN_eq hfi31 (by omega)] at z
      refine gp_rR (mh_me h1) rfl ?_
      refine gp_aI (j := s) (mh_11 h1) (by decide) (by omega) (by omega) rfl ?_
      rw [e1]
      refine gp_let ?_
      refine gp_t rfl ?_
      refine gp_cB (gp_ret ?_)
      rw [at_s s, show (2 : Int32) * nI (vr s) + 0 = nI (2 * vr s) by rw [show (2 : Int32) = nI 2 from rfl, nI_mul, show (0 : Int32) = nI 0 from rfl, nI_add]; rfl]
      refine r_la0 h1 hr1 (by omega) (by omega) hsplit (by omega) (by omega) (by omega) hf (fun σ2 u1 u2 u3 => ?_)
      rw [e14]
      refine hKx (nI s, eN (up s)) σ2 ⟨s, t, _, rfl, by omega, Uq_trans q1 (Uq_mono u1 (by omega)), by rw [u2]; exact h351, by omega, by omega, u3, fun x hx => ?_⟩ (by show (nI s).toNatClampNeg < (nI b).toNatClampNeg; rw [nI_clamp (by omega), nI_clamp (by omega)]; omega)
      obtain ⟨g1, g2⟩ := hg1 x hx
      rw [hptb] at g1 g2
      rw [show decide (fi s = some b) = true from decide_eq_true z] at g1 g2
      rw [← g1, ← g2]
      constructor
      · show _ = fU vr to x (pt up fi s) (if true = true ∧ vr s = x then tU (g (2 * x)) (to s) else g (2 * x))
        by_cases e : vr s = x
        · rw [if_pos ⟨rfl, e⟩, e, ups_s]
        · rw [if_neg (fun w => e w.2), ups_n _ _ (by omega)]
      · show _ = fL vr to x (pt up fi s) (if true = false ∧ vr s = x then tL (g (2 * x + 1)) (to s + 1) else g (2 * x + 1))
        rw [if_neg (fun w => by cases w.1), ups_n _ _ (by omega)]
    · rw [eN_eq hfi31 (by omega)] at z
      refine gp_rR (mh_me h1) rfl ?_
      refine gp_aI (j := s) (mh_11 h1) (by decide) (by omega) (by omega) rfl ?_
      rw [e1]
      refine gp_let ?_
      refine gp_f (by decide) ?_
      refine gp_cB (gp_ret ?_)
      rw [at_s s, show (2 : Int32) * nI (vr s) + 1 = nI (2 * vr s + 1) by rw [show (2 : Int32) = nI 2 from rfl, nI_mul, nI_1]]
      refine gp_cV (mh_me h1) (gp_mono (r_plainOf (v := 1) h1 h351 (by decide) (by omega) hf) ?_)
      rintro _ σ2 ⟨rfl, hP2, k2, hk2, h352, hv2⟩
      have h2 := mSh_fr h1 hP2.1
      refine gp_cV (mh_me h2) (gp_mono (r_plus h2 h352 (nV_pq hsplit hP2 (Or.inl (by omega))) hv2 (by omega) (by omega) (by omega) (by omega) (by omega) hf) ?_)
      rintro _ σ3 ⟨rfl, hP3, k3, hk3, h353, hv3⟩
      have h3 := mSh_fr h2 hP3.1
      have q3 : Tq M t σ1 σ3 := Tq_trans (Tq_pq hP2 (by omega)) (Tq_pq hP3 (by omega))
      have e143 : tz_A σ3 (M + 14) s = eN (up s) := by rw [Fr_A q3.1 (show ¬ (M + 14 = M ∨ M + 14 = M + 20) by omega)]; exact e14
      refine r_la1 h3 (raV_tq hr1 q3 (show t ≤ t + k2 + 1 + k3 + 1 by omega)) (by omega) (by omega) hv3 (by omega) (by omega) (by omega) hf (fun σ4 u1 u2 u3 => ?_)
      rw [e143]
      refine hKx (nI s, eN (up s)) σ4 ⟨s, t + k2 + 1 + k3 + 1, _, rfl, by omega, Uq_trans q1 (Uq_trans (Uq_tq q3 (by omega)) (Uq_mono u1 (by omega))), by rw [u2]; exact h353, by omega, by omega, u3, fun x hx => ?_⟩ (by show (nI s).toNatClampNeg < (nI b).toNatClampNeg; rw [nI_clamp (by omega), nI_clamp (by omega)]; omega)
      obtain ⟨g1, g2⟩ := hg1 x hx
      rw [hptb] at g1 g2
      rw [show decide (fi s = some b) = false from decide_eq_false z] at g1 g2
      rw [← g1, ← g2]
      constructor
      · show _ = fU vr to x (pt up fi s) (if false = true ∧ vr s = x then tU (g (2 * x)) (to s) else g (2 * x))
        rw [if_neg (fun w => by cases w.1), ups_n _ _ (by omega)]
      · show _ = fL vr to x (pt up fi s) (if false = false ∧ vr s = x then tL (g (2 * x + 1)) (to s + 1) else g (2 * x + 1))
        by_cases e : vr s = x
        · rw [if_pos ⟨rfl, e⟩, e, ups_s]; rfl
        · rw [if_neg (fun w => e w.2), ups_n _ _ (by omega)]
theorem r_lookAround (h : mSh σ M) (h35 : tz_F σ M 35 = nI 447200) (hk : rkV σ M K lc up fi se vr to cd ln) (hA : stA n K lc up fi se vr fo to ln) (hK : K ≤ 310) (hn : n ≤ 10) (hkK : k < K) (hf : 2000 ≤ f) :
    gp (X12_lookAround f (some M) (nI k)) σ (fun _ σ' => Uq M 447200 σ σ' ∧ ∃ t g, tz_F σ' M 35 = nI t ∧ 447200 ≤ t ∧ t ≤ 455000 ∧ raV σ' M t g ∧ ∀ x, x < 10 → g (2 * x) = fU vr to x (pt up fi k) none ∧ g (2 * x + 1) = fL vr to x (pt up fi k) none) := by
  unfold X12_lookAround X12_lookAround_L2
  refine gp_loop (I := fun (τ : Int32) (σ' : tz_S) => ∃ i, τ = nI i ∧ i ≤ 20 ∧ Uq M 447200 σ σ' ∧ Rq M (fun _ => False) (fun x => x = M + 18) (fun _ => False) σ σ' ∧ ∀ j, j < i → tz_A σ' (M + 18) j = 0) (fun τ _ => 100 - τ.toNatClampNeg) ?_ f _ _ ⟨0, rfl, Nat.zero_le _, Uq_refl, Rq_refl, fun j hj => absurd hj (Nat.not_lt_zero _)⟩ (by omega)
  rintro Kx l1 σ1 ⟨i, rfl, hi, q1, hS, hz⟩ hKx
  show gp (X12_lookAround_L2_body f (some M) (nI k) (fun l1 => Kx l1) (nI i)) σ1 _
  unfold X12_lookAround_L2_body
  have h1 := mSh_fr h q1.1
  refine gp_if (fun z => ?_) (fun z => ?_)
  · rw [show (20 : Int32) = nI 20 from rfl, nI_leI (by omega) (by omega)] at z
    have hk1 := rkV_rq hk hS (fun e => e) (fun e => e) (fun x a b e => by omega) (fun _ _ _ e => e) hK
    refine gp_rR (mh_me h1) rfl ?_
    refine gp_aI (j := k) (mh_14 h1) (by decide) (by omega) (by omega) rfl ?_
    rw [(hk1.2 k hkK).2.2.1]
    refine gp_mono (r_laL h1 (by rw [hS.2.1 35 (fun e => e) (by decide)]; exact h35) hk1 hA hK hn hkK (fun j hj => ⟨hz j (by omega), fun v e => (by cases e)⟩) hf) ?_
    rintro _ σ2 ⟨q2, hr⟩
    exact ⟨Uq_trans q1 q2, hr⟩
  rw [show (20 : Int32) = nI 20 from rfl, nI_leI (by omega) (by omega)] at z
  refine gp_rR (mh_me h1) rfl ?_
  refine gp_sZ (j := i) (mh_18 h1) (by omega) (by omega) rfl (Or.inl rfl) ?_
  refine gp_let ?_
  rw [nI_1]
  refine hKx _ _ ⟨i + 1, rfl, by omega, Uq_trans q1 ⟨Fr_sA (Or.inr (Or.inl rfl)), fun _ _ _ _ _ => rfl, fun j _ => by rw [sA_at, if_neg (by omega)]⟩, Rq_trans hS (Rq_A rfl (by omega)), fun j hj => ?_⟩ (by rw [nI_clamp (by omega), nI_clamp (by omega)]; omega)
  rw [sA_at]
  by_cases e : j = i
  · rw [if_pos ⟨rfl, e⟩]
  · rw [if_neg (fun w => e w.2)]; exact hz j (by omega)
end TP
