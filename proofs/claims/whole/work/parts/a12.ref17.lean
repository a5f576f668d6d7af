/-! ===== the reference: exchange, the other rows ===== -/
section RS
variable {f M n m : Nat} {σ : tz_S} {T : Nat → Nat → Int} {D : Int} {r c : Nat} {A : Nat → Nat → Int} {bs cl : Nat → Nat}
/-- a number is turned where the flag says so -/
theorem r_turn {K : Int32 → pz_C Unit} {Q : Unit → tz_S → Prop} {l7 : Int32} {g v : Int} {x k tq : Nat} {σ1 : tz_S} (h : mSh σ1 M) (h35 : tz_F σ1 M 35 = nI tq) (hv : nV (tz_A σ1 (M + 20)) x k v) (hx : x + k < tq) (hb : tq + k < 527200) (hg : (l7 = 0 ∧ g = 1) ∨ (l7 ≠ 0 ∧ g = -1)) (hf : 2000 ≤ f)
    (hK : ∀ x' t' σ2, Pq M tq (tq + k + 1) σ1 σ2 → tz_F σ2 M 35 = nI t' → tq ≤ t' → t' ≤ tq + k + 1 → (x' = x ∨ x' = tq) → x' + k < t' → nV (tz_A σ2 (M + 20)) x' k (v * g) → gp (K (nI x')) σ2 Q) : gp (pz_if (l7 = 0) (K (nI x)) (pz_cV 12 (some M) (X12_less f (some M) (nI x)) fun x' => K x')) σ1 Q := by
  rcases hg with ⟨e1, e2⟩ | ⟨e1, e2⟩
  · exact gp_t e1 (hK x tq σ1 Pq_refl h35 (Nat.le_refl _) (by omega) (Or.inl rfl) hx (by rw [e2, Int.mul_one]; exact hv))
  · refine gp_f e1 (gp_cV (mh_me h) (gp_mono (r_less h h35 hv hx hb hf) ?_))
    rintro _ σ2 ⟨rfl, a1, a2, a3⟩
    exact hK tq (tq + k + 1) σ2 a1 a2 (by omega) (Nat.le_refl _) (Or.inr rfl) (by omega) (by rw [e2, Int.mul_neg, Int.mul_one]; exact a3)
set_option maxHeartbeats 2000000 in
/-- one other row -/
theorem r_exRow {K91 : Int32 → pz_C Unit} {Q : Unit → tz_S → Prop} {l3 l4 l5 l7 : Int32} {g : Int} {t0 t1 kp kD tp i : Nat} {σ1 : tz_S} (hI : tbI n m A D T bs cl) (h0 : tz_F σ M 0 = nI n) (hms : mSh σ M) (hn : n ≤ 10) (hm : m ≤ 12) (hr : r < m) (hc : c < n) (hp : T r c ≠ 0) (hTz : ∀ a b, a < m → b < n → ((T a b).natAbs : Int) < 1000000000 ^ 8) (hXz : ∀ a b, a < m → b < n → ((xT D T r c g a b).natAbs : Int) < 1000000000 ^ 8) (hg : (l7 = 0 ∧ g = 1) ∨ (l7 ≠ 0 ∧ g = -1)) (ht0 : 447200 ≤ t0) (ht1 : t0 + kp < t1) (hkp : kp ≤ 8) (hkD : kD ≤ 8) (htp : tp + 1000 ≤ 527200) (him : i < m) (hir : i ≠ r)
    (hE : exI σ M n m t0 t1 kp kD (T r c) D (xC D T r c g i 0) tp σ1) (hf : 2000 ≤ f)
    (hK : ∀ σ2 tp2, tp ≤ tp2 → tp2 ≤ tp + 20 → exI σ M n m t0 t1 kp kD (T r c) D (xC D T r c g (i + 1) 0) tp2 σ2 → gp (K91 (nI (i + 1))) σ2 Q) :
    gp (pz_cB (X12_factorAt f (nI i) (nI c)) fun x32 => pz_cV 12 (some M) (X12_again f (some M) x32) fun x33 => X12_exchange_L121 f K91 (some M) (nI r) (nI c) l3 l4 l5 (nI t0) l7 (nI t1) (nI i) x33 0) σ1 Q := by
  obtain ⟨e1, e2, e3, e4, e5, e6⟩ := id hE
  have h1 := mSh_fr hms e1.1
  unfold X12_factorAt
  refine gp_cB (gp_ret ?_)
  rw [at_f]
  obtain ⟨ko, o1, o2⟩ := e6 i c him hc
  rw [xC_old (Or.inr rfl)] at o2
  refine gp_cV (mh_me h1) (gp_mono (r_again h1 e2 o2 (by omega) (by omega) hf) ?_)
  rintro _ σ2 ⟨rfl, hP2, h352, hown⟩
  have hE2 := exI_pq hE hP2 (by omega) ht0 ht1 hn hm h352 (by omega)
  obtain ⟨tq, htq⟩ : ∃ tq, tq = tp + ko + 1 := ⟨_, rfl⟩
  rw [← htq] at hE2 h352
  unfold X12_exchange_L121
  refine gp_loop (I := fun (τ : Int32) (σ' : tz_S) => ∃ j, τ = nI j ∧ j ≤ n ∧ exI σ M n m t0 t1 kp kD (T r c) D (xC D T r c g i j) tq σ' ∧ nV (tz_A σ' (M + 20)) tp ko (T i c)) (fun τ _ => 100 - τ.toNatClampNeg) ?_ f _ _ ⟨0, rfl, Nat.zero_le _, hE2, hown⟩ (by omega)
  clear hE2 hown h352 hP2 σ2 e1 e2 e4 e5 e6 o2 h1 hE σ1
  rintro K l11 σ1 ⟨j, rfl, hj, hE, hown⟩ hKL
  show gp (X12_exchange_L121_body f K91 (some M) (nI r) (nI c) l3 l4 l5 (nI t0) l7 (nI t1) (nI i) (nI tp) (fun l11 => K l11) (nI j)) σ1 _
  unfold X12_exchange_L121_body
  obtain ⟨e1, e2, e3', e4, e5, e6⟩ := id hE
  have h1 := mSh_fr hms e1.1
  refine gp_rI (mh_me h1) rfl ?_
  rw [e1.2.1 0 (by decide) (by decide), h0]
  refine gp_if (fun z => ?_) (fun z => ?_)
  · rw [nI_leI (by omega) (by omega)] at z
    have hjn : j = n := by omega
    subst hjn
    refine r_turn (K := fun x => X12_exchange_b235 f K91 (some M) (nI r) (nI c) l3 l4 l5 (nI t0) l7 (nI t1) (nI i) (some M) x) h1 e2 hown (by omega) (by omega) hg hf ?_
    intro x' t' σ2 hP2 h352 g1 g2 g3 g4 hv2
    have hE2 := exI_pq hE hP2 (by omega) ht0 ht1 hn hm h352 (by omega)
    have h2 := mSh_fr h1 hP2.1
    unfold X12_exchange_b235 X12_factorAt X12_exchange_b244
    refine gp_cB (gp_ret ?_)
    rw [at_f]
    refine gp_cV (mh_me h2) (gp_mono (r_cellPut h2 hv2 o1 (by omega) (by omega) (by omega) (by omega) hf) ?_)
    rintro _ σ3 ⟨hP3, hF3, hv3⟩
    have hE3 := exI_set hE2 hP3 hF3 ht0 (by omega) (by omega) (by omega) hn o1 hv3
    refine gp_let ?_
    rw [nI_1]
    refine hK σ3 t' (by omega) (by omega) ?_
    obtain ⟨q1, q2, q3, q4, q5, q6⟩ := hE3
    refine ⟨q1, q2, q3, q4, q5, cls_cong q6 (fun a b ha hb => ?_)⟩
    rw [← xC_row (n := j) hir a b hb, xT_c hir]
  rw [nI_leI (by omega) (by omega)] at z
  have hjn : j < n := by omega
  have nxt : ∀ σ2, exI σ M n m t0 t1 kp kD (T r c) D (xC D T r c g i (j + 1)) tq σ2 → nV (tz_A σ2 (M + 20)) tp ko (T i c) → gp (X12_exchange_b212 f K91 (fun l11 => K l11) (some M) (nI r) (nI c) l3 l4 l5 (nI t0) l7 (nI t1) (nI i) (nI tp) (nI j)) σ2 Q := by
    intro σ2 g1 g2
    unfold X12_exchange_b212
    refine gp_let ?_
    rw [nI_1]
    exact hKL _ _ ⟨j + 1, rfl, by omega, g1, g2⟩ (by rw [nI_clamp (by omega), nI_clamp (by omega)]; omega)
  refine gp_if (fun q => ?_) (fun q => ?_)
  · rw [nI_eq (by omega) (by omega)] at q
    subst q
    exact nxt σ1 ⟨e1, e2, e3', e4, e5, cls_cong e6 (fun a b _ _ => xC_at a b)⟩ hown
  rw [nI_eq (by omega) (by omega)] at q
  refine gp_rI (mh_me h1) rfl ?_
  rw [e2]
  unfold X12_factorAt
  refine gp_cB (gp_ret ?_)
  rw [at_f]
  obtain ⟨k1, c1, c2⟩ := e6 i j him hjn
  rw [xC_old (Or.inl (Nat.le_refl _))] at c2
  refine gp_cV (mh_me h1) (gp_mono (r_by h1 e2 c2 e4 (by omega) (by omega) (by omega) (by omega) (by omega) hf) ?_)
  rintro _ σ2 ⟨rfl, hP2, ka, hka, h352, ha2⟩
  have h2 := mSh_fr h1 hP2.1
  refine gp_cB (gp_ret ?_)
  rw [at_f]
  obtain ⟨k3, c3, c4⟩ := e6 r j hr hjn
  rw [xC_r] at c4
  have hown2 := nV_pq hown hP2 (Or.inl (by omega))
  refine gp_cV (mh_me h2) (gp_mono (r_by h2 h352 hown2 (nV_pq c4 hP2 (Or.inl (by omega))) (by omega) (by omega) (by omega) (by omega) (by omega) hf) ?_)
  rintro _ σ3 ⟨rfl, hP3, kb, hkb, h353, hb3⟩
  have h3 := mSh_fr h2 hP3.1
  refine gp_cV (mh_me h3) (gp_mono (r_minus h3 h353 (nV_pq ha2 hP3 (Or.inl (by omega))) hb3 (by omega) (by omega) (by omega) (by omega) (by omega) hf) ?_)
  rintro _ σ4 ⟨rfl, hP4, kc, hkc, h354, hc4⟩
  have h4 := mSh_fr h3 hP4.1
  have eD4 := nV_pq (nV_pq (nV_pq e5 hP2 (Or.inl (by omega))) hP3 (Or.inl (by omega))) hP4 (Or.inl (by omega))
  refine gp_cV (mh_me h4) (gp_mono (r_over h4 h354 hc4 eD4 hI.1 (by omega) (by omega) (by omega) (by omega) (by omega) hf) ?_)
  rintro _ σ5 ⟨rfl, hP5, kx, hkx, h355, hx5⟩
  have h5 := mSh_fr h4 hP5.1
  have hxe := xT_ij (g := g) hI hr hc hp him hjn hir q
  have hxz := hXz i j him hjn
  have hk8 : kx ≤ 8 := by
    refine nV_le hx5 ?_
    rw [hxe] at hxz
    have e : ((T i j * T r c - T i c * T r j) / D * g).natAbs = ((T i j * T r c - T i c * T r j) / D).natAbs := by
      rcases hg with ⟨-, w⟩ | ⟨-, w⟩
      · rw [w, Int.mul_one]
      · rw [w, Int.mul_neg, Int.mul_one, Int.natAbs_neg]
    rw [e] at hxz
    exact hxz
  have hPa : Pq M tq (tq + 500) σ1 σ5 := Pq_trans (Pq_mono hP2 (by omega) (by omega)) (Pq_trans (Pq_mono hP3 (by omega) (by omega)) (Pq_trans (Pq_mono hP4 (by omega) (by omega)) (Pq_mono hP5 (by omega) (by omega))))
  clear hP2 hP3 hP4 hP5 ha2 hb3 hc4 eD4 h352 h353 h354 h2 h3 h4 hown2 c4 c2
  refine r_turn (K := fun x => X12_exchange_b196 f K91 (fun l11 => K l11) (some M) (nI r) (nI c) l3 l4 l5 (nI t0) l7 (nI t1) (nI i) (nI tp) (nI j) (nI tq) (some M) x) h5 h355 hx5 (by omega) (by omega) hg hf ?_
  intro x' t' σ6 hP6 h356 g1 g2 g3 g4 hv6
  rw [← hxe] at hv6
  have h6 := mSh_fr h5 hP6.1
  have hPb : Pq M tq (tq + 600) σ1 σ6 := Pq_trans (Pq_mono hPa (by omega) (by omega)) (Pq_mono hP6 (by omega) (by omega))
  have hE6 := exI_pq hE hPb (by omega) ht0 ht1 hn hm h356 (by omega)
  have hown6 := nV_pq hown hPb (Or.inl (by omega))
  unfold X12_exchange_b196 X12_factorAt
  refine gp_cB (gp_ret ?_)
  rw [at_f]
  refine gp_cV (mh_me h6) (gp_mono (r_cellPut h6 hv6 hk8 (by omega) (by omega) (by omega) (by omega) hf) ?_)
  rintro _ σ7 ⟨hP7, hF7, hv7⟩
  have h7 := mSh_fr h6 hP7.1
  obtain ⟨q1, q2, q3, q4, q5, q6⟩ := exI_set hE6 hP7 hF7 ht0 (by omega) (by omega) (by omega) hn hk8 hv7
  refine gp_wI (mh_me h7) rfl ?_
  refine nxt _ ⟨Xq_pq q1 (Pq_top (lo := 447200) (hi := 447200)) (Or.inr (Nat.le_refl _)), tz_u2_same _ _ _ _, by omega, q4, q5, cls_cong q6 (fun a b _ _ => xC_cell hir q a b)⟩ ?_
  show nV (tz_A σ7 (M + 20)) tp ko (T i c)
  exact nV_pq hown6 hP7 (Or.inr (by omega))
end RS
