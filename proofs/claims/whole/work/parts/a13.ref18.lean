/-! ===== the reference: exchange, whole ===== -/
section RT
variable {f M n m : Nat} {σ : tz_S} {T : Nat → Nat → Int} {D : Int} {r c : Nat} {A : Nat → Nat → Int} {bs cl : Nat → Nat}
/-- the cells while the row itself is turned -/
def xR (D : Int) (T : Nat → Nat → Int) (r c : Nat) (g : Int) (j : Nat) : Nat → Nat → Int := fun a b => if a = r ∧ (b < j ∧ b ≠ c) then xT D T r c g r b else if a = r then T a b else xT D T r c g a b
theorem xR_0 {g : Int} (a b : Nat) (ha : a < m) : xC D T r c g m 0 a b = xR D T r c g 0 a b := by
  unfold xC xR
  by_cases z : a = r
  · rw [if_neg (fun w => w.1 z), if_neg (fun w => by omega), if_pos z]
  · rw [if_pos ⟨z, Or.inl ha⟩, if_neg (fun w => z w.1), if_neg z]
theorem xR_at {g : Int} (a b : Nat) : xR D T r c g c a b = xR D T r c g (c + 1) a b := by
  unfold xR
  by_cases z : a = r ∧ (b < c ∧ b ≠ c)
  · rw [if_pos z, if_pos ⟨z.1, by omega⟩]
  · rw [if_neg z, if_neg (show ¬ (a = r ∧ (b < c + 1 ∧ b ≠ c)) from fun w => z ⟨w.1, by omega⟩)]
theorem xR_j {g : Int} {j : Nat} (hj : j ≠ c) (a b : Nat) : (if a = r ∧ b = j then xT D T r c g r j else xR D T r c g j a b) = xR D T r c g (j + 1) a b := by
  by_cases y : a = r ∧ b = j
  · rw [if_pos y, y.1, y.2]
    unfold xR
    rw [if_pos ⟨rfl, by omega, hj⟩]
  · rw [if_neg y]
    unfold xR
    by_cases z : a = r ∧ (b < j ∧ b ≠ c)
    · rw [if_pos z, if_pos ⟨z.1, by omega⟩]
    · rw [if_neg z, if_neg (show ¬ (a = r ∧ (b < j + 1 ∧ b ≠ c)) from fun w => z ⟨w.1, by omega⟩)]
theorem xR_n {g : Int} (a b : Nat) (hb : b < n) : (if a = r ∧ b = c then D * g else xR D T r c g n a b) = xT D T r c g a b := by
  by_cases y : a = r ∧ b = c
  · rw [if_pos y]
    unfold xT
    rw [if_pos y]
  · rw [if_neg y]
    unfold xR
    by_cases z : a = r
    · rw [if_pos ⟨z, hb, fun e => y ⟨z, e⟩⟩, z]
    · rw [if_neg (fun w => z w.1), if_neg z]
theorem xR_old {g : Int} {j b : Nat} (hb : j ≤ b) : xR D T r c g j r b = T r b := by
  unfold xR
  rw [if_neg (fun w => by omega), if_pos rfl]
theorem xT_rj {g : Int} {j : Nat} (hj : j ≠ c) : xT D T r c g r j = T r j * (-g) := by
  unfold xT
  rw [if_neg (fun w => hj w.2), if_pos rfl]
set_option maxHeartbeats 2000000 in
/-- the row itself, the common number, and who is where -/
theorem r_exSelf {l7 : Int32} {g : Int} {t0 t1 kp kD tp pb pc : Nat} {σ1 : tz_S} (h0 : tz_F σ M 0 = nI n) (hms : mSh σ M) (hn : n ≤ 10) (hm : m ≤ 12) (hr : r < m) (hc : c < n) (hg : (l7 = 0 ∧ g = 1) ∨ (l7 ≠ 0 ∧ g = -1)) (ht0 : t0 = 447200) (ht1 : t0 + kp < t1) (hkp : kp ≤ 8) (hkD : kD ≤ 8) (htp : tp + 500 ≤ 527200)
    (hE : exI σ M n m t0 t1 kp kD (T r c) D (xR D T r c g 0) tp σ1) (hf : 2000 ≤ f) :
    gp (X12_exchange_L253 f (some M) (nI r) (nI c) (nI pb) (nI pc) (nI t0) (nI t0) l7 (nI t1) 0) σ1 (fun _ σ' => ∃ σ2, Fr (fun x => x = M ∨ x = M + 20) σ σ2 ∧ (∀ k, k ≠ 35 → k ≠ 36 → tz_F σ2 M k = tz_F σ M k) ∧ (∀ i, i < 447200 → 1936 ≤ i → tz_A σ2 (M + 20) i = tz_A σ (M + 20) i) ∧ tz_F σ2 M 35 = nI 447200 ∧ nP σ2 M 0 (T r c * g) ∧ clsV σ2 M n m (xT D T r c g) ∧ σ' = tz_sA (tz_sA σ2 (M + 7) r (nI pc)) (M + 8) c (nI pb)) := by
  unfold X12_exchange_L253
  refine gp_loop (I := fun (τ : Int32) (σ' : tz_S) => ∃ j tq, τ = nI j ∧ j ≤ n ∧ tq ≤ tp + 9 * j ∧ exI σ M n m t0 t1 kp kD (T r c) D (xR D T r c g j) tq σ') (fun τ _ => 100 - τ.toNatClampNeg) ?_ f _ _ ⟨0, tp, rfl, Nat.zero_le _, by omega, hE⟩ (by omega)
  clear hE σ1
  rintro K l9 σ1 ⟨j, tq, rfl, hj, htq, hE⟩ hK
  show gp (X12_exchange_L253_body f (some M) (nI r) (nI c) (nI pb) (nI pc) (nI t0) (nI t0) l7 (nI t1) (fun l9 => K l9) (nI j)) σ1 _
  unfold X12_exchange_L253_body
  obtain ⟨e1, e2, e3, e4, e5, e6⟩ := id hE
  have h1 := mSh_fr hms e1.1
  refine gp_rI (mh_me h1) rfl ?_
  rw [e1.2.1 0 (by decide) (by decide), h0]
  refine gp_if (fun z => ?_) (fun z => ?_)
  · rw [nI_leI (by omega) (by omega)] at z
    have hjn : j = n := by omega
    subst hjn
    refine r_turn (K := fun x => X12_exchange_b329 f (some M) (nI r) (nI c) (nI pb) (nI pc) (nI t0) (nI t0) l7 (some M) x) h1 e2 e5 e3 (by omega) hg hf ?_
    intro x' t' σ2 hP2 h352 g1 g2 g3 g4 hv2
    have hE2 := exI_pq hE hP2 (by omega) (by omega) ht1 hn hm h352 (by omega)
    have h2 := mSh_fr h1 hP2.1
    unfold X12_exchange_b329 X12_factorAt
    refine gp_cB (gp_ret ?_)
    rw [at_f]
    refine gp_cV (mh_me h2) (gp_mono (r_cellPut h2 hv2 hkD (by omega) (by omega) (by omega) (by omega) hf) ?_)
    rintro _ σ3 ⟨hP3, hF3, hv3⟩
    have hE3 := exI_set hE2 hP3 hF3 (by omega) (by omega) (by omega) (by omega) hn hkD hv3
    have h3 := mSh_fr h2 hP3.1
    obtain ⟨q1, q2, q3, q4, q5, q6⟩ := id hE3
    refine r_turn (K := fun x => X12_exchange_b354 f (some M) (nI r) (nI c) (nI pb) (nI pc) (nI t0) (some M) x) h3 q2 q4 (by omega) (by omega) hg hf ?_
    intro x2 t2 σ4 hP4 h354 g5 g6 g7 g8 hv4
    have hE4 := exI_pq hE3 hP4 (by omega) (by omega) ht1 hn hm h354 (by omega)
    have h4 := mSh_fr h3 hP4.1
    obtain ⟨p1, p2, p3, p4, p5, p6⟩ := hE4
    unfold X12_exchange_b354
    refine gp_cV (mh_me h4) (gp_mono (r_copyTo (to := 0) h4 hv4 (by omega) (by omega) (Or.inl (Nat.zero_le _)) hf) ?_)
    rintro _ σ5 ⟨hP5, hF5, hv5⟩
    have h5 := mSh_fr h4 hP5.1
    refine gp_wI (mh_me h5) rfl ?_
    have h6 : mSh (tz_sF σ5 M 35 (nI t0)) M := h5
    refine gp_rR (mh_me h6) rfl ?_
    refine gp_sI (j := r) (mh_7 h6) (by decide) (by omega) (by omega) rfl ?_
    have h7 : mSh (tz_sA (tz_sF σ5 M 35 (nI t0)) (M + 7) r (nI pc)) M := h6
    refine gp_rR (mh_me h7) rfl ?_
    refine gp_sI (j := c) (mh_8 h7) (by decide) (by omega) (by omega) rfl ?_
    refine gp_ret ⟨tz_sF σ5 M 35 (nI t0), Fr_trans p1.1 (Fr_trans hP5.1 (Fr_sF (Or.inl rfl))), fun k a b => ?_, fun i a b => ?_, by rw [ht0]; exact tz_u2_same _ _ _ _, ⟨kp, hv5, by omega⟩, ?_, rfl⟩
    · show tz_u2 (tz_F σ5) M 35 (nI t0) M k = _
      rw [tz_u2_ne _ _ (Or.inr a), hF5]
      exact p1.2.1 k a b
    · show tz_A σ5 (M + 20) i = _
      rw [hP5.2.2 i (by omega)]
      exact p1.2.2 i a (by omega)
    · refine cls_cong (C := fun a b => if a = r ∧ b = c then D * g else xR D T r c g j a b) ?_ (fun a b _ hb => xR_n a b hb)
      intro a b ha hb
      obtain ⟨k, k1, k2⟩ := p6 a b ha hb
      have k3 := nV_pq k2 hP5 (Or.inr (by omega))
      exact ⟨k, k1, k3⟩
  rw [nI_leI (by omega) (by omega)] at z
  have hjn : j < n := by omega
  have nxt : ∀ σ2 t2, t2 ≤ tp + 9 * (j + 1) → exI σ M n m t0 t1 kp kD (T r c) D (xR D T r c g (j + 1)) t2 σ2 → gp (X12_exchange_b306 f (fun l9 => K l9) (some M) (nI r) (nI c) (nI pb) (nI pc) (nI t0) (nI t0) l7 (nI t1) (nI j)) σ2 (fun _ σ' => ∃ σ2, Fr (fun x => x = M ∨ x = M + 20) σ σ2 ∧ (∀ k, k ≠ 35 → k ≠ 36 → tz_F σ2 M k = tz_F σ M k) ∧ (∀ i, i < 447200 → 1936 ≤ i → tz_A σ2 (M + 20) i = tz_A σ (M + 20) i) ∧ tz_F σ2 M 35 = nI 447200 ∧ nP σ2 M 0 (T r c * g) ∧ clsV σ2 M n m (xT D T r c g) ∧ σ' = tz_sA (tz_sA σ2 (M + 7) r (nI pc)) (M + 8) c (nI pb)) := by
    intro σ2 t2 g1 g2
    unfold X12_exchange_b306
    refine gp_let ?_
    rw [nI_1]
    exact hK _ _ ⟨j + 1, t2, rfl, by omega, g1, g2⟩ (by rw [nI_clamp (by omega), nI_clamp (by omega)]; omega)
  refine gp_if (fun q => ?_) (fun q => ?_)
  · rw [nI_eq (by omega) (by omega)] at q
    subst q
    exact nxt σ1 tq (by omega) ⟨e1, e2, e3, e4, e5, cls_cong e6 (fun a b _ _ => xR_at a b)⟩
  rw [nI_eq (by omega) (by omega)] at q
  obtain ⟨k1, c1, c2⟩ := e6 r j hr hjn
  rw [xR_old (Nat.le_refl _)] at c2
  have put : ∀ σ2, Pq M tq (tq + k1 + 1) σ1 σ2 → tz_F σ2 M 35 = nI (tq + k1 + 1) → nV (tz_A σ2 (M + 20)) tq k1 (xT D T r c g r j) → gp (X12_exchange_b297 f (fun l9 => K l9) (some M) (nI r) (nI c) (nI pb) (nI pc) (nI t0) (nI t0) l7 (nI t1) (nI j) (some M) (nI tq)) σ2 (fun _ σ' => ∃ σ2, Fr (fun x => x = M ∨ x = M + 20) σ σ2 ∧ (∀ k, k ≠ 35 → k ≠ 36 → tz_F σ2 M k = tz_F σ M k) ∧ (∀ i, i < 447200 → 1936 ≤ i → tz_A σ2 (M + 20) i = tz_A σ (M + 20) i) ∧ tz_F σ2 M 35 = nI 447200 ∧ nP σ2 M 0 (T r c * g) ∧ clsV σ2 M n m (xT D T r c g) ∧ σ' = tz_sA (tz_sA σ2 (M + 7) r (nI pc)) (M + 8) c (nI pb)) := by
    intro σ2 hP2 h352 hv2
    have hE2 := exI_pq hE hP2 (by omega) (by omega) ht1 hn hm h352 (by omega)
    have h2 := mSh_fr h1 hP2.1
    unfold X12_exchange_b297 X12_factorAt
    refine gp_cB (gp_ret ?_)
    rw [at_f]
    refine gp_cV (mh_me h2) (gp_mono (r_cellPut h2 hv2 c1 (by omega) (by omega) (by omega) (by omega) hf) ?_)
    rintro _ σ3 ⟨hP3, hF3, hv3⟩
    obtain ⟨q1, q2, q3, q4, q5, q6⟩ := exI_set hE2 hP3 hF3 (by omega) (by omega) (by omega) (by omega) hn c1 hv3
    exact nxt σ3 (tq + k1 + 1) (by omega) ⟨q1, q2, q3, q4, q5, cls_cong q6 (fun a b _ _ => xR_j q a b)⟩
  unfold X12_factorAt
  rcases hg with ⟨w1, w2⟩ | ⟨w1, w2⟩
  · refine gp_t w1 ?_
    refine gp_cB (gp_ret ?_)
    rw [at_f]
    refine gp_cV (mh_me h1) (gp_mono (r_less h1 e2 c2 (by omega) (by omega) hf) ?_)
    rintro _ σ2 ⟨rfl, a1, a2, a3⟩
    refine put σ2 a1 a2 ?_
    rw [xT_rj q, w2, Int.mul_neg, Int.mul_one]
    exact a3
  · refine gp_f w1 ?_
    refine gp_cB (gp_ret ?_)
    rw [at_f]
    refine gp_cV (mh_me h1) (gp_mono (r_again h1 e2 c2 (by omega) (by omega) hf) ?_)
    rintro _ σ2 ⟨rfl, a1, a2, a3⟩
    refine put σ2 a1 a2 ?_
    rw [xT_rj q, w2, Int.neg_neg, Int.mul_one]
    exact a3
end RT
