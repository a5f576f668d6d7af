/-! ===== the reference: newNode ===== -/
section RX
variable {f M K lc : Nat} {σ σ1 : tz_S} {up fi se : Nat → Option Nat} {vr : Nat → Nat} {to : Nat → Int} {cd : Nat → Bool} {ln : Nat → Nat} {mq : Nat → Nat → Int × Int} {u : Option Nat}
theorem mh_9 (h : mSh σ M) : tz_sh σ (M + 9) = some (.inr (1, 310)) := h.2.2.2.2.2.2.2.2.2.1
theorem mh_10 (h : mSh σ M) : tz_sh σ (M + 10) = some (.inr (1, 310)) := h.2.2.2.2.2.2.2.2.2.2.1
theorem mh_11 (h : mSh σ M) : tz_sh σ (M + 11) = some (.inr (0, 310)) := h.2.2.2.2.2.2.2.2.2.2.2.1
theorem mh_12 (h : mSh σ M) : tz_sh σ (M + 12) = some (.inr (0, 310)) := h.2.2.2.2.2.2.2.2.2.2.2.2.1
theorem mh_13 (h : mSh σ M) : tz_sh σ (M + 13) = some (.inr (0, 310)) := h.2.2.2.2.2.2.2.2.2.2.2.2.2.1
theorem mh_14 (h : mSh σ M) : tz_sh σ (M + 14) = some (.inr (0, 310)) := h.2.2.2.2.2.2.2.2.2.2.2.2.2.2.1
theorem mh_15 (h : mSh σ M) : tz_sh σ (M + 15) = some (.inr (0, 310)) := h.2.2.2.2.2.2.2.2.2.2.2.2.2.2.2.1
theorem mh_16 (h : mSh σ M) : tz_sh σ (M + 16) = some (.inr (0, 25)) := h.2.2.2.2.2.2.2.2.2.2.2.2.2.2.2.2.1
theorem mh_17 (h : mSh σ M) : tz_sh σ (M + 17) = some (.inr (1, 25)) := h.2.2.2.2.2.2.2.2.2.2.2.2.2.2.2.2.2.1
theorem mh_18 (h : mSh σ M) : tz_sh σ (M + 18) = some (.inr (1, 20)) := h.2.2.2.2.2.2.2.2.2.2.2.2.2.2.2.2.2.2.1
theorem mh_19 (h : mSh σ M) : tz_sh σ (M + 19) = some (.inr (0, 20)) := h.2.2.2.2.2.2.2.2.2.2.2.2.2.2.2.2.2.2.2.1
set_option maxRecDepth 20000 in
theorem rm_152 {x : Nat} (h : x < 152) : nI x - nI x / 152 * 152 = nI x := by
  have : ∀ x : Fin 152, nI x.val - nI x.val / 152 * 152 = nI x.val := by decide
  exact this ⟨x, h⟩
theorem at_m (l j s : Nat) : (116056 : Int32) + 16 * (2 * (32 * nI l + nI j) + nI s) = nI (116056 + 16 * (2 * (32 * l + j) + s)) := by
  rw [show (32 : Int32) = nI 32 from rfl, nI_mul, nI_add, show (2 : Int32) = nI 2 from rfl, nI_mul, nI_add, show (16 : Int32) = nI 16 from rfl, nI_mul, show (116056 : Int32) = nI 116056 from rfl, nI_add]
/-- a place is written -/
theorem Rq_wh {t to n : Nat} {Fs As Ps : Nat → Prop} (ht : 447200 ≤ t) (h : Fr (fun x => x = M ∨ x = M + 20) σ σ1 ∧ (∀ k, k ≠ 36 → tz_F σ1 M k = tz_F σ M k) ∧ (∀ i, i < t → (i < to ∨ to + 4 ≤ i) → tz_A σ1 (M + 20) i = tz_A σ (M + 20) i)) (hP : ∀ i, to ≤ i → i < to + 4 → Ps i) : Rq M Fs As Ps σ σ1 := ⟨Fr_mono h.1 (fun x z => by rcases z with z | z; exact Or.inl z; exact Or.inr (Or.inl z)), fun k _ b => h.2.1 k b, fun i a b => h.2.2 i (by omega) (by
  by_cases z : to ≤ i ∧ i < to + 4
  · exact absurd (hP i z.1 z.2) b
  · omega)⟩
/-- the multipliers of a leaf -/
def lvP (lc : Nat) (i : Nat) : Prop := 116056 + 1024 * lc ≤ i ∧ i < 116056 + 1024 * (lc + 1)
theorem r_newL (h : mSh σ M) (ht : tz_F σ M 35 = nI 447200) (hK : K < 310) (h22 : tz_A σ (M + 15) K = nI lc) (hl : lc < 152) (hf : 2000 ≤ f) :
    gp (X12_newNode_L78 f (some M) (nI K) 0) σ (fun y σ' => y = nI K ∧ Rq M (fun _ => False) (fun _ => False) (lvP lc) σ σ' ∧ ∀ j, j < 32 → nP σ' M (116056 + 16 * (2 * (32 * lc + j))) 0 ∧ nP σ' M (116056 + 16 * (2 * (32 * lc + j) + 1)) 1) := by
  unfold X12_newNode_L78
  refine gp_loop (I := fun (τ : Int32) (σ' : tz_S) => ∃ i, τ = nI i ∧ i ≤ 32 ∧ Rq M (fun _ => False) (fun _ => False) (lvP lc) σ σ' ∧ ∀ j, j < i → nP σ' M (116056 + 16 * (2 * (32 * lc + j))) 0 ∧ nP σ' M (116056 + 16 * (2 * (32 * lc + j) + 1)) 1) (fun τ _ => 100 - τ.toNatClampNeg) ?_ f _ _ ⟨0, rfl, Nat.zero_le _, Rq_refl, fun j hj => absurd hj (Nat.not_lt_zero _)⟩ (by omega)
  rintro KK l1 σ1 ⟨i, rfl, hi, hS, hl1⟩ hK1
  show gp (X12_newNode_L78_body f (some M) (nI K) (fun l1 => KK l1) (nI i)) σ1 _
  unfold X12_newNode_L78_body X12_multiplierAt
  have h1 := mSh_fr h hS.1
  refine gp_if (fun z => ?_) (fun z => ?_)
  · rw [show (32 : Int32) = nI 32 from rfl, nI_leI (by omega) (by omega)] at z
    exact gp_ret ⟨rfl, hS, fun j hj => hl1 j (by omega)⟩
  rw [show (32 : Int32) = nI 32 from rfl, nI_leI (by omega) (by omega)] at z
  refine gp_rR (mh_me h1) rfl ?_
  refine gp_aI (j := K) (mh_15 h1) (by decide) (by omega) (by omega) rfl ?_
  rw [Rq_get hS (by omega) (by omega) (fun e => e), h22]
  refine gp_cB (gp_ret ?_)
  rw [show (0 : Int32) = nI 0 from rfl, at_m]
  refine gp_cV (mh_me h1) (gp_mono (r_setWhole (v := 0) (to := 116056 + 16 * (2 * (32 * lc + i) + 0)) h1 (by rw [hS.2.1 35 (fun e => e) (by decide)]; exact ht) (by decide) (by omega) (by omega) hf) ?_)
  rintro _ σ2 ⟨e1, e2, e3, n1, e4, e5⟩
  have h2 := mSh_fr h1 e1
  have q1 : Rq M (fun _ => False) (fun _ => False) (fun x => 116056 + 16 * (2 * (32 * lc + i) + 0) ≤ x ∧ x < 116056 + 16 * (2 * (32 * lc + i) + 0) + 4) σ1 σ2 := Rq_wh (n := 0) (Nat.le_refl _) ⟨e1, e2, e3⟩ (fun x a b => ⟨a, b⟩)
  refine gp_rR (mh_me h2) rfl ?_
  refine gp_aI (j := K) (mh_15 h2) (by decide) (by omega) (by omega) rfl ?_
  rw [Rq_get q1 (by omega) (by omega) (fun e => e), Rq_get hS (by omega) (by omega) (fun e => e), h22]
  refine gp_cB (gp_ret ?_)
  rw [show (1 : Int32) = nI 1 from rfl, at_m]
  refine gp_cV (mh_me h2) (gp_mono (r_setWhole (v := 1) (to := 116056 + 16 * (2 * (32 * lc + i) + 1)) h2 (by rw [e2 35 (by decide), hS.2.1 35 (fun e => e) (by decide)]; exact ht) (by decide) (by omega) (by omega) hf) ?_)
  rintro _ σ3 ⟨w1, w2, w3, n2, w4, w5⟩
  have q2 : Rq M (fun _ => False) (fun _ => False) (fun x => 116056 + 16 * (2 * (32 * lc + i) + 1) ≤ x ∧ x < 116056 + 16 * (2 * (32 * lc + i) + 1) + 4) σ2 σ3 := Rq_wh (n := 0) (Nat.le_refl _) ⟨w1, w2, w3⟩ (fun x a b => ⟨a, b⟩)
  refine gp_let ?_
  rw [nI_add]
  refine hK1 _ _ ⟨i + 1, rfl, by omega, ?_, fun j hj => ?_⟩ (by rw [nI_clamp (by omega), nI_clamp (by omega)]; omega)
  · refine Rq_trans hS (Rq_trans (Rq_mono q1 (fun _ e => e) (fun _ e => e) (fun x e => ?_)) (Rq_mono q2 (fun _ e => e) (fun _ e => e) (fun x e => ?_)))
    · unfold lvP; omega
    · unfold lvP; omega
  · by_cases e : j = i
    · rw [e]
      refine ⟨?_, ⟨n2, w5, by omega, by omega⟩⟩
      exact nP_rq (⟨n1, e5, by omega, by omega⟩ : nP σ2 M (116056 + 16 * (2 * (32 * lc + i) + 0)) 0) q2 (fun x a b => by omega)
    · obtain ⟨g1, g2⟩ := hl1 j (by omega)
      exact ⟨nP_rq (nP_rq g1 q1 (fun x a b => by omega)) q2 (fun x a b => by omega), nP_rq (nP_rq g2 q1 (fun x a b => by omega)) q2 (fun x a b => by omega)⟩
end RX
