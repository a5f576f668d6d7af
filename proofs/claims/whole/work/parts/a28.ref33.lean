/-! ===== the reference: split ===== -/
section SI
variable {f M n m K lc k x spl L : Nat} {σ σ1 : tz_S} {up fi se : Nat → Option Nat} {vr : Nat → Nat} {fo to : Nat → Int} {cd : Nat → Bool} {ln : Nat → Nat} {mq : Nat → Nat → Int × Int} {T : Nat → Nat → Int} {D v : Int} {va : Nat → Int} {bs cl : Nat → Nat} {p : List (Nat × Bool)} {Q : Unit → tz_S → Prop}
theorem r_newNode0 {fr : Int32} (h : mSh σ M) (ht : tz_F σ M 35 = nI 447200) (h15 : tz_F σ M 15 = nI K) (h23 : tz_F σ M 23 = nI lc) (hK : K < 310) (hl : lc < 152) (hf : 2000 ≤ f) :
    gp (X12_newNode f (some M) fr) σ (fun y σ' => y = nI K ∧ Rq M (fun _ => False) (fun _ => False) (lvP lc) (nnS σ M K lc fr) σ' ∧ ∀ j, j < 32 → nP σ' M (116056 + 16 * (2 * (32 * lc + j))) 0 ∧ nP σ' M (116056 + 16 * (2 * (32 * lc + j) + 1)) 1) := by
  have nr := nnS_rq (σ := σ) (M := M) (K := K) (lc := lc) (fr := fr) (Ps := fun _ => False)
  have n15 : tz_A (nnS σ M K lc fr) (M + 15) K = nI lc := by
    unfold nnS; rw [sF_A, sA_at]; exact if_pos ⟨rfl, rfl⟩
  have hg : ∀ Q, gp (X12_newNode_L78 f (some M) (nI K) 0) (nnS σ M K lc fr) Q → gp (X12_newNode f (some M) fr) σ Q := by
    intro Q hq
    unfold X12_newNode
    refine gp_rI (mh_me h) rfl ?_
    refine gp_rI (mh_me h) rfl ?_
    rw [h15, nI_1]
    refine gp_wI (mh_me h) rfl ?_
    refine gp_rR (mh_me h) rfl ?_
    refine gp_sZ (j := K) (mh_9 h) hK (by omega) rfl (Or.inl rfl) ?_
    refine gp_rR (mh_me h) rfl ?_
    refine gp_sZ (j := K) (mh_10 h) hK (by omega) rfl (Or.inl rfl) ?_
    refine gp_rR (mh_me h) rfl ?_
    refine gp_sI (j := K) (mh_12 h) (by decide) hK (by omega) rfl ?_
    refine gp_rR (mh_me h) rfl ?_
    refine gp_sI (j := K) (mh_13 h) (by decide) hK (by omega) rfl ?_
    refine gp_rR (mh_me h) rfl ?_
    refine gp_sI (j := K) (mh_14 h) (by decide) hK (by omega) rfl ?_
    refine gp_rR (mh_me h) rfl ?_
    refine gp_rI (mh_me h) rfl ?_
    have e23 : tz_F (tz_sF σ M 15 (nI (K + 1))) M 23 = nI lc := by
      show tz_u2 (tz_F σ) M 15 _ M 23 = _
      rw [tz_u2_ne _ _ (Or.inr (by decide))]; exact h23
    simp only [sA_F]
    rw [e23]
    refine gp_rmI (by decide) ?_
    rw [rm_152 hl]
    refine gp_sI (j := K) (mh_15 h) (by decide) hK (by omega) rfl ?_
    refine gp_rI (mh_me h) rfl ?_
    simp only [sA_F]
    rw [e23, nI_1]
    refine gp_wI (mh_me h) rfl ?_
    exact hq
  refine hg _ (r_newL (lc := lc) (mSh_fr h nr.1) ?_ hK n15 hl hf)
  rw [nr.2.1 35 (by decide) (by decide)]; exact ht
theorem rkV_ext (hk : rkV σ M K lc up fi se vr to cd ln) (h15 : tz_F σ1 M 15 = tz_F σ M 15) (h23 : tz_F σ1 M 23 = tz_F σ M 23) (hA : ∀ y j, M + 9 ≤ y → y ≤ M + 15 → j < K → tz_A σ1 y j = tz_A σ y j) (hP : ∀ i, 16456 ≤ i → i < 109456 → tz_A σ1 (M + 20) i = tz_A σ (M + 20) i) (hK : K ≤ 310) : rkV σ1 M K lc up fi se vr to cd ln := by
  obtain ⟨⟨b1, b2⟩, b3⟩ := hk
  refine ⟨⟨h15.trans b1, h23.trans b2⟩, fun j hj => ?_⟩
  obtain ⟨a1, a2, a3, a4, a5, a6, a7⟩ := b3 j hj
  refine ⟨?_, ?_, ?_, ?_, ?_, ?_, fun z => ⟨?_, ?_⟩⟩
  · rw [hA _ _ (by omega) (by omega) hj]; exact a1
  · rw [hA _ _ (by omega) (by omega) hj]; exact a2
  · rw [hA _ _ (by omega) (by omega) hj]; exact a3
  · rw [hA _ _ (by omega) (by omega) hj]; exact a4
  · rw [hA _ _ (by omega) (by omega) hj]; exact a5
  · rw [hA _ _ (by omega) (by omega) hj]; exact a6
  · rw [hA _ _ (by omega) (by omega) hj]; exact (a7 z).1
  · obtain ⟨y, y1, y2⟩ := (a7 z).2
    exact ⟨y, nV_congr y1 (fun i a b => hP i (by omega) (by omega)), y2⟩
/-- a node has become a split -/
theorem rkV_split {lc2 : Nat} (hk : rkV σ M K lc up fi se vr to cd ln) (hn1 : nP σ M (16456 + 300 * k) v) : rkV (tz_sA (tz_sF (tz_sA (tz_sA σ (M + 9) k 1) (M + 11) k (nI x)) M 23 (nI lc2)) (M + 12) k (nI K)) M K lc2 up (ups fi k (some K)) se (ups vr k x) (ups to k v) cd ln := by
  obtain ⟨⟨b1, b2⟩, b3⟩ := hk
  have hnP : ∀ h w, nP σ M h w → nP (tz_sA (tz_sF (tz_sA (tz_sA σ (M + 9) k 1) (M + 11) k (nI x)) M 23 (nI lc2)) (M + 12) k (nI K)) M h w := fun h w ⟨a, a1, a2⟩ => ⟨a, nV_congr a1 (fun i _ _ => by rw [sA_at, if_neg (by omega), sF_A, sA_at, if_neg (by omega), sA_at, if_neg (by omega)]), a2⟩
  refine ⟨⟨?_, ?_⟩, fun j hj => ?_⟩
  · rw [sA_F, sF_at, if_neg (by omega)]; exact b1
  · rw [sA_F, sF_at, if_pos ⟨rfl, rfl⟩]
  obtain ⟨a1, a2, a3, a4, a5, a6, a7⟩ := b3 j hj
  simp only [sA_at, sF_A]
  by_cases e : j = k
  · subst e
    rw [ups_s, ups_s, ups_s]
    refine ⟨by simp, ?_, ?_, by simp [eN], ?_, ?_, fun _ => ⟨by simp, hnP _ _ hn1⟩⟩
    · simp; exact a2
    · simp; exact a3
    · simp; exact a5
    · simp; exact a6
  · rw [ups_n _ _ e, ups_n _ _ e, ups_n _ _ e]
    refine ⟨?_, ?_, ?_, ?_, ?_, ?_, fun z => ⟨?_, hnP _ _ (a7 z).2⟩⟩
    · simp [e]; exact a1
    · simp; exact a2
    · simp; exact a3
    · simp [e]; exact a4
    · simp; exact a5
    · simp; exact a6
    · simp [e]; exact (a7 z).1
end SI
