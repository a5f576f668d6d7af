/-! ===== the reference: newNode, whole ===== -/
section RY
variable {f M K lc : Nat} {σ σ1 : tz_S} {up fi se : Nat → Option Nat} {vr : Nat → Nat} {to : Nat → Int} {cd : Nat → Bool} {ln : Nat → Nat} {mq : Nat → Nat → Int × Int} {u : Option Nat}
theorem sA_at (σ : tz_S) (a k : Nat) (v : Int32) (x j : Nat) : tz_A (tz_sA σ a k v) x j = if x = a ∧ j = k then v else tz_A σ x j := by
  show tz_u2 (tz_A σ) a k v x j = _
  by_cases z : x = a ∧ j = k
  · rw [if_pos z, z.1, z.2, tz_u2_same]
  · rw [if_neg z]
    by_cases e : x = a
    · exact tz_u2_ne _ _ (Or.inr (fun e2 => z ⟨e, e2⟩))
    · exact tz_u2_ne _ _ (Or.inl e)
theorem sF_at (σ : tz_S) (a k : Nat) (v : Int32) (x j : Nat) : tz_F (tz_sF σ a k v) x j = if x = a ∧ j = k then v else tz_F σ x j := by
  show tz_u2 (tz_F σ) a k v x j = _
  by_cases z : x = a ∧ j = k
  · rw [if_pos z, z.1, z.2, tz_u2_same]
  · rw [if_neg z]
    by_cases e : x = a
    · exact tz_u2_ne _ _ (Or.inr (fun e2 => z ⟨e, e2⟩))
    · exact tz_u2_ne _ _ (Or.inl e)
theorem sF_A (σ : tz_S) (a k : Nat) (v : Int32) : tz_A (tz_sF σ a k v) = tz_A σ := rfl
theorem sA_F (σ : tz_S) (a k : Nat) (v : Int32) : tz_F (tz_sA σ a k v) = tz_F σ := rfl
def nnA (M x : Nat) : Prop := x = M + 9 ∨ x = M + 10 ∨ x = M + 12 ∨ x = M + 13 ∨ x = M + 14 ∨ x = M + 15
/-- the cells of a new node -/
def nnS (σ : tz_S) (M K lc : Nat) (fr : Int32) : tz_S := tz_sF (tz_sA (tz_sA (tz_sA (tz_sA (tz_sA (tz_sA (tz_sF σ M 15 (nI (K + 1))) (M + 9) K 0) (M + 10) K 0) (M + 12) K (-2)) (M + 13) K (-2)) (M + 14) K fr) (M + 15) K (nI lc)) M 23 (nI (lc + 1))
theorem nnS_rq {fr : Int32} {Ps : Nat → Prop} : Rq M (fun k => k = 15 ∨ k = 23) (nnA M) Ps σ (nnS σ M K lc fr) := by
  unfold nnS
  refine Rq_trans (Rq_trans (Rq_trans (Rq_trans (Rq_trans (Rq_trans (Rq_trans (Rq_F (Or.inl rfl)) (Rq_A ?_ (by omega))) (Rq_A ?_ (by omega))) (Rq_A ?_ (by omega))) (Rq_A ?_ (by omega))) (Rq_A ?_ (by omega))) (Rq_A ?_ (by omega))) (Rq_F (Or.inr rfl)) <;> unfold nnA <;> omega
set_option maxHeartbeats 1000000 in
theorem nnS_rk (hk : rkV σ M K lc up fi se vr to cd ln) (hK : K < 310) : rkV (nnS σ M K lc (eN u)) M (K + 1) (lc + 1) (ups up K u) (ups fi K none) (ups se K none) vr to (ups cd K false) (ups ln K lc) := by
  obtain ⟨⟨b1, b2⟩, b3⟩ := hk
  refine ⟨⟨?_, ?_⟩, fun j hj => ?_⟩
  · unfold nnS
    simp [sF_at, sA_F]
  · unfold nnS
    simp [sF_at]
  by_cases e : j = K
  · rw [e]
    unfold nnS
    rw [sF_A]
    simp only [sA_at, sF_A, ups_s]
    refine ⟨?_, ?_, ?_, ?_, ?_, ?_, fun q => absurd rfl q⟩ <;> simp [eN]
  · obtain ⟨a1, a2, a3, a4, a5, a6, a7⟩ := b3 j (by omega)
    rw [ups_n _ _ e, ups_n _ _ e, ups_n _ _ e, ups_n _ _ e, ups_n _ _ e]
    refine ⟨?_, ?_, ?_, ?_, ?_, ?_, fun q => ⟨?_, nP_rq (a7 q).2 (nnS_rq (Ps := fun _ => False)) (fun _ _ _ w => w)⟩⟩
    · rw [← a1]; unfold nnS; rw [sF_A]; simp only [sA_at, sF_A]; simp [e]
    · rw [← a2]; unfold nnS; rw [sF_A]; simp only [sA_at, sF_A]; simp [e]
    · rw [← a3]; unfold nnS; rw [sF_A]; simp only [sA_at, sF_A]; simp [e]
    · rw [← a4]; unfold nnS; rw [sF_A]; simp only [sA_at, sF_A]; simp [e]
    · rw [← a5]; unfold nnS; rw [sF_A]; simp only [sA_at, sF_A]; simp [e]
    · rw [← a6]; unfold nnS; rw [sF_A]; simp only [sA_at, sF_A]; simp [e]
    · rw [← (a7 q).1]; unfold nnS; rw [sF_A]; simp only [sA_at, sF_A]; simp
set_option maxHeartbeats 1000000 in
theorem r_newNode (h : mSh σ M) (ht : tz_F σ M 35 = nI 447200) (hk : rkV σ M K lc up fi se vr to cd ln) (hm : rmV σ M lc mq) (hK : K < 310) (hl : lc < 152) (hf : 2000 ≤ f) :
    gp (X12_newNode f (some M) (eN u)) σ (fun y σ' => y = nI K ∧ Rq M (fun k => k = 15 ∨ k = 23) (nnA M) (fun i => 116056 ≤ i ∧ i < 440000) σ σ' ∧ rkV σ' M (K + 1) (lc + 1) (ups up K u) (ups fi K none) (ups se K none) vr to (ups cd K false) (ups ln K lc) ∧ rmV σ' M (lc + 1) (ups mq lc (fun _ => (0, 1)))) := by
  have h15 := hk.1.1
  have h23 := hk.1.2
  have nk := nnS_rk (u := u) hk hK
  have nr := nnS_rq (σ := σ) (M := M) (K := K) (lc := lc) (fr := eN u) (Ps := fun _ => False)
  have n15 : tz_A (nnS σ M K lc (eN u)) (M + 15) K = nI lc := by
    unfold nnS; rw [sF_A, sA_at]; exact if_pos ⟨rfl, rfl⟩
  have hg : ∀ Q, gp (X12_newNode_L78 f (some M) (nI K) 0) (nnS σ M K lc (eN u)) Q → gp (X12_newNode f (some M) (eN u)) σ Q := by
    intro Q hq
    unfold X12_newNode
    refine gp_rI (mh_me h) rfl ?_
    refine gp_rI (mh_me h) rfl ?_
    rw [h15, nI_1]
    refine gp_wI (mh_me h) rfl ?_
    refine gp_rR (mh_me h) rfl ?_
    refine gp_sZ (j := K) (mh_9 h) hK (by omega) rfl (Or.inl rfl) ?_
    refine gp_rR (mh_me h) rfl ?_
    refine gp_sZ (j := K) (mh_10 h) hK (by omega) rfl (Or.inl rfl) ?_
    refine gp_rR (mh_me h) rfl ?_
    refine gp_sI (j := K) (mh_12 h) (by decide) hK (by omega) rfl ?_
    refine gp_rR (mh_me h) rfl ?_
    refine gp_sI (j := K) (mh_13 h) (by decide) hK (by omega) rfl ?_
    refine gp_rR (mh_me h) rfl ?_
    refine gp_sI (j := K) (mh_14 h) (by decide) hK (by omega) rfl ?_
    refine gp_rR (mh_me h) rfl ?_
    refine gp_rI (mh_me h) rfl ?_
    have e23 : tz_F (tz_sF σ M 15 (nI (K + 1))) M 23 = nI lc := by
      show tz_u2 (tz_F σ) M 15 _ M 23 = _
      rw [tz_u2_ne _ _ (Or.inr (by decide))]; exact h23
    simp only [sA_F]
    rw [e23]
    refine gp_rmI (by decide) ?_
    rw [rm_152 hl]
    refine gp_sI (j := K) (mh_15 h) (by decide) hK (by omega) rfl ?_
    refine gp_rI (mh_me h) rfl ?_
    simp only [sA_F]
    rw [e23, nI_1]
    refine gp_wI (mh_me h) rfl ?_
    exact hq
  refine hg _ (gp_mono (r_newL (lc := lc) (mSh_fr h nr.1) ?_ hK n15 hl hf) ?_)
  · rw [nr.2.1 35 (by decide) (by decide)]; exact ht
  rintro _ σ2 ⟨rfl, q1, q2⟩
  refine ⟨rfl, ?_, ?_, ?_⟩
  · exact Rq_trans (Rq_mono nr (fun _ e => e) (fun _ e => e) (fun _ e => e.elim)) (Rq_mono q1 (fun _ e => e.elim) (fun _ e => e.elim) (fun x e => by unfold lvP at e; omega))
  · exact rkV_rq nk q1 (fun e => e) (fun e => e) (fun _ _ _ e => e) (fun i a b e => by unfold lvP at e; omega) (by omega)
  · intro i j hi hj
    by_cases e : i = lc
    · rw [e, ups_s]; exact q2 j hj
    · rw [ups_n _ _ e]
      obtain ⟨g1, g2⟩ := hm i j (by omega) hj
      exact ⟨nP_rq (nP_rq g1 nr (fun _ _ _ w => w)) q1 (fun x a b w => by unfold lvP at w; omega), nP_rq (nP_rq g2 nr (fun _ _ _ w => w)) q1 (fun x a b w => by unfold lvP at w; omega)⟩
end RY
