/-! ===== the reference: row ===== -/
section SW
variable {f M n m : Nat} {σ σ1 : tz_S} {A : Nat → Nat → Int} {kd : Nat → Nat} {bb dr : Nat → Int} {wh : Nat → Bool} {wp wq : Nat → Int × Int} {hd : Int × Int} {ah : Bool} {Z : zS} {F : zF}
set_option maxHeartbeats 1000000 in
theorem r_row {k b : Int32} (h : rfV σ M ((n, m, A, kd, bb, wh, dr), Z, wp, wq, hd, ah)) (hf : 2000 ≤ f) : gp (X12_row f (some M) k b) σ (rPo σ M (mRow k b ((n, m, A, kd, bb, wh, dr), Z, wp, wq, hd, ah)).1 (mRow k b ((n, m, A, kd, bb, wh, dr), Z, wp, wq, hd, ah)).2) := by
  obtain ⟨hsl, hW, hH⟩ := rfV_un h
  obtain ⟨hc, h35, hw, -⟩ := rgV_sh hsl
  obtain ⟨⟨w0, w1, hn, hm⟩, w2, w3, w4, w5, w6⟩ := id hw
  have bad : ¬ ((n ≠ 0 ∧ m < 12) ∧ (0 ≤ k.toInt ∧ k.toInt ≤ 2) ∧ -1000000 ≤ b.toInt ∧ b.toInt ≤ 1000000) → gp (X12_row_b34 f) σ (rPo σ M (mRow k b ((n, m, A, kd, bb, wh, dr), Z, wp, wq, hd, ah)).1 (mRow k b ((n, m, A, kd, bb, wh, dr), Z, wp, wq, hd, ah)).2) := by
    intro w
    have e : mRow k b ((n, m, A, kd, bb, wh, dr), Z, wp, wq, hd, ah) = (((n, m, A, kd, bb, wh, dr), Z, wp, wq, hd, ah), -1) := if_neg w
    rw [e]
    exact gp_ret (rPo_0 h rfl)
  unfold X12_row
  refine gp_rI (mh_me hc) rfl ?_
  rw [w0]
  refine gp_if (fun z => ?_) (fun z => ?_)
  · rw [show (0 : Int32) = nI 0 from rfl, nI_eq (by omega) (by omega)] at z
    exact bad (by omega)
  rw [show (0 : Int32) = nI 0 from rfl, nI_eq (by omega) (by omega)] at z
  refine gp_if (fun y => bad (by have := (i32_c k 0).1.1 y; have e : (0 : Int32).toInt = 0 := rfl; omega)) (fun y => ?_)
  have y' : ¬ k.toInt < 0 := fun w => y ((i32_c k 0).1.2 w)
  refine gp_if (fun x => bad (by have := (i32_c 2 k).1.1 x; have e : (2 : Int32).toInt = 2 := rfl; omega)) (fun x => ?_)
  have x' : ¬ 2 < k.toInt := fun w => x ((i32_c 2 k).1.2 w)
  refine gp_cB (gp_mono (r_within (W := 1000000) (by decide) (by decide)) ?_)
  rintro y2 σ0 ⟨z0, hy2⟩
  rw [z0]
  clear z0 σ0
  refine gp_if (fun t => bad (fun w => ite0 hy2 t w.2.2)) (fun t => ?_)
  have hb := ite1 hy2 t
  refine gp_rI (mh_me hc) rfl ?_
  rw [w1]
  refine gp_if (fun u => ?_) (fun u => ?_)
  · rw [show (12 : Int32) = nI 12 from rfl, nI_eq (by omega) (by omega)] at u
    exact bad (by omega)
  rw [show (12 : Int32) = nI 12 from rfl, nI_eq (by omega) (by omega)] at u
  have hm12 : m < 12 := by omega
  have e : mRow k b ((n, m, A, kd, bb, wh, dr), Z, wp, wq, hd, ah) = (((n, m + 1, (fun r x => if r = m then dr x else A r x), (fun r => if r = m then k.toInt.toNat else kd r), (fun r => if r = m then b.toInt else bb r), wh, fun _ => 0), mForget Z, wp, wq, hd, ah), nI m) := if_pos ⟨⟨z, hm12⟩, by omega, hb⟩
  rw [e]
  clear e bad
  obtain ⟨kk, hk, hk31, hk2⟩ := i32_nat (show 0 ≤ k.toInt by omega)
  rw [show k.toInt.toNat = kk by omega, hk]
  unfold X12_row_L38
  refine gp_loop (I := fun (τ : Int32) (σ' : tz_S) => ∃ i, τ = nI i ∧ i ≤ 10 ∧ Rq M (fun j => j = 1) (fun y => M + 1 ≤ y ∧ y ≤ M + 4) (fun _ => False) σ σ' ∧ tz_F σ' M 1 = nI m ∧ (∀ j, tz_A σ' (M + 4) j = if j < i then 0 else tz_A σ (M + 4) j) ∧ (∀ j, tz_A σ' (M + 1) j = if 10 * m ≤ j ∧ j < 10 * m + i then tz_A σ (M + 4) (j - 10 * m) else tz_A σ (M + 1) j) ∧ tz_A σ' (M + 2) = tz_A σ (M + 2) ∧ tz_A σ' (M + 3) = tz_A σ (M + 3)) (fun τ _ => 100 - τ.toNatClampNeg) ?_ f _ _ ⟨0, rfl, Nat.zero_le _, Rq_refl, w1, fun j => by rw [if_neg (by omega)], fun j => by rw [if_neg (by omega)], rfl, rfl⟩ (by omega)
  rintro K l1 σ1 ⟨i, rfl, hi, hS, g1, g4, gA, g2, g3⟩ hK
  show gp (X12_row_L38_body f (some M) (nI kk) b (fun l1 => K l1) (nI i)) σ1 _
  unfold X12_row_L38_body
  have h2 := mSh_fr hc hS.1
  refine gp_if (fun z => ?_) (fun z => ?_)
  · rw [show (10 : Int32) = nI 10 from rfl, nI_leI (by omega) (by omega)] at z
    have ei : i = 10 := by omega
    subst ei
    refine gp_rR (mh_me h2) rfl ?_
    refine gp_rI (mh_me h2) rfl ?_
    rw [g1]
    refine gp_sI (j := m) (mh_2 h2) (by decide) hm12 (by omega) rfl ?_
    have h3 : mSh (tz_sA σ1 (M + 2) m (nI kk)) M := h2
    refine gp_rR (mh_me h3) rfl ?_
    refine gp_rI (mh_me h3) rfl ?_
    rw [show tz_F (tz_sA σ1 (M + 2) m (nI kk)) M 1 = nI m from g1]
    refine gp_sI (j := m) (mh_3 h3) (by decide) hm12 (by omega) rfl ?_
    have h4 : mSh (tz_sA (tz_sA σ1 (M + 2) m (nI kk)) (M + 3) m b) M := h2
    refine gp_rI (mh_me h4) rfl ?_
    rw [show tz_F (tz_sA (tz_sA σ1 (M + 2) m (nI kk)) (M + 3) m b) M 1 = nI m from g1, nI_1]
    refine gp_wI (mh_me h4) rfl ?_
    have q5 : Rq M (fun j => j = 1) (fun y => M + 1 ≤ y ∧ y ≤ M + 4) (fun _ => False) σ (tz_sF (tz_sA (tz_sA σ1 (M + 2) m (nI kk)) (M + 3) m b) M 1 (nI (m + 1))) := Rq_trans hS (Rq_trans (Rq_trans (Rq_A (by omega) (by omega)) (Rq_A (by omega) (by omega))) (Rq_F rfl))
    have h5 : mSh (tz_sF (tz_sA (tz_sA σ1 (M + 2) m (nI kk)) (M + 3) m b) M 1 (nI (m + 1))) M := h2
    have f1 : tz_F (tz_sF (tz_sA (tz_sA σ1 (M + 2) m (nI kk)) (M + 3) m b) M 1 (nI (m + 1))) M 1 = nI (m + 1) := tz_u2_same _ _ _ _
    have hrr : rrV (tz_sF (tz_sA (tz_sA σ1 (M + 2) m (nI kk)) (M + 3) m b) M 1 (nI (m + 1))) M n (m + 1) (fun r x => if r = m then dr x else A r x) (fun r => if r = m then kk else kd r) (fun r => if r = m then b.toInt else bb r) wh (fun _ => 0) := by
      refine ⟨⟨by rw [q5.2.1 0 (by decide) (by decide)]; exact w0, f1, hn, by omega⟩, fun r x hr hx => ?_, fun r hr => ?_, fun r hr => ?_, fun y hy => ?_, fun y hy => ?_⟩
      · show _ = if r = m then dr x else A r x
        rw [sF_A, sA_at, if_neg (by omega), sA_at, if_neg (by omega), gA]
        by_cases e : r = m
        · rw [if_pos (by omega), if_pos e, e, show 10 * m + x - 10 * m = x by omega]
          exact w6 x hx
        · rw [if_neg (by omega), if_neg e]
          exact w2 r x (by omega) hx
      · show _ = nI (if r = m then kk else kd r) ∧ (if r = m then kk else kd r) ≤ 2
        rw [sF_A, sA_at, if_neg (by omega), sA_at, g2]
        by_cases e : r = m
        · rw [if_pos ⟨rfl, e⟩, if_pos e]; exact ⟨rfl, by omega⟩
        · rw [if_neg (fun w => e w.2), if_neg e]; exact w3 r (by omega)
      · show _ = if r = m then b.toInt else bb r
        rw [sF_A, sA_at]
        by_cases e : r = m
        · rw [if_pos ⟨rfl, e⟩, if_pos e]
        · rw [if_neg (fun w => e w.2), if_neg e, sA_at, if_neg (by omega), g3]; exact w4 r (by omega)
      · rw [Rq_get q5 (by omega) (by omega) (by omega)]; exact w5 y hy
      · rw [sF_A, sA_at, if_neg (by omega), sA_at, if_neg (by omega), g4, if_pos hy]; rfl
    generalize tz_sF (tz_sA (tz_sA σ1 (M + 2) m (nI kk)) (M + 3) m b) M 1 (nI (m + 1)) = σ5 at *
    refine gp_cV (mh_me h5) (gp_mono (r_forget (Z := Z) h5 (by rw [q5.2.1 35 (by decide) (by decide)]; exact h35) hrr) ?_)
    rintro _ σ6 ⟨q6, g⟩
    refine gp_rI (mh_me (mSh_fr h5 q6.1)) rfl ?_
    rw [q6.2.1 1 (by unfold fgF; omega) (by decide), f1, nI_p1]
    exact gp_ret (rPo_forget q5 (by decide) (fun y e => by omega) q6 hW hH g)
  rw [show (10 : Int32) = nI 10 from rfl, nI_leI (by omega) (by omega)] at z
  refine gp_rR (mh_me h2) rfl ?_
  refine gp_rI (mh_me h2) rfl ?_
  rw [g1]
  refine gp_rR (mh_me h2) rfl ?_
  refine gp_aI (j := i) (mh_4 h2) (by decide) (by omega) (by omega) rfl ?_
  rw [g4, if_neg (by omega)]
  refine gp_sI (j := 10 * m + i) (mh_1 h2) (by decide) (by omega) (by omega) (by rw [show (10 : Int32) = nI 10 from rfl, nI_mul, nI_add]) ?_
  have h3 : mSh (tz_sA σ1 (M + 1) (10 * m + i) (tz_A σ (M + 4) i)) M := h2
  refine gp_rR (mh_me h3) rfl ?_
  refine gp_sI (j := i) (mh_4 h3) (by decide) (by omega) (by omega) rfl ?_
  refine gp_let ?_
  rw [nI_1]
  refine hK _ _ ⟨i + 1, rfl, by omega, Rq_trans hS (Rq_trans (Rq_A (by omega) (by omega)) (Rq_A (by omega) (by omega))), g1, fun j => ?_, fun j => ?_, ?_, ?_⟩ (by rw [nI_clamp (by omega), nI_clamp (by omega)]; omega)
  · rw [sA_at, sA_at, if_neg (show ¬ (M + 4 = M + 1 ∧ j = 10 * m + i) by omega), g4]
    by_cases e : j = i
    · rw [if_pos ⟨rfl, e⟩, if_pos (by omega)]
    · rw [if_neg (fun w => e w.2)]
      by_cases e2 : j < i
      · rw [if_pos e2, if_pos (by omega)]
      · rw [if_neg e2, if_neg (by omega)]
  · rw [sA_at, if_neg (show ¬ (M + 1 = M + 4 ∧ j = i) by omega), sA_at, gA]
    by_cases e : j = 10 * m + i
    · rw [if_pos ⟨rfl, e⟩, if_pos (by omega), e, show 10 * m + i - 10 * m = i by omega]
    · rw [if_neg (fun w => e w.2)]
      by_cases e2 : 10 * m ≤ j ∧ j < 10 * m + i
      · rw [if_pos e2, if_pos (by omega)]
      · rw [if_neg e2, if_neg (by omega)]
  · rw [← g2]; funext j; rw [sA_at, if_neg (by omega), sA_at, if_neg (by omega)]
  · rw [← g3]; funext j; rw [sA_at, if_neg (by omega), sA_at, if_neg (by omega)]
end SW
