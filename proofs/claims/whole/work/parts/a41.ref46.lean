/-! ===== the reference: whole, variables, row ===== -/
section SV
variable {f M n m : Nat} {σ σ1 : tz_S} {A : Nat → Nat → Int} {kd : Nat → Nat} {bb dr : Nat → Int} {wh : Nat → Bool} {wp wq : Nat → Int × Int} {hd : Int × Int} {ah : Bool} {Z : zS} {F : zF}
theorem rrV_wh {x : Nat} {a : Int32} (hr : rrV σ M n m A kd bb wh dr) (ha : a = 0 ∨ a = 1) : rrV (tz_sA σ (M + 5) x a) M n m A kd bb (ups wh x (decide (a ≠ 0))) dr := by
  obtain ⟨h1, h2, h3, h4, h5, h6⟩ := hr
  refine ⟨h1, fun r y u v => ?_, fun r u => ?_, fun r u => ?_, fun y u => ?_, fun y u => ?_⟩
  · rw [sA_at, if_neg (by omega)]; exact h2 r y u v
  · rw [sA_at, if_neg (by omega)]; exact h3 r u
  · rw [sA_at, if_neg (by omega)]; exact h4 r u
  · rw [sA_at]
    by_cases e : y = x
    · rw [if_pos ⟨rfl, e⟩, e, ups_s]
      rcases ha with rfl | rfl <;> decide
    · rw [if_neg (fun w => e w.2), ups_n _ _ e]; exact h5 y u
  · rw [sA_at, if_neg (by omega)]; exact h6 y u
/-- after forget -/
theorem rPo_forget {Fs As : Nat → Prop} {n2 m2 : Nat} {A2 : Nat → Nat → Int} {kd2 : Nat → Nat} {bb2 dr2 : Nat → Int} {wh2 : Nat → Bool} {y : Int32} {σ2 : tz_S} (hq : Rq M Fs As (fun _ => False) σ σ1) (hF : ¬ Fs 28) (hA : ∀ x, As x → M ≤ x ∧ x ≤ M + 20) (hq2 : Rq M fgF (fun _ => False) (fun _ => False) σ1 σ2) (hW : rvV σ M wq) (hH : rhV σ M hd ah) (hg : rgV σ2 M n2 m2 A2 kd2 bb2 wh2 dr2 Z) : rPo σ M ((n2, m2, A2, kd2, bb2, wh2, dr2), Z, wp, wq, hd, ah) y y σ2 := ⟨rfl, Fr_trans (Fr_mono hq.1 (fun x e => by rcases e with e | e | e; omega; omega; exact hA x e)) (Fr_mono hq2.1 (fun x e => by rcases e with e | e | e; omega; omega; exact e.elim)), rfV_mk hg (rvV_rq (rvV_rq hW hq (fun _ _ _ e => e)) hq2 (fun _ _ _ e => e)) (rhV_rq (rhV_rq hH hq hF (fun _ _ _ e => e)) hq2 (by unfold fgF; omega) (fun _ _ _ e => e))⟩
theorem r_whole {x a : Int32} (h : rfV σ M ((n, m, A, kd, bb, wh, dr), Z, wp, wq, hd, ah)) (ha : a = 0 ∨ a = 1) : gp (X12_whole f (some M) x a) σ (rPo σ M (mWho x a ((n, m, A, kd, bb, wh, dr), Z, wp, wq, hd, ah)).1 (mWho x a ((n, m, A, kd, bb, wh, dr), Z, wp, wq, hd, ah)).2) := by
  obtain ⟨hsl, hW, hH⟩ := rfV_un h
  obtain ⟨hc, h35, hw, -⟩ := rgV_sh hsl
  have hn := hw.1.2.2.1
  unfold X12_whole
  refine gp_cV (mh_me hc) (gp_mono (r_isVariable hc hw) ?_)
  rintro y σ0 ⟨z0, hy⟩
  rw [z0]
  clear z0 σ0
  refine gp_if (fun z => ?_) (fun z => ?_)
  · have e : mWho x a ((n, m, A, kd, bb, wh, dr), Z, wp, wq, hd, ah) = (((n, m, A, kd, bb, wh, dr), Z, wp, wq, hd, ah), -1) := if_neg (ite0 hy z)
    rw [e]
    exact gp_ret (rPo_0 h rfl)
  have hx := ite1 hy z
  have e : mWho x a ((n, m, A, kd, bb, wh, dr), Z, wp, wq, hd, ah) = (((n, m, A, kd, bb, ups wh x.toInt.toNat (decide (a ≠ 0)), dr), mForget Z, wp, wq, hd, ah), if wh x.toInt.toNat = true then 1 else 0) := if_pos hx
  rw [e]
  clear e
  obtain ⟨k, hk, hk31, hk2⟩ := i32_nat hx.1
  rw [show x.toInt.toNat = k by omega, hk]
  have hk10 : k < 10 := by omega
  refine gp_rR (mh_me hc) rfl ?_
  refine gp_aI (j := k) (mh_5 hc) (by decide) (by omega) (by omega) rfl ?_
  rw [hw.2.2.2.2.1 k hk10]
  have fin : ∀ s0 : Int32, s0 = (if wh k = true then 1 else 0) → gp (X12_whole_b24 f (some M) (nI k) a s0) σ (rPo σ M ((n, m, A, kd, bb, ups wh k (decide (a ≠ 0)), dr), mForget Z, wp, wq, hd, ah) (if wh k = true then 1 else 0)) := by
    intro s0 hs0
    rw [← hs0]
    unfold X12_whole_b24
    refine gp_rR (mh_me hc) rfl ?_
    refine gp_sZ (j := k) (mh_5 hc) (by omega) (by omega) rfl ha ?_
    have h2 : mSh (tz_sA σ (M + 5) k a) M := hc
    have q : Rq M (fun _ => False) (fun y => y = M + 5) (fun _ => False) σ (tz_sA σ (M + 5) k a) := Rq_A rfl (by omega)
    refine gp_cV (mh_me h2) (gp_mono (r_forget (Z := Z) h2 h35 (rrV_wh (x := k) hw ha)) ?_)
    rintro _ σ2 ⟨q2, g⟩
    exact gp_ret (rPo_forget q (fun e => e) (fun y e => by omega) q2 hW hH g)
  cases hwk : wh k with
  | false =>
    rw [hwk] at fin
    exact gp_t (by simp) (fin 0 (by simp))
  | true =>
    rw [hwk] at fin
    exact gp_f (by simp) (fin 1 (by simp))
theorem r_variables {v : Int32} (h : rfV σ M ((n, m, A, kd, bb, wh, dr), Z, wp, wq, hd, ah)) (hf : 2000 ≤ f) : gp (X12_variables f (some M) v) σ (rPo σ M (mVar v ((n, m, A, kd, bb, wh, dr), Z, wp, wq, hd, ah)).1 (mVar v ((n, m, A, kd, bb, wh, dr), Z, wp, wq, hd, ah)).2) := by
  obtain ⟨hsl, hW, hH⟩ := rfV_un h
  obtain ⟨hc, h35, hw, -⟩ := rgV_sh hsl
  have bad : (v.toInt < 1 ∨ 10 < v.toInt) → gp (X12_variables_b11 f) σ (rPo σ M (mVar v ((n, m, A, kd, bb, wh, dr), Z, wp, wq, hd, ah)).1 (mVar v ((n, m, A, kd, bb, wh, dr), Z, wp, wq, hd, ah)).2) := by
    intro w
    have e : mVar v ((n, m, A, kd, bb, wh, dr), Z, wp, wq, hd, ah) = (((n, m, A, kd, bb, wh, dr), Z, wp, wq, hd, ah), -1) := if_pos w
    rw [e]
    exact gp_ret (rPo_0 h rfl)
  unfold X12_variables
  refine gp_if (fun y => bad (Or.inl ((i32_c v 1).1.1 y))) (fun y => ?_)
  have y' : ¬ v.toInt < 1 := fun w => y ((i32_c v 1).1.2 w)
  refine gp_if (fun x => ?_) (fun x => ?_)
  rotate_left
  · have x' : ¬ v.toInt ≤ 10 := fun w => x ((i32_c v 10).2.2 w)
    exact bad (Or.inr (by omega))
  have x' : v.toInt ≤ 10 := (i32_c v 10).2.1 x
  have e : mVar v ((n, m, A, kd, bb, wh, dr), Z, wp, wq, hd, ah) = (((v.toInt.toNat, 0, A, kd, bb, (fun _ => false), fun _ => 0), mForget Z, wp, wq, hd, ah), v) := if_neg (by omega)
  rw [e]
  clear e bad
  obtain ⟨k, hk, hk31, hk2⟩ := i32_nat (show 0 ≤ v.toInt by omega)
  rw [show v.toInt.toNat = k by omega, hk]
  refine gp_wI (mh_me hc) rfl ?_
  refine gp_wI (mh_me hc) rfl ?_
  have q0 : Rq M (fun j => j = 0 ∨ j = 1) (fun y => y = M + 4 ∨ y = M + 5) (fun _ => False) σ (tz_sF (tz_sF σ M 0 (nI k)) M 1 0) := Rq_trans (Rq_F (Or.inl rfl)) (Rq_F (Or.inr rfl))
  have h1 : mSh (tz_sF (tz_sF σ M 0 (nI k)) M 1 0) M := hc
  have f0 : tz_F (tz_sF (tz_sF σ M 0 (nI k)) M 1 0) M 0 = nI k := (tz_u2_ne _ _ (Or.inr (by decide))).trans (tz_u2_same _ _ _ _)
  have f1 : tz_F (tz_sF (tz_sF σ M 0 (nI k)) M 1 0) M 1 = nI 0 := tz_u2_same _ _ _ _
  generalize tz_sF (tz_sF σ M 0 (nI k)) M 1 0 = σa at *
  unfold X12_variables_L25
  refine gp_loop (I := fun (τ : Int32) (σ' : tz_S) => ∃ i, τ = nI i ∧ i ≤ 10 ∧ Rq M (fun j => j = 0 ∨ j = 1) (fun y => y = M + 4 ∨ y = M + 5) (fun _ => False) σ σ' ∧ tz_F σ' M 0 = nI k ∧ tz_F σ' M 1 = nI 0 ∧ ∀ j, j < i → tz_A σ' (M + 5) j = 0 ∧ tz_A σ' (M + 4) j = 0) (fun τ _ => 100 - τ.toNatClampNeg) ?_ f _ _ ⟨0, rfl, Nat.zero_le _, q0, f0, f1, fun j hj => absurd hj (Nat.not_lt_zero _)⟩ (by omega)
  rintro K l1 σ1 ⟨i, rfl, hi, hS, g0, g1, hl⟩ hK
  show gp (X12_variables_L25_body f (some M) (nI k) (fun l1 => K l1) (nI i)) σ1 _
  unfold X12_variables_L25_body
  have h2 := mSh_fr hc hS.1
  refine gp_if (fun z => ?_) (fun z => ?_)
  · rw [show (10 : Int32) = nI 10 from rfl, nI_leI (by omega) (by omega)] at z
    have hrr : rrV σ1 M k 0 A kd bb (fun _ => false) (fun _ => 0) := ⟨⟨g0, g1, by omega, by omega⟩, fun r _ hr => absurd hr (Nat.not_lt_zero _), fun r hr => absurd hr (Nat.not_lt_zero _), fun r hr => absurd hr (Nat.not_lt_zero _), fun y hy => by rw [(hl y (by omega)).1]; rfl, fun y hy => by rw [(hl y (by omega)).2]; rfl⟩
    refine gp_cV (mh_me h2) (gp_mono (r_forget (Z := Z) h2 (by rw [hS.2.1 35 (by decide) (by decide)]; exact h35) hrr) ?_)
    rintro _ σ2 ⟨q2, g⟩
    exact gp_ret (rPo_forget hS (by decide) (fun y e => by omega) q2 hW hH g)
  rw [show (10 : Int32) = nI 10 from rfl, nI_leI (by omega) (by omega)] at z
  refine gp_rR (mh_me h2) rfl ?_
  refine gp_sZ (j := i) (mh_5 h2) (by omega) (by omega) rfl (Or.inl rfl) ?_
  have h3 : mSh (tz_sA σ1 (M + 5) i 0) M := h2
  refine gp_rR (mh_me h3) rfl ?_
  refine gp_sI (j := i) (mh_4 h3) (by decide) (by omega) (by omega) rfl ?_
  refine gp_let ?_
  rw [nI_1]
  refine hK _ _ ⟨i + 1, rfl, by omega, Rq_trans hS (Rq_trans (Rq_A (Or.inr rfl) (by omega)) (Rq_A (Or.inl rfl) (by omega))), g0, g1, fun j hj => ?_⟩ (by rw [nI_clamp (by omega), nI_clamp (by omega)]; omega)
  rw [sA_at, if_neg (by omega), sA_at, sA_at, sA_at]
  by_cases e : j = i
  · rw [if_pos ⟨rfl, e⟩, if_pos ⟨rfl, e⟩]; exact ⟨rfl, rfl⟩
  · rw [if_neg (fun w => e w.2), if_neg (fun w => e w.2), if_neg (by omega)]; exact hl j (by omega)
end SV
