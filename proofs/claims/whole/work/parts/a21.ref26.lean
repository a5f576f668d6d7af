section SB
variable {f M n : Nat} {σ σ1 : tz_S} {vr : Nat → Nat} {fo : Nat → Int} {l : List (Nat × Bool)}
theorem at_o (k : Nat) : (440000 : Int32) + 300 * nI k = nI (440000 + 300 * k) := by
  rw [show (300 : Int32) = nI 300 from rfl, nI_mul, show (440000 : Int32) = nI 440000 from rfl, nI_add]
theorem Rq_35 {As Ps : Nat → Prop} (h : Rq M (fun k => k = 35) As Ps σ σ1) (h5 : tz_F σ1 M 35 = tz_F σ M 35) : Rq M (fun _ => False) As Ps σ σ1 := ⟨h.1, fun k _ b => by
  by_cases e : k = 35
  · rw [e]; exact h5
  · exact h.2.1 k e b, h.2.2⟩
theorem take_s {i : Nat} {a : Nat × Bool} (h : l[i]? = some a) : l.take (i + 1) = l.take i ++ [a] := by
  rw [List.take_succ, h]; rfl
theorem r_tkL (h : mSh σ M) (ht : tz_F σ M 35 = nI 447200) (ho : roV σ M l fo) (hl : l.length ≤ 24) (hv : ∀ s b, (s, b) ∈ l → s < 310 ∧ tz_A σ (M + 11) s = nI (vr s) ∧ vr s < n ∧ -1000000000000000000 ≤ fo s ∧ fo s ≤ 1000000000000000000) (hn : n ≤ 10) (hb : rbV σ M n (fun _ => none) (fun _ => none)) (hf : 2000 ≤ f) :
    gp (X12_takeBounds_L23 f (some M) 0) σ (fun _ σ' => Rq M (fun _ => False) (tkA M) tkP σ σ' ∧ rbV σ' M n (fun x => fU vr fo x l none) (fun x => fL vr fo x l none)) := by
  unfold X12_takeBounds_L23
  refine gp_loop (I := fun (τ : Int32) (σ' : tz_S) => ∃ i, τ = nI i ∧ i ≤ l.length ∧ Rq M (fun k => k = 35) (tkA M) tkP σ σ' ∧ tz_F σ' M 35 = nI 447200 ∧ rbV σ' M n (fun x => fU vr fo x (l.take i) none) (fun x => fL vr fo x (l.take i) none)) (fun τ _ => 100 - τ.toNatClampNeg) ?_ f _ _ ⟨0, rfl, Nat.zero_le _, Rq_refl, ht, by simp only [List.take_zero]; exact hb⟩ (by omega)
  rintro K l1 σ1 ⟨i, rfl, hi, hS, h35, hb1⟩ hK
  show gp (X12_takeBounds_L23_body f (some M) (fun l1 => K l1) (nI i)) σ1 _
  unfold X12_takeBounds_L23_body
  have h1 := mSh_fr h hS.1
  refine gp_rI (mh_me h1) rfl ?_
  rw [hS.2.1 25 (by decide) (by decide), ho.1]
  refine gp_if (fun z => ?_) (fun z => ?_)
  · rw [nI_leI (by omega) (by omega)] at z
    have e : i = l.length := by omega
    rw [e, List.take_length] at hb1
    exact gp_ret ⟨Rq_35 hS (h35.trans ht.symm), hb1⟩
  rw [nI_leI (by omega) (by omega)] at z
  have hil : i < l.length := by omega
  obtain ⟨⟨s, b⟩, hs⟩ : ∃ a, l[i]? = some a := ⟨l[i], List.getElem?_eq_getElem hil⟩
  obtain ⟨o1, o2, o3⟩ := ho.2 i s b hs
  obtain ⟨v1, v2, v3, v4, v5⟩ := hv s b (List.mem_of_getElem? hs)
  have hA : ∀ x, x ≠ M → x ≠ M + 20 → x ≠ M + 6 → tz_A σ1 x = tz_A σ x := fun x a b c => Rq_get hS a b c
  refine gp_rR (mh_me h1) rfl ?_
  refine gp_rR (mh_me h1) rfl ?_
  refine gp_aI (j := i) (mh_16 h1) (by decide) (by omega) (by omega) rfl ?_
  rw [hA _ (by omega) (by omega) (by omega), o1]
  refine gp_aI (j := s) (mh_11 h1) (by decide) (by omega) (by omega) rfl ?_
  rw [hA _ (by omega) (by omega) (by omega), v2]
  refine gp_rR (mh_me h1) rfl ?_
  refine gp_aI (j := i) (mh_17 h1) (by decide) (by omega) (by omega) rfl ?_
  rw [hA _ (by omega) (by omega) (by omega), o2]
  obtain ⟨kf, f1, f2⟩ := nP_rq o3 hS (fun x a b c => by unfold tkP at c; omega)
  have hkf := nV_le (m := 3) f1 (by omega)
  have nxt : ∀ σ2, Rq M (fun k => k = 35) (tkA M) tkP σ1 σ2 → tz_F σ2 M 35 = nI 447200 → rbV σ2 M n (fun x => fU vr fo x (l.take (i + 1)) none) (fun x => fL vr fo x (l.take (i + 1)) none) → gp (K (nI (i + 1))) σ2 (fun _ σ' => Rq M (fun _ => False) (tkA M) tkP σ σ' ∧ rbV σ' M n (fun x => fU vr fo x l none) (fun x => fL vr fo x l none)) := fun σ2 g1 g2 g3 => hK _ _ ⟨i + 1, rfl, by omega, Rq_trans hS g1, g2, g3⟩ (by rw [nI_clamp (by omega), nI_clamp (by omega)]; omega)
  unfold X12_takeBounds_b57 X12_foundAt
  cases b with
  | true =>
    refine gp_t (if_pos rfl) ?_
    refine gp_rI (mh_me h1) rfl ?_
    rw [h35]
    refine gp_t rfl ?_
    refine gp_cB (gp_ret ?_)
    rw [at_o]
    refine r_tb0 h1 hb1 v3 hn f1 (by omega) (by omega) (by omega) hf (fun σ2 g1 g2 g3 => nxt σ2 g1 g2 (rbV_cong g3 (fun x hx => ?_) (fun x hx => ?_)))
    · rw [take_s hs, fU_app]
      show _ = if true = true ∧ vr s = x then tU (fU vr fo x (l.take i) none) (fo s) else fU vr fo x (l.take i) none
      by_cases e : x = vr s
      · rw [e, ups_s, if_pos ⟨rfl, rfl⟩]
      · rw [ups_n _ _ e, if_neg (fun w => e w.2.symm)]
    · rw [take_s hs, fL_app]
      show _ = if true = false ∧ vr s = x then tL (fL vr fo x (l.take i) none) (fo s + 1) else fL vr fo x (l.take i) none
      rw [if_neg (fun w => by cases w.1)]
  | false =>
    refine gp_f (by decide) ?_
    refine gp_rI (mh_me h1) rfl ?_
    rw [h35]
    refine gp_f (by decide) ?_
    refine gp_cB (gp_ret ?_)
    rw [at_o]
    refine gp_cV (mh_me h1) (gp_mono (r_plainOf (v := 1) h1 h35 (by decide) (by omega) hf) ?_)
    rintro _ σ2 ⟨rfl, hP2, k2, hk2, h352, hv2⟩
    have h2 := mSh_fr h1 hP2.1
    refine gp_cV (mh_me h2) (gp_mono (r_plus h2 h352 (nV_pq f1 hP2 (Or.inl (by omega))) hv2 (by omega) (by omega) (by omega) (by omega) (by omega) hf) ?_)
    rintro _ σ3 ⟨rfl, hP3, k3, hk3, h353, hv3⟩
    have h3 := mSh_fr h2 hP3.1
    have q3 : Rq M (fun k => k = 35) (tkA M) tkP σ1 σ3 := Rq_trans (Rq_pq hP2 rfl (fun j a b c => by omega)) (Rq_pq hP3 rfl (fun j a b c => by omega))
    have hb3 : rbV σ3 M n (fun x => fU vr fo x (l.take i) none) (fun x => fL vr fo x (l.take i) none) := fun x hx => by
      obtain ⟨c1, c2, c3, c4⟩ := hb1 x hx
      have hA3 : tz_A σ3 (M + 6) = tz_A σ1 (M + 6) := (Fr_A hP3.1 (by omega)).trans (Fr_A hP2.1 (by omega))
      exact ⟨by rw [hA3]; exact c1, by rw [hA3]; exact c2, fun v e => nP_pq (nP_pq (c3 v e) hP2 (by omega)) hP3 (by omega), fun v e => nP_pq (nP_pq (c4 v e) hP2 (by omega)) hP3 (by omega)⟩
    refine r_tb1 h3 hb3 v3 hn hv3 (by omega) (by omega) (by omega) hf (fun σ4 g1 g2 g3 => nxt σ4 (Rq_trans q3 g1) g2 (rbV_cong g3 (fun x hx => ?_) (fun x hx => ?_)))
    · rw [take_s hs, fU_app]
      show _ = if false = true ∧ vr s = x then tU (fU vr fo x (l.take i) none) (fo s) else fU vr fo x (l.take i) none
      rw [if_neg (fun w => by cases w.1)]
    · rw [take_s hs, fL_app]
      show _ = if false = false ∧ vr s = x then tL (fL vr fo x (l.take i) none) (fo s + 1) else fL vr fo x (l.take i) none
      by_cases e : x = vr s
      · rw [e, ups_s, if_pos ⟨rfl, rfl⟩]; rfl
      · rw [ups_n _ _ e, if_neg (fun w => e w.2.symm)]
theorem r_takeBounds (h : mSh σ M) (ht : tz_F σ M 35 = nI 447200) (ho : roV σ M l fo) (hl : l.length ≤ 24) (hv : ∀ s b, (s, b) ∈ l → s < 310 ∧ tz_A σ (M + 11) s = nI (vr s) ∧ vr s < n ∧ -1000000000000000000 ≤ fo s ∧ fo s ≤ 1000000000000000000) (hn : n ≤ 10) (hf : 2000 ≤ f) :
    gp (X12_takeBounds f (some M)) σ (fun _ σ' => Rq M (fun _ => False) (tkA M) tkP σ σ' ∧ rbV σ' M n (fun x => fU vr fo x l none) (fun x => fL vr fo x l none)) := by
  unfold X12_takeBounds X12_takeBounds_L2
  refine gp_loop (I := fun (τ : Int32) (σ' : tz_S) => ∃ i, τ = nI i ∧ i ≤ 20 ∧ Rq M (fun _ => False) (tkA M) tkP σ σ' ∧ ∀ j, j < i → tz_A σ' (M + 6) j = 0) (fun τ _ => 100 - τ.toNatClampNeg) ?_ f _ _ ⟨0, rfl, Nat.zero_le _, Rq_refl, fun j hj => absurd hj (Nat.not_lt_zero _)⟩ (by omega)
  rintro K l1 σ1 ⟨i, rfl, hi, hS, hz⟩ hK
  show gp (X12_takeBounds_L2_body f (some M) (fun l1 => K l1) (nI i)) σ1 _
  unfold X12_takeBounds_L2_body
  have h1 := mSh_fr h hS.1
  refine gp_if (fun z => ?_) (fun z => ?_)
  · rw [show (20 : Int32) = nI 20 from rfl, nI_leI (by omega) (by omega)] at z
    refine gp_mono (r_tkL (vr := vr) h1 (by rw [hS.2.1 35 (fun e => e) (by decide)]; exact ht) (roV_rq ho hS (fun e => e) (by unfold tkA; omega) (by unfold tkA; omega) (fun _ _ _ e => by unfold tkP at e; omega) hl) hl (fun s b hm => ?_) hn (fun x hx => ⟨?_, ?_, fun v e => (by cases e), fun v e => (by cases e)⟩) hf) ?_
    · obtain ⟨q1, q2, q3⟩ := hv s b hm
      exact ⟨q1, by rw [Rq_get hS (by omega) (by omega) (by unfold tkA; omega)]; exact q2, q3⟩
    · exact hz _ (by omega)
    · exact hz _ (by omega)
    · rintro _ σ2 ⟨g1, g2⟩
      exact ⟨Rq_trans hS g1, g2⟩
  rw [show (20 : Int32) = nI 20 from rfl, nI_leI (by omega) (by omega)] at z
  refine gp_rR (mh_me h1) rfl ?_
  refine gp_sZ (j := i) (mh_6 h1) (by omega) (by omega) rfl (Or.inl rfl) ?_
  refine gp_let ?_
  rw [nI_1]
  refine hK _ _ ⟨i + 1, rfl, by omega, Rq_trans hS (Rq_A rfl (by omega)), fun j hj => ?_⟩ (by rw [nI_clamp (by omega), nI_clamp (by omega)]; omega)
  rw [sA_at]
  by_cases e : j = i
  · rw [if_pos ⟨rfl, e⟩]
  · rw [if_neg (fun w => e w.2)]; exact hz j (by omega)
end SB
