/-! ===== the solver is made: witnesses, all; printed by wip/whole/genmk3.py ===== -/
def CE (σ : tz_S) (o : Nat) (ks : Nat → Option tz_K) (fs : Nat → Nat → Int32) (rs : Nat → Nat → Option Nat) : Prop := ∀ i, i < 342 → tz_sh σ (o + i) = ks i ∧ tz_F σ (o + i) = fs i ∧ tz_A σ (o + i) = (fun _ => 0) ∧ tz_L σ (o + i) = (fun _ => 0) ∧ tz_R σ (o + i) = rs i
section UA
variable {f o S a b : Nat} {σ0 σ σ1 : tz_S} {ks ks1 : Nat → Option tz_K} {fs : Nat → Nat → Int32} {rs : Nat → Nat → Option Nat} {Q : Unit → tz_S → Prop} {v0 va : Option tz_K}
theorem kc_step (hC : ∀ i, 1 ≤ i → i < a → ks i = kC o i) (old : ∀ i, i < a → ks1 i = ups ks a va i) (new : ∀ i, a ≤ i → i < b → ks1 i = kC o i) : ∀ i, 1 ≤ i → i < b → ups ks1 0 v0 i = kC o i := fun i h1 h2 => by
  rw [ups_n _ _ (by omega)]
  by_cases e : i < a
  · rw [old i e, ups_n _ _ (by omega)]
    exact hC i h1 e
  · exact new i (by omega) h2
theorem CE_gr {P : Nat → Prop} (h : CE σ o ks fs rs) (hg : Gr P σ σ1) (hn : o + 342 ≤ tz_nc σ) (hP : ∀ i, i < 342 → ¬ P (o + i)) : CE σ1 o ks fs rs := fun i hi => by
  obtain ⟨a1, a2, a3, a4, a5⟩ := h i hi
  obtain ⟨b1, b2⟩ := hg.2.2 (o + i) (by omega)
  obtain ⟨c1, c2, c3, c4⟩ := b2 (hP i hi)
  exact ⟨b1.trans a1, c1.trans a2, c2.trans a3, c3.trans a4, c4.trans a5⟩
theorem Bz_sS {x n c : Nat} {v : Int} {k : tz_K} (h : Bz σ x n v) (h1 : x ≠ c) (h2 : x + 1 ≠ c) : Bz (tz_sS σ c k) x n v := by
  obtain ⟨j, q1, q2, q3, q4⟩ := h
  exact ⟨j, bSh_gr q1 (sS_shn h1) (sS_shn h2), q2, q3, q4⟩
theorem Fz_sS {x n c : Nat} {p q : Int} {k : tz_K} (h : Fz σ x n p q) (hc : c < x ∨ x + 4 < c) : Fz (tz_sS σ c k) x n p q := ⟨(sS_shn (by omega)).trans h.1, Bz_sS h.2.1 (by omega) (by omega), Bz_sS h.2.2 (by omega) (by omega)⟩
set_option maxHeartbeats 2000000 in
theorem mk_wit {lay : List (Option (Option Nat))} (hG : Gr noP σ0 σ) (hb : tz_nc σ0 ≤ o) (hC : CE σ o ks fs rs) (h0 : ks 0 = some (.inl (11, lay))) (hl : lay[7]? = some (some (some (o + 341)))) (h341 : ks 341 = some (.inr (4, 10))) (hr3 : rs 341 = fun _ => none) (hn : tz_nc σ = o + 347) (hs : tz_ns σ = S) (hh : Fz σ (o + 342) 12 0 1) (hff : 2000 ≤ f) (hK : ∀ σ1, Gr noP σ0 σ1 → CE σ1 o ks fs (ups rs 341 (fun j => if j < 10 then some (o + 347 + 5 * j) else none)) → tz_nc σ1 = o + 397 → tz_ns σ1 = S + 320 → Fz σ1 (o + 342) 12 0 1 → (∀ x, x < 10 → Fz σ1 (o + 347 + 5 * x) 12 0 1) → Q () σ1) : gp (X11_init_L141 f (some o) 0) σ Q := by
  unfold X11_init_L141
  refine gp_loop (I := fun (τ : Int32) (σ' : tz_S) => ∃ i, τ = nI i ∧ i ≤ 10 ∧ Gr noP σ0 σ' ∧ CE σ' o ks fs (ups rs 341 (fun j => if j < i then some (o + 347 + 5 * j) else none)) ∧ tz_nc σ' = o + 347 + 5 * i ∧ tz_ns σ' = S + 32 * i ∧ Fz σ' (o + 342) 12 0 1 ∧ ∀ x, x < i → Fz σ' (o + 347 + 5 * x) 12 0 1) (fun τ _ => 100 - τ.toNatClampNeg) ?_ f _ _ ⟨0, rfl, Nat.zero_le _, hG, ?_, hn, hs, hh, fun x hx => absurd hx (Nat.not_lt_zero _)⟩ (by omega)
  rotate_left
  · intro i hi
    obtain ⟨a1, a2, a3, a4, a5⟩ := hC i hi
    refine ⟨a1, a2, a3, a4, ?_⟩
    rw [a5]
    by_cases e : i = 341
    · rw [e, ups_s, hr3]
      funext j
      rw [if_neg (by omega)]
    · rw [ups_n _ _ e]
  rintro Kx l1 σ2 ⟨i, rfl, hi, G2, C2, n2, s2, f2, w2⟩ hKx
  show gp (X11_init_L141_body f (some o) (fun l1 => Kx l1) (nI i)) σ2 Q
  have s0 : tz_sh σ2 o = some (.inl (11, lay)) := (C2 0 (by decide)).1.trans h0
  have s341 : tz_sh σ2 (o + 341) = some (.inr (4, 10)) := (C2 341 (by decide)).1.trans h341
  unfold X11_init_L141_body
  refine gp_rR s0 hl ?_
  refine gp_len s341 ?_
  refine gp_if (fun z => ?_) (fun z => ?_)
  · rw [nI_leI (by omega) (by omega)] at z
    have hin : i = 10 := by omega
    subst hin
    exact gp_ret (hK σ2 G2 C2 n2 s2 f2 w2)
  rw [nI_leI (by omega) (by omega)] at z
  refine gp_rR s0 hl ?_
  refine gp_newFr (n := 12) hff (by decide) (by decide) rfl ?_
  rintro σ5 G5 c5 d5 b5
  rw [n2] at c5 b5 ⊢
  have s341' : tz_sh σ5 (o + 341) = some (.inr (4, 10)) := (G5.2.2 _ (by omega)).1.trans s341
  refine gp_sR (j := i) s341' (by decide) b5.1 (by omega) (by omega) rfl ?_
  refine gp_let ?_
  rw [nI_1]
  have C5 := CE_gr C2 G5 (by omega) (fun _ _ w => w)
  have gs : Gr (fun x => x = o + 341) σ5 (tz_sR σ5 (o + 341) i (some (o + 347 + 5 * i))) := Gr_sR rfl
  refine hKx (nI (i + 1)) _ ⟨i + 1, rfl, by omega, Gr_sRn (Gr_trans G2 G5) (Or.inr (by omega)), ?_, by show tz_nc σ5 = _; omega, by show tz_ns σ5 = _; omega, Fz_gro (Fz_gro f2 G5 (by omega) (fun _ _ _ w => w)) gs (by omega) (fun x c d => by omega), fun x hx => ?_⟩ (by rw [nI_clamp (by omega), nI_clamp (by omega)]; omega)
  · intro x hx
    obtain ⟨a1, a2, a3, a4, a5⟩ := C5 x hx
    refine ⟨a1, a2, a3, a4, ?_⟩
    show tz_u2 (tz_R σ5) (o + 341) i (some (o + 347 + 5 * i)) (o + x) = _
    funext j
    by_cases t1 : x = 341
    · subst t1
      rw [ups_s]
      by_cases t2 : j = i
      · rw [t2, tz_u2_same, if_pos (by omega)]
      · rw [tz_u2_ne _ _ (Or.inr t2), a5, ups_s]
        by_cases t3 : j < i
        · rw [if_pos t3, if_pos (by omega)]
        · rw [if_neg t3, if_neg (by omega)]
    · rw [ups_n _ _ t1, tz_u2_ne _ _ (Or.inl (by omega)), a5, ups_n _ _ t1]
  · by_cases t1 : x = i
    · rw [t1]
      exact Fz_gro b5 gs (by omega) (fun y c d => by omega)
    · exact Fz_gro (Fz_gro (w2 x (by omega)) G5 (by omega) (fun _ _ _ w => w)) gs (by omega) (fun y c d => by omega)
def f0 : Nat → Nat → Int32 := fun _ _ => 0
def kN : Nat → Option tz_K := fun _ => none
def r0 : Nat → Nat → Option Nat := fun _ _ => none
def fC : Nat → Nat → Int32 := ups (ups f0 312 (ups (f0 312) 11 (-2))) 322 (ups (ups f0 312 (ups (f0 312) 11 (-2)) 322) 4 0)
def rC (o : Nat) : Nat → Nat → Option Nat := ups (ups (ups r0 2 (fun i => if i < 12 then some (o + 2 + 1 + i) else none)) 33 (fun j => if j < 120 then some (o + 48 + 2 * j) else none)) 34 (fun j => if j < 12 then some (o + 288 + 2 * j) else none)
set_option maxRecDepth 100000 in
set_option maxHeartbeats 4000000 in
theorem mk_all {R : Option Nat → pz_C Unit} (hn : tz_nc σ = o) (hs : tz_ns σ = S) (hff : 2000 ≤ f) (hK : ∀ σ1 ks, Gr noP σ σ1 → CE σ1 o ks fC (ups (rC o) 341 (fun j => if j < 10 then some (o + 347 + 5 * j) else none)) → ks 0 = some (.inl (11, [some (some (o + 1)), some (some (o + 19)), some (some (o + 30)), some (some (o + 32)), some (some (o + 312)), some (some (o + 322)), some (some (o + 328)), some (some (o + 341)), some (some (o + 342)), none])) → (∀ i, 1 ≤ i → i < 342 → ks i = kC o i) → tz_nc σ1 = o + 397 → tz_ns σ1 = S + 6560 → Fz σ1 (o + 342) 12 0 1 → (∀ x, x < 10 → Fz σ1 (o + 347 + 5 * x) 12 0 1) → gp (R (some o)) σ1 Q) : gp (pz_new 11 10 [.null, .null, .null, .null, .null, .null, .null, .null, .null, .int 0] fun x1 => pz_nn x1 <| pz_cB (X11_init f x1) fun _ => R x1) σ Q := by
  have hE0 : EV σ σ o 0 S kN f0 r0 := ⟨Gr_refl, by omega, hs, by omega, fun i hi => absurd hi (Nat.not_lt_zero _)⟩
  refine ev_new (lay := [some none, some none, some none, some none, some none, some none, some none, some none, some none, none]) rfl hE0 rfl rfl (fun σa hE => ?_)
  have hC : ∀ i, 1 ≤ i → i < 1 → ups kN 0 (some (.inl (11, [some none, some none, some none, some none, some none, some none, some none, some none, some none, none]))) i = kC o i := fun i a b => by omega
  have h00 : ups kN 0 (some (.inl (11, [some none, some none, some none, some none, some none, some none, some none, some none, some none, none]))) 0 = some (.inl (11, [some none, some none, some none, some none, some none, some none, some none, some none, some none, none])) := rfl
  generalize (ups kN 0 (some (.inl (11, [some none, some none, some none, some none, some none, some none, some none, some none, some none, none]))) : Nat → Option tz_K) = ks at *
  show gp (pz_nn (some o) <| pz_cB (X11_init f (some o)) fun _ => R (some o)) σa Q
  refine gp_nn (gp_cB ?_)
  unfold X11_init
  refine gp_nn ?_
  refine ev_new (lay := [some none, some none, some none, some none, some none, none, none]) rfl hE rfl rfl (fun σb hEb => ?_)
  refine gp_nn (gp_cB ?_)
  refine mk_rows hEb (ups_s _ _ _) (fun i hi => rfl) (fun i hi => rfl) (fun σc ksc hEc old new => ?_)
  refine ev_wR (i := 0) hEc (by decide) ((old 0 (by decide)).trans ((ups_n _ _ (by decide)).trans h00)) (Nat.le_of_ble_eq_true rfl) (fun σd hEd => ?_)
  replace hC := kc_step (v0 := some (.inl (11, [some (some (o + 1)), some none, some none, some none, some none, some none, some none, some none, some none, none]))) hC old new
  have hE : EV σ σd o 19 _ (ups ksc 0 (some (.inl (11, [some (some (o + 1)), some none, some none, some none, some none, some none, some none, some none, some none, none])))) _ _ := hEd
  replace h00 : ups ksc 0 (some (.inl (11, [some (some (o + 1)), some none, some none, some none, some none, some none, some none, some none, some none, none]))) 0 = some (.inl (11, [some (some (o + 1)), some none, some none, some none, some none, some none, some none, some none, some none, none])) := ups_s _ _ _
  clear hEb hEc hEd old new
  generalize ups ksc 0 (some (.inl (11, [some (some (o + 1)), some none, some none, some none, some none, some none, some none, some none, some none, none]))) = ks0 at *
  refine ev_new (lay := [some none, some none, some none, some none, some none, some none]) rfl hE rfl rfl (fun σb hEb => ?_)
  refine gp_nn (gp_cB ?_)
  refine mk_div hEb (ups_s _ _ _) (fun i hi => rfl) (fun i hi => ups_n _ _ (by omega)) (fun σc ksc hEc old new => ?_)
  refine ev_wR (i := 0) hEc (by decide) ((old 0 (by decide)).trans ((ups_n _ _ (by decide)).trans h00)) (Nat.le_of_ble_eq_true rfl) (fun σd hEd => ?_)
  replace hC := kc_step (v0 := some (.inl (11, [some (some (o + 1)), some (some (o + 19)), some none, some none, some none, some none, some none, some none, some none, none]))) hC old new
  have hE : EV σ σd o 30 _ (ups ksc 0 (some (.inl (11, [some (some (o + 1)), some (some (o + 19)), some none, some none, some none, some none, some none, some none, some none, none])))) _ _ := hEd
  replace h00 : ups ksc 0 (some (.inl (11, [some (some (o + 1)), some (some (o + 19)), some none, some none, some none, some none, some none, some none, some none, none]))) 0 = some (.inl (11, [some (some (o + 1)), some (some (o + 19)), some none, some none, some none, some none, some none, some none, some none, none])) := ups_s _ _ _
  clear hEb hEc hEd old new
  generalize ups ksc 0 (some (.inl (11, [some (some (o + 1)), some (some (o + 19)), some none, some none, some none, some none, some none, some none, some none, none]))) = ks1 at *
  refine ev_new (lay := [some none, none]) rfl hE rfl rfl (fun σb hEb => ?_)
  refine gp_nn (gp_cB ?_)
  refine mk_sum hEb (ups_s _ _ _) (fun i hi => rfl) (fun i hi => ups_n _ _ (by omega)) (fun σc ksc hEc old new => ?_)
  refine ev_wR (i := 0) hEc (by decide) ((old 0 (by decide)).trans ((ups_n _ _ (by decide)).trans h00)) (Nat.le_of_ble_eq_true rfl) (fun σd hEd => ?_)
  replace hC := kc_step (v0 := some (.inl (11, [some (some (o + 1)), some (some (o + 19)), some (some (o + 30)), some none, some none, some none, some none, some none, some none, none]))) hC old new
  have hE : EV σ σd o 32 _ (ups ksc 0 (some (.inl (11, [some (some (o + 1)), some (some (o + 19)), some (some (o + 30)), some none, some none, some none, some none, some none, some none, none])))) _ _ := hEd
  replace h00 : ups ksc 0 (some (.inl (11, [some (some (o + 1)), some (some (o + 19)), some (some (o + 30)), some none, some none, some none, some none, some none, some none, none]))) 0 = some (.inl (11, [some (some (o + 1)), some (some (o + 19)), some (some (o + 30)), some none, some none, some none, some none, some none, some none, none])) := ups_s _ _ _
  clear hEb hEc hEd old new
  generalize ups ksc 0 (some (.inl (11, [some (some (o + 1)), some (some (o + 19)), some (some (o + 30)), some none, some none, some none, some none, some none, some none, none]))) = ks2 at *
  refine ev_new (lay := [some none, some none, some none, some none, some none, some none, some none, some none, some none, some none, some none, some none, some none, none, none]) rfl hE rfl rfl (fun σb hEb => ?_)
  refine gp_rR (ev_sh (i := 0) hEb (by decide) ((ups_n _ _ (by decide)).trans h00)) rfl ?_
  refine gp_rR (ev_sh (i := 0) hEb (by decide) ((ups_n _ _ (by decide)).trans h00)) rfl ?_
  refine gp_nn (gp_cB ?_)
  refine mk_tab hEb (ups_s _ _ _) (fun i hi => rfl) (fun i hi => ups_n _ _ (by omega)) hff (fun σc ksc hEc old new => ?_)
  refine ev_wR (i := 0) hEc (by decide) ((old 0 (by decide)).trans ((ups_n _ _ (by decide)).trans h00)) (Nat.le_of_ble_eq_true rfl) (fun σd hEd => ?_)
  replace hC := kc_step (v0 := some (.inl (11, [some (some (o + 1)), some (some (o + 19)), some (some (o + 30)), some (some (o + 32)), some none, some none, some none, some none, some none, none]))) hC old new
  have hE : EV σ σd o 312 _ (ups ksc 0 (some (.inl (11, [some (some (o + 1)), some (some (o + 19)), some (some (o + 30)), some (some (o + 32)), some none, some none, some none, some none, some none, none])))) _ _ := hEd
  replace h00 : ups ksc 0 (some (.inl (11, [some (some (o + 1)), some (some (o + 19)), some (some (o + 30)), some (some (o + 32)), some none, some none, some none, some none, some none, none]))) 0 = some (.inl (11, [some (some (o + 1)), some (some (o + 19)), some (some (o + 30)), some (some (o + 32)), some none, some none, some none, some none, some none, none])) := ups_s _ _ _
  clear hEb hEc hEd old new
  generalize ups ksc 0 (some (.inl (11, [some (some (o + 1)), some (some (o + 19)), some (some (o + 30)), some (some (o + 32)), some none, some none, some none, some none, some none, none]))) = ks3 at *
  refine ev_new (lay := [some none, some none, some none, some none, some none, some none, some none, some none, some none, none, none, none]) rfl hE rfl rfl (fun σb hEb => ?_)
  refine gp_nn (gp_cB ?_)
  refine mk_tree hEb (ups_s _ _ _) (fun i hi => rfl) (fun i hi => (ups_n _ _ (by omega)).trans ((ups_n _ _ (by omega)).trans (ups_n _ _ (by omega)))) (fun σc ksc hEc old new => ?_)
  refine ev_wR (i := 0) hEc (by decide) ((old 0 (by decide)).trans ((ups_n _ _ (by decide)).trans h00)) (Nat.le_of_ble_eq_true rfl) (fun σd hEd => ?_)
  replace hC := kc_step (v0 := some (.inl (11, [some (some (o + 1)), some (some (o + 19)), some (some (o + 30)), some (some (o + 32)), some (some (o + 312)), some none, some none, some none, some none, none]))) hC old new
  have hE : EV σ σd o 322 _ (ups ksc 0 (some (.inl (11, [some (some (o + 1)), some (some (o + 19)), some (some (o + 30)), some (some (o + 32)), some (some (o + 312)), some none, some none, some none, some none, none])))) _ _ := hEd
  replace h00 : ups ksc 0 (some (.inl (11, [some (some (o + 1)), some (some (o + 19)), some (some (o + 30)), some (some (o + 32)), some (some (o + 312)), some none, some none, some none, some none, none]))) 0 = some (.inl (11, [some (some (o + 1)), some (some (o + 19)), some (some (o + 30)), some (some (o + 32)), some (some (o + 312)), some none, some none, some none, some none, none])) := ups_s _ _ _
  clear hEb hEc hEd old new
  generalize ups ksc 0 (some (.inl (11, [some (some (o + 1)), some (some (o + 19)), some (some (o + 30)), some (some (o + 32)), some (some (o + 312)), some none, some none, some none, some none, none]))) = ks4 at *
  refine ev_new (lay := [some none, some none, some none, some none, none, none, none, none, none]) rfl hE rfl rfl (fun σb hEb => ?_)
  refine gp_rR (ev_sh (i := 0) hEb (by decide) ((ups_n _ _ (by decide)).trans h00)) rfl ?_
  refine gp_rR (ev_sh (i := 0) hEb (by decide) ((ups_n _ _ (by decide)).trans h00)) rfl ?_
  refine gp_rR (ev_sh (i := 0) hEb (by decide) ((ups_n _ _ (by decide)).trans h00)) rfl ?_
  refine gp_nn (gp_cB ?_)
  refine mk_solv hEb (ups_s _ _ _) (fun i hi => ups_n _ _ (by omega)) (fun i hi => (ups_n _ _ (by omega)).trans ((ups_n _ _ (by omega)).trans (ups_n _ _ (by omega)))) (fun σc ksc hEc old new => ?_)
  refine ev_wR (i := 0) hEc (by decide) ((old 0 (by decide)).trans ((ups_n _ _ (by decide)).trans h00)) (Nat.le_of_ble_eq_true rfl) (fun σd hEd => ?_)
  replace hC := kc_step (v0 := some (.inl (11, [some (some (o + 1)), some (some (o + 19)), some (some (o + 30)), some (some (o + 32)), some (some (o + 312)), some (some (o + 322)), some none, some none, some none, none]))) hC old new
  have hE : EV σ σd o 328 _ (ups ksc 0 (some (.inl (11, [some (some (o + 1)), some (some (o + 19)), some (some (o + 30)), some (some (o + 32)), some (some (o + 312)), some (some (o + 322)), some none, some none, some none, none])))) _ _ := hEd
  replace h00 : ups ksc 0 (some (.inl (11, [some (some (o + 1)), some (some (o + 19)), some (some (o + 30)), some (some (o + 32)), some (some (o + 312)), some (some (o + 322)), some none, some none, some none, none]))) 0 = some (.inl (11, [some (some (o + 1)), some (some (o + 19)), some (some (o + 30)), some (some (o + 32)), some (some (o + 312)), some (some (o + 322)), some none, some none, some none, none])) := ups_s _ _ _
  clear hEb hEc hEd old new
  generalize ups ksc 0 (some (.inl (11, [some (some (o + 1)), some (some (o + 19)), some (some (o + 30)), some (some (o + 32)), some (some (o + 312)), some (some (o + 322)), some none, some none, some none, none]))) = ks5 at *
  refine ev_new (lay := [some none, some none, some none, some none, some none, some none, some none, some none, some none]) rfl hE rfl rfl (fun σb hEb => ?_)
  refine gp_rR (ev_sh (i := 0) hEb (by decide) ((ups_n _ _ (by decide)).trans h00)) rfl ?_
  refine gp_rR (ev_sh (i := 0) hEb (by decide) ((ups_n _ _ (by decide)).trans h00)) rfl ?_
  refine gp_rR (ev_sh (i := 0) hEb (by decide) ((ups_n _ _ (by decide)).trans h00)) rfl ?_
  refine gp_rR (ev_sh (i := 0) hEb (by decide) ((ups_n _ _ (by decide)).trans h00)) rfl ?_
  refine gp_nn (gp_cB ?_)
  refine mk_judge hEb (ups_s _ _ _) (fun i hi => (ups_n _ _ (by omega)).trans (ups_n _ _ (by omega))) (fun i hi => (ups_n _ _ (by omega)).trans ((ups_n _ _ (by omega)).trans (ups_n _ _ (by omega)))) (fun σc ksc hEc old new => ?_)
  refine ev_wR (i := 0) hEc (by decide) ((old 0 (by decide)).trans ((ups_n _ _ (by decide)).trans h00)) (Nat.le_of_ble_eq_true rfl) (fun σd hEd => ?_)
  replace hC := kc_step (v0 := some (.inl (11, [some (some (o + 1)), some (some (o + 19)), some (some (o + 30)), some (some (o + 32)), some (some (o + 312)), some (some (o + 322)), some (some (o + 328)), some none, some none, none]))) hC old new
  have hE : EV σ σd o 341 _ (ups ksc 0 (some (.inl (11, [some (some (o + 1)), some (some (o + 19)), some (some (o + 30)), some (some (o + 32)), some (some (o + 312)), some (some (o + 322)), some (some (o + 328)), some none, some none, none])))) _ _ := hEd
  replace h00 : ups ksc 0 (some (.inl (11, [some (some (o + 1)), some (some (o + 19)), some (some (o + 30)), some (some (o + 32)), some (some (o + 312)), some (some (o + 322)), some (some (o + 328)), some none, some none, none]))) 0 = some (.inl (11, [some (some (o + 1)), some (some (o + 19)), some (some (o + 30)), some (some (o + 32)), some (some (o + 312)), some (some (o + 322)), some (some (o + 328)), some none, some none, none])) := ups_s _ _ _
  clear hEb hEc hEd old new
  generalize ups ksc 0 (some (.inl (11, [some (some (o + 1)), some (some (o + 19)), some (some (o + 30)), some (some (o + 32)), some (some (o + 312)), some (some (o + 322)), some (some (o + 328)), some none, some none, none]))) = ks6 at *
  refine ev_newR (n := 10) hE (by decide) (by decide) rfl rfl rfl (fun σb hEb => ?_)
  refine ev_wR (i := 0) hEb (by decide) ((ups_n _ _ (by decide)).trans h00) (Nat.le_of_ble_eq_true rfl) (fun σd hEd => ?_)
  have n341 : ∀ i, 341 ≤ i → i < 342 → ups ks6 341 (some (.inr (4, 10))) i = kC o i := fun i h1 h2 => by
    have e : i = 341 := by omega
    subst e
    rfl
  replace hC := kc_step (v0 := some (.inl (11, [some (some (o + 1)), some (some (o + 19)), some (some (o + 30)), some (some (o + 32)), some (some (o + 312)), some (some (o + 322)), some (some (o + 328)), some (some (o + 341)), some none, none]))) (b := 342) (ks1 := ups ks6 341 (some (.inr (4, 10)))) (va := some (.inr (4, 10))) hC (fun i _ => rfl) n341
  have hE : EV σ σd o 342 _ (ups (ups ks6 341 (some (.inr (4, 10)))) 0 (some (.inl (11, [some (some (o + 1)), some (some (o + 19)), some (some (o + 30)), some (some (o + 32)), some (some (o + 312)), some (some (o + 322)), some (some (o + 328)), some (some (o + 341)), some none, none])))) fC (rC o) := hEd
  replace h00 : ups (ups ks6 341 (some (.inr (4, 10)))) 0 (some (.inl (11, [some (some (o + 1)), some (some (o + 19)), some (some (o + 30)), some (some (o + 32)), some (some (o + 312)), some (some (o + 322)), some (some (o + 328)), some (some (o + 341)), some none, none]))) 0 = some (.inl (11, [some (some (o + 1)), some (some (o + 19)), some (some (o + 30)), some (some (o + 32)), some (some (o + 312)), some (some (o + 322)), some (some (o + 328)), some (some (o + 341)), some none, none])) := ups_s _ _ _
  clear hEb hEd
  generalize ups (ups ks6 341 (some (.inr (4, 10)))) 0 (some (.inl (11, [some (some (o + 1)), some (some (o + 19)), some (some (o + 30)), some (some (o + 32)), some (some (o + 312)), some (some (o + 322)), some (some (o + 328)), some (some (o + 341)), some none, none]))) = ksb at *
  obtain ⟨g1, g2, g3, g4, g5⟩ := hE
  refine gp_newFr (n := 12) hff (by decide) (by decide) rfl ?_
  rintro σ5 G5 c5 d5 b5
  rw [g4] at c5 b5 ⊢
  have C5 : CE σ5 o ksb fC (rC o) := CE_gr g5 G5 (by omega) (fun _ _ w => w)
  have s0 : tz_sh σ5 o = some (.inl (11, [some (some (o + 1)), some (some (o + 19)), some (some (o + 30)), some (some (o + 32)), some (some (o + 312)), some (some (o + 322)), some (some (o + 328)), some (some (o + 341)), some none, none])) := (C5 0 (by decide)).1.trans h00
  refine gp_wR (r := some (o + 342)) s0 (Nat.le_of_ble_eq_true rfl) ?_
  refine mk_wit (ks := ups ksb 0 (some (.inl (11, [some (some (o + 1)), some (some (o + 19)), some (some (o + 30)), some (some (o + 32)), some (some (o + 312)), some (some (o + 322)), some (some (o + 328)), some (some (o + 341)), some (some (o + 342)), none])))) (S := S + 6240) (lay := [some (some (o + 1)), some (some (o + 19)), some (some (o + 30)), some (some (o + 32)), some (some (o + 312)), some (some (o + 322)), some (some (o + 328)), some (some (o + 341)), some (some (o + 342)), none]) (Gr_sS (Gr_trans g1 G5) (by omega)) (by omega) (fun i hi => ?_) (ups_s _ _ _) rfl ((ups_n _ _ (by decide)).trans ((hC 341 (by decide) (by decide)).trans rfl)) rfl (by show tz_nc σ5 = _; omega) (by show tz_ns σ5 = _; omega) (Fz_sS b5 (by omega)) hff (fun σe e1 e2 e3 e4 e5 e6 => hK σe _ e1 e2 (ups_s _ _ _) (fun i h1 h2 => ?_) e3 (by omega) e5 e6)
  · obtain ⟨a1, a2⟩ := C5 i hi
    refine ⟨?_, a2⟩
    by_cases e : i = 0
    · rw [e, ups_s]; exact sS_sh
    · rw [ups_n _ _ e]; exact (sS_shn (by omega)).trans a1
  · rw [ups_n _ _ (by omega)]; exact hC i h1 h2
end UA
