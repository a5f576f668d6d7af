/-! ===== the solver is made; printed by wip/whole/genmk.py ===== -/
def kA (o : Nat) : List (Option tz_K) := [none, some (.inl (6, [some (some (o + 2)), some (some (o + 15)), some (some (o + 16)), some (some (o + 17)), some (some (o + 18)), none, none])), some (.inr (6, 12)), some (.inr (0, 10)), some (.inr (0, 10)), some (.inr (0, 10)), some (.inr (0, 10)), some (.inr (0, 10)), some (.inr (0, 10)), some (.inr (0, 10)), some (.inr (0, 10)), some (.inr (0, 10)), some (.inr (0, 10)), some (.inr (0, 10)), some (.inr (0, 10)), some (.inr (0, 12)), some (.inr (0, 12)), some (.inr (1, 10)), some (.inr (0, 10)), some (.inl (2, [some (some (o + 20)), some (some (o + 22)), some (some (o + 24)), some (some (o + 26)), some (some (o + 28)), some (some (o + 29))])), some (.inl (0, [some (some (o + 21)), none, none])), some (.inr (0, 128)), some (.inl (0, [some (some (o + 23)), none, none])), some (.inr (0, 128)), some (.inl (0, [some (some (o + 25)), none, none])), some (.inr (0, 128)), some (.inl (0, [some (some (o + 27)), none, none])), some (.inr (0, 128)), some (.inr (2, 129)), some (.inr (2, 128)), some (.inl (8, [some (some (o + 31)), none])), some (.inr (2, 128)), some (.inl (9, [some (some (o + 30)), some (some (o + 19)), some (some (o + 33)), some (some (o + 34)), some (some (o + 35)), some (some (o + 36)), some (some (o + 37)), some (some (o + 38)), some (some (o + 39)), some (some (o + 40)), some (some (o + 42)), some (some (o + 44)), some (some (o + 46)), none, none])), some (.inr (3, 120)), some (.inr (3, 12)), some (.inr (2, 10)), some (.inr (0, 12)), some (.inr (0, 10)), some (.inr (0, 22)), some (.inr (1, 22)), some (.inl (0, [some (some (o + 41)), none, none])), some (.inr (0, 8)), some (.inl (0, [some (some (o + 43)), none, none])), some (.inr (0, 12)), some (.inl (0, [some (some (o + 45)), none, none])), some (.inr (0, 8)), some (.inl (0, [some (some (o + 47)), none, none])), some (.inr (0, 128))]
def kB (o : Nat) : List (Option tz_K) := [some (.inl (10, [some (some (o + 313)), some (some (o + 314)), some (some (o + 315)), some (some (o + 316)), some (some (o + 317)), some (some (o + 318)), some (some (o + 319)), some (some (o + 320)), some (some (o + 321)), none, none, none])), some (.inr (0, 301)), some (.inr (0, 301)), some (.inr (0, 301)), some (.inr (0, 301)), some (.inr (2, 301)), some (.inr (2, 301)), some (.inr (1, 301)), some (.inr (0, 301)), some (.inr (5, 151)), some (.inl (7, [some (some (o + 1)), some (some (o + 32)), some (some (o + 312)), some (some (o + 323)), none, none, none, none, none])), some (.inl (1, [some (some (o + 324)), some (some (o + 325)), some (some (o + 326)), some (some (o + 327))])), some (.inr (1, 22)), some (.inr (1, 22)), some (.inr (2, 22)), some (.inr (2, 22)), some (.inl (4, [some (some (o + 1)), some (some (o + 312)), some (some (o + 30)), some (some (o + 19)), some (some (o + 329)), some (some (o + 331)), some (some (o + 336)), some (some (o + 337)), some (some (o + 339))])), some (.inl (8, [some (some (o + 330)), none])), some (.inr (2, 128)), some (.inl (1, [some (some (o + 332)), some (some (o + 333)), some (some (o + 334)), some (some (o + 335))])), some (.inr (1, 22)), some (.inr (1, 22)), some (.inr (2, 22)), some (.inr (2, 22)), some (.inr (2, 32)), some (.inl (0, [some (some (o + 338)), none, none])), some (.inr (0, 128)), some (.inl (0, [some (some (o + 340)), none, none])), some (.inr (0, 128)), some (.inr (4, 10))]
def kBig (o n i : Nat) : Option tz_K := if i % 2 = 0 then some (.inl (0, [some (some (o + i + 1)), none, none])) else some (.inr (0, n))
def kC (o i : Nat) : Option tz_K := if i < 48 then ((kA o)[i]?).getD none else if i < 288 then kBig o 8 i else if i < 312 then kBig o 12 i else ((kB o)[i - 312]?).getD none
section TY
variable {f o S : Nat} {σ0 σ : tz_S} {ks : Nat → Option tz_K} {fs : Nat → Nat → Int32} {rs : Nat → Nat → Option Nat} {Q : Unit → tz_S → Prop}
set_option maxRecDepth 100000 in
set_option maxHeartbeats 4000000 in
theorem mk_rows (h : EV σ0 σ o 2 S ks fs rs) (h0 : ks 1 = some (.inl (6, [some none, some none, some none, some none, some none, none, none]))) (hf : ∀ i, 2 ≤ i → fs i = fun _ => 0) (hr : ∀ i, 2 ≤ i → rs i = fun _ => none) (hK : ∀ σ1 ks1, EV σ0 σ1 o 19 (S + 176) ks1 (fs) (ups rs 2 (fun i => if i < 12 then some (o + 2 + 1 + i) else none)) → (∀ i, i < 1 → ks1 i = ks i) → (∀ i, 1 ≤ i → i < 19 → ks1 i = kC o i) → Q () σ1) : gp (X6_init f (some (o + 1))) σ Q := by
  unfold X6_init
  refine gp_nn ?_
  refine ev_newG h (fun i hi _ => hf i hi) (fun i hi _ => hr i hi) (fun σ1 h1 => ?_)
  refine ev_wR (i := 1) h1 (by decide) h0 (Nat.le_of_ble_eq_true rfl) (fun σ2 h2 => ?_)
  have hr : ∀ i, 15 ≤ i → ups rs 2 (fun i => if i < 12 then some (o + 2 + 1 + i) else none) i = fun _ => none := fun i hi => by rw [ups_n _ _ (by omega)]; exact hr i (by omega)
  replace hf : ∀ i, 15 ≤ i → fs i = fun _ => 0 := fun i hi => hf i (by omega)
  refine ev_newI (n := 12) h2 (by decide) (by decide) rfl (hf 15 (by decide)) (hr 15 (by decide)) (fun σ3 h3 => ?_)
  refine ev_wR (i := 1) h3 (by decide) rfl (Nat.le_of_ble_eq_true rfl) (fun σ4 h4 => ?_)
  refine ev_newI (n := 12) h4 (by decide) (by decide) rfl (hf 16 (by decide)) (hr 16 (by decide)) (fun σ5 h5 => ?_)
  refine ev_wR (i := 1) h5 (by decide) rfl (Nat.le_of_ble_eq_true rfl) (fun σ6 h6 => ?_)
  refine ev_newI (n := 10) h6 (by decide) (by decide) rfl (hf 17 (by decide)) (hr 17 (by decide)) (fun σ7 h7 => ?_)
  refine ev_wR (i := 1) h7 (by decide) rfl (Nat.le_of_ble_eq_true rfl) (fun σ8 h8 => ?_)
  refine ev_newI (n := 10) h8 (by decide) (by decide) rfl (hf 18 (by decide)) (hr 18 (by decide)) (fun σ9 h9 => ?_)
  refine ev_wR (i := 1) h9 (by decide) rfl (Nat.le_of_ble_eq_true rfl) (fun σ10 h10 => ?_)
  refine gp_ret ?_
  refine hK _ _ h10 (fun i hi => ?_) (fun i hi1 hi2 => ?_)
  · simp only [ups]
    iterate 80 (first | rw [if_neg (by omega)] | skip)
  · rcases (show i = 1 ∨ i = 2 ∨ i = 3 ∨ i = 4 ∨ i = 5 ∨ i = 6 ∨ i = 7 ∨ i = 8 ∨ i = 9 ∨ i = 10 ∨ i = 11 ∨ i = 12 ∨ i = 13 ∨ i = 14 ∨ i = 15 ∨ i = 16 ∨ i = 17 ∨ i = 18 by omega) with rfl | rfl | rfl | rfl | rfl | rfl | rfl | rfl | rfl | rfl | rfl | rfl | rfl | rfl | rfl | rfl | rfl | rfl
    all_goals rfl
set_option maxRecDepth 100000 in
set_option maxHeartbeats 4000000 in
theorem mk_div (h : EV σ0 σ o 20 S ks fs rs) (h0 : ks 19 = some (.inl (2, [some none, some none, some none, some none, some none, some none]))) (hf : ∀ i, 20 ≤ i → fs i = fun _ => 0) (hr : ∀ i, 20 ≤ i → rs i = fun _ => none) (hK : ∀ σ1 ks1, EV σ0 σ1 o 30 (S + 781) ks1 (fs) (rs) → (∀ i, i < 19 → ks1 i = ks i) → (∀ i, 19 ≤ i → i < 30 → ks1 i = kC o i) → Q () σ1) : gp (X2_init f (some (o + 19))) σ Q := by
  unfold X2_init
  refine gp_nn ?_
  refine ev_big (n := 128) h (by decide) (by decide) rfl (hf 20 (by decide)) (hf 21 (by decide)) (hr 20 (by decide)) (hr 21 (by decide)) (fun σ1 h1 => ?_)
  refine ev_wR (i := 19) h1 (by decide) h0 (Nat.le_of_ble_eq_true rfl) (fun σ2 h2 => ?_)
  refine ev_big (n := 128) h2 (by decide) (by decide) rfl (hf 22 (by decide)) (hf 23 (by decide)) (hr 22 (by decide)) (hr 23 (by decide)) (fun σ3 h3 => ?_)
  refine ev_wR (i := 19) h3 (by decide) rfl (Nat.le_of_ble_eq_true rfl) (fun σ4 h4 => ?_)
  refine ev_big (n := 128) h4 (by decide) (by decide) rfl (hf 24 (by decide)) (hf 25 (by decide)) (hr 24 (by decide)) (hr 25 (by decide)) (fun σ5 h5 => ?_)
  refine ev_wR (i := 19) h5 (by decide) rfl (Nat.le_of_ble_eq_true rfl) (fun σ6 h6 => ?_)
  refine ev_big (n := 128) h6 (by decide) (by decide) rfl (hf 26 (by decide)) (hf 27 (by decide)) (hr 26 (by decide)) (hr 27 (by decide)) (fun σ7 h7 => ?_)
  refine ev_wR (i := 19) h7 (by decide) rfl (Nat.le_of_ble_eq_true rfl) (fun σ8 h8 => ?_)
  refine ev_newL (n := 129) h8 (by decide) rfl (hf 28 (by decide)) (hr 28 (by decide)) (fun σ9 h9 => ?_)
  refine ev_wR (i := 19) h9 (by decide) rfl (Nat.le_of_ble_eq_true rfl) (fun σ10 h10 => ?_)
  refine ev_newL (n := 128) h10 (by decide) rfl (hf 29 (by decide)) (hr 29 (by decide)) (fun σ11 h11 => ?_)
  refine ev_wR (i := 19) h11 (by decide) rfl (Nat.le_of_ble_eq_true rfl) (fun σ12 h12 => ?_)
  refine gp_ret ?_
  refine hK _ _ h12 (fun i hi => ?_) (fun i hi1 hi2 => ?_)
  · simp only [ups]
    iterate 80 (first | rw [if_neg (by omega)] | skip)
  · rcases (show i = 19 ∨ i = 20 ∨ i = 21 ∨ i = 22 ∨ i = 23 ∨ i = 24 ∨ i = 25 ∨ i = 26 ∨ i = 27 ∨ i = 28 ∨ i = 29 by omega) with rfl | rfl | rfl | rfl | rfl | rfl | rfl | rfl | rfl | rfl | rfl
    all_goals rfl
set_option maxRecDepth 100000 in
set_option maxHeartbeats 4000000 in
theorem mk_sum (h : EV σ0 σ o 31 S ks fs rs) (h0 : ks 30 = some (.inl (8, [some none, none]))) (hf : ∀ i, 31 ≤ i → fs i = fun _ => 0) (hr : ∀ i, 31 ≤ i → rs i = fun _ => none) (hK : ∀ σ1 ks1, EV σ0 σ1 o 32 (S + 128) ks1 (fs) (rs) → (∀ i, i < 30 → ks1 i = ks i) → (∀ i, 30 ≤ i → i < 32 → ks1 i = kC o i) → Q () σ1) : gp (X8_init f (some (o + 30))) σ Q := by
  unfold X8_init
  refine gp_nn ?_
  refine ev_newL (n := 128) h (by decide) rfl (hf 31 (by decide)) (hr 31 (by decide)) (fun σ1 h1 => ?_)
  refine ev_wR (i := 30) h1 (by decide) h0 (Nat.le_of_ble_eq_true rfl) (fun σ2 h2 => ?_)
  refine gp_ret ?_
  refine hK _ _ h2 (fun i hi => ?_) (fun i hi1 hi2 => ?_)
  · simp only [ups]
    iterate 80 (first | rw [if_neg (by omega)] | skip)
  · rcases (show i = 30 ∨ i = 31 by omega) with rfl | rfl
    all_goals rfl
set_option maxHeartbeats 2000000 in
theorem ev_am {lay : List (Option (Option Nat))} (h : EV σ0 σ o 288 S ks fs rs) (h32 : ks 32 = some (.inl (9, lay))) (hl : lay[3]? = some (some (some (o + 34)))) (h33 : ks 34 = some (.inr (3, 12))) (hr3 : rs 34 = fun _ => none) (hf : ∀ i, 288 ≤ i → fs i = fun _ => 0) (hr : ∀ i, 288 ≤ i → rs i = fun _ => none) (hff : 2000 ≤ f) (hK : ∀ σ1, EV σ0 σ1 o 312 (S + 180) (fun i => if 288 ≤ i ∧ i < 312 then kBig o 12 i else ks i) fs (ups rs 34 (fun j => if j < 12 then some (o + 288 + 2 * j) else none)) → Q () σ1) : gp (X9_init_L159 f (some (o + 32)) 0) σ Q := by
  unfold X9_init_L159
  refine gp_loop (I := fun (τ : Int32) (σ' : tz_S) => ∃ i, τ = nI i ∧ i ≤ 12 ∧ EV σ0 σ' o (288 + 2 * i) (S + 15 * i) (fun x => if 288 ≤ x ∧ x < 288 + 2 * i then kBig o 12 x else ks x) fs (ups rs 34 (fun j => if j < i then some (o + 288 + 2 * j) else none))) (fun τ _ => 1000 - τ.toNatClampNeg) ?_ f _ _ ⟨0, rfl, Nat.zero_le _, ev_cong h (fun x hx => by rw [if_neg (by omega)]) (fun _ _ => rfl) (fun x hx => ?_)⟩ (by omega)
  rotate_left
  · by_cases e : x = 34
    · rw [e, ups_s, hr3]
      funext j
      rw [if_neg (by omega)]
    · rw [ups_n _ _ e]
  rintro Kx l3 σ2 ⟨i, rfl, hi, h2⟩ hKx
  show gp (X9_init_L159_body f (some (o + 32)) (fun l3 => Kx l3) (nI i)) σ2 Q
  have s32 : tz_sh σ2 (o + 32) = some (.inl (9, lay)) := ev_sh h2 (show 32 < 288 + 2 * i by omega) (by rw [if_neg (by omega)]; exact h32)
  have s33 : tz_sh σ2 (o + 34) = some (.inr (3, 12)) := ev_sh h2 (show 34 < 288 + 2 * i by omega) (by rw [if_neg (by omega)]; exact h33)
  unfold X9_init_L159_body
  refine gp_rR s32 hl ?_
  refine gp_len s33 ?_
  refine gp_if (fun z => ?_) (fun z => ?_)
  · rw [nI_leI (by omega) (by omega)] at z
    have hin : i = 12 := by omega
    subst hin
    exact gp_ret (hK σ2 h2)
  rw [nI_leI (by omega) (by omega)] at z
  refine gp_rR s32 hl ?_
  have hz : ∀ j, 288 ≤ j → ups rs 34 (fun j => if j < i then some (o + 288 + 2 * j) else none) j = fun _ => none := fun j hj => by rw [ups_n _ _ (by omega)]; exact hr j hj
  refine ev_big (n := 12) h2 (by decide) (by decide) rfl (hf _ (by omega)) (hf _ (by omega)) (hz _ (by omega)) (hz _ (by omega)) (fun σ3 h3 => ?_)
  have s33' : tz_sh σ3 (o + 34) = some (.inr (3, 12)) := ev_sh h3 (show 34 < 288 + 2 * i + 2 by omega) (by rw [ups_n _ _ (by omega), ups_n _ _ (by omega), if_neg (by omega)]; exact h33)
  have sv : tz_sh σ3 (o + (288 + 2 * i)) = some (.inl (0, [some (some (o + (288 + 2 * i) + 1)), none, none])) := ev_sh h3 (by omega) (by rw [ups_n _ _ (by omega), ups_s])
  refine gp_sR (j := i) s33' (by decide) sv (by omega) (by omega) rfl ?_
  refine gp_let ?_
  rw [nI_1]
  refine hKx (nI (i + 1)) _ ⟨i + 1, rfl, by omega, ?_⟩ (by rw [nI_clamp (by omega), nI_clamp (by omega)]; omega)
  obtain ⟨e1, e2, e3, e4, e5⟩ := h3
  refine ⟨Gr_sRn e1 (Or.inr (by omega)), e2, by show tz_ns σ3 = _; rw [e3]; omega, by show tz_nc σ3 = _; rw [e4]; omega, fun x hx => ?_⟩
  obtain ⟨a1, a2, a3, a4, a5⟩ := e5 x (by omega)
  refine ⟨?_, a2, a3, a4, ?_⟩
  · show tz_sh σ3 (o + x) = if 288 ≤ x ∧ x < 288 + 2 * (i + 1) then kBig o 12 x else ks x
    rw [a1]
    by_cases t1 : x = 288 + 2 * i + 1
    · rw [t1, ups_s, if_pos (by omega)]
      unfold kBig
      rw [if_neg (by omega)]
    · rw [ups_n _ _ t1]
      by_cases t2 : x = 288 + 2 * i
      · rw [t2, ups_s, if_pos (by omega)]
        unfold kBig
        rw [if_pos (by omega)]
      · rw [ups_n _ _ t2]
        by_cases t3 : 288 ≤ x
        · rw [if_pos (by omega), if_pos (by omega)]
        · rw [if_neg (by omega), if_neg (by omega)]
  · show tz_u2 (tz_R σ3) (o + 34) i (some (o + (288 + 2 * i))) (o + x) = _
    funext j
    by_cases t1 : x = 34
    · subst t1
      rw [ups_s]
      by_cases t2 : j = i
      · rw [t2, tz_u2_same, if_pos (by omega)]
        rw [Nat.add_assoc]
      · rw [tz_u2_ne _ _ (Or.inr t2), a5, ups_s]
        by_cases t3 : j < i
        · rw [if_pos t3, if_pos (by omega)]
        · rw [if_neg t3, if_neg (by omega)]
    · rw [ups_n _ _ t1, tz_u2_ne _ _ (Or.inl (by omega)), a5, ups_n _ _ t1]
set_option maxHeartbeats 2000000 in
theorem ev_cells {lay : List (Option (Option Nat))} (h : EV σ0 σ o 48 S ks fs rs) (h32 : ks 32 = some (.inl (9, lay))) (hl : lay[2]? = some (some (some (o + 33)))) (h33 : ks 33 = some (.inr (3, 120))) (hr3 : rs 33 = fun _ => none) (hf : ∀ i, 48 ≤ i → fs i = fun _ => 0) (hr : ∀ i, 48 ≤ i → rs i = fun _ => none) (hff : 2000 ≤ f) (hK : ∀ σ1, EV σ0 σ1 o 288 (S + 1320) (fun i => if 48 ≤ i ∧ i < 288 then kBig o 8 i else ks i) fs (ups rs 33 (fun j => if j < 120 then some (o + 48 + 2 * j) else none)) → gp (X9_init_L159 f (some (o + 32)) 0) σ1 Q) : gp (X9_init_L127 f (some (o + 32)) 0) σ Q := by
  unfold X9_init_L127
  refine gp_loop (I := fun (τ : Int32) (σ' : tz_S) => ∃ i, τ = nI i ∧ i ≤ 120 ∧ EV σ0 σ' o (48 + 2 * i) (S + 11 * i) (fun x => if 48 ≤ x ∧ x < 48 + 2 * i then kBig o 8 x else ks x) fs (ups rs 33 (fun j => if j < i then some (o + 48 + 2 * j) else none))) (fun τ _ => 1000 - τ.toNatClampNeg) ?_ f _ _ ⟨0, rfl, Nat.zero_le _, ev_cong h (fun x hx => by rw [if_neg (by omega)]) (fun _ _ => rfl) (fun x hx => ?_)⟩ (by omega)
  rotate_left
  · by_cases e : x = 33
    · rw [e, ups_s, hr3]
      funext j
      rw [if_neg (by omega)]
    · rw [ups_n _ _ e]
  rintro Kx l3 σ2 ⟨i, rfl, hi, h2⟩ hKx
  show gp (X9_init_L127_body f (some (o + 32)) (fun l3 => Kx l3) (nI i)) σ2 Q
  have s32 : tz_sh σ2 (o + 32) = some (.inl (9, lay)) := ev_sh h2 (show 32 < 48 + 2 * i by omega) (by rw [if_neg (by omega)]; exact h32)
  have s33 : tz_sh σ2 (o + 33) = some (.inr (3, 120)) := ev_sh h2 (show 33 < 48 + 2 * i by omega) (by rw [if_neg (by omega)]; exact h33)
  unfold X9_init_L127_body
  refine gp_rR s32 hl ?_
  refine gp_len s33 ?_
  refine gp_if (fun z => ?_) (fun z => ?_)
  · rw [nI_leI (by omega) (by omega)] at z
    have hin : i = 120 := by omega
    subst hin
    exact hK σ2 h2
  rw [nI_leI (by omega) (by omega)] at z
  refine gp_rR s32 hl ?_
  have hz : ∀ j, 48 ≤ j → ups rs 33 (fun j => if j < i then some (o + 48 + 2 * j) else none) j = fun _ => none := fun j hj => by rw [ups_n _ _ (by omega)]; exact hr j hj
  refine ev_big (n := 8) h2 (by decide) (by decide) rfl (hf _ (by omega)) (hf _ (by omega)) (hz _ (by omega)) (hz _ (by omega)) (fun σ3 h3 => ?_)
  have s33' : tz_sh σ3 (o + 33) = some (.inr (3, 120)) := ev_sh h3 (show 33 < 48 + 2 * i + 2 by omega) (by rw [ups_n _ _ (by omega), ups_n _ _ (by omega), if_neg (by omega)]; exact h33)
  have sv : tz_sh σ3 (o + (48 + 2 * i)) = some (.inl (0, [some (some (o + (48 + 2 * i) + 1)), none, none])) := ev_sh h3 (by omega) (by rw [ups_n _ _ (by omega), ups_s])
  refine gp_sR (j := i) s33' (by decide) sv (by omega) (by omega) rfl ?_
  refine gp_let ?_
  rw [nI_1]
  refine hKx (nI (i + 1)) _ ⟨i + 1, rfl, by omega, ?_⟩ (by rw [nI_clamp (by omega), nI_clamp (by omega)]; omega)
  obtain ⟨e1, e2, e3, e4, e5⟩ := h3
  refine ⟨Gr_sRn e1 (Or.inr (by omega)), e2, by show tz_ns σ3 = _; rw [e3]; omega, by show tz_nc σ3 = _; rw [e4]; omega, fun x hx => ?_⟩
  obtain ⟨a1, a2, a3, a4, a5⟩ := e5 x (by omega)
  refine ⟨?_, a2, a3, a4, ?_⟩
  · show tz_sh σ3 (o + x) = if 48 ≤ x ∧ x < 48 + 2 * (i + 1) then kBig o 8 x else ks x
    rw [a1]
    by_cases t1 : x = 48 + 2 * i + 1
    · rw [t1, ups_s, if_pos (by omega)]
      unfold kBig
      rw [if_neg (by omega)]
    · rw [ups_n _ _ t1]
      by_cases t2 : x = 48 + 2 * i
      · rw [t2, ups_s, if_pos (by omega)]
        unfold kBig
        rw [if_pos (by omega)]
      · rw [ups_n _ _ t2]
        by_cases t3 : 48 ≤ x
        · rw [if_pos (by omega), if_pos (by omega)]
        · rw [if_neg (by omega), if_neg (by omega)]
  · show tz_u2 (tz_R σ3) (o + 33) i (some (o + (48 + 2 * i))) (o + x) = _
    funext j
    by_cases t1 : x = 33
    · subst t1
      rw [ups_s]
      by_cases t2 : j = i
      · rw [t2, tz_u2_same, if_pos (by omega)]
        rw [Nat.add_assoc]
      · rw [tz_u2_ne _ _ (Or.inr t2), a5, ups_s]
        by_cases t3 : j < i
        · rw [if_pos t3, if_pos (by omega)]
        · rw [if_neg t3, if_neg (by omega)]
    · rw [ups_n _ _ t1, tz_u2_ne _ _ (Or.inl (by omega)), a5, ups_n _ _ t1]
end TY
