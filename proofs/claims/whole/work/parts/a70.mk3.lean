/-! ===== the solver is made: tableau, tree, solving, judge; printed by wip/whole/genmk2.py ===== -/
section TZ
variable {f o S : Nat} {σ0 σ : tz_S} {ks : Nat → Option tz_K} {fs : Nat → Nat → Int32} {rs : Nat → Nat → Option Nat} {Q : Unit → tz_S → Prop}
set_option maxRecDepth 100000 in
set_option maxHeartbeats 4000000 in
theorem mk_tab (h : EV σ0 σ o 33 S ks fs rs) (h0 : ks 32 = some (.inl (9, [some none, some none, some none, some none, some none, some none, some none, some none, some none, some none, some none, some none, some none, none, none]))) (hf : ∀ i, 33 ≤ i → fs i = fun _ => 0) (hr : ∀ i, 33 ≤ i → rs i = fun _ => none) (hff : 2000 ≤ f) (hK : ∀ σ1 ks1, EV σ0 σ1 o 312 (S + 1876) ks1 fs (ups (ups rs 33 (fun j => if j < 120 then some (o + 48 + 2 * j) else none)) 34 (fun j => if j < 12 then some (o + 288 + 2 * j) else none)) → (∀ i, i < 32 → ks1 i = ks i) → (∀ i, 32 ≤ i → i < 312 → ks1 i = kC o i) → Q () σ1) : gp (X9_init f (some (o + 32)) (some (o + 30)) (some (o + 19))) σ Q := by
  unfold X9_init
  refine gp_nn ?_
  refine ev_newR (n := 120) h (by decide) (by decide) rfl (hf 33 (by decide)) (hr 33 (by decide)) (fun σ1 h1 => ?_)
  refine ev_wR (i := 32) h1 (by decide) h0 (Nat.le_of_ble_eq_true rfl) (fun σ2 h2 => ?_)
  refine ev_newR (n := 12) h2 (by decide) (by decide) rfl (hf 34 (by decide)) (hr 34 (by decide)) (fun σ3 h3 => ?_)
  refine ev_wR (i := 32) h3 (by decide) rfl (Nat.le_of_ble_eq_true rfl) (fun σ4 h4 => ?_)
  refine ev_newL (n := 10) h4 (by decide) rfl (hf 35 (by decide)) (hr 35 (by decide)) (fun σ5 h5 => ?_)
  refine ev_wR (i := 32) h5 (by decide) rfl (Nat.le_of_ble_eq_true rfl) (fun σ6 h6 => ?_)
  refine ev_newI (n := 12) h6 (by decide) (by decide) rfl (hf 36 (by decide)) (hr 36 (by decide)) (fun σ7 h7 => ?_)
  refine ev_wR (i := 32) h7 (by decide) rfl (Nat.le_of_ble_eq_true rfl) (fun σ8 h8 => ?_)
  refine ev_newI (n := 10) h8 (by decide) (by decide) rfl (hf 37 (by decide)) (hr 37 (by decide)) (fun σ9 h9 => ?_)
  refine ev_wR (i := 32) h9 (by decide) rfl (Nat.le_of_ble_eq_true rfl) (fun σ10 h10 => ?_)
  refine ev_newI (n := 22) h10 (by decide) (by decide) rfl (hf 38 (by decide)) (hr 38 (by decide)) (fun σ11 h11 => ?_)
  refine ev_wR (i := 32) h11 (by decide) rfl (Nat.le_of_ble_eq_true rfl) (fun σ12 h12 => ?_)
  refine ev_newI (n := 22) h12 (by decide) (by decide) rfl (hf 39 (by decide)) (hr 39 (by decide)) (fun σ13 h13 => ?_)
  refine ev_wR (i := 32) h13 (by decide) rfl (Nat.le_of_ble_eq_true rfl) (fun σ14 h14 => ?_)
  refine ev_big (n := 8) h14 (by decide) (by decide) rfl (hf 40 (by decide)) (hf 41 (by decide)) (hr 40 (by decide)) (hr 41 (by decide)) (fun σ15 h15 => ?_)
  refine ev_wR (i := 32) h15 (by decide) rfl (Nat.le_of_ble_eq_true rfl) (fun σ16 h16 => ?_)
  refine ev_big (n := 12) h16 (by decide) (by decide) rfl (hf 42 (by decide)) (hf 43 (by decide)) (hr 42 (by decide)) (hr 43 (by decide)) (fun σ17 h17 => ?_)
  refine ev_wR (i := 32) h17 (by decide) rfl (Nat.le_of_ble_eq_true rfl) (fun σ18 h18 => ?_)
  refine ev_big (n := 8) h18 (by decide) (by decide) rfl (hf 44 (by decide)) (hf 45 (by decide)) (hr 44 (by decide)) (hr 45 (by decide)) (fun σ19 h19 => ?_)
  refine ev_wR (i := 32) h19 (by decide) rfl (Nat.le_of_ble_eq_true rfl) (fun σ20 h20 => ?_)
  refine ev_big (n := 128) h20 (by decide) (by decide) rfl (hf 46 (by decide)) (hf 47 (by decide)) (hr 46 (by decide)) (hr 47 (by decide)) (fun σ21 h21 => ?_)
  refine ev_wR (i := 32) h21 (by decide) rfl (Nat.le_of_ble_eq_true rfl) (fun σ22 h22 => ?_)
  refine ev_wR (i := 32) h22 (by decide) rfl (Nat.le_of_ble_eq_true rfl) (fun σ23 h23 => ?_)
  refine ev_wR (i := 32) h23 (by decide) rfl (Nat.le_of_ble_eq_true rfl) (fun σ24 h24 => ?_)
  refine ev_cells h24 rfl rfl rfl (hr 33 (by decide)) (fun i hi => hf i (by omega)) (fun i hi => hr i (by omega)) hff (fun σa ha => ?_)
  refine ev_am ha rfl rfl rfl (hr 34 (by decide)) (fun i hi => hf i (by omega)) (fun i hi => by rw [ups_n _ _ (by omega)]; exact hr i (by omega)) hff (fun σb hb => ?_)
  refine hK _ _ hb (fun i hi => ?_) (fun i hi1 hi2 => ?_)
  · simp only [ups]
    iterate 80 (first | rw [if_neg (by omega)] | skip)
  · by_cases e1 : i < 48
    · rcases (show i = 32 ∨ i = 33 ∨ i = 34 ∨ i = 35 ∨ i = 36 ∨ i = 37 ∨ i = 38 ∨ i = 39 ∨ i = 40 ∨ i = 41 ∨ i = 42 ∨ i = 43 ∨ i = 44 ∨ i = 45 ∨ i = 46 ∨ i = 47 by omega) with rfl | rfl | rfl | rfl | rfl | rfl | rfl | rfl | rfl | rfl | rfl | rfl | rfl | rfl | rfl | rfl
      all_goals rfl
    · by_cases e2 : i < 288
      · show (if 288 ≤ i ∧ i < 312 then kBig o 12 i else if 48 ≤ i ∧ i < 288 then kBig o 8 i else _) = if i < 48 then _ else if i < 288 then kBig o 8 i else _
        rw [if_neg (by omega), if_pos (by omega), if_neg e1, if_pos e2]
      · show (if 288 ≤ i ∧ i < 312 then kBig o 12 i else _) = if i < 48 then _ else if i < 288 then _ else if i < 312 then kBig o 12 i else _
        rw [if_pos (by omega), if_neg e1, if_neg e2, if_pos hi2]
set_option maxRecDepth 100000 in
set_option maxHeartbeats 4000000 in
theorem mk_tree (h : EV σ0 σ o 313 S ks fs rs) (h0 : ks 312 = some (.inl (10, [some none, some none, some none, some none, some none, some none, some none, some none, some none, none, none, none]))) (hf : ∀ i, 313 ≤ i → fs i = fun _ => 0) (hr : ∀ i, 313 ≤ i → rs i = fun _ => none) (hK : ∀ σ1 ks1, EV σ0 σ1 o 322 (S + 2559) ks1 (ups fs 312 (ups (fs 312) 11 (-2))) (rs) → (∀ i, i < 312 → ks1 i = ks i) → (∀ i, 312 ≤ i → i < 322 → ks1 i = kC o i) → Q () σ1) : gp (X10_init f (some (o + 312))) σ Q := by
  unfold X10_init
  refine gp_nn ?_
  refine ev_newI (n := 301) h (by decide) (by decide) rfl (hf 313 (by decide)) (hr 313 (by decide)) (fun σ1 h1 => ?_)
  refine ev_wR (i := 312) h1 (by decide) h0 (Nat.le_of_ble_eq_true rfl) (fun σ2 h2 => ?_)
  refine ev_newI (n := 301) h2 (by decide) (by decide) rfl (hf 314 (by decide)) (hr 314 (by decide)) (fun σ3 h3 => ?_)
  refine ev_wR (i := 312) h3 (by decide) rfl (Nat.le_of_ble_eq_true rfl) (fun σ4 h4 => ?_)
  refine ev_newI (n := 301) h4 (by decide) (by decide) rfl (hf 315 (by decide)) (hr 315 (by decide)) (fun σ5 h5 => ?_)
  refine ev_wR (i := 312) h5 (by decide) rfl (Nat.le_of_ble_eq_true rfl) (fun σ6 h6 => ?_)
  refine ev_newI (n := 301) h6 (by decide) (by decide) rfl (hf 316 (by decide)) (hr 316 (by decide)) (fun σ7 h7 => ?_)
  refine ev_wR (i := 312) h7 (by decide) rfl (Nat.le_of_ble_eq_true rfl) (fun σ8 h8 => ?_)
  refine ev_newL (n := 301) h8 (by decide) rfl (hf 317 (by decide)) (hr 317 (by decide)) (fun σ9 h9 => ?_)
  refine ev_wR (i := 312) h9 (by decide) rfl (Nat.le_of_ble_eq_true rfl) (fun σ10 h10 => ?_)
  refine ev_newL (n := 301) h10 (by decide) rfl (hf 318 (by decide)) (hr 318 (by decide)) (fun σ11 h11 => ?_)
  refine ev_wR (i := 312) h11 (by decide) rfl (Nat.le_of_ble_eq_true rfl) (fun σ12 h12 => ?_)
  refine ev_newI (n := 301) h12 (by decide) (by decide) rfl (hf 319 (by decide)) (hr 319 (by decide)) (fun σ13 h13 => ?_)
  refine ev_wR (i := 312) h13 (by decide) rfl (Nat.le_of_ble_eq_true rfl) (fun σ14 h14 => ?_)
  refine ev_newI (n := 301) h14 (by decide) (by decide) rfl (hf 320 (by decide)) (hr 320 (by decide)) (fun σ15 h15 => ?_)
  refine ev_wR (i := 312) h15 (by decide) rfl (Nat.le_of_ble_eq_true rfl) (fun σ16 h16 => ?_)
  refine ev_newR (n := 151) h16 (by decide) (by decide) rfl (hf 321 (by decide)) (hr 321 (by decide)) (fun σ17 h17 => ?_)
  refine ev_wR (i := 312) h17 (by decide) rfl (Nat.le_of_ble_eq_true rfl) (fun σ18 h18 => ?_)
  refine ev_wI (i := 312) h18 (by decide) rfl rfl (fun σ19 h19 => ?_)
  refine gp_ret ?_
  refine hK _ _ h19 (fun i hi => ?_) (fun i hi1 hi2 => ?_)
  · simp only [ups]
    iterate 80 (first | rw [if_neg (by omega)] | skip)
  · rcases (show i = 312 ∨ i = 313 ∨ i = 314 ∨ i = 315 ∨ i = 316 ∨ i = 317 ∨ i = 318 ∨ i = 319 ∨ i = 320 ∨ i = 321 by omega) with rfl | rfl | rfl | rfl | rfl | rfl | rfl | rfl | rfl | rfl
    all_goals rfl
set_option maxRecDepth 100000 in
set_option maxHeartbeats 4000000 in
theorem mk_solv (h : EV σ0 σ o 323 S ks fs rs) (h0 : ks 322 = some (.inl (7, [some none, some none, some none, some none, none, none, none, none, none]))) (hf : ∀ i, 323 ≤ i → fs i = fun _ => 0) (hr : ∀ i, 323 ≤ i → rs i = fun _ => none) (hK : ∀ σ1 ks1, EV σ0 σ1 o 328 (S + 92) ks1 (ups fs 322 (ups (fs 322) 4 0)) (rs) → (∀ i, i < 322 → ks1 i = ks i) → (∀ i, 322 ≤ i → i < 328 → ks1 i = kC o i) → Q () σ1) : gp (X7_init f (some (o + 322)) (some (o + 1)) (some (o + 32)) (some (o + 312))) σ Q := by
  unfold X7_init
  refine gp_nn ?_
  refine ev_new (lay := [some none, some none, some none, some none]) rfl h (hf 323 (by decide)) (hr 323 (by decide)) (fun σ1 h1 => ?_)
  refine gp_nn ?_
  refine gp_cB ?_
  unfold X1_init
  refine gp_nn ?_
  refine ev_newI (n := 22) h1 (by decide) (by decide) rfl (hf 324 (by decide)) (hr 324 (by decide)) (fun σ2 h2 => ?_)
  refine ev_wR (i := 323) h2 (by decide) rfl (Nat.le_of_ble_eq_true rfl) (fun σ3 h3 => ?_)
  refine ev_newI (n := 22) h3 (by decide) (by decide) rfl (hf 325 (by decide)) (hr 325 (by decide)) (fun σ4 h4 => ?_)
  refine ev_wR (i := 323) h4 (by decide) rfl (Nat.le_of_ble_eq_true rfl) (fun σ5 h5 => ?_)
  refine ev_newL (n := 22) h5 (by decide) rfl (hf 326 (by decide)) (hr 326 (by decide)) (fun σ6 h6 => ?_)
  refine ev_wR (i := 323) h6 (by decide) rfl (Nat.le_of_ble_eq_true rfl) (fun σ7 h7 => ?_)
  refine ev_newL (n := 22) h7 (by decide) rfl (hf 327 (by decide)) (hr 327 (by decide)) (fun σ8 h8 => ?_)
  refine ev_wR (i := 323) h8 (by decide) rfl (Nat.le_of_ble_eq_true rfl) (fun σ9 h9 => ?_)
  refine gp_ret ?_
  refine ev_wR (i := 322) h9 (by decide) h0 (Nat.le_of_ble_eq_true rfl) (fun σ10 h10 => ?_)
  refine ev_wI (i := 322) h10 (by decide) rfl rfl (fun σ11 h11 => ?_)
  refine ev_wR (i := 322) h11 (by decide) rfl (Nat.le_of_ble_eq_true rfl) (fun σ12 h12 => ?_)
  refine ev_wR (i := 322) h12 (by decide) rfl (Nat.le_of_ble_eq_true rfl) (fun σ13 h13 => ?_)
  refine ev_wR (i := 322) h13 (by decide) rfl (Nat.le_of_ble_eq_true rfl) (fun σ14 h14 => ?_)
  refine gp_ret ?_
  refine hK _ _ h14 (fun i hi => ?_) (fun i hi1 hi2 => ?_)
  · simp only [ups]
    iterate 80 (first | rw [if_neg (by omega)] | skip)
  · rcases (show i = 322 ∨ i = 323 ∨ i = 324 ∨ i = 325 ∨ i = 326 ∨ i = 327 by omega) with rfl | rfl | rfl | rfl | rfl | rfl
    all_goals rfl
set_option maxRecDepth 100000 in
set_option maxHeartbeats 4000000 in
theorem mk_judge (h : EV σ0 σ o 329 S ks fs rs) (h0 : ks 328 = some (.inl (4, [some none, some none, some none, some none, some none, some none, some none, some none, some none]))) (hf : ∀ i, 329 ≤ i → fs i = fun _ => 0) (hr : ∀ i, 329 ≤ i → rs i = fun _ => none) (hK : ∀ σ1 ks1, EV σ0 σ1 o 341 (S + 516) ks1 (fs) (rs) → (∀ i, i < 328 → ks1 i = ks i) → (∀ i, 328 ≤ i → i < 341 → ks1 i = kC o i) → Q () σ1) : gp (X4_init f (some (o + 328)) (some (o + 1)) (some (o + 312)) (some (o + 30)) (some (o + 19))) σ Q := by
  unfold X4_init
  refine gp_nn ?_
  refine ev_new (lay := [some none, none]) rfl h (hf 329 (by decide)) (hr 329 (by decide)) (fun σ1 h1 => ?_)
  refine gp_nn ?_
  refine gp_cB ?_
  unfold X8_init
  refine gp_nn ?_
  refine ev_newL (n := 128) h1 (by decide) rfl (hf 330 (by decide)) (hr 330 (by decide)) (fun σ2 h2 => ?_)
  refine ev_wR (i := 329) h2 (by decide) rfl (Nat.le_of_ble_eq_true rfl) (fun σ3 h3 => ?_)
  refine gp_ret ?_
  refine ev_wR (i := 328) h3 (by decide) h0 (Nat.le_of_ble_eq_true rfl) (fun σ4 h4 => ?_)
  refine ev_new (lay := [some none, some none, some none, some none]) rfl h4 (hf 331 (by decide)) (hr 331 (by decide)) (fun σ5 h5 => ?_)
  refine gp_nn ?_
  refine gp_cB ?_
  unfold X1_init
  refine gp_nn ?_
  refine ev_newI (n := 22) h5 (by decide) (by decide) rfl (hf 332 (by decide)) (hr 332 (by decide)) (fun σ6 h6 => ?_)
  refine ev_wR (i := 331) h6 (by decide) rfl (Nat.le_of_ble_eq_true rfl) (fun σ7 h7 => ?_)
  refine ev_newI (n := 22) h7 (by decide) (by decide) rfl (hf 333 (by decide)) (hr 333 (by decide)) (fun σ8 h8 => ?_)
  refine ev_wR (i := 331) h8 (by decide) rfl (Nat.le_of_ble_eq_true rfl) (fun σ9 h9 => ?_)
  refine ev_newL (n := 22) h9 (by decide) rfl (hf 334 (by decide)) (hr 334 (by decide)) (fun σ10 h10 => ?_)
  refine ev_wR (i := 331) h10 (by decide) rfl (Nat.le_of_ble_eq_true rfl) (fun σ11 h11 => ?_)
  refine ev_newL (n := 22) h11 (by decide) rfl (hf 335 (by decide)) (hr 335 (by decide)) (fun σ12 h12 => ?_)
  refine ev_wR (i := 331) h12 (by decide) rfl (Nat.le_of_ble_eq_true rfl) (fun σ13 h13 => ?_)
  refine gp_ret ?_
  refine ev_wR (i := 328) h13 (by decide) rfl (Nat.le_of_ble_eq_true rfl) (fun σ14 h14 => ?_)
  refine ev_newL (n := 32) h14 (by decide) rfl (hf 336 (by decide)) (hr 336 (by decide)) (fun σ15 h15 => ?_)
  refine ev_wR (i := 328) h15 (by decide) rfl (Nat.le_of_ble_eq_true rfl) (fun σ16 h16 => ?_)
  refine ev_big (n := 128) h16 (by decide) (by decide) rfl (hf 337 (by decide)) (hf 338 (by decide)) (hr 337 (by decide)) (hr 338 (by decide)) (fun σ17 h17 => ?_)
  refine ev_wR (i := 328) h17 (by decide) rfl (Nat.le_of_ble_eq_true rfl) (fun σ18 h18 => ?_)
  refine ev_big (n := 128) h18 (by decide) (by decide) rfl (hf 339 (by decide)) (hf 340 (by decide)) (hr 339 (by decide)) (hr 340 (by decide)) (fun σ19 h19 => ?_)
  refine ev_wR (i := 328) h19 (by decide) rfl (Nat.le_of_ble_eq_true rfl) (fun σ20 h20 => ?_)
  refine ev_wR (i := 328) h20 (by decide) rfl (Nat.le_of_ble_eq_true rfl) (fun σ21 h21 => ?_)
  refine ev_wR (i := 328) h21 (by decide) rfl (Nat.le_of_ble_eq_true rfl) (fun σ22 h22 => ?_)
  refine ev_wR (i := 328) h22 (by decide) rfl (Nat.le_of_ble_eq_true rfl) (fun σ23 h23 => ?_)
  refine ev_wR (i := 328) h23 (by decide) rfl (Nat.le_of_ble_eq_true rfl) (fun σ24 h24 => ?_)
  refine gp_ret ?_
  refine hK _ _ h24 (fun i hi => ?_) (fun i hi1 hi2 => ?_)
  · simp only [ups]
    iterate 80 (first | rw [if_neg (by omega)] | skip)
  · rcases (show i = 328 ∨ i = 329 ∨ i = 330 ∨ i = 331 ∨ i = 332 ∨ i = 333 ∨ i = 334 ∨ i = 335 ∨ i = 336 ∨ i = 337 ∨ i = 338 ∨ i = 339 ∨ i = 340 by omega) with rfl | rfl | rfl | rfl | rfl | rfl | rfl | rfl | rfl | rfl | rfl | rfl | rfl
    all_goals rfl
end TZ
