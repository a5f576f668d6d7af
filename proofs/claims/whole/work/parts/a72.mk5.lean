/-! ===== what the made solver holds; printed by wip/whole/genmk4.py ===== -/
section UB
variable {o : Nat} {σ : tz_S} {ks : Nat → Option tz_K}
theorem kC_line {r : Nat} (hr : r < 12) : kC o (3 + r) = some (.inr (0, 10)) := by
  rcases (show r = 0 ∨ r = 1 ∨ r = 2 ∨ r = 3 ∨ r = 4 ∨ r = 5 ∨ r = 6 ∨ r = 7 ∨ r = 8 ∨ r = 9 ∨ r = 10 ∨ r = 11 by omega) with rfl | rfl | rfl | rfl | rfl | rfl | rfl | rfl | rfl | rfl | rfl | rfl
  all_goals rfl
theorem kC_cell {k : Nat} (hk : k < 120) : kC o (48 + 2 * k) = some (.inl (0, [some (some (o + (48 + 2 * k) + 1)), none, none])) ∧ kC o (48 + 2 * k + 1) = some (.inr (0, 8)) := by
  unfold kC kBig
  rw [if_neg (by omega), if_pos (by omega), if_pos (by omega), if_neg (by omega), if_pos (by omega), if_neg (by omega)]
  exact ⟨rfl, rfl⟩
theorem kC_am {k : Nat} (hk : k < 12) : kC o (288 + 2 * k) = some (.inl (0, [some (some (o + (288 + 2 * k) + 1)), none, none])) ∧ kC o (288 + 2 * k + 1) = some (.inr (0, 12)) := by
  unfold kC kBig
  rw [if_neg (by omega), if_neg (by omega), if_pos (by omega), if_pos (by omega), if_neg (by omega), if_neg (by omega), if_pos (by omega), if_neg (by omega)]
  exact ⟨rfl, rfl⟩
set_option maxRecDepth 100000 in
set_option maxHeartbeats 4000000 in
theorem mk_cs (hC : CE σ o ks fC (ups (rC o) 341 (fun j => if j < 10 then some (o + 347 + 5 * j) else none))) (h0 : ks 0 = some (.inl (11, [some (some (o + 1)), some (some (o + 19)), some (some (o + 30)), some (some (o + 32)), some (some (o + 312)), some (some (o + 322)), some (some (o + 328)), some (some (o + 341)), some (some (o + 342)), none]))) (hk : ∀ i, 1 ≤ i → i < 342 → ks i = kC o i) (hh : Fz σ (o + 342) 12 0 1) (hw : ∀ x, x < 10 → Fz σ (o + 347 + 5 * x) 12 0 1) : cSh σ o 128 := by
  have sh : ∀ i k, 1 ≤ i → i < 342 → kC o i = some k → tz_sh σ (o + i) = some k := fun i k h1 h2 h3 => (hC i h2).1.trans ((hk i h1 h2).trans h3)
  refine ⟨(hC 0 (by decide)).1.trans h0,
    sh 1 _ (by decide) (by decide) rfl,
    sh 2 _ (by decide) (by decide) rfl,
    fun r hr => ⟨by rw [Nat.add_assoc]; exact sh (3 + r) _ (by omega) (by omega) (kC_line hr), by rw [(hC 2 (by decide)).2.2.2.2]; exact if_pos hr⟩,
    sh 15 _ (by decide) (by decide) rfl,
    sh 16 _ (by decide) (by decide) rfl,
    sh 17 _ (by decide) (by decide) rfl,
    sh 18 _ (by decide) (by decide) rfl,
    ⟨sh 19 _ (by decide) (by decide) rfl, ⟨sh 20 _ (by decide) (by decide) rfl, sh 21 _ (by decide) (by decide) rfl, by decide⟩, ⟨sh 22 _ (by decide) (by decide) rfl, sh 23 _ (by decide) (by decide) rfl, by decide⟩, ⟨sh 24 _ (by decide) (by decide) rfl, sh 25 _ (by decide) (by decide) rfl, by decide⟩, ⟨sh 26 _ (by decide) (by decide) rfl, sh 27 _ (by decide) (by decide) rfl, by decide⟩, sh 28 _ (by decide) (by decide) rfl, sh 29 _ (by decide) (by decide) rfl, rfl⟩,
    ⟨sh 30 _ (by decide) (by decide) rfl, sh 31 _ (by decide) (by decide) rfl, rfl⟩,
    sh 32 _ (by decide) (by decide) rfl,
    sh 33 _ (by decide) (by decide) rfl,
    sh 34 _ (by decide) (by decide) rfl,
    sh 35 _ (by decide) (by decide) rfl,
    sh 36 _ (by decide) (by decide) rfl,
    sh 37 _ (by decide) (by decide) rfl,
    sh 38 _ (by decide) (by decide) rfl,
    sh 39 _ (by decide) (by decide) rfl,
    ⟨sh 40 _ (by decide) (by decide) rfl, sh 41 _ (by decide) (by decide) rfl, by decide⟩,
    ⟨sh 42 _ (by decide) (by decide) rfl, sh 43 _ (by decide) (by decide) rfl, by decide⟩,
    ⟨sh 44 _ (by decide) (by decide) rfl, sh 45 _ (by decide) (by decide) rfl, by decide⟩,
    ⟨sh 46 _ (by decide) (by decide) rfl, sh 47 _ (by decide) (by decide) rfl, by decide⟩,
    fun k hk2 => ⟨⟨by rw [Nat.add_assoc o 48]; exact sh (48 + 2 * k) _ (by omega) (by omega) (kC_cell hk2).1, by rw [Nat.add_assoc o 48, Nat.add_assoc o]; exact sh (48 + 2 * k + 1) _ (by omega) (by omega) (kC_cell hk2).2, by decide⟩, by rw [(hC 33 (by decide)).2.2.2.2]; exact if_pos hk2⟩,
    fun k hk2 => ⟨⟨by rw [Nat.add_assoc o 288]; exact sh (288 + 2 * k) _ (by omega) (by omega) (kC_am hk2).1, by rw [Nat.add_assoc o 288, Nat.add_assoc o]; exact sh (288 + 2 * k + 1) _ (by omega) (by omega) (kC_am hk2).2, by decide⟩, by rw [(hC 34 (by decide)).2.2.2.2]; exact if_pos hk2⟩,
    sh 312 _ (by decide) (by decide) rfl,
    sh 313 _ (by decide) (by decide) rfl,
    sh 314 _ (by decide) (by decide) rfl,
    sh 315 _ (by decide) (by decide) rfl,
    sh 316 _ (by decide) (by decide) rfl,
    sh 317 _ (by decide) (by decide) rfl,
    sh 318 _ (by decide) (by decide) rfl,
    sh 319 _ (by decide) (by decide) rfl,
    sh 320 _ (by decide) (by decide) rfl,
    sh 321 _ (by decide) (by decide) rfl,
    sh 322 _ (by decide) (by decide) rfl,
    sh 323 _ (by decide) (by decide) rfl,
    sh 324 _ (by decide) (by decide) rfl,
    sh 325 _ (by decide) (by decide) rfl,
    sh 326 _ (by decide) (by decide) rfl,
    sh 327 _ (by decide) (by decide) rfl,
    sh 328 _ (by decide) (by decide) rfl,
    ⟨sh 329 _ (by decide) (by decide) rfl, sh 330 _ (by decide) (by decide) rfl, rfl⟩,
    sh 331 _ (by decide) (by decide) rfl,
    sh 332 _ (by decide) (by decide) rfl,
    sh 333 _ (by decide) (by decide) rfl,
    sh 334 _ (by decide) (by decide) rfl,
    sh 335 _ (by decide) (by decide) rfl,
    sh 336 _ (by decide) (by decide) rfl,
    ⟨sh 337 _ (by decide) (by decide) rfl, sh 338 _ (by decide) (by decide) rfl, by decide⟩,
    ⟨sh 339 _ (by decide) (by decide) rfl, sh 340 _ (by decide) (by decide) rfl, by decide⟩,
    sh 341 _ (by decide) (by decide) rfl,
    Fz_sh hh,
    fun x hx => ⟨Fz_sh (hw x hx), by rw [(hC 341 (by decide)).2.2.2.2]; exact if_pos hx⟩⟩
theorem mk_smOk {s : Nat} (h1 : sSh σ s (s + 1) 128) (h2 : tz_F σ s 1 = 0) (h3 : tz_L σ (s + 1) = fun _ => 0) : smOk σ s 128 := by
  refine ⟨0, 0, h1, h2, ?_, ?_⟩
  · rw [h3]
    exact ⟨Nat.zero_le _, fun j _ => by show -1000000000 < (0 : Int64).toInt ∧ (0 : Int64).toInt < 1000000000; decide, fun j _ _ => rfl⟩
  · rw [h3]
    exact mg_zero
def zF0 : zF := ((0, 0, (fun _ _ => 0), (fun _ => 0), (fun _ => 0), (fun _ => false), fun _ => 0), ((1, (fun _ _ => 0), (fun _ => 0), (fun _ => 0), fun _ => 0), (0, 0, (fun _ => none), (fun _ => none), (fun _ => none), (fun _ => 0), (fun _ => 0), (fun _ => 0), (fun _ => false), (fun _ => 0), none), (0, 0, 0, 0, 0), (fun _ _ => (0, 1)), fun _ _ => (0, 1)), (fun _ => (0, 1)), (fun _ => (0, 1)), (0, 1), false)
set_option maxRecDepth 100000 in
theorem mk_clV (hC : CE σ o ks fC (ups (rC o) 341 (fun j => if j < 10 then some (o + 347 + 5 * j) else none))) (h0 : ks 0 = some (.inl (11, [some (some (o + 1)), some (some (o + 19)), some (some (o + 30)), some (some (o + 32)), some (some (o + 312)), some (some (o + 322)), some (some (o + 328)), some (some (o + 341)), some (some (o + 342)), none]))) (hk : ∀ i, 1 ≤ i → i < 342 → ks i = kC o i) (hh : Fz σ (o + 342) 12 0 1) (hw : ∀ x, x < 10 → Fz σ (o + 347 + 5 * x) 12 0 1) (hn : tz_nc σ = o + 418) : clV σ o 0 128 zF0 := by
  have hc := mk_cs hC h0 hk hh hw
  have F : ∀ i k, i < 342 → tz_F σ (o + i) k = fC i k := fun i k hi => by rw [(hC i hi).2.1]
  have A : ∀ i k, i < 342 → tz_A σ (o + i) k = 0 := fun i k hi => by rw [(hC i hi).2.2.1]
  refine clV_mk (slV_mk hc ⟨⟨F 1 5 (by decide), F 1 6 (by decide), by decide, by decide⟩, fun r x hr => absurd hr (Nat.not_lt_zero _), fun r hr => absurd hr (Nat.not_lt_zero _), fun r hr => absurd hr (Nat.not_lt_zero _), fun x _ => A 17 x (by decide), fun x _ => by rw [A 18 x (by decide)]; rfl⟩ (mk_smOk (cs_sum hc) (F 30 1 (by decide)) (hC 31 (by decide)).2.2.2.1) ?_ ⟨F 322 4 (by decide), F 322 5 (by decide), F 322 6 (by decide), F 322 7 (by decide), F 322 8 (by decide)⟩ (fun i hi => absurd hi (Nat.not_lt_zero _)) (fun z => absurd rfl z) (fun z => absurd z (by decide))) ⟨mk_smOk (cs_other hc) (F 329 1 (by decide)) (hC 330 (by decide)).2.2.2.1, hw, hh, F 0 9 (by decide)⟩
  exact ⟨⟨F 312 10 (by decide), F 312 9 (by decide), F 312 11 (by decide), by decide, by decide, by decide⟩, ⟨hn, fun i _ => by rw [(hC 321 (by decide)).2.2.2.2]; rfl, fun i hi => absurd hi (Nat.not_lt_zero _)⟩, fun k hk => absurd hk (Nat.not_lt_zero _), fun k hk => absurd hk (Nat.not_lt_zero _)⟩
theorem zF0_ok : okF zF0 := by
  refine okF_mk ⟨by decide, fun r x hr => absurd hr (Nat.not_lt_zero _), fun r hr => absurd hr (Nat.not_lt_zero _), fun x _ => by show -1000000 ≤ (0 : Int) ∧ (0 : Int) ≤ 1000000; decide⟩ ?_ (fun x _ => by unfold wvI; show 0 < (1 : Int) ∧ (1 : Int).natAbs ≤ 10 ^ 70 ∧ (0 : Int).natAbs ≤ 10 ^ 90 ∧ 0 < (1 : Int) ∧ (0 : Int) * 1 = 0 * 1 ∧ (0 : Int).natAbs ≤ (0 : Int).natAbs ∧ (1 : Int) ≤ 1; decide)
  exact ⟨⟨by decide, fun _ => ⟨rfl, rfl, rfl⟩, fun _ => rfl⟩, fun z => absurd rfl z, fun j hj => absurd hj (Nat.not_lt_zero _), fun j hj => absurd hj (Nat.not_lt_zero _), fun z => absurd rfl z, fun i hi => absurd hi (Nat.not_lt_zero _)⟩
end UB
