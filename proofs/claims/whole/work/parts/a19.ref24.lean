/-! ===== the reference: takeBounds ===== -/
section RZ
variable {f M n k x0 sd : Nat} {σ σ1 : tz_S} {v : Int} {ub lb ub2 lb2 : Nat → Option Int} {vr : Nat → Nat} {fo : Nat → Int}
theorem fU_app {x : Nat} {l2 : List (Nat × Bool)} : ∀ (l : List (Nat × Bool)) (a : Option Int), fU vr fo x (l ++ l2) a = fU vr fo x l2 (fU vr fo x l a)
  | [], _ => rfl
  | (s, b) :: l, a => by
    show fU vr fo x (l ++ l2) (if b = true ∧ vr s = x then tU a (fo s) else a) = fU vr fo x l2 (fU vr fo x l (if b = true ∧ vr s = x then tU a (fo s) else a))
    exact fU_app l _
theorem fL_app {x : Nat} {l2 : List (Nat × Bool)} : ∀ (l : List (Nat × Bool)) (a : Option Int), fL vr fo x (l ++ l2) a = fL vr fo x l2 (fL vr fo x l a)
  | [], _ => rfl
  | (s, b) :: l, a => by
    show fL vr fo x (l ++ l2) (if b = false ∧ vr s = x then tL a (fo s + 1) else a) = fL vr fo x l2 (fL vr fo x l (if b = false ∧ vr s = x then tL a (fo s + 1) else a))
    exact fL_app l _
theorem fU_rev {x : Nat} {l : List (Nat × Bool)} : fU vr fo x l.reverse none = fU vr fo x l none := oU_ext (fun v => by rw [fU_iff, fU_iff]; simp)
theorem fL_rev {x : Nat} {l : List (Nat × Bool)} : fL vr fo x l.reverse none = fL vr fo x l none := oL_ext (fun v => by rw [fL_iff, fL_iff]; simp)
theorem rbV_cong (h : rbV σ M n ub lb) (h1 : ∀ x, x < n → ub x = ub2 x) (h2 : ∀ x, x < n → lb x = lb2 x) : rbV σ M n ub2 lb2 := fun x hx => by
  rw [← h1 x hx, ← h2 x hx]; exact h x hx
theorem at_b (x s : Nat) : (10456 : Int32) + 300 * (2 * nI x + nI s) = nI (10456 + 300 * (2 * x + s)) := by
  rw [show (2 : Int32) = nI 2 from rfl, nI_mul, nI_add, show (300 : Int32) = nI 300 from rfl, nI_mul, show (10456 : Int32) = nI 10456 from rfl, nI_add]
theorem nP_at {h lo hi : Nat} {v : Int} (hp : nP σ M h v) (hs : Pq M lo hi σ σ1) (hd : h + 15 < lo ∨ hi ≤ h) : nP σ1 M h v := by
  obtain ⟨n, h1, h2⟩ := hp
  exact ⟨n, nV_congr h1 (fun i a b => hs.2.2 i (by omega)), h2⟩
set_option maxHeartbeats 1000000 in
theorem rbV_put0 (hb : rbV σ M n ub lb) (hx : x0 < n) (hn : n ≤ 10) (hP : Pq M (10456 + 300 * (2 * x0)) (10456 + 300 * (2 * x0) + k + 1) σ σ1) (hv : nV (tz_A σ1 (M + 20)) (10456 + 300 * (2 * x0)) k v) (hk : k ≤ 15) : rbV (tz_sA σ1 (M + 6) (2 * x0) 1) M n (ups ub x0 (some v)) lb := by
  intro x hxn
  obtain ⟨a1, a2, a3, a4⟩ := hb x hxn
  have hA : ∀ j, tz_A (tz_sA σ1 (M + 6) (2 * x0) 1) (M + 6) j = if j = 2 * x0 then 1 else tz_A σ (M + 6) j := fun j => by
    rw [sA_at, Fr_A hP.1 (x := M + 6) (by omega)]
    simp
  have hA2 : ∀ h w, nP σ1 M h w → nP (tz_sA σ1 (M + 6) (2 * x0) 1) M h w := fun h w ⟨q, q1, q2⟩ => ⟨q, nV_congr q1 (fun i _ _ => by rw [sA_at, if_neg (by omega)]), q2⟩
  by_cases e : x = x0
  · subst e
    rw [ups_s]
    refine ⟨by rw [hA, if_pos rfl]; simp, by rw [hA, if_neg (by omega)]; exact a2, fun w hw => ?_, fun w hw => ?_⟩
    · cases hw
      exact hA2 _ _ ⟨k, hv, by omega, hk⟩
    · exact hA2 _ _ (nP_at (a4 w hw) hP (by omega))
  · rw [ups_n _ _ e]
    exact ⟨by rw [hA, if_neg (by omega)]; exact a1, by rw [hA, if_neg (by omega)]; exact a2, fun w hw => hA2 _ _ (nP_at (a3 w hw) hP (by omega)), fun w hw => hA2 _ _ (nP_at (a4 w hw) hP (by omega))⟩
set_option maxHeartbeats 1000000 in
theorem rbV_put1 (hb : rbV σ M n ub lb) (hx : x0 < n) (hn : n ≤ 10) (hP : Pq M (10456 + 300 * (2 * x0 + 1)) (10456 + 300 * (2 * x0 + 1) + k + 1) σ σ1) (hv : nV (tz_A σ1 (M + 20)) (10456 + 300 * (2 * x0 + 1)) k v) (hk : k ≤ 15) : rbV (tz_sA σ1 (M + 6) (2 * x0 + 1) 1) M n ub (ups lb x0 (some v)) := by
  intro x hxn
  obtain ⟨a1, a2, a3, a4⟩ := hb x hxn
  have hA : ∀ j, tz_A (tz_sA σ1 (M + 6) (2 * x0 + 1) 1) (M + 6) j = if j = 2 * x0 + 1 then 1 else tz_A σ (M + 6) j := fun j => by
    rw [sA_at, Fr_A hP.1 (x := M + 6) (by omega)]
    simp
  have hA2 : ∀ h w, nP σ1 M h w → nP (tz_sA σ1 (M + 6) (2 * x0 + 1) 1) M h w := fun h w ⟨q, q1, q2⟩ => ⟨q, nV_congr q1 (fun i _ _ => by rw [sA_at, if_neg (by omega)]), q2⟩
  by_cases e : x = x0
  · subst e
    rw [ups_s]
    refine ⟨by rw [hA, if_neg (by omega)]; exact a1, by rw [hA, if_pos rfl]; simp, fun w hw => ?_, fun w hw => ?_⟩
    · exact hA2 _ _ (nP_at (a3 w hw) hP (by omega))
    · cases hw
      exact hA2 _ _ ⟨k, hv, by omega, hk⟩
  · rw [ups_n _ _ e]
    exact ⟨by rw [hA, if_neg (by omega)]; exact a1, by rw [hA, if_neg (by omega)]; exact a2, fun w hw => hA2 _ _ (nP_at (a3 w hw) hP (by omega)), fun w hw => hA2 _ _ (nP_at (a4 w hw) hP (by omega))⟩
end RZ
