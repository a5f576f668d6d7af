/-! ===== the reference: conflict, the other side ===== -/
section SG
variable {f M n m K lc s v c k : Nat} {σ σ1 : tz_S} {up fi se : Nat → Option Nat} {vr : Nat → Nat} {fo to : Nat → Int} {cd : Nat → Bool} {ln : Nat → Nat} {mq : Nat → Nat → Int × Int} {T : Nat → Nat → Int} {D w : Int} {va : Nat → Int} {bs cl : Nat → Nat} {p pre q : List (Nat × Bool)} {Q : Unit → tz_S → Prop}
theorem rtV_mv (hT : rtV σ M n m D T va bs cl) (hn : n ≤ 10) (hm : m ≤ 12) (hpm : pmI n m bs cl) (hc : c < n) (hP : Pq M (3856 + 300 * cl c) (3856 + 300 * cl c + k + 1) σ σ1) (hv : nV (tz_A σ1 (M + 20)) (3856 + 300 * cl c) k w) (hk : k ≤ 15) : rtV σ1 M n m D T (ups va c w) bs cl := by
  obtain ⟨a1, a2, a3, a4, a5⟩ := hT
  have hcc := hpm.2.1 c hc
  refine ⟨by rw [Fr_A hP.1 (by omega)]; exact a1, by rw [Fr_A hP.1 (by omega)]; exact a2, nP_at a3 hP (by omega), fun i j hi hj => nP_at (a4 i j hi hj) hP (by omega), fun j hj => ?_⟩
  by_cases e : j = c
  · rw [e, ups_s]; exact ⟨k, hv, by omega, hk⟩
  · rw [ups_n _ _ e]
    have : cl j ≠ cl c := fun e2 => e (hpm.2.2.2.1 j c hj hc e2)
    exact nP_at (a5 j hj) hP (by omega)
theorem roV_turn (ho : roV σ M p.reverse fo) (hp : p = pre ++ (s, true) :: q) : roV (tz_sA (tz_sF σ M 25 (nI (q.length + 1))) (M + 17) q.length 1) M ((s, false) :: q).reverse fo := by
  refine ⟨?_, fun i s' b hi => ?_⟩
  · show tz_u2 (tz_F σ) M 25 _ M 25 = _
    rw [tz_u2_same]; simp
  · have hnP : ∀ h x, nP σ M h x → nP (tz_sA (tz_sF σ M 25 (nI (q.length + 1))) (M + 17) q.length 1) M h x := fun h x ⟨a, a1, a2⟩ => ⟨a, nV_congr a1 (fun i _ _ => by rw [sA_at, if_neg (by omega)]; rfl), a2⟩
    rw [List.reverse_cons] at hi
    rw [sA_at, if_neg (by omega), sA_at]
    show tz_A σ (M + 16) i = _ ∧ (if M + 17 = M + 17 ∧ i = q.length then (1 : Int32) else tz_A σ (M + 17) i) = _ ∧ _
    by_cases z : i < q.length
    · rw [List.getElem?_append_left (by simpa using z)] at hi
      have hi2 : p.reverse[i]? = some (s', b) := by
        rw [hp, List.reverse_append, List.reverse_cons, List.append_assoc, List.getElem?_append_left (by simpa using z)]
        exact hi
      obtain ⟨b1, b2, b3⟩ := ho.2 i s' b hi2
      rw [if_neg (by omega)]
      exact ⟨b1, b2, hnP _ _ b3⟩
    · rw [List.getElem?_append_right (by simpa using z)] at hi
      have e : i = q.length := by
        by_cases y : i = q.length
        · exact y
        · rw [List.getElem?_eq_none (by simp; omega)] at hi; cases hi
      subst e
      simp at hi
      obtain ⟨rfl, rfl⟩ := hi
      obtain ⟨b1, b2, b3⟩ := ho.2 _ _ _ (rev_at hp)
      exact ⟨b1, by rw [if_pos ⟨rfl, rfl⟩]; rfl, hnP _ _ b3⟩
theorem rkV_se (hk : rkV σ M K lc up fi se vr to cd ln) : rkV (tz_sA σ (M + 13) s (nI v)) M K lc up fi (ups se s (some v)) vr to cd ln := by
  obtain ⟨b, b3⟩ := hk
  refine ⟨b, fun j hj => ?_⟩
  obtain ⟨a1, a2, a3, a4, a5, a6, a7⟩ := b3 j hj
  refine ⟨by rw [sA_at, if_neg (by omega)]; exact a1, by rw [sA_at, if_neg (by omega)]; exact a2, by rw [sA_at, if_neg (by omega)]; exact a3, by rw [sA_at, if_neg (by omega)]; exact a4, ?_, by rw [sA_at, if_neg (by omega)]; exact a6, fun z => ⟨by rw [sA_at, if_neg (by omega)]; exact (a7 z).1, ?_⟩⟩
  · rw [sA_at]
    by_cases e : j = s
    · rw [if_pos ⟨rfl, e⟩, e, ups_s]; rfl
    · rw [if_neg (fun w => e w.2), ups_n _ _ e]; exact a5
  · obtain ⟨x, x1, x2⟩ := (a7 z).2
    exact ⟨x, nV_congr x1 (fun i _ _ => by rw [sA_at, if_neg (by omega)]), x2⟩
theorem se_fn (hs : s < K) : ups (ups se K none) s (some K) = fun j => if j = K then none else if some s = some j then some K else se j := by
  funext j
  by_cases e : j = s
  · subst e
    rw [ups_s, if_neg (by omega), if_pos rfl]
  · rw [ups_n _ _ e]
    by_cases e2 : j = K
    · rw [e2, ups_s, if_pos rfl]
    · rw [ups_n _ _ e2, if_neg e2, if_neg (fun w => by cases w; exact e rfl)]
/-- what a step may change -/
def gqF (k : Nat) : Prop := k = 15 ∨ k = 23 ∨ k = 24 ∨ k = 25
def gqA (M x : Nat) : Prop := M + 6 ≤ x ∧ x ≤ M + 17
def gqP (i : Nat) : Prop := i < 109456 ∨ 116056 ≤ i
end SG
