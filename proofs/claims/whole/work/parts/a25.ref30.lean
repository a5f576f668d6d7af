/-! ===== the reference: conflict, the split that waits ===== -/
section SF
variable {f M K k : Nat} {σ : tz_S} {up fi se : Nat → Option Nat} {fo : Nat → Int} {Q : Unit → tz_S → Prop}
theorem rev_at {p pre q : List (Nat × Bool)} {a : Nat × Bool} (h : p = pre ++ a :: q) : p.reverse[q.length]? = some a := by
  rw [h]; simp
theorem r_cfK (h : mSh σ M) (ho : roV σ M (pt up fi k).reverse fo) (hlen : (pt up fi k).length ≤ 24) (hw : ∀ k, k < K → ∀ p, up k = some p → p < k) (hk : k < K) (hse : ∀ s b, (s, b) ∈ pt up fi k → (b = true ↔ se s = none)) (hf : 2000 ≤ f) (hN : lwt se (pt up fi k) = none → gp (X12_conflict_b196 f (some M) (-1)) σ Q) (hS : ∀ s pre, s < K → pt up fi k = pre ++ (s, true) :: pt up fi s → lwt se (pt up fi k) = some s → gp (X12_conflict_b196 f (some M) (nI (pt up fi s).length)) σ Q) :
    gp (X12_conflict_L177 f (some M) (nI (pt up fi k).length - 1)) σ Q := by
  unfold X12_conflict_L177
  have hs : ∀ x : Int32, x - 1 + 1 = x := fun x => Int32.sub_add_cancel x 1
  refine gp_loop (I := fun (τ : Int32) (σ' : tz_S) => σ' = σ ∧ ∃ j pre, j < K ∧ τ = nI (pt up fi j).length - 1 ∧ pt up fi k = pre ++ pt up fi j ∧ lwt se (pt up fi k) = lwt se (pt up fi j)) (fun τ _ => (τ + 1).toNatClampNeg) ?_ f _ _ ⟨rfl, k, [], hk, rfl, rfl, rfl⟩ (by show (nI (pt up fi k).length - 1 + 1).toNatClampNeg < f; rw [hs, nI_clamp (by omega)]; omega)
  rintro KK l1 σ1 ⟨hσ, j, pre, hj, rfl, hp, hl⟩ hK1
  rw [hσ]
  clear hσ σ1
  show gp (X12_conflict_L177_body f (some M) (fun l1 => KK l1) (nI (pt up fi j).length - 1)) σ _
  unfold X12_conflict_L177_body
  cases hu : up j with
  | none =>
    rw [pt_none hu] at hl ⊢
    exact gp_t (by decide) (hN hl)
  | some s =>
    have hsj := hw j hj s hu
    have hpt := pt_some (fi := fi) hw hj hu
    rw [hpt] at hl hp ⊢
    have hle : (pt up fi s).length + 1 ≤ (pt up fi k).length := by rw [hp]; simp
    rw [List.length_cons, nI_p1]
    refine gp_f (nI_pos (by omega)) ?_
    refine gp_rR (mh_me h) rfl ?_
    refine gp_aI (j := (pt up fi s).length) (mh_17 h) (by decide) (by omega) (by omega) rfl ?_
    have hat := rev_at hp
    obtain ⟨-, o2, -⟩ := ho.2 _ _ _ hat
    rw [o2]
    have hmem : (s, decide (fi s = some j)) ∈ pt up fi k := by rw [hp]; simp
    have hbs := hse _ _ hmem
    generalize hb : decide (fi s = some j) = b at *
    cases b with
    | true =>
      refine gp_t rfl (hS s pre (by omega) hp ?_)
      rw [hl]
      show (if se s = none then some s else lwt se (pt up fi s)) = some s
      rw [if_pos (hbs.1 rfl)]
    | false =>
      refine gp_f (by decide) ?_
      refine gp_let ?_
      refine hK1 _ _ ⟨rfl, s, pre ++ [(s, false)], by omega, (Int32.sub_eq_add_neg _ _).symm, by rw [hp]; simp, ?_⟩ ?_
      · rw [hl]
        show (if se s = none then some s else lwt se (pt up fi s)) = _
        rw [if_neg (fun e => by have := hbs.2 e; cases this)]
      · show (nI (pt up fi s).length + -1 + 1).toNatClampNeg < (nI (pt up fi j).length - 1 + 1).toNatClampNeg
        rw [← Int32.sub_eq_add_neg, hs, hs, hpt, List.length_cons, nI_clamp (by omega), nI_clamp (by omega)]; omega
end SF
