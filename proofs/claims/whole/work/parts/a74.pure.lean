/-! ===== the law's function comes to its end, within the room ===== -/
theorem lw_ok : lw_pure := by
  intro sz L xs hL
  have key : ∀ f, 40000 ≤ f → gp (L_law f L xs) ((sz, 0, (fun _ => none), (fun _ _ => 0), (fun _ _ => 0), (fun _ _ => 0), fun _ _ => none) : tz_S) (fun _ σ' => ∃ C, C ≤ 1000000 ∧ lwI C sz σ') := by
    intro f hf
    unfold L_law
    refine mk_all (o := sz) (S := 0) rfl rfl (by omega) (fun σ1 ks G1 C1 h0 hk n1 s1 f1 w1 => ?_)
    refine mk_ref (M := sz + 397) n1 s1 (by omega) (fun σ2 G2 n2 s2 r2 => ?_)
    refine gp_mono (lw_loop (C := tz_ns σ2) hL hf ⟨0, zF0, mk_clV (CE_gr C1 G2 (by omega) (fun _ _ w => w)) h0 hk (Fz_gro f1 G2 (by omega) (fun _ _ _ w => w)) (fun x hx => Fz_gro (w1 x hx) G2 (by omega) (fun _ _ _ w => w)) (by omega), r2, zF0_ok, by omega⟩) ?_
    intro _ σ3 hI
    exact ⟨tz_ns σ2, by omega, hI⟩
  obtain ⟨r, σ', e, C, hC, q, F, hcl, -, -, hns⟩ := key 40000 (Nat.le_refl _)
  obtain ⟨nc, hq, -⟩ := clV_nc hcl
  refine ⟨40000, tz_h σ', e, ?_, ?_⟩
  · show tz_nc σ' ≤ sz + 600000
    omega
  · show tz_ns σ' ≤ 7302250
    omega
