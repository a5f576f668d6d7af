/-! ===== the reference: digits, setWitness ===== -/
section TB
variable {f M n m : Nat} {σ σ1 : tz_S} {A : Nat → Nat → Int} {kd : Nat → Nat} {bb dr : Nat → Int} {wh : Nat → Bool} {wp wq : Nat → Int × Int} {hd : Int × Int} {ah : Bool} {Z : zS}
theorem nV_dgt {a : Nat → Int32} {h k : Nat} {v : Int} (hv : nV a h k v) (i : Nat) : dgt v.natAbs i = if i < k then dI a (h + 1 + i) else 0 := by
  obtain ⟨-, h2, -, h4, -⟩ := hv
  have e := mg_dig (d := fun j => dI a (h + 1 + j)) h2 i
  rw [h4] at e
  rw [← e]
  unfold dgt
  rw [Int.natCast_emod, Int.natCast_ediv, Int.natCast_pow]
  rfl
theorem r_digits {s k : Int32} (h : rfV σ M ((n, m, A, kd, bb, wh, dr), Z, wp, wq, hd, ah)) (hf : 2000 ≤ f) : gp (X12_digits f (some M) s k) σ (fun y σ' => σ' = σ ∧ y = mDig s k ((n, m, A, kd, bb, wh, dr), Z, wp, wq, hd, ah)) := by
  obtain ⟨hsl, hW, hH⟩ := rfV_un h
  obtain ⟨hc, -⟩ := rgV_sh hsl
  unfold X12_digits X12_digits_b20 X12_digits_b55
  have bad : ¬ ((0 ≤ s.toInt ∧ s.toInt ≤ 1) ∧ 0 ≤ k.toInt ∧ ah = true) → gp (pz_ret (-1)) σ (fun y σ' => σ' = σ ∧ y = mDig s k ((n, m, A, kd, bb, wh, dr), Z, wp, wq, hd, ah)) := fun w => gp_ret ⟨rfl, by rw [show mDig s k ((n, m, A, kd, bb, wh, dr), Z, wp, wq, hd, ah) = -1 from if_neg w]⟩
  refine gp_if (fun z => bad (by have := (i32_c s 0).1.1 z; have e : (0 : Int32).toInt = 0 := rfl; omega)) (fun z => ?_)
  have z' : ¬ s.toInt < 0 := fun w => z ((i32_c s 0).1.2 w)
  refine gp_if (fun y => bad (by have := (i32_c 1 s).1.1 y; have e : (1 : Int32).toInt = 1 := rfl; omega)) (fun y => ?_)
  have y' : ¬ 1 < s.toInt := fun w => y ((i32_c 1 s).1.2 w)
  refine gp_if (fun x => bad (by have := (i32_c k 0).1.1 x; have e : (0 : Int32).toInt = 0 := rfl; omega)) (fun x => ?_)
  have x' : ¬ k.toInt < 0 := fun w => x ((i32_c k 0).1.2 w)
  refine gp_rI (mh_me hc) rfl ?_
  rw [hH.1]
  cases hah : ah with
  | false =>
    refine gp_t (by simp) (gp_ret ⟨rfl, ?_⟩)
    rw [show mDig s k ((n, m, A, kd, bb, wh, dr), Z, wp, wq, hd, false) = -1 from if_neg (fun w => by cases w.2.2)]
  | true =>
    refine gp_f (by simp) ?_
    refine gp_let ?_
    rw [show mDig s k ((n, m, A, kd, bb, wh, dr), Z, wp, wq, hd, true) = Int32.ofInt (dgt (if s.toInt = 0 then hd.1 else hd.2).natAbs k.toInt.toNat) from if_pos ⟨by omega, by omega, rfl⟩]
    obtain ⟨p1, p2⟩ := hH.2 hah
    obtain ⟨sn, hs, hs31, hs2⟩ := i32_nat (show 0 ≤ s.toInt by omega)
    obtain ⟨kn, hk, hk31, hk2⟩ := i32_nat (show 0 ≤ k.toInt by omega)
    rw [show k.toInt.toNat = kn by omega, hk]
    have hsn : sn = 0 ∨ sn = 1 := by omega
    have fin : ∀ x v, nP σ M x v → x < 400000 → gp (pz_cV 12 (some M) (X12_limbs f (some M) (nI x)) fun x3 => pz_if (x3 ≤ nI kn) (pz_ret 0) <| pz_gB (pz_rR 12 34 (some M)) fun x4 => pz_gB (pz_aI 0 x4 ((nI x + nI kn) + 1)) fun x5 => pz_ret x5) σ (fun y σ' => σ' = σ ∧ y = Int32.ofInt (dgt v.natAbs kn)) := by
      intro x v ⟨c, c1, c2⟩ hx
      refine gp_cV (mh_me hc) (gp_mono (r_limbs hc c1 (by omega)) ?_)
      rintro _ σ0 ⟨z0, rfl⟩
      rw [z0, nV_dgt c1]
      refine gp_if (fun w => ?_) (fun w => ?_)
      · rw [nI_leI (by omega) (by omega)] at w
        exact gp_ret ⟨rfl, by rw [if_neg (by omega)]; rfl⟩
      · rw [nI_leI (by omega) (by omega)] at w
        rw [nI_add, nI_1]
        refine gp_pl hc (j := x + kn + 1) (by omega) rfl (gp_ret ⟨rfl, ?_⟩)
        rw [if_pos (by omega), show x + 1 + kn = x + kn + 1 by omega]
        exact (Int32.ofInt_toInt _).symm
    rcases hsn with e | e
    · rw [if_pos (by omega), hs, e, show (115456 : Int32) + 300 * nI 0 = nI 115456 from rfl]
      exact fin _ _ p1 (by omega)
    · rw [if_neg (by omega), hs, e, show (115456 : Int32) + 300 * nI 1 = nI 115756 from rfl]
      exact fin _ _ p2 (by omega)
theorem r_isFraction {a b : Int32} : gp (X12_isFraction f a b) σ (fun y σ' => σ' = σ ∧ y = if (-1000000000 ≤ a.toInt ∧ a.toInt ≤ 1000000000) ∧ 1 ≤ b.toInt ∧ b.toInt ≤ 1000000000 then 1 else 0) := by
  unfold X12_isFraction X12_isFraction_b26 X12_isFraction_b27
  refine gp_if (fun z => ?_) (fun z => ?_)
  · have z' : b.toInt < 1 := (i32_c b 1).1.1 z
    exact gp_zz (Or.inl rfl) (gp_ret ⟨rfl, by rw [if_neg (by omega)]⟩)
  have z' : ¬ b.toInt < 1 := fun w => z ((i32_c b 1).1.2 w)
  refine gp_if (fun y => ?_) (fun y => ?_)
  · have y' : 1000000000 < b.toInt := (i32_c 1000000000 b).1.1 y
    exact gp_zz (Or.inl rfl) (gp_ret ⟨rfl, by rw [if_neg (by omega)]⟩)
  have y' : ¬ 1000000000 < b.toInt := fun w => y ((i32_c 1000000000 b).1.2 w)
  refine gp_cB (gp_mono (r_within (W := 1000000000) (by decide) (by decide)) ?_)
  rintro y2 σ0 ⟨z0, hy2⟩
  rw [z0]
  clear z0 σ0
  refine gp_if (fun t => ?_) (fun t => ?_)
  · have := ite0 hy2 t
    exact gp_zz (Or.inl rfl) (gp_ret ⟨rfl, by rw [if_neg (fun w => this w.1)]⟩)
  · have := ite1 hy2 t
    exact gp_zz (Or.inr rfl) (gp_ret ⟨rfl, by rw [if_pos ⟨this, by omega, by omega⟩]⟩)
end TB
