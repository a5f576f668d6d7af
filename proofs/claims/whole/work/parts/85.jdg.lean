/-! ===== Judge: addPart, compareTotal ===== -/
def jcP (o : Nat) : Nat → Prop := fun x => x = o + 30 ∨ x = o + 31 ∨ x = o + 329 ∨ x = o + 330 ∨ (o + 337 ≤ x ∧ x ≤ o + 340)
theorem p9 {x k m : Nat} (h : x < 10 ^ k) (hk : k ≤ 9 * m) : (x : Int) < 1000000000 ^ m := by
  have h1 : 10 ^ k ≤ 10 ^ (9 * m) := Nat.pow_le_pow_right (by decide) hk
  rw [Nat.pow_mul] at h1
  exact lt_cast (a := 1000000000) (Nat.lt_of_lt_of_le h h1)
theorem p10_mul {a b : Int} {i j : Nat} (ha : a.natAbs ≤ 10 ^ i) (hb : b.natAbs ≤ 10 ^ j) : (a * b).natAbs ≤ 10 ^ (i + j) := by
  rw [Nat.pow_add]
  exact mul_nab ha hb
theorem p10_s {x k : Nat} (h : x ≤ 10 ^ k) : x < 10 ^ (k + 1) := by
  have := Nat.two_pow_pos 0
  have h2 : 10 ^ k < 10 ^ (k + 1) := Nat.pow_lt_pow_right (by decide) (by omega)
  omega
theorem p10_m {x i j : Nat} (h : x ≤ 10 ^ i) (hij : i ≤ j) : x ≤ 10 ^ j := Nat.le_trans h (Nat.pow_le_pow_right (by decide) hij)
theorem isg_0 {v : Int} : isg v = 0 ↔ v = 0 := by
  rcases isg_cases v with z | z | z
  · rw [z.2]; exact ⟨fun h => absurd h (by decide), fun h => by omega⟩
  · rw [z.2]; exact ⟨fun h => absurd h (by decide), fun h => by omega⟩
  · rw [z.2]; exact ⟨fun _ => z.1, fun _ => rfl⟩
theorem one_mm (a b : Int) : 0 + (1 : Int32).toInt * a * b = a * b := by rw [show (1 : Int32).toInt = 1 from rfl, Int.one_mul, Int.zero_add]
section JD
variable {f o N u pa nf w0 t : Nat} {σ : tz_S} {S C p q : Int} {l2 : Int64}
set_option maxHeartbeats 1000000 in
theorem c_addPart (hc : cSh σ o N) (hS : Sz σ (o + 30) N u S) (hO : smOk σ (o + 329) N) (hC : Bz σ (o + 337) N C) (hp : Fz σ pa nf p q) (hpa : o + 340 < pa) (hq0 : 0 < q) (hC0 : 0 < C) (bC : C.natAbs ≤ 10 ^ w0) (bS : S.natAbs < 10 ^ (w0 + 99)) (bp : p.natAbs ≤ 10 ^ 90) (bq : q.natAbs ≤ 10 ^ t) (ht : t ≤ 70) (hwt : w0 + t ≤ 959) (hl : -9223372036854775808 < l2.toInt) (hu : q = C → u + 4 ≤ 128) (hf : 2000 ≤ f) :
    gp (X4_addPart f (some (o + 328)) (some pa) l2) σ (fun _ σ' => Fr (jcP o) σ σ' ∧ smOk σ' (o + 329) N ∧ ((q = C ∧ ∃ u', u' ≤ max u 13 + 3 ∧ Sz σ' (o + 30) N u' (S + l2.toInt * p) ∧ Bz σ' (o + 337) N C) ∨ (q ≠ C ∧ ∃ u', u' ≤ max ((w0 + 107) / 9 + (t + 9) / 9) ((w0 + 99) / 9 + 2) + 3 ∧ Sz σ' (o + 30) N u' (S * q + l2.toInt * (p * C)) ∧ Bz σ' (o + 337) N (C * q)))) := by
  have hN := cs_N hc
  obtain ⟨p1, p2, p3⟩ := id hp
  unfold X4_addPart
  refine gp_rR p1 rfl ?_
  refine gp_rR (cs_judge hc) rfl ?_
  obtain ⟨k3, b3⟩ := id p3
  obtain ⟨kC, bC2⟩ := id hC
  refine gp_cV (Bz_cl p3) (gp_mono (c_compareSize b3 bC2 hf) ?_)
  rintro y σ0 ⟨z0, rfl⟩
  rw [z0]
  clear z0 σ0 b3 bC2
  refine gp_if (fun z => ?_) (fun z => ?_)
  · rw [isg_0] at z
    have hqC : q = C := by omega
    refine gp_rR (cs_judge hc) rfl ?_
    refine gp_rR p1 rfl ?_
    refine gp_cV (Sz_cl hS) (gp_mono (c_addTimesS (m := 11) hS p2 hf hl (p9 (p10_s bp) (by omega)) (by have := hu hqC; omega) (by omega)) ?_)
    rintro _ σ1 ⟨hF, u', hu', hS'⟩
    exact gp_ret ⟨Fr_mono hF (fun x z => by unfold bP at z; unfold jcP; omega), smOk_fr hO hF (by unfold bP; omega) (by unfold bP; omega), Or.inl ⟨hqC, u', by omega, hS', Bz_fr hC hF (by unfold bP; omega) (by unfold bP; omega)⟩⟩
  · rw [isg_0] at z
    have hqC : q ≠ C := by omega
    have hm1 : (w0 + 107) / 9 + (t + 9) / 9 ≤ 119 := by omega
    have hm3 : (w0 + 99) / 9 ≤ 117 := by omega
    refine gp_rR (cs_judge hc) rfl ?_
    refine gp_rR (cs_judge hc) rfl ?_
    refine gp_cV (Sz_cl hS) (gp_mono (c_storeS hS (cs_jwide hc) hf (p9 bS (by omega))) ?_)
    rintro _ σ1 ⟨hF, hW1⟩
    have hc1 := cs_fr hc hF
    have hS1 := Sz_fr hS hF (by unfold bP; omega) (by unfold bP; omega)
    have hO1 := smOk_fr hO hF (by unfold bP; omega) (by unfold bP; omega)
    have hC1 := Bz_fr hC hF (by unfold bP; omega) (by unfold bP; omega)
    have hp1 := Fz_fr hp hF (fun x a b => by unfold bP; omega)
    have hF1 : Fr (jcP o) σ σ1 := Fr_mono hF (fun x z => by unfold bP at z; unfold jcP; omega)
    clear hF hc hS hO hC hp p1 p2 p3
    obtain ⟨p1, p2, p3⟩ := id hp1
    refine gp_rR (cs_judge hc1) rfl ?_
    refine gp_cV (Sz_cl hS1) (gp_mono (c_clearS hS1 hf) ?_)
    rintro _ σ2 ⟨hF, hS2⟩
    have hc2 := cs_fr hc1 hF
    have hW2 := Bz_fr hW1 hF (by unfold bP; omega) (by unfold bP; omega)
    have hO2 := smOk_fr hO1 hF (by unfold bP; omega) (by unfold bP; omega)
    have hC2 := Bz_fr hC1 hF (by unfold bP; omega) (by unfold bP; omega)
    have hp2 := Fz_fr hp1 hF (fun x a b => by unfold bP; omega)
    have hF2 : Fr (jcP o) σ σ2 := Fr_trans hF1 (Fr_mono hF (fun x z => by unfold bP at z; unfold jcP; omega))
    clear hF hc1 hS1 hO1 hC1 hp1 p1 p2 p3 hF1 hW1
    obtain ⟨p1, p2, p3⟩ := id hp2
    refine gp_rR (cs_judge hc2) rfl ?_
    refine gp_rR (cs_judge hc2) rfl ?_
    refine gp_rR p1 rfl ?_
    refine gp_cV (Sz_cl hS2) (gp_mono (c_addProductS (m := (w0 + 107) / 9) (m2 := (t + 9) / 9) hS2 hW2 p3 hf (Or.inr (Or.inl rfl)) (p9 bS (by omega)) (p9 (p10_s bq) (by omega)) (by omega)) ?_)
    rintro _ σ3 ⟨hF, u3, hu3, hS3⟩
    have e3 := one_mm S q
    rw [e3] at hS3
    have hc3 := cs_fr hc2 hF
    have hO3 := smOk_fr hO2 hF (by unfold bP; omega) (by unfold bP; omega)
    have hC3 := Bz_fr hC2 hF (by unfold bP; omega) (by unfold bP; omega)
    have hp3 := Fz_fr hp2 hF (fun x a b => by unfold bP; omega)
    have hF3 : Fr (jcP o) σ σ3 := Fr_trans hF2 (Fr_mono hF (fun x z => by unfold bP at z; unfold jcP; omega))
    clear hF hc2 hS2 hO2 hC2 hp2 p1 p2 p3 hF2 hW2 e3
    obtain ⟨p1, p2, p3⟩ := id hp3
    obtain ⟨u0, S0, hT⟩ := hO3
    refine gp_rR (cs_judge hc3) rfl ?_
    refine gp_cV (Sz_cl hT) (gp_mono (c_clearS hT hf) ?_)
    rintro _ σ4 ⟨hF, hT4⟩
    have hc4 := cs_fr hc3 hF
    have hS4 := Sz_fr hS3 hF (by unfold bP; omega) (by unfold bP; omega)
    have hC4 := Bz_fr hC3 hF (by unfold bP; omega) (by unfold bP; omega)
    have hp4 := Fz_fr hp3 hF (fun x a b => by unfold bP; omega)
    have hF4 : Fr (jcP o) σ σ4 := Fr_trans hF3 (Fr_mono hF (fun x z => by unfold bP at z; unfold jcP; omega))
    clear hF hc3 hS3 hC3 hp3 p1 p2 p3 hF3 hT
    obtain ⟨p1, p2, p3⟩ := id hp4
    refine gp_rR (cs_judge hc4) rfl ?_
    refine gp_rR p1 rfl ?_
    refine gp_rR (cs_judge hc4) rfl ?_
    refine gp_cV (Sz_cl hT4) (gp_mono (c_addProductS (m := 11) (m2 := (w0 + 9) / 9) hT4 p2 hC4 hf (Or.inr (Or.inl rfl)) (p9 (p10_s bp) (by omega)) (p9 (p10_s bC) (by omega)) (by omega)) ?_)
    rintro _ σ5 ⟨hF, u5, hu5, hT5⟩
    have e5 := one_mm p C
    rw [e5] at hT5
    have hc5 := cs_fr hc4 hF
    have hS5 := Sz_fr hS4 hF (by unfold bP; omega) (by unfold bP; omega)
    have hC5 := Bz_fr hC4 hF (by unfold bP; omega) (by unfold bP; omega)
    have hp5 := Fz_fr hp4 hF (fun x a b => by unfold bP; omega)
    have hF5 : Fr (jcP o) σ σ5 := Fr_trans hF4 (Fr_mono hF (fun x z => by unfold bP at z; unfold jcP; omega))
    clear hF hc4 hS4 hC4 hp4 p1 p2 p3 hF4 hT4 e5
    obtain ⟨p1, p2, p3⟩ := id hp5
    have bpC : (p * C).natAbs < 10 ^ (w0 + 91) := by
      have := p10_s (p10_mul bp bC)
      rw [show w0 + 91 = 90 + w0 + 1 by omega]
      exact this
    refine gp_rR (cs_judge hc5) rfl ?_
    refine gp_rR (cs_judge hc5) rfl ?_
    refine gp_cV (Sz_cl hT5) (gp_mono (c_storeS hT5 (cs_jwide hc5) hf (p9 bpC (by omega))) ?_)
    rintro _ σ6 ⟨hF, hW6⟩
    have hc6 := cs_fr hc5 hF
    have hS6 := Sz_fr hS5 hF (by unfold bP; omega) (by unfold bP; omega)
    have hT6 := Sz_fr hT5 hF (by unfold bP; omega) (by unfold bP; omega)
    have hC6 := Bz_fr hC5 hF (by unfold bP; omega) (by unfold bP; omega)
    have hp6 := Fz_fr hp5 hF (fun x a b => by unfold bP; omega)
    have hF6 : Fr (jcP o) σ σ6 := Fr_trans hF5 (Fr_mono hF (fun x z => by unfold bP at z; unfold jcP; omega))
    clear hF hc5 hS5 hC5 hp5 p1 p2 p3 hF5 hT5
    refine gp_rR (cs_judge hc6) rfl ?_
    refine gp_rR (cs_judge hc6) rfl ?_
    refine gp_cV (Sz_cl hS6) (gp_mono (c_addTimesS (m := (w0 + 99) / 9) hS6 hW6 hf hl (p9 bpC (by omega)) (by omega) (by omega)) ?_)
    rintro _ σ7 ⟨hF, u7, hu7, hS7⟩
    have hc7 := cs_fr hc6 hF
    have hT7 := Sz_fr hT6 hF (by unfold bP; omega) (by unfold bP; omega)
    have hC7 := Bz_fr hC6 hF (by unfold bP; omega) (by unfold bP; omega)
    have hp7 := Fz_fr hp6 hF (fun x a b => by unfold bP; omega)
    have hF7 : Fr (jcP o) σ σ7 := Fr_trans hF6 (Fr_mono hF (fun x z => by unfold bP at z; unfold jcP; omega))
    clear hF hc6 hS6 hC6 hp6 hF6 hT6 hW6
    refine gp_rR (cs_judge hc7) rfl ?_
    refine gp_cV (Sz_cl hT7) (gp_mono (c_clearS hT7 hf) ?_)
    rintro _ σ8 ⟨hF, hT8⟩
    have hc8 := cs_fr hc7 hF
    have hS8 := Sz_fr hS7 hF (by unfold bP; omega) (by unfold bP; omega)
    have hC8 := Bz_fr hC7 hF (by unfold bP; omega) (by unfold bP; omega)
    have hp8 := Fz_fr hp7 hF (fun x a b => by unfold bP; omega)
    have hF8 : Fr (jcP o) σ σ8 := Fr_trans hF7 (Fr_mono hF (fun x z => by unfold bP at z; unfold jcP; omega))
    clear hF hc7 hS7 hC7 hp7 hF7 hT7
    obtain ⟨p1, p2, p3⟩ := id hp8
    refine gp_rR (cs_judge hc8) rfl ?_
    refine gp_rR (cs_judge hc8) rfl ?_
    refine gp_rR p1 rfl ?_
    refine gp_cV (Sz_cl hT8) (gp_mono (c_addProductS (m := (w0 + 9) / 9) (m2 := (t + 9) / 9) hT8 hC8 p3 hf (Or.inr (Or.inl rfl)) (p9 (p10_s bC) (by omega)) (p9 (p10_s bq) (by omega)) (by omega)) ?_)
    rintro _ σ9 ⟨hF, u9, hu9, hT9⟩
    have e9 := one_mm C q
    rw [e9] at hT9
    have hc9 := cs_fr hc8 hF
    have hS9 := Sz_fr hS8 hF (by unfold bP; omega) (by unfold bP; omega)
    have hF9 : Fr (jcP o) σ σ9 := Fr_trans hF8 (Fr_mono hF (fun x z => by unfold bP at z; unfold jcP; omega))
    clear hF hc8 hS8 hC8 hp8 p1 p2 p3 hF8 hT8 e9
    refine gp_rR (cs_judge hc9) rfl ?_
    refine gp_rR (cs_judge hc9) rfl ?_
    refine gp_cV (Sz_cl hT9) (gp_mono (c_storeS hT9 (cs_jcommon hc9) hf (p9 (p10_s (p10_mul bC bq)) (by omega))) ?_)
    rintro _ σ10 ⟨hF, hC10⟩
    refine gp_ret ⟨Fr_trans hF9 (Fr_mono hF (fun x z => by unfold bP at z; unfold jcP; omega)), smOk_fr ⟨u9, _, hT9⟩ hF (by unfold bP; omega) (by unfold bP; omega), Or.inr ⟨hqC, u7, by omega, Sz_fr hS9 hF (by unfold bP; omega) (by unfold bP; omega), hC10⟩⟩
end JD
/-! ===== the total, as it is summed up ===== -/
def ctF (w : Nat → Int) (mp : Nat → Int × Int) : Nat → Int × Int
  | 0 => (0, 1)
  | j + 1 => if w j = 0 ∨ (mp j).1 = 0 then ctF w mp j else if (mp j).2 = (ctF w mp j).2 then ((ctF w mp j).1 + w j * (mp j).1, (ctF w mp j).2) else ((ctF w mp j).1 * (mp j).2 + w j * ((mp j).1 * (ctF w mp j).2), (ctF w mp j).2 * (mp j).2)
def jdP (np : Nat) (w : Nat → Int) (mp : Nat → Int × Int) : Prop := np ≤ 32 ∧ (∀ i, i < np → 0 < (mp i).2 ∧ (mp i).2.natAbs ≤ 10 ^ 70 ∧ (mp i).1.natAbs ≤ 10 ^ 90 ∧ (w i * (mp i).1).natAbs ≤ 10 ^ 97 ∧ -9223372036854775808 < w i) ∧ wS np mp ≤ 959
theorem wS_le {mp : Nat → Int × Int} : ∀ {i j : Nat}, i ≤ j → wS i mp ≤ wS j mp
  | i, 0, h => by rw [show i = 0 by omega]; exact Nat.le_refl _
  | i, j + 1, h => by
    by_cases z : i = j + 1
    · rw [z]; exact Nat.le_refl _
    · have := wS_le (mp := mp) (show i ≤ j by omega)
      show wS i mp ≤ wS j mp + wt (mp j)
      omega
theorem wt_p {x : Int × Int} (h0 : 0 < x.2) (h : x.2.natAbs ≤ 10 ^ 70) : x.2.natAbs ≤ 10 ^ wt x := by
  unfold wt
  by_cases z : x.2 ≤ 1000000000
  · rw [if_pos z]
    have : (10 : Nat) ^ 9 = 1000000000 := by decide
    omega
  · rw [if_neg z]; exact h
theorem nab_add {a b : Int} {x y : Nat} (ha : a.natAbs ≤ x) (hb : b.natAbs ≤ y) : (a + b).natAbs ≤ x + y := by omega
theorem rg_ct1 {C q j B : Nat} (hq : 0 < q) : C * (j * B) * q + C * B ≤ C * q * ((j + 1) * B) := by
  have e : C * q * ((j + 1) * B) = C * (j * B) * q + C * B * q := by grind
  have : C * B * 1 ≤ C * B * q := Nat.mul_le_mul_left _ hq
  omega
theorem rg_ct2 {C j B : Nat} (hC : 0 < C) : C * (j * B) + B ≤ C * ((j + 1) * B) := by
  have e : C * ((j + 1) * B) = C * (j * B) + C * B := by grind
  have : 1 * B ≤ C * B := Nat.mul_le_mul_right _ hC
  omega
theorem ct_ok {np : Nat} {w : Nat → Int} {mp : Nat → Int × Int} (h : jdP np w mp) : ∀ {j : Nat}, j ≤ np → 0 < (ctF w mp j).2 ∧ (ctF w mp j).2.natAbs ≤ 10 ^ wS j mp ∧ (ctF w mp j).1.natAbs ≤ (ctF w mp j).2.natAbs * (j * 10 ^ 97)
  | 0, _ => ⟨by show (0 : Int) < 1; decide, by show 1 ≤ 1; decide, by show (0 : Int).natAbs ≤ _; exact Nat.zero_le _⟩
  | j + 1, hj => by
    obtain ⟨a1, a2, a3⟩ := ct_ok h (j := j) (by omega)
    obtain ⟨b1, b2, b3, b4, -⟩ := h.2.1 j (by omega)
    have hw := wt_p b1 b2
    have hle := wS_le (mp := mp) (show j ≤ j + 1 by omega)
    simp only [ctF]
    generalize ctF w mp j = x at *
    obtain ⟨S, C⟩ := x
    simp only at a1 a2 a3 ⊢
    have hC : 0 < C.natAbs := by omega
    by_cases z : w j = 0 ∨ (mp j).1 = 0
    · rw [if_pos z]
      refine ⟨a1, p10_m a2 hle, Nat.le_trans a3 (Nat.mul_le_mul_left _ (Nat.mul_le_mul_right _ (by omega)))⟩
    · rw [if_neg z]
      by_cases y : (mp j).2 = C
      · rw [if_pos y]
        refine ⟨a1, p10_m a2 hle, ?_⟩
        exact Nat.le_trans (nab_add a3 b4) (rg_ct2 hC)
      · rw [if_neg y]
        refine ⟨Int.mul_pos a1 b1, ?_, ?_⟩
        · show (C * (mp j).2).natAbs ≤ 10 ^ (wS j mp + wt (mp j))
          exact p10_mul a2 hw
        · show (S * (mp j).2 + w j * ((mp j).1 * C)).natAbs ≤ (C * (mp j).2).natAbs * _
          have e : w j * ((mp j).1 * C) = C * (w j * (mp j).1) := by grind
          rw [e, Int.natAbs_mul C]
          have h1 : (S * (mp j).2).natAbs ≤ C.natAbs * (j * 10 ^ 97) * (mp j).2.natAbs := by
            rw [Int.natAbs_mul]; exact Nat.mul_le_mul_right _ a3
          have h2 : (C * (w j * (mp j).1)).natAbs ≤ C.natAbs * 10 ^ 97 := by
            rw [Int.natAbs_mul]; exact Nat.mul_le_mul_left _ b4
          exact Nat.le_trans (nab_add h1 h2) (rg_ct1 (by omega))
theorem ct_S {np : Nat} {w : Nat → Int} {mp : Nat → Int × Int} (h : jdP np w mp) {j w0 : Nat} (hj : j ≤ np) (hw : (ctF w mp j).2.natAbs ≤ 10 ^ w0) : (ctF w mp j).1.natAbs < 10 ^ (w0 + 99) := by
  obtain ⟨a1, a2, a3⟩ := ct_ok h hj
  have h1 : j * 10 ^ 97 < 10 ^ 99 := by
    have : j ≤ 32 := by have := h.1; omega
    have h2 : j * 10 ^ 97 ≤ 32 * 10 ^ 97 := Nat.mul_le_mul_right _ this
    have h3 : 32 * 10 ^ 97 < 10 ^ 99 := by decide
    exact Nat.lt_of_le_of_lt h2 h3
  rw [Nat.pow_add]
  refine Nat.lt_of_le_of_lt a3 (Nat.lt_of_lt_of_le ((Nat.mul_lt_mul_left (by omega)).2 h1) (Nat.mul_le_mul_right _ hw))
/-- the total over all, and the total as it was summed up -/
theorem ct_tot {np : Nat} {w : Nat → Int} {mp : Nat → Int × Int} {e : Nat → Int} {M : Int} (h : jdP np w mp) (he : ∀ i, i < np → e i * (mp i).2 = w i * (mp i).1 * M) : ∀ {j : Nat}, j ≤ np → (ctF w mp j).1 * M = (ctF w mp j).2 * su j e
  | 0, _ => by show 0 * M = 1 * 0; omega
  | j + 1, hj => by
    have ih := ct_tot h he (j := j) (by omega)
    have e1 := he j (by omega)
    obtain ⟨b1, -⟩ := h.2.1 j (by omega)
    simp only [ctF, su]
    generalize ctF w mp j = x at *
    obtain ⟨S, C⟩ := x
    simp only at ih ⊢
    by_cases z : w j = 0 ∨ (mp j).1 = 0
    · rw [if_pos z]
      have h0 : w j * (mp j).1 * M = 0 := by rcases z with z | z <;> rw [z] <;> simp
      rw [h0] at e1
      have : e j = 0 := by
        rcases Int.mul_eq_zero.1 e1 with y | y
        · exact y
        · omega
      rw [this, Int.add_zero]
      exact ih
    · rw [if_neg z]
      by_cases y : (mp j).2 = C
      · rw [if_pos y]
        rw [y] at e1
        show (S + w j * (mp j).1) * M = C * (su j e + e j)
        grind
      · rw [if_neg y]
        show (S * (mp j).2 + w j * ((mp j).1 * C)) * M = C * (mp j).2 * (su j e + e j)
        grind
theorem isg_same {a b M C : Int} (hM : 0 < M) (hC : 0 < C) (h : a * M = C * b) : isg a = isg b := by
  rcases isg_cases a with z | z | z <;> rcases isg_cases b with y | y | y
  · rw [z.2, y.2]
  · have h1 := Int.mul_pos z.1 hM
    have h2 := Int.mul_neg_of_pos_of_neg hC y.1
    omega
  · rw [y.1, Int.mul_zero] at h
    have h1 := Int.mul_pos z.1 hM
    omega
  · have h1 := Int.mul_neg_of_neg_of_pos z.1 hM
    have h2 := Int.mul_pos hC y.1
    omega
  · rw [z.2, y.2]
  · rw [y.1, Int.mul_zero] at h
    have h1 := Int.mul_neg_of_neg_of_pos z.1 hM
    omega
  · rw [z.1, Int.zero_mul] at h
    have h2 := Int.mul_pos hC y.1
    omega
  · rw [z.1, Int.zero_mul] at h
    have h2 := Int.mul_neg_of_pos_of_neg hC y.1
    omega
  · rw [z.2, y.2]
