/-! ===== Division: divideByLimbs, divide ===== -/
def divP (d : Nat) : Nat → Prop := fun x => (d + 1 ≤ x ∧ x ≤ d + 4) ∨ x = d + 9 ∨ x = d + 10
theorem mulP_lt {X Y P : Int} (hP : 0 < P) (h : P * X < P * Y) : X < Y := by
  rcases Int.lt_or_le X Y with q | q
  · exact q
  · have := Int.mul_le_mul_of_nonneg_left q (Int.le_of_lt hP); omega
theorem rg_24 (s t P : Int) : s * (t * P + P) = s * (t + 1) * P := by grind
theorem rg_25 (s t P : Int) : s * (t * P) = t * s * P := by grind
theorem rg_26 (P1 P2 s : Int) : P1 * P2 * s = P1 * (s * P2) := by grind
theorem BigV_top {σ : tz_S} {a b n k : Nat} {v : Int} (h : BigV σ a b n (k + 1) v) : 0 < (tz_A σ b k).toInt ∧ (tz_A σ b k).toInt < 1000000000 ∧ (tz_A σ b k).toInt * 1000000000 ^ k ≤ (v.natAbs : Int) ∧ (v.natAbs : Int) < (tz_A σ b k).toInt * 1000000000 ^ k + 1000000000 ^ k := by
  have hab := BigV_abs h
  obtain ⟨-, -, -, h4, h5, -⟩ := h
  have h6 : (tz_A σ b k).toInt ≠ 0 := h5 (by omega)
  have h7 : 0 ≤ (tz_A σ b k).toInt ∧ (tz_A σ b k).toInt < 1000000000 := h4 k (by omega)
  have h8 : (v.natAbs : Int) = mg (dI (tz_A σ b)) k + (tz_A σ b k).toInt * 1000000000 ^ k := hab
  have h9 := mg_nn (d := dI (tz_A σ b)) (k := k) (fun j hj => (h4 j (by omega)).1)
  have h10 := (mg_abs (d := dI (tz_A σ b)) (k := k) (fun j hj => ⟨by have := (h4 j (by omega)).1; omega, (h4 j (by omega)).2⟩)).2
  refine ⟨by omega, h7.2, by omega, by omega⟩
set_option maxHeartbeats 4000000 in
theorem c_divideByLimbs {n d N a b na nb tp m : Nat} {σ : tz_S} {v w : Int} (hd : dSh σ d N) (hn : 2000 ≤ n) (hB : BigV σ a (a + 1) na (tp + (m + 2)) v) (hC : BigV σ b (b + 1) nb (m + 2) w) (hk : tp + (m + 2) ≤ N) :
    gp (X2_divideByLimbs n (some d) (some a) (some b)) σ (fun _ σ' => Fr (divP d) σ σ' ∧ Bz σ' (d + 1) N ((v.natAbs : Int) / w.natAbs) ∧ Bz σ' (d + 3) N ((v.natAbs : Int) % w.natAbs)) := by
  have hd0 := hd
  obtain ⟨d1, d2, d3, d4, d5, d6, d7, d8⟩ := hd
  obtain ⟨t1, t2, t3, t4⟩ := BigV_top (k := m + 1) hC
  have hvlt := (BigV_size hB).1
  have hna := hB.1.2.2
  have hnb := hC.1.2.2
  have hCk := hC.2.1
  have hBk := hB.2.1
  unfold X2_divideByLimbs
  refine gp_rI hC.1.1 rfl ?_
  rw [hC.2.2.1]
  refine gp_rI hB.1.1 rfl ?_
  rw [hB.2.2.1]
  refine gp_let ?_
  rw [pk_sub (by omega), show tp + (m + 2) - (m + 2) = tp by omega]
  refine gp_rR hC.1.1 rfl ?_
  refine gp_aI (j := m + 1) hC.1.2.1 (by decide) (by omega) (by omega) (nI_pred (m + 1)) ?_
  generalize tz_A σ (b + 1) (m + 1) = t at t1 t2 t3 t4 ⊢
  have z1 : (1 : Int64).toInt = 1 := rfl
  have e1 : (t.toInt64 + 1).toInt = t.toInt + 1 := by rw [az_ladd (by rw [Int32.toInt_toInt64, z1]; omega) (by rw [Int32.toInt_toInt64, z1]; omega), Int32.toInt_toInt64, z1]
  generalize t.toInt64 + 1 = t' at e1 ⊢
  have ht0 : t' ≠ 0 := fun h => by rw [h] at e1; have : (0 : Int64).toInt = 0 := rfl; omega
  have htm : t' ≠ -1 := fun h => by rw [h] at e1; have : (-1 : Int64).toInt = -1 := rfl; omega
  refine gp_dvL ht0 ?_
  obtain ⟨s', r, g1, g2, g3, g4, g5, -⟩ := az_td 1000000000 (t.toInt + 1) (by omega)
  obtain ⟨g6, g7⟩ := g5 (by decide)
  have hs1 : ((1000000000 : Int64) / t').toInt = s' := by rw [az_ldiv htm, az_B, e1, g1]
  generalize (1000000000 : Int64) / t' = s at hs1 ⊢
  obtain ⟨f1, f2, f3⟩ := sc_half (s := s') (t := t.toInt) (by omega) t2 (by omega) (by omega)
  have hsB : 0 < s.toInt ∧ s.toInt < 1000000000 := by omega
  refine gp_rR d1 rfl ?_
  refine gp_cB (gp_mono (c_scaleInto d6 (by omega) hB hn (by omega) hsB) ?_)
  rintro _ σ1 ⟨g, c, rfl, hg1, hc1, hc2, hg2, hg3, hg4⟩
  refine gp_rR (σ := tz_rowL σ (d + 9) g) d1 rfl ?_
  refine gp_cB (gp_mono (c_scaleInto (σ := tz_rowL σ (d + 9) g) (w := d + 10) (m := N) d7 (by omega) (show BigV (tz_rowL σ (d + 9) g) b (b + 1) nb (m + 2) w from hC) hn (by omega) hsB) ?_)
  rintro _ σ2 ⟨h, c2, rfl, hh1, hc3, hc4, hh2, hh3, hh4⟩
  rw [hs1] at hg4 hh4
  -- sizes
  have hP := mg_pw (m + 1)
  have hP2 := mg_ps (m + 1)
  have hVlt : (w.natAbs : Int) * s' < 1000000000 ^ (m + 2) := by
    show (w.natAbs : Int) * s' < 1000000000 ^ (m + 1 + 1)
    have q1 : s' * (w.natAbs : Int) < s' * (t.toInt * 1000000000 ^ (m + 1) + 1000000000 ^ (m + 1)) := by
      have := mul_ltP f2 t4; omega
    have q2 : s' * (t.toInt + 1) * 1000000000 ^ (m + 1) ≤ 1000000000 * 1000000000 ^ (m + 1) := Int.mul_le_mul_of_nonneg_right (by omega) (by omega)
    rw [rg_24] at q1
    rw [Int.mul_comm, hP2, Int.mul_comm (1000000000 ^ (m + 1))]
    omega
  have hVge : t.toInt * s' * 1000000000 ^ (m + 1) ≤ (w.natAbs : Int) * s' := by
    have q1 : s' * (t.toInt * 1000000000 ^ (m + 1)) ≤ s' * (w.natAbs : Int) := Int.mul_le_mul_of_nonneg_left t3 (by omega)
    rw [rg_25] at q1
    rw [Int.mul_comm (w.natAbs : Int)]
    exact q1
  have hmh := mg_nn (d := dL h) (k := m + 2) (fun i hi => (hh1 i hi).1)
  have hc20 : c2 = 0 := by
    have hpm := mg_pw (m + 2)
    generalize (1000000000 : Int) ^ (m + 2) = PP at hVlt hh4 hpm
    exact az_z1 hpm hc3 (by omega)
  rw [hc20, Int.zero_mul, Int.add_zero] at hh4
  have hgk := hg2 (by omega)
  have hA : mg (dL g) (tp + (m + 2) + 1) = (v.natAbs : Int) * s' := by
    rw [← hg4, ← hgk]
    rfl
  have hv1 : 500000000 ≤ (h (m + 1)).toInt := by
    have q1 : mg (dL h) (m + 2) = mg (dL h) (m + 1) + (h (m + 1)).toInt * 1000000000 ^ (m + 1) := rfl
    have q2 := (mg_abs (d := dL h) (k := m + 1) (fun j hj => ⟨by have := (hh1 j (by omega)).1; omega, (hh1 j (by omega)).2⟩)).2
    have q3 : 500000000 * 1000000000 ^ (m + 1) ≤ t.toInt * s' * 1000000000 ^ (m + 1) := Int.mul_le_mul_of_nonneg_right f1 (by omega)
    rcases Int.lt_or_le (h (m + 1)).toInt 500000000 with q | q
    · have q4 : ((h (m + 1)).toInt + 1) * 1000000000 ^ (m + 1) ≤ 500000000 * 1000000000 ^ (m + 1) := Int.mul_le_mul_of_nonneg_right (by omega) (by omega)
      rw [Int.add_mul, Int.one_mul] at q4
      omega
    · exact q
  have hX : mg (wn g (tp + 1)) (m + 2) < (w.natAbs : Int) * s' := by
    have q1 : mg (dL g) (tp + 1 + (m + 2)) = mg (dL g) (tp + 1) + 1000000000 ^ (tp + 1) * mg (wn g (tp + 1)) (m + 2) := mg_add
    rw [show tp + 1 + (m + 2) = tp + (m + 2) + 1 by omega, hA] at q1
    have q2 := mg_nn (d := dL g) (k := tp + 1) (fun j hj => by
      rcases Nat.lt_or_ge j (tp + (m + 2)) with q | q
      · exact (hg1 j q).1
      · omega)
    have q3 : (v.natAbs : Int) * s' < 1000000000 ^ (tp + (m + 2)) * s' := by
      have := mul_ltP f2 hvlt; rw [Int.mul_comm s', Int.mul_comm s'] at this; omega
    rw [show tp + (m + 2) = tp + 1 + (m + 1) by omega, Int.pow_add, rg_26] at q3
    have q4 : mg (wn g (tp + 1)) (m + 2) < s' * 1000000000 ^ (m + 1) := mulP_lt (mg_pw (tp + 1)) (by omega)
    have q5 : 1 * (s' * 1000000000 ^ (m + 1)) ≤ t.toInt * (s' * 1000000000 ^ (m + 1)) := Int.mul_le_mul_of_nonneg_right (by omega) (Int.mul_nonneg (by omega) (by omega))
    rw [← Int.mul_assoc t.toInt] at q5
    omega
  have hL9 : tz_L (tz_rowL (tz_rowL σ (d + 9) g) (d + 10) h) (d + 9) = g := by rw [tz_rowL_ne _ _ (by omega), tz_rowL_at]
  have hL10 : tz_L (tz_rowL (tz_rowL σ (d + 9) g) (d + 10) h) (d + 10) = h := tz_rowL_at _ _ _
  have hwpos : 0 < (w.natAbs : Int) := by
    have := Int.mul_nonneg (Int.le_of_lt t1) (Int.le_of_lt hP)
    have q := (BigV_size hC).2 (by omega)
    have := mg_pw (m + 2 - 1)
    omega
  refine gp_mono (c_dl54 (σ := tz_rowL (tz_rowL σ (d + 9) g) (d + 10) h) (m := m) (tp := tp) (av := v.natAbs) (bv := w.natAbs) hd0 hn hk hsB (by
    rw [hL9]
    intro i hi
    rcases Nat.lt_or_ge i (tp + (m + 2)) with q | q
    · exact hg1 i q
    · rw [show i = tp + (m + 2) by omega, hgk]; exact ⟨hc1, hc2⟩) (by rw [hL10]; exact hh1) (by rw [hL9, hs1]; exact hA) (by rw [hL10, hs1]; exact hh4) hwpos (by rw [hL10]; exact hv1) (by rw [hL9, hs1]; exact hX)) ?_
  rintro _ σ3 ⟨W, fq, kq, sq, fr, kr, sr, rfl, hkq, hkr, hbq, hbr⟩
  refine ⟨?_, ?_, ?_⟩
  · refine Fr_trans (Fr_trans (Fr_trans (Fr_trans (Fr_rowL ?_) (Fr_rowL ?_)) (Fr_rowL ?_)) (Fr_bPut ?_ ?_)) (Fr_bPut ?_ ?_) <;> (unfold divP; omega)
  · exact ⟨kq, BigV_ne (by omega) (by omega) (BigV_put d2 hkq hbq)⟩
  · exact ⟨kr, BigV_put d3 hkr hbr⟩
theorem bN_zero {f : Nat → Int32} {k : Nat} {sg : Int32} (h : bN f k sg 0) : k = 0 := by
  obtain ⟨h1, h2, h3, h4, h5⟩ := h
  rcases Nat.eq_zero_or_pos k with q | q
  · exact q
  · have h6 := mg_pos (d := dI f) (fun j hj => (h1 j hj).1) q (h2 q)
    rcases h3 with r | r | r
    · exact h4.mp r
    · rw [r] at h5; have : (1 : Int32).toInt = 1 := rfl; rw [this] at h5; omega
    · rw [r] at h5; have : (-1 : Int32).toInt = -1 := rfl; rw [this] at h5; omega
theorem isg_turn (v : Int) : v = 0 ∨ isg v = 1 ∨ isg v = -1 := by
  rcases isg_cases v with h | h | h
  · exact Or.inr (Or.inl h.2)
  · exact Or.inr (Or.inr h.2)
  · exact Or.inl h.1
set_option maxHeartbeats 2000000 in
/-- quotient and rest, without signs -/
theorem c_divide {n d N a b na nb : Nat} {σ : tz_S} {v w : Int} (hd : dSh σ d N) (hn : 2000 ≤ n) (hB : Bz σ a na v) (hC : Bz σ b nb w) (hv : (v.natAbs : Int) < 1000000000 ^ N) (ha : ¬ divP d a ∧ ¬ divP d (a + 1)) (hb : ¬ divP d b ∧ ¬ divP d (b + 1)) :
    gp (X2_divide n (some d) (some a) (some b)) σ (fun _ σ' => Fr (divP d) σ σ' ∧ Bz σ' (d + 1) N ((v.natAbs : Int) / w.natAbs) ∧ Bz σ' (d + 3) N ((v.natAbs : Int) % w.natAbs)) := by
  have hd0 := hd
  obtain ⟨d1, d2, d3, d4, d5, d6, d7, d8⟩ := hd
  have hpN := mg_pw N
  unfold X2_divide
  refine gp_rR d1 rfl ?_
  refine gp_cV d2.1 (gp_mono (c_setLong (t := 0) d2 hn (by rw [show (0 : Int64).toInt = 0 from rfl]; omega)) ?_)
  rintro _ σ1 ⟨f1, k1, rfl, hk1, hb1⟩
  refine gp_rR (σ := bPut σ (d + 1) (d + 2) f1 k1 _) d1 rfl ?_
  refine gp_cV (σ := bPut σ (d + 1) (d + 2) f1 k1 _) d3.1 (gp_mono (c_setLong (σ := bPut σ (d + 1) (d + 2) f1 k1 _) (t := 0) d3 hn (by rw [show (0 : Int64).toInt = 0 from rfl]; omega)) ?_)
  rintro _ σ2 ⟨f2, k2, rfl, hk2, hb2⟩
  rw [show (0 : Int64).toInt = 0 from rfl] at hb1 hb2 ⊢
  have hF : Fr (divP d) σ (bPut (bPut σ (d + 1) (d + 2) f1 k1 (isg 0)) (d + 3) (d + 4) f2 k2 (isg 0)) := by
    refine Fr_trans (Fr_bPut ?_ ?_) (Fr_bPut ?_ ?_) <;> (unfold divP; omega)
  have hq0 : Bz (bPut (bPut σ (d + 1) (d + 2) f1 k1 (isg 0)) (d + 3) (d + 4) f2 k2 (isg 0)) (d + 1) N 0 := ⟨k1, BigV_ne (by omega) (by omega) (BigV_put d2 hk1 hb1)⟩
  generalize hσ : bPut (bPut σ (d + 1) (d + 2) f1 k1 (isg 0)) (d + 3) (d + 4) f2 k2 (isg 0) = σ2 at hF hq0
  have hdS := dSh_fr hd0 hF
  have hB2 := Bz_fr hB hF ha.1 ha.2
  have hC2 := Bz_fr hC hF hb.1 hb.2
  obtain ⟨e1, e2, e3, e4, e5, e6, e7, -⟩ := hdS
  obtain ⟨k, hB3⟩ := hB2
  obtain ⟨m, hC3⟩ := hC2
  have hna := hB3.1.2.2
  have hnb := hC3.1.2.2
  have hCk := hC3.2.1
  have hBk := hB3.2.1
  have hkN : k ≤ N := BigV_le hB3 hv
  -- nothing to divide: all is rest
  have small : (v.natAbs : Int) < w.natAbs ∨ w = 0 → gp (X2_divide_b31 n (some d) (some a)) σ2 (fun _ σ' => Fr (divP d) σ σ' ∧ Bz σ' (d + 1) N ((v.natAbs : Int) / w.natAbs) ∧ Bz σ' (d + 3) N ((v.natAbs : Int) % w.natAbs)) := by
    intro hs
    unfold X2_divide_b31 X2_divide_b75
    refine gp_rR e1 rfl ?_
    refine gp_rI hB3.1.1 rfl ?_
    rw [BigV_sign hB3]
    have hz := BigV_len0 hB3
    refine gp_cV e3.1 (gp_mono (c_set (turn := isg v) e3 hB3 hn hkN ((isg_turn v).imp_left hz.mpr)) ?_)
    rintro _ σ3 ⟨f, sg, rfl, hbn⟩
    refine gp_ret ⟨Fr_trans hF (Fr_bPut (by unfold divP; omega) (by unfold divP; omega)), ?_, ?_⟩
    · obtain ⟨kq, hq⟩ := hq0
      have : (v.natAbs : Int) / w.natAbs = 0 := by
        rcases hs with h | h
        · exact Int.ediv_eq_zero_of_lt (by omega) h
        · rw [h]; simp
      rw [this]
      exact ⟨kq, BigV_ne (by omega) (by omega) hq⟩
    · have : (v.natAbs : Int) % w.natAbs = v * (isg v).toInt := by
        have hva : v * (isg v).toInt = v.natAbs := by
          rcases isg_cases v with h | h | h <;> rw [h.2]
          · rw [show (1 : Int32).toInt = 1 from rfl]; omega
          · rw [show (-1 : Int32).toInt = -1 from rfl]; omega
          · rw [h.1]; rfl
        rw [hva]
        rcases hs with h | h
        · exact Int.emod_eq_of_lt (by omega) h
        · rw [h]; simp
      rw [this]
      exact ⟨k, BigV_put e3 (by omega) hbn⟩
  refine gp_rI hC3.1.1 rfl ?_
  rw [hC3.2.2.1]
  have hwz := BigV_len0 hC3
  refine gp_if (fun h => ?_) (fun h => ?_)
  · rw [show (0 : Int32) = nI 0 from rfl, nI_eq (by omega) (by omega)] at h
    exact small (Or.inr (hwz.mp h))
  rw [show (0 : Int32) = nI 0 from rfl, nI_eq (by omega) (by omega)] at h
  refine gp_cV hB3.1.1 (gp_mono (c_compareSize hB3 hC3 hn) ?_)
  rintro _ σ3 ⟨h3, rfl⟩
  rw [h3]
  clear h3
  have hfin : ∀ (m' : pz_C Unit), gp m' σ2 (fun _ σ' => Fr (divP d) σ2 σ' ∧ Bz σ' (d + 1) N ((v.natAbs : Int) / w.natAbs) ∧ Bz σ' (d + 3) N ((v.natAbs : Int) % w.natAbs)) → gp m' σ2 (fun _ σ' => gp (X2_divide_b75 n) σ' (fun _ σ' => Fr (divP d) σ σ' ∧ Bz σ' (d + 1) N ((v.natAbs : Int) / w.natAbs) ∧ Bz σ' (d + 3) N ((v.natAbs : Int) % w.natAbs))) := by
    intro m' hm'
    refine gp_mono hm' ?_
    rintro _ σ3 ⟨q1, q2, q3⟩
    exact gp_ret ⟨Fr_trans hF q1, q2, q3⟩
  refine gp_if (fun h2 => ?_) (fun h2 => ?_)
  · have hge : (w.natAbs : Int) ≤ v.natAbs := by
      rcases isg_cases ((v.natAbs : Int) - w.natAbs) with q | q | q
      · omega
      · rw [q.2] at h2; exact absurd h2 (by decide)
      · omega
    refine gp_rI hC3.1.1 rfl ?_
    rw [hC3.2.2.1]
    refine gp_if (fun h3 => ?_) (fun h3 => ?_)
    · rw [show (1 : Int32) = nI 1 from rfl, nI_eq (by omega) (by omega)] at h3
      subst h3
      refine gp_rR hC3.1.1 rfl ?_
      refine gp_aI (j := 0) hC3.1.2.1 (by decide) (by omega) (by omega) rfl ?_
      obtain ⟨t1, t2, -, -⟩ := BigV_top (k := 0) hC3
      have hw1 : (w.natAbs : Int) = (tz_A σ2 (b + 1) 0).toInt := by
        rw [BigV_abs hC3]
        show 0 + (tz_A σ2 (b + 1) 0).toInt * 1000000000 ^ 0 = _
        rw [Int.pow_zero]; omega
      have hti : (tz_A σ2 (b + 1) 0).toInt64.toInt = (tz_A σ2 (b + 1) 0).toInt := Int32.toInt_toInt64 _
      refine gp_cV e1 (hfin _ (gp_mono (c_divideByLimb (dSh_fr hd0 hF) hB3 hn hkN ⟨?_, ?_⟩ ⟨?_, ?_⟩ (by rw [hti]; exact ⟨t1, t2⟩)) ?_))
      · unfold divP at ha; omega
      · unfold divP at ha; omega
      · unfold divP at ha; omega
      · unfold divP at ha; omega
      rintro _ σ3 ⟨fq, kq, sq, fr, kr, sr, rfl, hkq, hkr, hbq, hbr⟩
      rw [hti, ← hw1] at hbq hbr
      refine ⟨?_, ?_, ?_⟩
      · refine Fr_trans (Fr_bPut ?_ ?_) (Fr_bPut ?_ ?_) <;> (unfold divP; omega)
      · exact ⟨kq, BigV_ne (by omega) (by omega) (BigV_put e2 hkq hbq)⟩
      · exact ⟨kr, BigV_put e3 hkr hbr⟩
    · rw [show (1 : Int32) = nI 1 from rfl, nI_eq (by omega) (by omega)] at h3
      have hmk : m ≤ k := by
        have q1 := (BigV_size hC3).2 (by omega)
        have q2 := (BigV_size hB3).1
        rcases Nat.lt_or_ge k m with q | q
        · have := mg_pmono (show k ≤ m - 1 by omega); omega
        · exact q
      obtain ⟨m', rfl⟩ : ∃ m', m = m' + 2 := ⟨m - 2, by omega⟩
      obtain ⟨tp, rfl⟩ : ∃ tp, k = tp + (m' + 2) := ⟨k - (m' + 2), by omega⟩
      exact gp_cV e1 (hfin _ (c_divideByLimbs (dSh_fr hd0 hF) hn hB3 hC3 hkN))
  · refine small (Or.inl ?_)
    rcases isg_cases ((v.natAbs : Int) - w.natAbs) with q | q | q
    · rw [q.2] at h2; exact absurd (by decide) h2
    · omega
    · rw [q.2] at h2; exact absurd (by decide) h2
