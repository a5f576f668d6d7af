/-! ===== Division: smallDivisor, commonDivisor, reduce ===== -/
def bP (a : Nat) : Nat → Prop := fun x => x = a ∨ x = a + 1
theorem c_setB {n a nb a2 n2 : Nat} {σ : tz_S} {turn : Int32} {v : Int} (hB : bSh σ a (a + 1) nb) (hB2 : Bz σ a2 n2 v) (hn : 2000 ≤ n) (hv : (v.natAbs : Int) < 1000000000 ^ nb) (ht : v = 0 ∨ turn = 1 ∨ turn = -1) :
    gp (X0_set n (some a) (some a2) turn) σ (fun _ σ' => Fr (bP a) σ σ' ∧ Bz σ' a nb (v * turn.toInt)) := by
  obtain ⟨k, hB2⟩ := hB2
  have hk := BigV_le hB2 hv
  refine gp_mono (c_set hB hB2 hn hk (ht.imp_left (BigV_len0 hB2).mpr)) ?_
  rintro _ σ' ⟨f, sg, rfl, hb⟩
  exact ⟨Fr_bPut (Or.inl rfl) (Or.inr rfl), ⟨k, BigV_put hB hk hb⟩⟩
theorem c_setLongB {n a nb : Nat} {σ : tz_S} {t : Int64} (hB : bSh σ a (a + 1) nb) (hn : 2000 ≤ n) (ht : (t.toInt.natAbs : Int) < 1000000000 ^ nb) :
    gp (X0_setLong n (some a) t) σ (fun _ σ' => Fr (bP a) σ σ' ∧ Bz σ' a nb t.toInt) := by
  refine gp_mono (c_setLong hB hn ⟨by omega, by omega⟩) ?_
  rintro _ σ' ⟨f, k, rfl, hk, hb⟩
  exact ⟨Fr_bPut (Or.inl rfl) (Or.inr rfl), ⟨k, BigV_put hB hk hb⟩⟩
theorem az_rm {x y : Int64} (hx : 0 ≤ x.toInt) (hy : 0 < y.toInt) : (x - x / y * y).toInt = x.toInt % y.toInt := by
  have hym : y ≠ -1 := fun h => by rw [h] at hy; exact absurd hy (by decide)
  obtain ⟨q, r, h1, h2, h3, h4, h5, -⟩ := az_td x.toInt y.toInt hy
  obtain ⟨h6, h7⟩ := h5 hx
  have hq : (x / y).toInt = q := by rw [az_ldiv hym, h1]
  have hqy : 0 ≤ q * y.toInt := Int.mul_nonneg h7 (by omega)
  have hx2 := az_hi64 x
  have m1 : (x / y * y).toInt = q * y.toInt := by rw [az_lmul (by rw [hq]; omega) (by rw [hq]; omega), hq]
  rw [az_lsub (by rw [m1]; omega) (by rw [m1]; omega), m1, (nat_divmod hy h2 h6 h4).2]
  omega
/-- the turns of the common divisor -/
def euT (K i g l : Nat) : Prop := (i = 0 ∧ 2 * (g * l) ≤ 2 ^ K) ∨ (l < g ∧ 2 ^ i * (g * l) ≤ 2 ^ K)
theorem euT_step {K i g l : Nat} (h : euT K i g l) (hl : 0 < l) : euT K (i + 1) l (g % l) := by
  refine Or.inr ⟨Nat.mod_lt _ hl, ?_⟩
  rcases h with ⟨rfl, h⟩ | ⟨h1, h⟩
  · have h2 : l * (g % l) ≤ g * l := by rw [Nat.mul_comm g]; exact Nat.mul_le_mul_left _ (Nat.mod_le _ _)
    omega
  · have h2 : 2 * (g % l) ≤ g := by
      have e1 := Nat.div_add_mod g l
      have e2 : 1 ≤ g / l := (Nat.le_div_iff_mul_le hl).mpr (by omega)
      have e3 : l * 1 ≤ l * (g / l) := Nat.mul_le_mul_left _ e2
      have e4 := Nat.mod_lt g hl
      omega
    have h3 : 2 ^ (i + 1) * (l * (g % l)) = 2 ^ i * (l * (2 * (g % l))) := by rw [Nat.pow_succ]; grind
    rw [h3]
    refine Nat.le_trans (Nat.mul_le_mul_left _ (Nat.mul_le_mul_left _ h2)) ?_
    rw [Nat.mul_comm l g]
    exact h
theorem euT_le {K i g l : Nat} (h : euT K i g l) (hg : 0 < g) (hl : 0 < l) : i ≤ K := by
  rcases h with ⟨rfl, h⟩ | ⟨h1, h⟩
  · omega
  · have h2 : 2 ^ i * 1 ≤ 2 ^ i * (g * l) := Nat.mul_le_mul_left _ (Nat.mul_pos hg hl)
    have h3 : 2 ^ i ≤ 2 ^ K := by omega
    exact (Nat.pow_le_pow_iff_right (by decide)).mp h3
theorem euT_pos {K i g l : Nat} (h : euT K i g l) (hi : 0 < i) : 0 < g := by
  rcases h with ⟨rfl, h⟩ | ⟨h1, h⟩ <;> omega
theorem c_smallDivisor {n : Nat} {σ : tz_S} {x y : Int64} {g l : Nat} (hx : x.toInt = g) (hy : y.toInt = l) (hn : 2000 ≤ n) : gp (X2_smallDivisor n x y) σ (fun r σ' => σ' = σ ∧ r.toInt = (Nat.gcd g l : Nat)) := by
  unfold X2_smallDivisor X2_smallDivisor_L9
  have h1 := az_hi64 x
  have h2 := az_hi64 y
  have hC : euT 130 0 g l := by
    refine Or.inl ⟨rfl, ?_⟩
    have : g * l ≤ 9223372036854775807 * 9223372036854775807 := Nat.mul_le_mul (by omega) (by omega)
    refine Nat.le_trans (Nat.mul_le_mul_left 2 this) ?_
    decide
  refine gp_loop (I := fun (τ : Int64 × Int64 × Int32) (σ' : tz_S) => σ' = σ ∧ ∃ (g' l' i : Nat), τ.1.toInt = g' ∧ τ.2.1.toInt = l' ∧ τ.2.2 = nI i ∧ i ≤ 131 ∧ (i = 0 ∨ 0 < g') ∧ euT 130 i g' l' ∧ Nat.gcd g' l' = Nat.gcd g l) (fun τ _ => 1000 - τ.2.2.toNatClampNeg) ?_ n _ _ ⟨rfl, g, l, 0, hx, hy, rfl, by omega, Or.inl rfl, hC, rfl⟩ (by omega)
  rintro K ⟨l4, l6, l8⟩ σ' ⟨rfl, g', l', i, h4, h6, h8, hi, hp, hT, hG⟩ hK
  simp only at h4 h6 h8 hK
  subst h8
  show gp (X2_smallDivisor_L9_body n (fun l4 l6 l8 => K (l4, l6, l8)) l4 l6 (nI i)) σ' _
  unfold X2_smallDivisor_L9_body X2_smallDivisor_b44
  refine gp_f (by rw [show (1000000 : Int32) = nI 1000000 from rfl, nI_leI (by omega) (by omega)]; omega) ?_
  refine gp_if (fun h => ?_) (fun h => ?_)
  · rw [lg_cmp_eq] at h
    rw [h] at h6
    have : l' = 0 := by have : (0 : Int64).toInt = 0 := rfl; omega
    subst this
    rw [Nat.gcd_zero_right] at hG
    exact gp_ret ⟨rfl, by rw [h4, hG]⟩
  · rw [lg_cmp_eq] at h
    have hl : 0 < l' := by
      rcases Nat.eq_zero_or_pos l' with q | q
      · subst q; exact absurd (az_lz.mp h6) h
      · exact q
    refine gp_rmL h ?_
    refine gp_let ?_
    rw [nI_1]
    have hr : (l4 - l4 / l6 * l6).toInt = (g' % l' : Nat) := by rw [az_rm (by omega) (by omega), h4, h6]; exact (Int.natCast_emod g' l').symm
    generalize l4 - l4 / l6 * l6 = z at hr ⊢
    have hi2 : i ≤ 130 := by
      rcases Nat.eq_zero_or_pos i with q | q
      · omega
      · exact euT_le hT (euT_pos hT q) hl
    refine hK (_, _, _) _ ⟨rfl, l', g' % l', i + 1, h6, hr, rfl, by omega, Or.inr hl, euT_step hT hl, ?_⟩ (by simp only; rw [nI_clamp (by omega), nI_clamp (by omega)]; omega)
    rw [← hG, Nat.gcd_comm g' l', Nat.gcd_rec l' g', Nat.gcd_comm]
def divQ (d : Nat) : Nat → Prop := fun x => d + 1 ≤ x ∧ x ≤ d + 10
theorem powB (N : Nat) : 1000000000 ^ N ≤ 2 ^ (30 * N) := by
  rw [Nat.pow_mul]
  exact Nat.pow_le_pow_left (by decide) N
theorem powBi (N : Nat) : (1000000000 : Int) ^ N = ((1000000000 ^ N : Nat) : Int) := by simp
theorem bz_nat {σ : tz_S} {a n g : Nat} (h : Bz σ a n (g : Int)) : g < 1000000000 ^ n := by
  have := Bz_lt h
  rw [powBi] at this
  omega
set_option maxHeartbeats 2000000 in
theorem c_commonDivisor {n d N a b na nb : Nat} {σ : tz_S} {v w : Int} (hd : dSh σ d N) (hn : 20000 ≤ n) (hB : Bz σ a na v) (hC : Bz σ b nb w) (hv : (v.natAbs : Int) < 1000000000 ^ N) (hw : (w.natAbs : Int) < 1000000000 ^ N) (hw0 : 0 ≤ w) (ha : ¬ divQ d a ∧ ¬ divQ d (a + 1)) (hb : ¬ divQ d b ∧ ¬ divQ d (b + 1)) :
    gp (X2_commonDivisor n (some d) (some a) (some b)) σ (fun r σ' => Fr (divQ d) σ σ' ∧ ∃ q, r = some q ∧ (q = d + 5 ∨ q = d + 7) ∧ Bz σ' q N (Int.gcd v w : Nat)) := by
  have hd0 := hd
  obtain ⟨d1, d2, d3, d4, d5, d6, d7, d8⟩ := hd
  unfold X2_commonDivisor
  refine gp_rR d1 rfl ?_
  refine gp_rR d1 rfl ?_
  refine gp_rI (Bz_cl hB) rfl ?_
  rw [Bz_sign hB]
  refine gp_cV d4.1 (gp_mono (c_setB d4 hB (by omega) hv (isg_turn v)) ?_)
  rintro _ σ1 ⟨hF1, hb1⟩
  have hF1' : Fr (divQ d) σ σ1 := Fr_mono hF1 (fun x hx => by unfold bP at hx; unfold divQ; omega)
  have d5' := bSh_fr d5 hF1
  have hC1 := Bz_fr hC hF1' hb.1 hb.2
  refine gp_cV d5'.1 (gp_mono (c_setB d5' hC1 (by omega) hw (Or.inr (Or.inl rfl))) ?_)
  rintro _ σ2 ⟨hF2, hb2⟩
  have hF2' : Fr (divQ d) σ σ2 := Fr_then hF1' hF2 (fun x hx => by unfold bP at hx; unfold divQ; omega)
  have hb1' : Bz σ2 (d + 5) N (v.natAbs : Nat) := by
    have : v * (isg v).toInt = v.natAbs := by
      rcases isg_cases v with h | h | h <;> rw [h.2]
      · rw [show (1 : Int32).toInt = 1 from rfl]; omega
      · rw [show (-1 : Int32).toInt = -1 from rfl]; omega
      · rw [h.1]; rfl
    rw [← this]
    exact Bz_fr hb1 hF2 (by unfold bP; omega) (by unfold bP; omega)
  have hb2' : Bz σ2 (d + 7) N (w.natAbs : Nat) := by
    have : w * (1 : Int32).toInt = w.natAbs := by rw [show (1 : Int32).toInt = 1 from rfl]; omega
    rw [← this]
    exact hb2
  clear hb1 hb2 hF1 hF2 hF1' d5' hC1
  have hT0 : euT (60 * N + 1) 0 v.natAbs w.natAbs := by
    refine Or.inl ⟨rfl, ?_⟩
    rw [powBi] at hv hw
    have h1 := powB N
    have h2 : v.natAbs * w.natAbs ≤ 2 ^ (30 * N) * 2 ^ (30 * N) := Nat.mul_le_mul (by omega) (by omega)
    rw [← Nat.pow_add, show 30 * N + 30 * N = 60 * N by omega] at h2
    rw [Nat.pow_succ]
    omega
  have hG : Int.gcd v w = Nat.gcd v.natAbs w.natAbs := rfl
  rw [hG]
  generalize v.natAbs = g at *
  generalize w.natAbs = l at *
  unfold X2_commonDivisor_L30
  refine gp_loop (I := fun (τ : Option Nat × Option Nat × Int32) (σ' : tz_S) => Fr (divQ d) σ σ' ∧ ∃ (p q g' l' i : Nat), τ.1 = some p ∧ τ.2.1 = some q ∧ τ.2.2 = nI i ∧ ((p = d + 5 ∧ q = d + 7) ∨ (p = d + 7 ∧ q = d + 5)) ∧ Bz σ' p N (g' : Int) ∧ Bz σ' q N (l' : Int) ∧ i ≤ 60 * N + 2 ∧ euT (60 * N + 1) i g' l' ∧ Nat.gcd g' l' = Nat.gcd g l) (fun τ _ => 10000 - τ.2.2.toNatClampNeg) ?_ n _ _ ⟨hF2', d + 5, d + 7, g, l, 0, rfl, rfl, rfl, Or.inl ⟨rfl, rfl⟩, hb1', hb2', by omega, hT0, rfl⟩ (by omega)
  rintro K ⟨l3, l4, l5⟩ σ' ⟨hF, p, q, g', l', i, h3, h4, h5, hpq, hp, hq, hi, hT, hGi⟩ hK
  simp only at h3 h4 h5 hK
  subst h3 h4 h5
  show gp (X2_commonDivisor_L30_body n (some d) (fun l3 l4 l5 => K (l3, l4, l5)) (some p) (some q) (nI i)) σ' _
  have hdS := dSh_fr hd0 hF
  have hp0 := hp
  have hq0 := hq
  obtain ⟨kp, hp⟩ := hp
  obtain ⟨kq, hq⟩ := hq
  have hkp := hp.2.1
  have hkq := hq.2.1
  have hq1 := BigV_len0 hq
  unfold X2_commonDivisor_L30_body X2_commonDivisor_b112
  refine gp_f (by rw [show (1000000 : Int32) = nI 1000000 from rfl, nI_leI (by omega) (by omega)]; omega) ?_
  refine gp_rI hq.1.1 rfl ?_
  rw [hq.2.2.1]
  refine gp_if (fun h => ?_) (fun h => ?_)
  · rw [show (0 : Int32) = nI 0 from rfl, nI_leI (by omega) (by omega)] at h
    have : l' = 0 := by have := hq1.mp (by omega); omega
    subst this
    rw [Nat.gcd_zero_right] at hGi
    refine gp_ret ⟨hF, p, rfl, by omega, ?_⟩
    rw [← hGi]
    exact hp0
  rw [show (0 : Int32) = nI 0 from rfl, nI_leI (by omega) (by omega)] at h
  have hl : 0 < l' := by
    rcases Nat.eq_zero_or_pos l' with z | z
    · subst z; exact absurd (hq1.mpr rfl) (by omega)
    · exact z
  have hi2 : i ≤ 60 * N + 1 := by
    rcases Nat.eq_zero_or_pos i with z | z
    · omega
    · exact euT_le hT (euT_pos hT z) hl
  have big : gp (X2_commonDivisor_b80 n (fun l3 l4 l5 => K (l3, l4, l5)) (some d) (some p) (some q) (nI i)) σ' (fun r σ' => Fr (divQ d) σ σ' ∧ ∃ q, r = some q ∧ (q = d + 5 ∨ q = d + 7) ∧ Bz σ' q N ((Nat.gcd g l : Nat) : Int)) := by
    unfold X2_commonDivisor_b80
    refine gp_cV hdS.1 (gp_mono (c_divide hdS (by omega) hp0 hq0 (Bz_lt hp0) (by unfold divP; omega) (by unfold divP; omega)) ?_)
    rintro _ σ3 ⟨hF3, hqu, hre⟩
    have hF3' : Fr (divQ d) σ σ3 := Fr_then hF hF3 (fun x hx => by unfold divP at hx; unfold divQ; omega)
    have hdS3 := dSh_fr hd0 hF3'
    refine gp_rR hdS3.1 rfl ?_
    have hpS : bSh σ3 p (p + 1) N := bSh_fr hp.1 hF3
    refine gp_cV hpS.1 (gp_mono (c_setB (turn := 1) hpS hre (by omega) (Bz_lt hre) (Or.inr (Or.inl rfl))) ?_)
    rintro _ σ4 ⟨hF4, hb4⟩
    refine gp_let ?_
    rw [nI_1]
    have hq3 := Bz_fr hq0 hF3 (by unfold divP; omega) (by unfold divP; omega)
    have hq4 := Bz_fr hq3 hF4 (by unfold bP; omega) (by unfold bP; omega)
    refine hK (_, _, _) _ ⟨Fr_then hF3' hF4 (fun x hx => by unfold bP at hx; unfold divQ; omega), q, p, l', g' % l', i + 1, rfl, rfl, rfl, by omega, hq4, ?_, by omega, euT_step hT hl, ?_⟩ (by simp only; rw [nI_clamp (by omega), nI_clamp (by omega)]; omega)
    · have e : ((g' % l' : Nat) : Int) = (((g' : Int).natAbs : Nat) : Int) % (((l' : Int).natAbs : Nat) : Int) * (1 : Int32).toInt := by
        rw [show (1 : Int32).toInt = 1 from rfl, Int.mul_one, Int.natAbs_natCast, Int.natAbs_natCast]
        exact Int.natCast_emod g' l'
      rw [e]
      exact hb4
    · rw [← hGi, Nat.gcd_comm g' l', Nat.gcd_rec l' g', Nat.gcd_comm]
  refine gp_rI hp.1.1 rfl ?_
  rw [hp.2.2.1]
  refine gp_if (fun _ => big) (fun h2 => ?_)
  rw [show (2 : Int32) = nI 2 from rfl, nI_ltI (by omega) (by omega)] at h2
  refine gp_rI hq.1.1 rfl ?_
  rw [hq.2.2.1]
  refine gp_if (fun _ => big) (fun h3 => ?_)
  rw [show (2 : Int32) = nI 2 from rfl, nI_ltI (by omega) (by omega)] at h3
  clear big
  refine gp_cV hp.1.1 (gp_mono (c_lowPair hp (by omega)) ?_)
  rintro x1 σ3 ⟨h4, hx1⟩
  rw [h4]
  clear h4
  refine gp_cV hq.1.1 (gp_mono (c_lowPair hq (by omega)) ?_)
  rintro x2 σ4 ⟨h4, hx2⟩
  rw [h4]
  clear h4
  rw [Int.natAbs_natCast] at hx1 hx2
  refine gp_cB (gp_mono (c_smallDivisor hx1 hx2 (by omega)) ?_)
  rintro x3 σ5 ⟨h4, hx3⟩
  rw [h4]
  clear h4
  have hlt : Nat.gcd g' l' ≤ l' := Nat.gcd_le_right _ hl
  have hl9 := bz_nat hq0
  refine gp_cV hp.1.1 (gp_mono (c_setLongB hp.1 (by omega) (by rw [hx3, powBi]; omega)) ?_)
  rintro _ σ6 ⟨hF6, hb6⟩
  refine gp_ret ⟨Fr_then hF hF6 (fun x hx => by unfold bP at hx; unfold divQ; omega), p, rfl, by omega, ?_⟩
  rw [← hGi, ← hx3]
  exact hb6
