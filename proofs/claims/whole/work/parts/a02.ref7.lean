/-! ===== the reference: digit ===== -/
section RG
variable {f M : Nat} {σ : tz_S}
theorem r_sub {p y m : Nat} {so : Int64} {s : Int} (h : mSh σ M) (hso : so.toInt = s) (hs : 0 ≤ s ∧ s < 1000000000) (hm : m ≤ 400) (hp : p + m + 1 < 527200) (hy : y + m < 527200) (hpy : y + m < p + 1 ∨ p + m + 1 < y) (hd : ∀ k, k < m + 1 → 0 ≤ dI (tz_A σ (M + 20)) (p + 1 + k) ∧ dI (tz_A σ (M + 20)) (p + 1 + k) < 1000000000) (hyd : ∀ k, k < m → 0 ≤ dI (tz_A σ (M + 20)) (y + 1 + k) ∧ dI (tz_A σ (M + 20)) (y + 1 + k) < 1000000000) (hfit : s * mg (fun k => dI (tz_A σ (M + 20)) (y + 1 + k)) m ≤ mg (fun k => dI (tz_A σ (M + 20)) (p + 1 + k)) (m + 1)) {rr jj : Nat} (hrj : rr + jj = p + 1) (hf : 2000 ≤ f) :
    gp (X12_digit_L160 f (some M) (nI rr) (nI jj) (nI y) (nI m) so 0 1) σ (fun z σ' => z.toInt = s ∧ Pq M (p + 1) (p + m + 2) σ σ' ∧ tz_F σ' M = tz_F σ M ∧ (∀ k, k < m + 1 → 0 ≤ dI (tz_A σ' (M + 20)) (p + 1 + k) ∧ dI (tz_A σ' (M + 20)) (p + 1 + k) < 1000000000) ∧ mg (fun k => dI (tz_A σ' (M + 20)) (p + 1 + k)) (m + 1) = mg (fun k => dI (tz_A σ (M + 20)) (p + 1 + k)) (m + 1) - s * mg (fun k => dI (tz_A σ (M + 20)) (y + 1 + k)) m) := by
  unfold X12_digit_L160
  refine gp_loop (I := fun (τ : Int64 × Int32) (σ' : tz_S) => ∃ k, τ.2 = nI (k + 1) ∧ k ≤ m + 1 ∧ Pq M (p + 1) (p + 1 + k) σ σ' ∧ tz_F σ' M = tz_F σ M ∧ (0 ≤ τ.1.toInt ∧ τ.1.toInt ≤ 1000000000) ∧ (∀ j, j < k → 0 ≤ dI (tz_A σ' (M + 20)) (p + 1 + j) ∧ dI (tz_A σ' (M + 20)) (p + 1 + j) < 1000000000) ∧ mg (fun k => dI (tz_A σ (M + 20)) (p + 1 + k)) k - s * mg (xd (tz_A σ (M + 20)) y m) k = mg (fun k => dI (tz_A σ' (M + 20)) (p + 1 + k)) k - τ.1.toInt * 1000000000 ^ k) (fun τ _ => 1100 - τ.2.toNatClampNeg) ?_ f _ _ ⟨0, rfl, Nat.zero_le _, Pq_refl, rfl, by decide, fun j hj => absurd hj (Nat.not_lt_zero _), by show 0 - s * 0 = 0 - (0 : Int64).toInt * 1; rw [show (0 : Int64).toInt = 0 from rfl]; omega⟩ (by omega)
  rintro K ⟨l7, l9⟩ σ1 ⟨k, h9, hk, hP, hFF, hl, hdn, hval⟩ hK
  simp only at h9 hl hval
  subst h9
  show gp (X12_digit_L160_body f (some M) (nI rr) (nI jj) (nI y) (nI m) so (fun l7 l9 => K (l7, l9)) l7 (nI (k + 1))) σ1 _
  unfold X12_digit_L160_body
  have h1 := mSh_fr h hP.1
  have ey : mg (xd (tz_A σ (M + 20)) y m) (m + 1) = mg (fun k => dI (tz_A σ (M + 20)) (y + 1 + k)) m := by
    have e : mg (xd (tz_A σ (M + 20)) y m) (m + 1) = mg (xd (tz_A σ (M + 20)) y m) m := mg_z (fun j h1 h2 => if_neg (by omega))
    rw [e]
    exact mg_congr (fun j hj => if_pos hj)
  rw [nI_1]
  refine gp_if (fun z => ?_) (fun z => ?_)
  · rw [nI_ltI (by omega) (by omega)] at z
    have hkm : k = m + 1 := by omega
    subst hkm
    rw [ey] at hval
    have hpw := mg_pw (m + 1)
    have hR := mg_lt (d := fun k => dI (tz_A σ1 (M + 20)) (p + 1 + k)) hdn
    have hl0 : l7.toInt = 0 := by
      by_cases q : l7.toInt = 0
      · exact q
      · have : 1 * (1000000000 : Int) ^ (m + 1) ≤ l7.toInt * 1000000000 ^ (m + 1) := Int.mul_le_mul_of_nonneg_right (by omega) (by omega)
        generalize (1000000000 : Int) ^ (m + 1) = P at *
        generalize s * mg (fun k => dI (tz_A σ (M + 20)) (y + 1 + k)) m = sY at *
        generalize mg (fun k => dI (tz_A σ (M + 20)) (p + 1 + k)) (m + 1) = W at *
        generalize mg (fun k => dI (tz_A σ1 (M + 20)) (p + 1 + k)) (m + 1) = W1 at *
        clear hK hd hyd hdn
        omega
    rw [hl0, Int.zero_mul, Int.sub_zero] at hval
    refine gp_ret ⟨?_, Pq_mono hP (Nat.le_refl _) (by omega), hFF, hdn, hval.symm⟩
    rw [az_l2i (by omega) (by omega), hso]
  rw [nI_ltI (by omega) (by omega)] at z
  have hkm : k ≤ m := by omega
  have bd := hd k (by omega)
  have ed : tz_A σ1 (M + 20) (p + 1 + k) = tz_A σ (M + 20) (p + 1 + k) := hP.2.2 _ (by omega)
  have eidx : nI rr + nI jj + nI (k + 1) - 1 = nI (p + 1 + k) := by rw [nI_add, nI_add, hrj, show p + 1 + (k + 1) = p + 1 + k + 1 by omega, nI_p1]
  rw [eidx]
  refine gp_pl (j := p + 1 + k) h1 (by omega) rfl ?_
  rw [ed]
  have st : ∀ pr : Int64, pr.toInt = s * xd (tz_A σ (M + 20)) y m k → 0 ≤ pr.toInt ∧ pr.toInt ≤ 999999998000000001 → gp (X12_digit_b210 f (fun l7 l9 => K (l7, l9)) (some M) (nI rr) (nI jj) (nI y) (nI m) so (nI (k + 1)) (Int32.toInt64 (tz_A σ (M + 20) (p + 1 + k)) - l7) pr) σ1 (fun z σ' => z.toInt = s ∧ Pq M (p + 1) (p + m + 2) σ σ' ∧ tz_F σ' M = tz_F σ M ∧ (∀ k, k < m + 1 → 0 ≤ dI (tz_A σ' (M + 20)) (p + 1 + k) ∧ dI (tz_A σ' (M + 20)) (p + 1 + k) < 1000000000) ∧ mg (fun k => dI (tz_A σ' (M + 20)) (p + 1 + k)) (m + 1) = mg (fun k => dI (tz_A σ (M + 20)) (p + 1 + k)) (m + 1) - s * mg (fun k => dI (tz_A σ (M + 20)) (y + 1 + k)) m) := by
    intro pr hpr hpb
    unfold X12_digit_b210 X12_digit_b239
    obtain ⟨r, b2, g1, g2, g3, g4, g5, g6⟩ := sb_64 (x := tz_A σ (M + 20) (p + 1 + k)) (b := l7) (p := pr) bd hl hpb
    have hrem := sb_rem g1 ⟨g2, g3⟩ ⟨g4, g5⟩
    have hdv : ∀ s0 : Int64, s0.toInt = r → ((s0 - (Int32.toInt64 (tz_A σ (M + 20) (p + 1 + k)) - l7 - pr)) / 1000000000).toInt = b2 := fun s0 h0 => sb_div h0 g1 ⟨g2, g3⟩ ⟨g4, g5⟩
    rw [hpr] at g6
    have hnew := rg_sb _ _ _ s _ b2 _ _ r _ 1000000000 hval g6
    clear g1 hval bd hpb hpr hfit
    refine gp_let ?_
    generalize Int32.toInt64 (tz_A σ (M + 20) (p + 1 + k)) - l7 - pr = v at *
    refine gp_rmL az_B0 ?_
    generalize v - v / 1000000000 * 1000000000 = rm at *
    have fin : ∀ s0 : Int64, s0.toInt = r → gp (pz_gB (pz_dvL (s0 - v) 1000000000) fun x16 => pz_gB (pz_rR 12 34 (some M)) fun x17 => pz_uB (pz_sI 0 x17 (nI rr + nI jj + nI (k + 1) - 1) (Int64.toInt32 s0)) (pz_let (nI (k + 1) + 1) fun l17_18 => K (x16, l17_18))) σ1 (fun z σ' => z.toInt = s ∧ Pq M (p + 1) (p + m + 2) σ σ' ∧ tz_F σ' M = tz_F σ M ∧ (∀ k, k < m + 1 → 0 ≤ dI (tz_A σ' (M + 20)) (p + 1 + k) ∧ dI (tz_A σ' (M + 20)) (p + 1 + k) < 1000000000) ∧ mg (fun k => dI (tz_A σ' (M + 20)) (p + 1 + k)) (m + 1) = mg (fun k => dI (tz_A σ (M + 20)) (p + 1 + k)) (m + 1) - s * mg (fun k => dI (tz_A σ (M + 20)) (y + 1 + k)) m) := by
      intro s0 hs0
      have hb2 := hdv s0 hs0
      have e32 : (Int64.toInt32 s0).toInt = r := by rw [az_l2i (by omega) (by omega), hs0]
      refine gp_dvL az_B0 ?_
      generalize (s0 - v) / 1000000000 = bq at *
      refine gp_rR (mh_me h1) rfl ?_
      rw [eidx]
      generalize Int64.toInt32 s0 = d at *
      refine gp_ps (j := p + 1 + k) h1 (by omega) rfl ?_
      refine gp_let ?_
      rw [nI_1]
      have eo : ∀ j, j < k → dI (tz_A (tz_sA σ1 (M + 20) (p + 1 + k) d) (M + 20)) (p + 1 + j) = dI (tz_A σ1 (M + 20)) (p + 1 + j) := fun j hj => by
        show (tz_u2 (tz_A σ1) (M + 20) (p + 1 + k) d (M + 20) (p + 1 + j)).toInt = _
        rw [tz_u2_ne _ _ (Or.inr (by omega))]
      have en : dI (tz_A (tz_sA σ1 (M + 20) (p + 1 + k) d) (M + 20)) (p + 1 + k) = r := by
        show (tz_u2 (tz_A σ1) (M + 20) (p + 1 + k) d (M + 20) (p + 1 + k)).toInt = _
        rw [tz_u2_same]; exact e32
      refine hK (bq, nI (k + 1 + 1)) _ ⟨k + 1, rfl, by omega, Pq_trans (Pq_mono hP (Nat.le_refl _) (by omega)) (Pq_cell (by omega) (by omega)), hFF, by show 0 ≤ bq.toInt ∧ bq.toInt ≤ 1000000000; omega, fun j hj => ?_, ?_⟩ (by show 1100 - (nI (k + 1 + 1)).toNatClampNeg < 1100 - (nI (k + 1)).toNatClampNeg; rw [nI_clamp (by omega), nI_clamp (by omega)]; omega)
      · by_cases e : j = k
        · rw [e, en]; exact ⟨g2, g3⟩
        · rw [eo j (by omega)]; exact hdn j (by omega)
      · show mg (fun k => dI (tz_A σ (M + 20)) (p + 1 + k)) k + dI (tz_A σ (M + 20)) (p + 1 + k) * 1000000000 ^ k - s * (mg (xd (tz_A σ (M + 20)) y m) k + xd (tz_A σ (M + 20)) y m k * 1000000000 ^ k) = mg (fun j => dI (tz_A (tz_sA σ1 (M + 20) (p + 1 + k) d) (M + 20)) (p + 1 + j)) k + dI (tz_A (tz_sA σ1 (M + 20) (p + 1 + k) d) (M + 20)) (p + 1 + k) * 1000000000 ^ k - bq.toInt * 1000000000 ^ (k + 1)
        rw [mg_congr eo, en, hb2, mg_ps]
        exact hnew
    refine gp_if (fun q => ?_) (fun q => ?_)
    · have q' : 0 ≤ rm.toInt := by rw [lg_cmp_ge, Int64.le_iff_toInt_le] at q; exact q
      rcases hrem with w | w
      · exact fin rm w.2
      · omega
    · have q' : ¬ 0 ≤ rm.toInt := by rw [lg_cmp_ge, Int64.le_iff_toInt_le] at q; exact q
      rcases hrem with w | w
      · omega
      · exact fin _ w.2
  refine gp_if (fun q => ?_) (fun q => ?_)
  · rw [nI_ltI (by omega) (by omega)] at q
    refine st 0 ?_ (by decide)
    unfold xd
    rw [if_neg (by omega), Int.mul_zero]; rfl
  · rw [nI_ltI (by omega) (by omega)] at q
    refine gp_pl (j := y + (k + 1)) h1 (by omega) (nI_add y (k + 1)) ?_
    have e1 : tz_A σ1 (M + 20) (y + (k + 1)) = tz_A σ (M + 20) (y + 1 + k) := by rw [hP.2.2 _ (by omega), show y + (k + 1) = y + 1 + k by omega]
    rw [e1]
    obtain ⟨p1, p2, p3⟩ := so_p (so := so) (y := tz_A σ (M + 20) (y + 1 + k)) (by rw [hso]; exact hs) (hyd k (by omega))
    refine st _ ?_ (by rw [p1]; exact ⟨p2, p3⟩)
    rw [p1, hso]
    unfold xd
    rw [if_pos (by omega)]
/-! the search -/
def bl (n : Nat) : Nat := if n = 0 then 0 else n.log2 + 1
theorem bl_lt {d e : Nat} (hd : d ≠ 0) (he : 2 * e ≤ d) : bl e < bl d := by
  unfold bl
  rw [if_neg hd]
  by_cases z : e = 0
  · rw [if_pos z]; omega
  · rw [if_neg z]
    have h1 : d < 2 ^ (d.log2 + 1) := (Nat.log2_lt hd).1 (by omega)
    have h2 : e < 2 ^ d.log2 := by rw [Nat.pow_succ] at h1; omega
    have := (Nat.log2_lt z).2 h2
    omega
theorem bl_31 {d : Nat} (h : d < 2147483648) : bl d ≤ 31 := by
  unfold bl
  by_cases z : d = 0
  · rw [if_pos z]; omega
  · rw [if_neg z]
    have := (Nat.log2_lt z).2 (show d < 2 ^ 31 by omega)
    omega
theorem mid64 {a b : Int64} (h1 : 0 ≤ a.toInt) (h2 : a.toInt < b.toInt) (h3 : b.toInt < 1000000000) : ∃ d, ((a + b + 1) / 2).toInt = a.toInt + d ∧ (b.toInt - a.toInt ≤ 2 * d ∧ 2 * d ≤ b.toInt - a.toInt + 1) := by
  have e1 : (a + b).toInt = a.toInt + b.toInt := az_ladd (by omega) (by omega)
  have e2 : (a + b + 1).toInt = a.toInt + b.toInt + 1 := by rw [az_ladd (by rw [e1, show (1 : Int64).toInt = 1 from rfl]; omega) (by rw [e1, show (1 : Int64).toInt = 1 from rfl]; omega), e1]; rfl
  have e3 : ((a + b + 1) / 2).toInt = (a.toInt + b.toInt + 1).tdiv 2 := by rw [az_ldiv (by decide), e2]; rfl
  rw [e3, Int.tdiv_eq_ediv_of_nonneg (by omega)]
  refine ⟨(a.toInt + b.toInt + 1) / 2 - a.toInt, by omega, by omega, by omega⟩
theorem dq_uniq {W Y q : Int} (hY : 0 < Y) (h1 : q * Y ≤ W) (h2 : W < (q + 1) * Y) : W / Y = q := by
  have e : (q + 1) * Y = q * Y + Y := by rw [Int.add_mul, Int.one_mul]
  rw [e] at h2
  have h3 : W = W - q * Y + Y * q := by rw [Int.mul_comm Y q]; omega
  rw [h3, Int.add_mul_ediv_left _ _ (by omega), Int.ediv_eq_zero_of_lt (by omega) (by omega)]
  omega
theorem le_mulY {a b Y : Int} (hY : 0 < Y) (h : a ≤ b) : a * Y ≤ b * Y := Int.mul_le_mul_of_nonneg_right h (by omega)
/-- the search for the digit, then the subtraction -/
theorem r_search {p y m : Nat} {lo hi : Int64} (h : mSh σ M) (hm : m ≤ 400) (hp : p + m + 1 < 527200) (hy : y + m < 527200) (hpy : y + m < p + 1 ∨ p + m + 1 < y) (hd : ∀ k, k < m + 1 → 0 ≤ dI (tz_A σ (M + 20)) (p + 1 + k) ∧ dI (tz_A σ (M + 20)) (p + 1 + k) < 1000000000) (hyd : ∀ k, k < m → 0 ≤ dI (tz_A σ (M + 20)) (y + 1 + k) ∧ dI (tz_A σ (M + 20)) (y + 1 + k) < 1000000000) (hY : 0 < mg (fun k => dI (tz_A σ (M + 20)) (y + 1 + k)) m)
    (hlo : 0 ≤ lo.toInt) (hlh : lo.toInt ≤ hi.toInt) (hhi : hi.toInt < 1000000000) (hl : lo.toInt * mg (fun k => dI (tz_A σ (M + 20)) (y + 1 + k)) m ≤ mg (fun k => dI (tz_A σ (M + 20)) (p + 1 + k)) (m + 1)) (hh : mg (fun k => dI (tz_A σ (M + 20)) (p + 1 + k)) (m + 1) < (hi.toInt + 1) * mg (fun k => dI (tz_A σ (M + 20)) (y + 1 + k)) m) {rr jj : Nat} (hrj : rr + jj = p + 1) (hf : 2000 ≤ f) :
    gp (X12_digit_L103 f (some M) (nI rr) (nI jj) (nI y) (nI m) lo hi) σ (fun z σ' => z.toInt = mg (fun k => dI (tz_A σ (M + 20)) (p + 1 + k)) (m + 1) / mg (fun k => dI (tz_A σ (M + 20)) (y + 1 + k)) m ∧ (0 ≤ z.toInt ∧ z.toInt < 1000000000) ∧ Pq M (p + 1) (p + m + 2) σ σ' ∧ tz_F σ' M = tz_F σ M ∧ (∀ k, k < m + 1 → 0 ≤ dI (tz_A σ' (M + 20)) (p + 1 + k) ∧ dI (tz_A σ' (M + 20)) (p + 1 + k) < 1000000000) ∧ mg (fun k => dI (tz_A σ' (M + 20)) (p + 1 + k)) (m + 1) = mg (fun k => dI (tz_A σ (M + 20)) (p + 1 + k)) (m + 1) - z.toInt * mg (fun k => dI (tz_A σ (M + 20)) (y + 1 + k)) m) := by
  unfold X12_digit_L103
  refine gp_loop (I := fun (τ : Int64 × Int64) (σ' : tz_S) => σ' = σ ∧ 0 ≤ τ.1.toInt ∧ τ.1.toInt ≤ τ.2.toInt ∧ τ.2.toInt < 1000000000 ∧ τ.1.toInt * mg (fun k => dI (tz_A σ (M + 20)) (y + 1 + k)) m ≤ mg (fun k => dI (tz_A σ (M + 20)) (p + 1 + k)) (m + 1) ∧ mg (fun k => dI (tz_A σ (M + 20)) (p + 1 + k)) (m + 1) < (τ.2.toInt + 1) * mg (fun k => dI (tz_A σ (M + 20)) (y + 1 + k)) m) (fun τ _ => bl (τ.2.toInt - τ.1.toInt).toNat) ?_ f _ _ ⟨rfl, hlo, hlh, hhi, hl, hh⟩ (by have := bl_31 (d := (hi.toInt - lo.toInt).toNat) (by omega); show bl (hi.toInt - lo.toInt).toNat < f; omega)
  rintro K ⟨l11, l13⟩ σ1 ⟨hσ, i1, i2, i3, i4, i5⟩ hK
  simp only at i1 i2 i3 i4 i5
  rw [hσ]
  clear hσ σ1 hl hh hlo hlh hhi
  show gp (X12_digit_L103_body f (some M) (nI rr) (nI jj) (nI y) (nI m) (fun l11 l13 => K (l11, l13)) l11 l13) σ _
  unfold X12_digit_L103_body X12_digit_b151
  refine gp_if (fun z => ?_) (fun z => ?_)
  · have z' : l13.toInt ≤ l11.toInt := by rw [lg_cmp_ge, Int64.le_iff_toInt_le] at z; exact z
    have e : l13.toInt = l11.toInt := by omega
    rw [e] at i5
    have hq := dq_uniq hY i4 i5
    refine gp_mono (r_sub h rfl ⟨i1, by omega⟩ hm hp hy hpy hd hyd i4 hrj hf) ?_
    rintro w σ2 ⟨a1, a2, a3, a4, a5⟩
    rw [a1]
    exact ⟨hq.symm, ⟨i1, by omega⟩, a2, a3, a4, a5⟩
  have z' : ¬ l13.toInt ≤ l11.toInt := by rw [lg_cmp_ge, Int64.le_iff_toInt_le] at z; exact z
  obtain ⟨d, e1, e2, e3⟩ := mid64 i1 (by omega) i3
  refine gp_dvL (by decide) ?_
  generalize (l11 + l13 + 1) / 2 = mid at *
  refine gp_cV (mh_me h) (gp_mono (r_fits h rfl (by omega) hm hp hy hd hyd hrj hf) ?_)
  rintro w σ2 ⟨a1, a2⟩
  rw [a1]
  clear a1 σ2 hd hyd
  generalize mg (fun k => dI (tz_A σ (M + 20)) (p + 1 + k)) (m + 1) = W at *
  generalize mg (fun k => dI (tz_A σ (M + 20)) (y + 1 + k)) m = Y at *
  refine gp_if (fun q => ?_) (fun q => ?_)
  · have q2 := ite0 a2 q
    refine gp_let ?_
    have e4 : (mid - 1).toInt = mid.toInt - 1 := by rw [az_lsub (by rw [show (1 : Int64).toInt = 1 from rfl]; omega) (by rw [show (1 : Int64).toInt = 1 from rfl]; omega)]; rfl
    refine hK (l11, mid - 1) _ ⟨rfl, i1, by show l11.toInt ≤ (mid - 1).toInt; omega, by show (mid - 1).toInt < _; omega, i4, ?_⟩ ?_
    · show W < ((mid - 1).toInt + 1) * Y
      rw [e4, show mid.toInt - 1 + 1 = mid.toInt by omega]
      omega
    · show bl ((mid - 1).toInt - l11.toInt).toNat < bl (l13.toInt - l11.toInt).toNat
      exact bl_lt (by omega) (by omega)
  · have q2 := ite1 a2 q
    refine hK (mid, l13) _ ⟨rfl, by show 0 ≤ mid.toInt; omega, by show mid.toInt ≤ l13.toInt; omega, i3, q2, i5⟩ ?_
    show bl (l13.toInt - mid.toInt).toNat < bl (l13.toInt - l11.toInt).toNat
    exact bl_lt (by omega) (by omega)
end RG
