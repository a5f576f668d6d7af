/-! ===== the reference: fitsSo, digit ===== -/
/-- one place of a number less so many times another -/
theorem sb_64 {x : Int32} {b p : Int64} (hx : 0 ≤ x.toInt ∧ x.toInt < 1000000000) (hb : 0 ≤ b.toInt ∧ b.toInt ≤ 1000000000) (hp : 0 ≤ p.toInt ∧ p.toInt ≤ 999999998000000001) : ∃ r b2 : Int, (Int32.toInt64 x - b - p).toInt = r - b2 * 1000000000 ∧ 0 ≤ r ∧ r < 1000000000 ∧ 0 ≤ b2 ∧ b2 ≤ 1000000000 ∧ x.toInt - b.toInt - p.toInt = r - b2 * 1000000000 := by
  have e1 : (Int32.toInt64 x - b).toInt = x.toInt - b.toInt := by rw [az_lsub (by rw [Int32.toInt_toInt64]; omega) (by rw [Int32.toInt_toInt64]; omega), Int32.toInt_toInt64]
  have e2 : (Int32.toInt64 x - b - p).toInt = x.toInt - b.toInt - p.toInt := by rw [az_lsub (by rw [e1]; omega) (by rw [e1]; omega), e1]
  have h1 := Int.mul_ediv_add_emod (x.toInt - b.toInt - p.toInt) 1000000000
  have h2 := Int.emod_nonneg (x.toInt - b.toInt - p.toInt) (show (1000000000 : Int) ≠ 0 by decide)
  have h3 := Int.emod_lt_of_pos (x.toInt - b.toInt - p.toInt) (show (0 : Int) < 1000000000 by decide)
  generalize (x.toInt - b.toInt - p.toInt) / 1000000000 = q at *
  generalize (x.toInt - b.toInt - p.toInt) % 1000000000 = r at *
  exact ⟨r, -q, by rw [e2]; omega, h2, h3, by omega, by omega, by omega⟩
theorem sb_rem {v : Int64} {r b2 : Int} (hv : v.toInt = r - b2 * 1000000000) (hr : 0 ≤ r ∧ r < 1000000000) (hb : 0 ≤ b2 ∧ b2 ≤ 1000000000) : (0 ≤ (v - v / 1000000000 * 1000000000).toInt ∧ (v - v / 1000000000 * 1000000000).toInt = r) ∨ ((v - v / 1000000000 * 1000000000).toInt < 0 ∧ (v - v / 1000000000 * 1000000000 + 1000000000).toInt = r) := by
  obtain ⟨q, s, e1, e2, e3, e4, e5, e6, e7⟩ := az_lB v
  rw [e2]
  by_cases z : 0 ≤ s
  · left
    refine ⟨z, ?_⟩
    rw [hv] at e3
    omega
  · right
    refine ⟨by omega, ?_⟩
    rw [az_ladd (by rw [e2, az_B]; omega) (by rw [e2, az_B]; omega), e2, az_B]
    rw [hv] at e3
    omega
theorem sb_div {s v : Int64} {r b2 : Int} (hs : s.toInt = r) (hv : v.toInt = r - b2 * 1000000000) (hr : 0 ≤ r ∧ r < 1000000000) (hb : 0 ≤ b2 ∧ b2 ≤ 1000000000) : ((s - v) / 1000000000).toInt = b2 := by
  have e1 : (s - v).toInt = b2 * 1000000000 := by rw [az_lsub (by rw [hs, hv]; omega) (by rw [hs, hv]; omega), hs, hv]; omega
  obtain ⟨q, t, f1, f2, f3, f4, f5, f6, f7⟩ := az_lB (s - v)
  rw [f1]
  rw [e1] at f3
  omega
theorem so_p {so : Int64} {y : Int32} (hs : 0 ≤ so.toInt ∧ so.toInt < 1000000000) (hy : 0 ≤ y.toInt ∧ y.toInt < 1000000000) : (so * Int32.toInt64 y).toInt = so.toInt * y.toInt ∧ 0 ≤ so.toInt * y.toInt ∧ so.toInt * y.toInt ≤ 999999998000000001 := by
  have h1 := Int.mul_nonneg hs.1 hy.1
  have h2 : so.toInt * y.toInt ≤ 999999999 * 999999999 := Int.mul_le_mul (by omega) (by omega) hy.1 (by decide)
  refine ⟨?_, h1, by omega⟩
  rw [az_lmul (by rw [Int32.toInt_toInt64]; omega) (by rw [Int32.toInt_toInt64]; omega), Int32.toInt_toInt64]
theorem rg_sb (W Y R s b b2 d y r P B : Int) (h : W - s * Y = R - b * P) (hd : d - b - s * y = r - b2 * B) : W + d * P - s * (Y + y * P) = R + r * P - b2 * (P * B) := by grind
section RF
variable {f M : Nat} {σ : tz_S}
/-- whether so many times y fit into the window of m + 1 places at p + 1 -/
theorem r_fits {p y m : Nat} {so : Int64} {s : Int} (h : mSh σ M) (hso : so.toInt = s) (hs : 0 ≤ s ∧ s < 1000000000) (hm : m ≤ 400) (hp : p + m + 1 < 527200) (hy : y + m < 527200) (hd : ∀ k, k < m + 1 → 0 ≤ dI (tz_A σ (M + 20)) (p + 1 + k) ∧ dI (tz_A σ (M + 20)) (p + 1 + k) < 1000000000) (hyd : ∀ k, k < m → 0 ≤ dI (tz_A σ (M + 20)) (y + 1 + k) ∧ dI (tz_A σ (M + 20)) (y + 1 + k) < 1000000000) {rr jj : Nat} (hrj : rr + jj = p + 1) (hf : 2000 ≤ f) :
    gp (X12_fitsSo f (some M) (nI rr) (nI jj) (nI y) (nI m) so) σ (fun z σ' => σ' = σ ∧ z = if s * mg (fun k => dI (tz_A σ (M + 20)) (y + 1 + k)) m ≤ mg (fun k => dI (tz_A σ (M + 20)) (p + 1 + k)) (m + 1) then 1 else 0) := by
  unfold X12_fitsSo X12_fitsSo_L6
  refine gp_loop (I := fun (τ : Int64 × Int32) (σ' : tz_S) => ∃ k, τ.2 = nI (k + 1) ∧ k ≤ m + 1 ∧ σ' = σ ∧ (0 ≤ τ.1.toInt ∧ τ.1.toInt ≤ 1000000000) ∧ ∃ R, 0 ≤ R ∧ R < 1000000000 ^ k ∧ mg (fun k => dI (tz_A σ (M + 20)) (p + 1 + k)) k - s * mg (xd (tz_A σ (M + 20)) y m) k = R - τ.1.toInt * 1000000000 ^ k) (fun τ _ => 1100 - τ.2.toNatClampNeg) ?_ f _ _ ⟨0, rfl, Nat.zero_le _, rfl, by decide, 0, Int.le_refl _, by decide, by show 0 - s * 0 = 0 - (0 : Int64).toInt * 1; rw [show (0 : Int64).toInt = 0 from rfl]; omega⟩ (by omega)
  rintro K ⟨l7, l9⟩ σ1 ⟨k, h9, hk, hσ, hl, R, hR0, hR1, hval⟩ hK
  simp only at h9 hl hval
  rw [hσ]
  clear hσ σ1
  subst h9
  show gp (X12_fitsSo_L6_body f (some M) (nI rr) (nI jj) (nI y) (nI m) so (fun l7 l9 => K (l7, l9)) l7 (nI (k + 1))) σ _
  unfold X12_fitsSo_L6_body X12_fitsSo_b116
  have ey : mg (xd (tz_A σ (M + 20)) y m) (m + 1) = mg (fun k => dI (tz_A σ (M + 20)) (y + 1 + k)) m := by
    have e : mg (xd (tz_A σ (M + 20)) y m) (m + 1) = mg (xd (tz_A σ (M + 20)) y m) m := mg_z (fun j h1 h2 => if_neg (by omega))
    rw [e]
    exact mg_congr (fun j hj => if_pos hj)
  rw [nI_1]
  refine gp_if (fun z => ?_) (fun z => ?_)
  · rw [nI_ltI (by omega) (by omega)] at z
    have hkm : k = m + 1 := by omega
    subst hkm
    rw [ey] at hval
    have hpw := mg_pw (m + 1)
    generalize (1000000000 : Int) ^ (m + 1) = P at *
    generalize s * mg (fun k => dI (tz_A σ (M + 20)) (y + 1 + k)) m = sY at *
    generalize mg (fun k => dI (tz_A σ (M + 20)) (p + 1 + k)) (m + 1) = W at *
    clear hd hyd hK
    refine gp_if (fun q => ?_) (fun q => ?_)
    · rw [l64_0] at q
      rw [q, Int.zero_mul] at hval
      exact gp_zz (Or.inr rfl) (gp_ret ⟨rfl, by rw [if_pos (by omega)]⟩)
    · rw [l64_0] at q
      have : 1 * P ≤ l7.toInt * P := Int.mul_le_mul_of_nonneg_right (by omega) (by omega)
      exact gp_zz (Or.inl rfl) (gp_ret ⟨rfl, by rw [if_neg (by omega)]⟩)
  rw [nI_ltI (by omega) (by omega)] at z
  have hkm : k ≤ m := by omega
  have bd := hd k (by omega)
  have eidx : nI rr + nI jj + nI (k + 1) - 1 = nI (p + 1 + k) := by rw [nI_add, nI_add, hrj, show p + 1 + (k + 1) = p + 1 + k + 1 by omega, nI_p1]
  rw [eidx]
  refine gp_pl (j := p + 1 + k) h (by omega) rfl ?_
  have st : ∀ pr : Int64, pr.toInt = s * xd (tz_A σ (M + 20)) y m k → 0 ≤ pr.toInt ∧ pr.toInt ≤ 999999998000000001 → gp (X12_fitsSo_b56 f (fun l7 l9 => K (l7, l9)) (some M) (nI rr) (nI jj) (nI y) (nI m) so (nI (k + 1)) (Int32.toInt64 (tz_A σ (M + 20) (p + 1 + k)) - l7) pr) σ (fun z σ' => σ' = σ ∧ z = if s * mg (fun k => dI (tz_A σ (M + 20)) (y + 1 + k)) m ≤ mg (fun k => dI (tz_A σ (M + 20)) (p + 1 + k)) (m + 1) then 1 else 0) := by
    intro pr hpr hpb
    unfold X12_fitsSo_b56 X12_fitsSo_b85
    obtain ⟨r, b2, g1, g2, g3, g4, g5, g6⟩ := sb_64 (x := tz_A σ (M + 20) (p + 1 + k)) (b := l7) (p := pr) bd hl hpb
    have hrem := sb_rem g1 ⟨g2, g3⟩ ⟨g4, g5⟩
    have hdv : ∀ s0 : Int64, s0.toInt = r → ((s0 - (Int32.toInt64 (tz_A σ (M + 20) (p + 1 + k)) - l7 - pr)) / 1000000000).toInt = b2 := fun s0 h0 => sb_div h0 g1 ⟨g2, g3⟩ ⟨g4, g5⟩
    rw [hpr] at g6
    have hnew := rg_sb _ _ _ s _ b2 _ _ r _ 1000000000 hval g6
    clear g1 hval bd hpb hpr
    refine gp_let ?_
    generalize Int32.toInt64 (tz_A σ (M + 20) (p + 1 + k)) - l7 - pr = v at *
    refine gp_rmL az_B0 ?_
    generalize v - v / 1000000000 * 1000000000 = rm at *
    have fin : ∀ s0 : Int64, s0.toInt = r → gp (pz_gB (pz_dvL (s0 - v) 1000000000) fun x5 => pz_let (nI (k + 1) + 1) fun l9_6 => K (x5, l9_6)) σ (fun z σ' => σ' = σ ∧ z = if s * mg (fun k => dI (tz_A σ (M + 20)) (y + 1 + k)) m ≤ mg (fun k => dI (tz_A σ (M + 20)) (p + 1 + k)) (m + 1) then 1 else 0) := by
      intro s0 hs0
      have hb2 := hdv s0 hs0
      refine gp_dvL az_B0 ?_
      generalize (s0 - v) / 1000000000 = bq at *
      refine gp_let ?_
      rw [nI_1]
      have hpk := mg_pw k
      have hr2 : r * 1000000000 ^ k ≤ 999999999 * 1000000000 ^ k := Int.mul_le_mul_of_nonneg_right (by omega) (by omega)
      have hr3 : 0 ≤ r * 1000000000 ^ k := Int.mul_nonneg g2 (by omega)
      refine hK (bq, nI (k + 1 + 1)) _ ⟨k + 1, rfl, by omega, rfl, by show 0 ≤ bq.toInt ∧ bq.toInt ≤ 1000000000; omega, R + r * 1000000000 ^ k, by omega, by rw [mg_ps]; omega, ?_⟩ (by show 1100 - (nI (k + 1 + 1)).toNatClampNeg < 1100 - (nI (k + 1)).toNatClampNeg; rw [nI_clamp (by omega), nI_clamp (by omega)]; omega)
      rw [hb2, mg_ps]
      exact hnew
    refine gp_if (fun q => ?_) (fun q => ?_)
    · have q' : 0 ≤ rm.toInt := by rw [lg_cmp_ge, Int64.le_iff_toInt_le] at q; exact q
      rcases hrem with w | w
      · exact fin rm w.2
      · omega
    · have q' : ¬ 0 ≤ rm.toInt := by rw [lg_cmp_ge, Int64.le_iff_toInt_le] at q; exact q
      rcases hrem with w | w
      · omega
      · exact fin _ w.2
  refine gp_if (fun q => ?_) (fun q => ?_)
  · rw [nI_ltI (by omega) (by omega)] at q
    refine st 0 ?_ (by decide)
    unfold xd
    rw [if_neg (by omega), Int.mul_zero]; rfl
  · rw [nI_ltI (by omega) (by omega)] at q
    refine gp_pl (j := y + (k + 1)) h (by omega) (nI_add y (k + 1)) ?_
    have e1 : tz_A σ (M + 20) (y + (k + 1)) = tz_A σ (M + 20) (y + 1 + k) := by rw [show y + (k + 1) = y + 1 + k by omega]
    rw [e1]
    obtain ⟨p1, p2, p3⟩ := so_p (so := so) (y := tz_A σ (M + 20) (y + 1 + k)) (by rw [hso]; exact hs) (hyd k (by omega))
    refine st _ ?_ (by rw [p1]; exact ⟨p2, p3⟩)
    rw [p1, hso]
    unfold xd
    rw [if_pos (by omega)]
end RF
