/-! ===== Fraction, Division.reduce ===== -/
def fSh (σ : tz_S) (f nf : Nat) : Prop := tz_sh σ f = some (.inl (3, [some (some (f + 1)), some (some (f + 3))])) ∧ bSh σ (f + 1) (f + 2) nf ∧ bSh σ (f + 3) (f + 4) nf
def Fz (σ : tz_S) (f nf : Nat) (p q : Int) : Prop := tz_sh σ f = some (.inl (3, [some (some (f + 1)), some (some (f + 3))])) ∧ Bz σ (f + 1) nf p ∧ Bz σ (f + 3) nf q
def fP (f : Nat) : Nat → Prop := fun x => f + 1 ≤ x ∧ x ≤ f + 4
theorem fSh_fr {P : Nat → Prop} {σ σ1 : tz_S} {f nf : Nat} (h : fSh σ f nf) (hf : Fr P σ σ1) : fSh σ1 f nf := by
  unfold fSh bSh at *
  rw [Fr_sh hf]
  exact h
theorem Fz_sh {σ : tz_S} {f nf : Nat} {p q : Int} (h : Fz σ f nf p q) : fSh σ f nf := ⟨h.1, Bz_sh h.2.1, Bz_sh h.2.2⟩
theorem Fz_fr {P : Nat → Prop} {σ σ1 : tz_S} {f nf : Nat} {p q : Int} (h : Fz σ f nf p q) (hf : Fr P σ σ1) (hP : ∀ x, f + 1 ≤ x → x ≤ f + 4 → ¬ P x) : Fz σ1 f nf p q := ⟨by rw [Fr_sh hf]; exact h.1, Bz_fr h.2.1 hf (hP _ (by omega) (by omega)) (hP _ (by omega) (by omega)), Bz_fr h.2.2 hf (hP _ (by omega) (by omega)) (hP _ (by omega) (by omega))⟩
theorem c_setSmall {n f nf : Nat} {σ : tz_S} {x y : Int64} (hf : fSh σ f nf) (hn : 2000 ≤ n) (hx : (x.toInt.natAbs : Int) < 1000000000 ^ nf) (hy : (y.toInt.natAbs : Int) < 1000000000 ^ nf) :
    gp (X3_setSmall n (some f) x y) σ (fun _ σ' => Fr (fP f) σ σ' ∧ Fz σ' f nf x.toInt y.toInt) := by
  obtain ⟨f1, f2, f3⟩ := hf
  unfold X3_setSmall
  refine gp_rR f1 rfl ?_
  refine gp_cV f2.1 (gp_mono (c_setLongB f2 hn hx) ?_)
  rintro _ σ1 ⟨hF1, hb1⟩
  refine gp_rR (by rw [Fr_sh hF1]; exact f1) rfl ?_
  have f3' := bSh_fr f3 hF1
  refine gp_cV f3'.1 (gp_mono (c_setLongB f3' hn hy) ?_)
  rintro _ σ2 ⟨hF2, hb2⟩
  refine gp_ret ⟨Fr_trans (Fr_mono hF1 (fun x hx => by unfold bP at hx; unfold fP; omega)) (Fr_mono hF2 (fun x hx => by unfold bP at hx; unfold fP; omega)), ?_, ?_, hb2⟩
  · rw [Fr_sh hF2, Fr_sh hF1]; exact f1
  · exact Bz_fr hb1 hF2 (by unfold bP; omega) (by unfold bP; omega)
theorem c_setQuotient {n f nf a na b nb : Nat} {σ : tz_S} {v w : Int} {turn : Int32} (hf : fSh σ f nf) (hn : 2000 ≤ n) (ha : Bz σ a na v) (hb : Bz σ b nb w) (hv : (v.natAbs : Int) < 1000000000 ^ nf) (hw : (w.natAbs : Int) < 1000000000 ^ nf) (ht : v = 0 ∨ turn = 1 ∨ turn = -1) (hbf : b ≠ f + 1 ∧ b ≠ f + 2 ∧ b + 1 ≠ f + 1 ∧ b + 1 ≠ f + 2) :
    gp (X3_setQuotient n (some f) (some a) (some b) turn) σ (fun _ σ' => Fr (fP f) σ σ' ∧ Fz σ' f nf (v * turn.toInt) w) := by
  obtain ⟨f1, f2, f3⟩ := hf
  unfold X3_setQuotient
  refine gp_rR f1 rfl ?_
  refine gp_cV f2.1 (gp_mono (c_setB f2 ha hn hv ht) ?_)
  rintro _ σ1 ⟨hF1, hb1⟩
  refine gp_rR (by rw [Fr_sh hF1]; exact f1) rfl ?_
  have f3' := bSh_fr f3 hF1
  have hb' := Bz_fr hb hF1 (by unfold bP; omega) (by unfold bP; omega)
  refine gp_cV f3'.1 (gp_mono (c_setB f3' hb' hn hw (Or.inr (Or.inl rfl))) ?_)
  rintro _ σ2 ⟨hF2, hb2⟩
  refine gp_ret ⟨Fr_trans (Fr_mono hF1 (fun x hx => by unfold bP at hx; unfold fP; omega)) (Fr_mono hF2 (fun x hx => by unfold bP at hx; unfold fP; omega)), ?_, ?_, ?_⟩
  · rw [Fr_sh hF2, Fr_sh hF1]; exact f1
  · exact Bz_fr hb1 hF2 (by unfold bP; omega) (by unfold bP; omega)
  · rw [show (1 : Int32).toInt = 1 from rfl, Int.mul_one] at hb2; exact hb2
/-- a fraction in its lowest terms -/
theorem gcd_sg {v : Int} {g : Nat} (hg : (g : Int) ∣ v) (h0 : 0 < g) : (v.natAbs : Int) / g * (isg v).toInt = v / g := by
  obtain ⟨w, rfl⟩ := hg
  have hgz : (g : Int) ≠ 0 := by omega
  rw [Int.mul_ediv_cancel_left _ hgz]
  have e : (((g : Int) * w).natAbs : Int) = g * (w.natAbs : Int) := by rw [Int.natAbs_mul, Int.natAbs_natCast]; simp
  rw [e, Int.mul_ediv_cancel_left _ hgz]
  have hs : isg ((g : Int) * w) = isg w := by
    rcases isg_cases w with h | h | h
    · rw [h.2, isg_pos (Int.mul_pos (by omega) h.1)]
    · rw [h.2, isg_neg (Int.mul_neg_of_pos_of_neg (by omega) h.1)]
    · rw [h.2, h.1, Int.mul_zero, isg_zero]
  rw [hs]
  rcases isg_cases w with h | h | h <;> rw [h.2]
  · rw [show (1 : Int32).toInt = 1 from rfl]; omega
  · rw [show (-1 : Int32).toInt = -1 from rfl]; omega
  · rw [h.1]; rfl
theorem div_lt {v B : Int} {g : Nat} (h : 0 ≤ v) (hB : v < B) : v / g < B := by
  have := Int.ediv_le_self (b := (g : Int)) h
  omega
def redP (d f : Nat) : Nat → Prop := fun x => divQ d x ∨ fP f x
set_option maxHeartbeats 2000000 in
theorem c_reduce {n d N f nf : Nat} {σ : tz_S} {p q : Int} (hd : dSh σ d N) (hn : 20000 ≤ n) (hf : Fz σ f nf p q) (hq : 0 < q) (hN : nf ≤ N) (hnf : 0 < nf) (hdf : d + 10 < f ∨ f + 4 < d + 1) :
    gp (X2_reduce n (some d) (some f)) σ (fun _ σ' => Fr (redP d f) σ σ' ∧ Fz σ' f nf (p / (Int.gcd p q : Nat)) (q / (Int.gcd p q : Nat))) := by
  have hd0 := hd
  have hf0 := hf
  obtain ⟨f1, f2, f3⟩ := hf
  have hp9 := Bz_lt f2
  have hq9 := Bz_lt f3
  have hpm := mg_pmono hN
  have h1p : (1 : Int) < 1000000000 ^ nf := by
    have := mg_pmono (show 1 ≤ nf by omega)
    rw [Int.pow_one] at this
    omega
  have hg0 : 0 < Int.gcd p q := Int.gcd_pos_of_ne_zero_right p (by omega)
  have hgp : ((Int.gcd p q : Nat) : Int) ∣ p := Int.gcd_dvd_left p q
  have hgq : ((Int.gcd p q : Nat) : Int) ∣ q := Int.gcd_dvd_right p q
  unfold X2_reduce
  refine gp_rR f1 rfl ?_
  refine gp_rI (Bz_cl f2) rfl ?_
  rw [Bz_sign f2]
  refine gp_if (fun h => ?_) (fun h => ?_)
  · have hp0 : p = 0 := by
      rcases isg_cases p with z | z | z
      · rw [z.2] at h; exact absurd h (by decide)
      · rw [z.2] at h; exact absurd h (by decide)
      · exact z.1
    refine gp_rR f1 rfl ?_
    refine gp_cV (Bz_cl f3) (gp_mono (c_setLongB (Bz_sh f3) (by omega) (by rw [show (1 : Int64).toInt = 1 from rfl]; exact h1p)) ?_)
    rintro _ σ1 ⟨hF1, hb1⟩
    refine gp_ret ⟨Fr_mono hF1 (fun x hx => by unfold bP at hx; unfold redP fP; omega), by rw [Fr_sh hF1]; exact f1, ?_, ?_⟩
    · subst hp0
      rw [Int.zero_ediv]
      exact Bz_fr f2 hF1 (by unfold bP; omega) (by unfold bP; omega)
    · subst hp0
      rw [Int.gcd_zero_left, show ((q.natAbs : Nat) : Int) = q by omega, Int.ediv_self (by omega)]
      exact hb1
  have hp0 : p ≠ 0 := fun z => h (by rw [z]; exact isg_zero)
  refine gp_rR f1 rfl ?_
  obtain ⟨k3, f3'⟩ := id f3
  refine gp_cV (Bz_cl f3) (gp_mono (c_isOne f3') ?_)
  rintro x6 σ1 ⟨hσ, hx6⟩
  rw [hσ]
  clear hσ
  refine gp_if (fun h6 => ?_) (fun h6 => ?_)
  rotate_left
  · have hq1 : q = 1 := by
      by_cases z : q = 1
      · exact z
      · rw [if_neg z] at hx6; exact absurd hx6 h6
    subst hq1
    refine gp_ret ⟨Fr_refl, ?_⟩
    rw [Int.gcd_one_right]
    rw [show ((1 : Nat) : Int) = 1 from rfl, Int.ediv_one, Int.ediv_one]
    exact hf0
  refine gp_rR f1 rfl ?_
  refine gp_rR f1 rfl ?_
  refine gp_cV hd0.1 (gp_mono (c_commonDivisor hd0 hn f2 f3 (by omega) (by omega) (by omega) (by unfold divQ; omega) (by unfold divQ; omega)) ?_)
  rintro _ σ2 ⟨hF2, c, rfl, hc, hbc⟩
  generalize hG : Int.gcd p q = g at *
  obtain ⟨kc, hbc'⟩ := id hbc
  refine gp_cV (Bz_cl hbc) (gp_mono (c_isOne hbc') ?_)
  rintro x10 σ3 ⟨hσ, hx10⟩
  rw [hσ]
  clear hσ
  have hF2' : Fr (redP d f) σ σ2 := Fr_mono hF2 (fun x hx => Or.inl hx)
  have hfz2 : Fz σ2 f nf p q := Fz_fr hf0 hF2 (fun x h1 h2 => by unfold divQ; omega)
  refine gp_if (fun h10 => ?_) (fun h10 => ?_)
  rotate_left
  · have hg1 : g = 1 := by
      by_cases z : (g : Int) = 1
      · omega
      · rw [if_neg z] at hx10; exact absurd hx10 h10
    subst hg1
    refine gp_ret ⟨hF2', ?_⟩
    rw [show ((1 : Nat) : Int) = 1 from rfl, Int.ediv_one, Int.ediv_one]
    exact hfz2
  have hd2 := dSh_fr hd0 hF2
  refine gp_rR hd2.1 rfl ?_
  have hl := hd2.2.2.2.1
  refine gp_cV hl.1 (gp_mono (c_setB (turn := 1) hl hbc (by omega) (Bz_lt hbc) (Or.inr (Or.inl rfl))) ?_)
  rintro _ σ4 ⟨hF4, hb4⟩
  rw [show (1 : Int32).toInt = 1 from rfl, Int.mul_one] at hb4
  have hF4' : Fr (redP d f) σ σ4 := Fr_then hF2' hF4 (fun x hx => by unfold bP at hx; unfold redP divQ; omega)
  have hfz4 : Fz σ4 f nf p q := Fz_fr hfz2 hF4 (fun x h1 h2 => by unfold bP; omega)
  have hd4 := dSh_fr hd2 hF4
  refine gp_rR hfz4.1 rfl ?_
  refine gp_rR hd4.1 rfl ?_
  refine gp_cV hd4.1 (gp_mono (c_divide hd4 (by omega) hfz4.2.1 hb4 (by omega) (by unfold divP; omega) (by unfold divP; omega)) ?_)
  rintro _ σ5 ⟨hF5, hq5, -⟩
  have hF5' : Fr (redP d f) σ σ5 := Fr_then hF4' hF5 (fun x hx => by unfold divP at hx; unfold redP divQ; omega)
  have hfz5 : Fz σ5 f nf p q := Fz_fr hfz4 hF5 (fun x h1 h2 => by unfold divP; omega)
  have hd5 := dSh_fr hd4 hF5
  have hl5 : Bz σ5 (d + 5) N (g : Int) := Bz_fr hb4 hF5 (by unfold divP; omega) (by unfold divP; omega)
  refine gp_rR hfz5.1 rfl ?_
  refine gp_rR hd5.1 rfl ?_
  refine gp_rR hfz5.1 rfl ?_
  refine gp_rI (Bz_cl hfz5.2.1) rfl ?_
  rw [Bz_sign hfz5.2.1, Int.natAbs_natCast] at *
  have hv5 : (((p.natAbs : Int) / (g : Int)).natAbs : Int) < 1000000000 ^ nf := by
    have e1 : 0 ≤ (p.natAbs : Int) / (g : Int) := Int.ediv_nonneg (by omega) (by omega)
    have e2 := div_lt (g := g) (show 0 ≤ (p.natAbs : Int) by omega) hp9
    omega
  refine gp_cV (Bz_cl hfz5.2.1) (gp_mono (c_setB (turn := isg p) (Bz_sh hfz5.2.1) hq5 (by omega) hv5 (by rcases isg_turn p with z | z
                                                                                                         · exact absurd z hp0
                                                                                                         · exact Or.inr z)) ?_)
  rintro _ σ6 ⟨hF6, hb6⟩
  have hF6' : Fr (redP d f) σ σ6 := Fr_then hF5' hF6 (fun x hx => by unfold bP at hx; unfold redP fP; omega)
  rw [gcd_sg hgp hg0] at hb6
  have hd6 := dSh_fr hd5 hF6
  have hl6 : Bz σ6 (d + 5) N (g : Int) := Bz_fr hl5 hF6 (by unfold bP; omega) (by unfold bP; omega)
  have hbe6 : Bz σ6 (f + 3) nf q := Bz_fr hfz5.2.2 hF6 (by unfold bP; omega) (by unfold bP; omega)
  have hs6 : tz_sh σ6 f = some (.inl (3, [some (some (f + 1)), some (some (f + 3))])) := by rw [Fr_sh hF6]; exact hfz5.1
  refine gp_rR hs6 rfl ?_
  refine gp_rR hd6.1 rfl ?_
  refine gp_cV hd6.1 (gp_mono (c_divide hd6 (by omega) hbe6 hl6 (by omega) (by unfold divP; omega) (by unfold divP; omega)) ?_)
  rintro _ σ7 ⟨hF7, hq7, -⟩
  have hF7' : Fr (redP d f) σ σ7 := Fr_then hF6' hF7 (fun x hx => by unfold divP at hx; unfold redP divQ; omega)
  have hd7 := dSh_fr hd6 hF7
  have hb7 : Bz σ7 (f + 1) nf (p / (g : Int)) := Bz_fr hb6 hF7 (by unfold divP; omega) (by unfold divP; omega)
  have hbe7 : Bz σ7 (f + 3) nf q := Bz_fr hbe6 hF7 (by unfold divP; omega) (by unfold divP; omega)
  have hs7 : tz_sh σ7 f = some (.inl (3, [some (some (f + 1)), some (some (f + 3))])) := by rw [Fr_sh hF7]; exact hs6
  refine gp_rR hs7 rfl ?_
  refine gp_rR hd7.1 rfl ?_
  rw [Int.natAbs_natCast, show ((q.natAbs : Nat) : Int) = q by omega] at hq7
  have hv7 : ((q / (g : Int)).natAbs : Int) < 1000000000 ^ nf := by
    have e1 : 0 ≤ q / (g : Int) := Int.ediv_nonneg (by omega) (by omega)
    have e2 := div_lt (g := g) (show 0 ≤ q by omega) (show q < 1000000000 ^ nf by omega)
    omega
  refine gp_cV (Bz_cl hbe7) (gp_mono (c_setB (turn := 1) (Bz_sh hbe7) hq7 (by omega) hv7 (Or.inr (Or.inl rfl))) ?_)
  rintro _ σ8 ⟨hF8, hb8⟩
  rw [show (1 : Int32).toInt = 1 from rfl, Int.mul_one] at hb8
  refine gp_ret ⟨Fr_then hF7' hF8 (fun x hx => by unfold bP at hx; unfold redP fP; omega), by rw [Fr_sh hF8]; exact hs7, ?_, hb8⟩
  exact Bz_fr hb7 hF8 (by unfold bP; omega) (by unfold bP; omega)
