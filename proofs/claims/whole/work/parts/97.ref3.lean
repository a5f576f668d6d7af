/-! ===== the reference: joined ===== -/
def xd (a : Nat → Int32) (x n j : Nat) : Int := if j < n then dI a (x + 1 + j) else 0
theorem xd_mg {a : Nat → Int32} {x n k : Nat} {v : Int} (hv : nV a x n v) (hk : n ≤ k) : mg (xd a x n) k = v.natAbs := by
  obtain ⟨d, rfl⟩ : ∃ d, k = n + d := ⟨k - n, by omega⟩
  have e : mg (xd a x n) (n + d) = mg (xd a x n) n := mg_z (fun j h1 h2 => if_neg (by omega))
  rw [e, ← hv.2.2.2.1]
  exact mg_congr (fun j hj => if_pos hj)
theorem xd_b {a : Nat → Int32} {x n : Nat} {v : Int} (hv : nV a x n v) (j : Nat) : 0 ≤ xd a x n j ∧ xd a x n j < 1000000000 := by
  unfold xd
  by_cases z : j < n
  · rw [if_pos z]; exact hv.2.1 j z
  · rw [if_neg z]; omega
theorem rg_jn (R X Y c c2 x y e P B : Int) (h : R + c * P = X + e * Y) : R + (c + x + e * y - c2 * B) * P + c2 * (P * B) = X + x * P + e * (Y + y * P) := by grind
theorem jn_dig {l c : Int64} (hc : c.toInt = -1 ∨ c.toInt = 0 ∨ c.toInt = 1) (r1 : 0 ≤ l.toInt - c.toInt * 1000000000) (r2 : l.toInt - c.toInt * 1000000000 < 1000000000) : (Int64.toInt32 (l - c * 1000000000)).toInt = l.toInt - c.toInt * 1000000000 := by
  have e1 : (c * 1000000000).toInt = c.toInt * 1000000000 := by rw [az_lmul (by rw [az_B]; omega) (by rw [az_B]; omega), az_B]
  have e2 : (l - c * 1000000000).toInt = l.toInt - c.toInt * 1000000000 := by rw [az_lsub (by rw [e1]; omega) (by rw [e1]; omega), e1]
  rw [az_l2i (by rw [e2]; omega) (by rw [e2]; omega), e2]
theorem jn_rng {c x y e : Int} (h1 : -1 ≤ c ∧ c ≤ 1) (h2 : 0 ≤ x ∧ x < 1000000000) (h3 : 0 ≤ y ∧ y < 1000000000) (he : e = 1 ∨ e = -1) : -1000000000 ≤ c + x + e * y ∧ c + x + e * y < 2000000000 := by
  rcases he with rfl | rfl <;> omega
theorem jn_cz {R c s p : Int} (h1 : 0 ≤ R) (h2 : R < p) (h3 : 0 ≤ s) (h4 : s < p) (h5 : R + c * p = s) (h6 : -1 ≤ c ∧ c ≤ 1) : c = 0 := by
  have : c = -1 ∨ c = 0 ∨ c = 1 := by omega
  rcases this with rfl | rfl | rfl
  · omega
  · rfl
  · omega
def jnI (σ : tz_S) (M t mo : Nat) (X Y : Nat → Int) (e : Int) (i u : Nat) (c : Int) (σ' : tz_S) : Prop := (i ≤ mo + 1 ∧ u ≤ i) ∧ Pq M t (t + mo + 2) σ σ' ∧ tz_F σ' M 35 = nI t ∧ (-1 ≤ c ∧ c ≤ 1) ∧ (∀ j, j < i → 0 ≤ dI (tz_A σ' (M + 20)) (t + 1 + j) ∧ dI (tz_A σ' (M + 20)) (t + 1 + j) < 1000000000) ∧ (∀ j, u ≤ j → j < i → dI (tz_A σ' (M + 20)) (t + 1 + j) = 0) ∧ (0 < u → dI (tz_A σ' (M + 20)) (t + 1 + (u - 1)) ≠ 0) ∧ mg (fun j => dI (tz_A σ' (M + 20)) (t + 1 + j)) i + c * 1000000000 ^ i = mg X i + e * mg Y i
theorem jn_put {σ σ1 : tz_S} {M t mo : Nat} {X Y : Nat → Int} {e : Int} {i u : Nat} {c c2 : Int} {d : Int32} (h : jnI σ M t mo X Y e i u c σ1) (hi : i ≤ mo) (hd : d.toInt = c + X i + e * Y i - c2 * 1000000000) (h0 : 0 ≤ d.toInt) (h1 : d.toInt < 1000000000) (hc : -1 ≤ c2 ∧ c2 ≤ 1) : jnI σ M t mo X Y e (i + 1) (if d = 0 then u else i + 1) c2 (tz_sA σ1 (M + 20) (t + (i + 1)) d) := by
  obtain ⟨⟨a1, a2⟩, hP, h35, -, hdd, hz, htop, hval⟩ := h
  have eo : ∀ j, j < i → dI (tz_A (tz_sA σ1 (M + 20) (t + (i + 1)) d) (M + 20)) (t + 1 + j) = dI (tz_A σ1 (M + 20)) (t + 1 + j) := fun j hj => by
    show (tz_u2 (tz_A σ1) (M + 20) (t + (i + 1)) d (M + 20) (t + 1 + j)).toInt = _
    rw [tz_u2_ne _ _ (Or.inr (by omega))]
  have en : dI (tz_A (tz_sA σ1 (M + 20) (t + (i + 1)) d) (M + 20)) (t + 1 + i) = d.toInt := by
    show (tz_u2 (tz_A σ1) (M + 20) (t + (i + 1)) d (M + 20) (t + 1 + i)).toInt = _
    rw [show t + 1 + i = t + (i + 1) by omega, tz_u2_same]
  refine ⟨⟨by omega, ?_⟩, Pq_trans hP (Pq_cell (by omega) (by omega)), h35, hc, fun j hj => ?_, fun j b1 b2 => ?_, fun hk => ?_, ?_⟩
  · by_cases q : d = 0
    · rw [if_pos q]; omega
    · rw [if_neg q]; omega
  · by_cases y : j = i
    · rw [y, en]; exact ⟨h0, h1⟩
    · rw [eo j (by omega)]; exact hdd j (by omega)
  · by_cases q : d = 0
    · rw [if_pos q] at b1
      by_cases y : j = i
      · rw [y, en, q]; rfl
      · rw [eo j (by omega)]; exact hz j b1 (by omega)
    · rw [if_neg q] at b1; omega
  · by_cases q : d = 0
    · rw [if_pos q] at hk ⊢
      rw [eo _ (by omega)]; exact htop hk
    · rw [if_neg q, show i + 1 - 1 = i by omega, en]
      exact fun q2 => q (az_iz.1 q2)
  · show mg (fun j => dI (tz_A (tz_sA σ1 (M + 20) (t + (i + 1)) d) (M + 20)) (t + 1 + j)) i + dI (tz_A (tz_sA σ1 (M + 20) (t + (i + 1)) d) (M + 20)) (t + 1 + i) * 1000000000 ^ i + c2 * 1000000000 ^ (i + 1) = mg X i + X i * 1000000000 ^ i + e * (mg Y i + Y i * 1000000000 ^ i)
    rw [mg_congr eo, en, hd, mg_ps]
    exact rg_jn _ _ _ _ _ _ _ _ _ _ hval
theorem jn_end {σ σ1 : tz_S} {M t mo : Nat} {X Y : Nat → Int} {e s : Int} {u : Nat} {c : Int} (h : jnI σ M t mo X Y e (mo + 1) u c σ1) (hs : mg X (mo + 1) + e * mg Y (mo + 1) = s) (h0 : 0 ≤ s) (h1 : s < 1000000000 ^ (mo + 1)) : mg (fun j => dI (tz_A σ1 (M + 20)) (t + 1 + j)) u = s ∧ (u = 0 ↔ s = 0) := by
  obtain ⟨⟨a1, a2⟩, hP, h35, hc, hdd, hz, htop, hval⟩ := h
  have hR := mg_lt (d := fun j => dI (tz_A σ1 (M + 20)) (t + 1 + j)) hdd
  rw [hs] at hval
  have hcz := jn_cz hR.1 hR.2 h0 h1 hval hc
  rw [hcz, Int.zero_mul, Int.add_zero] at hval
  have hmu : mg (fun j => dI (tz_A σ1 (M + 20)) (t + 1 + j)) u = s := by
    rw [← hval]
    obtain ⟨d, hd2⟩ : ∃ d, mo + 1 = u + d := ⟨mo + 1 - u, by omega⟩
    rw [hd2]
    exact (mg_z (fun j h1 h2 => hz j h1 (by omega))).symm
  refine ⟨hmu, fun q => ?_, fun q => ?_⟩
  · rw [← hmu, q]; rfl
  · by_cases q2 : u = 0
    · exact q2
    · have := mg_pos (d := fun j => dI (tz_A σ1 (M + 20)) (t + 1 + j)) (k := u) (fun j hj => (hdd j (by omega)).1) (by omega) (htop (by omega))
      omega
section RC
variable {f M t : Nat} {σ σ1 : tz_S}
/-- the end of a new number: its head, and the top -/
theorem r_head {u hi : Nat} {s2 : Int32} {r : Int} (h : mSh σ M) (hd : ∀ j, j < u → 0 ≤ dI (tz_A σ (M + 20)) (t + 1 + j) ∧ dI (tz_A σ (M + 20)) (t + 1 + j) < 1000000000) (htop : 0 < u → dI (tz_A σ (M + 20)) (t + 1 + (u - 1)) ≠ 0) (hm : mg (fun j => dI (tz_A σ (M + 20)) (t + 1 + j)) u = r.natAbs) (hs2 : s2.toInt = (if r < 0 then -(u : Int) else u)) (hu : u < 1000) (ht : t < hi) : Pq M t hi σ (tz_sF (tz_sA σ (M + 20) t s2) M 35 (nI (t + u + 1))) ∧ tz_F (tz_sF (tz_sA σ (M + 20) t s2) M 35 (nI (t + u + 1))) M 35 = nI (t + u + 1) ∧ nV (tz_A (tz_sF (tz_sA σ (M + 20) t s2) M 35 (nI (t + u + 1))) (M + 20)) t u r := by
  have e2 : ∀ j, dI (tz_A (tz_sF (tz_sA σ (M + 20) t s2) M 35 (nI (t + u + 1))) (M + 20)) (t + 1 + j) = dI (tz_A σ (M + 20)) (t + 1 + j) := fun j => by
    show (tz_u2 (tz_A σ) (M + 20) t s2 (M + 20) (t + 1 + j)).toInt = _
    rw [tz_u2_ne _ _ (Or.inr (by omega))]
  refine ⟨Pq_trans (Pq_cell (Nat.le_refl _) ht) Pq_top, tz_u2_same _ _ _ _, ?_, fun j hj => by rw [e2]; exact hd j hj, fun hk => by rw [e2]; exact htop hk, ?_, hu⟩
  · show (tz_u2 (tz_A σ) (M + 20) t s2 (M + 20) t).toInt = _
    rw [tz_u2_same]; exact hs2
  · rw [← hm]
    exact mg_congr (fun j _ => e2 j)
theorem hd_sg {u : Nat} {s r : Int} {be : Int32} (hu : u < 1000) (h0 : 0 ≤ s) (hz : u = 0 ↔ s = 0) (hr : r = if be = 0 then s else -s) : (if be = 0 then nI u else -nI u).toInt = (if r < 0 then -(u : Int) else u) ∧ (r.natAbs : Int) = s := by
  by_cases q : be = 0
  · rw [if_pos q] at hr ⊢
    rw [hr, nI_toInt (by omega), if_neg (by omega)]
    exact ⟨rfl, by omega⟩
  · rw [if_neg q] at hr ⊢
    rw [az_ineg (by rw [nI_toInt (by omega)]; omega), nI_toInt (by omega)]
    by_cases w : s = 0
    · have := hz.2 w
      subst this
      rw [hr, w]
      exact ⟨rfl, rfl⟩
    · rw [if_pos (by omega)]
      exact ⟨rfl, by omega⟩
set_option maxHeartbeats 1000000 in
theorem r_joinedC {x y n m mo : Nat} {e s : Int} {al be : Int32} {Q : Int32 → tz_S → Prop} (h : mSh σ M) (ht : tz_F σ M 35 = nI t) (hx : x + n < t) (hy : y + m < t) (hnm : n ≤ mo) (hmm : m ≤ mo) (hmo : mo ≤ 900) (hb : t + mo + 2 ≤ 527200) (hxd : ∀ j, 0 ≤ xd (tz_A σ (M + 20)) x n j ∧ xd (tz_A σ (M + 20)) x n j < 1000000000) (hyd : ∀ j, 0 ≤ xd (tz_A σ (M + 20)) y m j ∧ xd (tz_A σ (M + 20)) y m j < 1000000000) (he : (al = 0 ∧ e = -1) ∨ (al ≠ 0 ∧ e = 1)) (hs : mg (xd (tz_A σ (M + 20)) x n) (mo + 1) + e * mg (xd (tz_A σ (M + 20)) y m) (mo + 1) = s) (h0 : 0 ≤ s) (h1 : s < 1000000000 ^ (mo + 1)) (hf : 2000 ≤ f)
    (hQ : ∀ σ' k, k ≤ mo + 1 → Pq M t (t + mo + 2) σ σ' → tz_F σ' M 35 = nI (t + k + 1) → nV (tz_A σ' (M + 20)) t k (if be = 0 then s else -s) → Q (nI t) σ') :
    gp (X12_joined_b34 f (some M) (nI x) (nI y) al be (nI t) (nI n) (nI m) (nI mo)) σ Q := by
  have ee : e = 1 ∨ e = -1 := by rcases he with z | z; exact Or.inr z.2; exact Or.inl z.2
  unfold X12_joined_b34 X12_joined_L45
  refine gp_loop (I := fun (τ : Int64 × Int32 × Int32) (σ' : tz_S) => ∃ i u, τ.2.2 = nI (i + 1) ∧ τ.2.1 = nI u ∧ jnI σ M t mo (xd (tz_A σ (M + 20)) x n) (xd (tz_A σ (M + 20)) y m) e i u τ.1.toInt σ') (fun τ _ => 1100 - τ.2.2.toNatClampNeg) ?_ f _ _ ⟨0, 0, rfl, rfl, ⟨Nat.zero_le _, Nat.le_refl _⟩, Pq_refl, ht, by show -1 ≤ (0 : Int64).toInt ∧ (0 : Int64).toInt ≤ 1; decide, fun j hj => absurd hj (Nat.not_lt_zero _), fun j _ hj => absurd hj (Nat.not_lt_zero _), fun hk => absurd hk (Nat.lt_irrefl _), by show 0 + (0 : Int64).toInt * 1 = 0 + e * 0; rw [show (0 : Int64).toInt = 0 from rfl]; omega⟩ (by omega)
  rintro K ⟨l9, l11, l12⟩ σ1 ⟨i, u, h12, h11, hJ⟩ hK
  simp only at h12 h11 hJ
  subst h12 h11
  obtain ⟨⟨hi, hu⟩, hP, h35, hc, hdd, -, htop, -⟩ := id hJ
  show gp (X12_joined_L45_body f (some M) (nI x) (nI y) al be (nI t) (nI n) (nI m) (nI mo) (fun l9 l11 l12 => K (l9, l11, l12)) l9 (nI u) (nI (i + 1))) σ1 _
  unfold X12_joined_L45_body
  have h2 := mSh_fr h hP.1
  rw [nI_1]
  refine gp_if (fun z => ?_) (fun z => ?_)
  · rw [nI_ltI (by omega) (by omega)] at z
    have him : i = mo + 1 := by omega
    subst him
    obtain ⟨hmu, hu0⟩ := jn_end hJ hs h0 h1
    obtain ⟨hg1, hg2⟩ := hd_sg (be := be) (u := u) (by omega) h0 hu0 rfl
    obtain ⟨f1, f2, f3⟩ := r_head (s2 := if be = 0 then nI u else -nI u) (hi := t + mo + 2) h2 (fun j hj => hdd j (by omega)) htop (by rw [hmu, hg2]) hg1 (by omega) (by omega)
    clear hJ hK hmu hu0 hg1 hg2 hs
    refine gp_rR (mh_me h2) rfl ?_
    unfold X12_joined_b215
    refine gp_if (fun q => ?_) (fun q => ?_)
    · rw [if_pos q] at f1 f2 f3
      refine gp_ps (j := t) h2 (by omega) rfl ?_
      rw [nI_add, nI_1]
      have h3 : mSh (tz_sA σ1 (M + 20) t (nI u)) M := h2
      refine gp_wI (mh_me h3) rfl ?_
      exact gp_ret (hQ _ u (by omega) (Pq_trans hP f1) f2 f3)
    · rw [if_neg q] at f1 f2 f3
      refine gp_ps (j := t) h2 (by omega) rfl ?_
      rw [nI_add, nI_1]
      have h3 : mSh (tz_sA σ1 (M + 20) t (-nI u)) M := h2
      refine gp_wI (mh_me h3) rfl ?_
      exact gp_ret (hQ _ u (by omega) (Pq_trans hP f1) f2 f3)
  rw [nI_ltI (by omega) (by omega)] at z
  have him : i ≤ mo := by omega
  have bx := hxd i
  have bY := hyd i
  have ex1 : i < n → tz_A σ1 (M + 20) (x + (i + 1)) = tz_A σ (M + 20) (x + 1 + i) := fun q => by rw [hP.2.2 _ (by omega), show x + (i + 1) = x + 1 + i by omega]
  have ey1 : i < m → tz_A σ1 (M + 20) (y + (i + 1)) = tz_A σ (M + 20) (y + 1 + i) := fun q => by rw [hP.2.2 _ (by omega), show y + (i + 1) = y + 1 + i by omega]
  have ex0 : xd (tz_A σ (M + 20)) x n i = if i < n then (tz_A σ (M + 20) (x + 1 + i)).toInt else 0 := rfl
  have ey0 : xd (tz_A σ (M + 20)) y m i = if i < m then (tz_A σ (M + 20) (y + 1 + i)).toInt else 0 := rfl
  have rng := jn_rng hc bx bY ee
  have st4 : ∀ (l13 c : Int64), l13.toInt = l9.toInt + xd (tz_A σ (M + 20)) x n i + e * xd (tz_A σ (M + 20)) y m i → (c.toInt = -1 ∨ c.toInt = 0 ∨ c.toInt = 1) → 0 ≤ l13.toInt - c.toInt * 1000000000 → l13.toInt - c.toInt * 1000000000 < 1000000000 → gp (X12_joined_b146 f (fun l9 l11 l12 => K (l9, l11, l12)) (some M) (nI x) (nI y) al be (nI t) (nI n) (nI m) (nI mo) (nI u) (nI (i + 1)) l13 c) σ1 Q := by
    intro l13 c e13 hc3 r1 r2
    have e3 := jn_dig hc3 r1 r2
    unfold X12_joined_b146 X12_joined_b188
    generalize Int64.toInt32 (l13 - c * 1000000000) = d at *
    have hJ2 := jn_put (c2 := c.toInt) (d := d) hJ him (by rw [e3, e13]) (by rw [e3]; exact r1) (by rw [e3]; exact r2) (by rcases hc3 with q | q | q <;> rw [q] <;> decide)
    refine gp_rR (mh_me h2) rfl ?_
    refine gp_ps (j := t + (i + 1)) h2 (by omega) (nI_add t (i + 1)) ?_
    have h3 : mSh (tz_sA σ1 (M + 20) (t + (i + 1)) d) M := h2
    have enw : tz_A (tz_sA σ1 (M + 20) (t + (i + 1)) d) (M + 20) (t + (i + 1)) = d := tz_u2_same _ _ _ _
    clear hJ hdd htop e3 r1 r2 e13
    refine gp_pl (j := t + (i + 1)) h3 (by omega) (nI_add t (i + 1)) ?_
    rw [enw]
    have hme : 1100 - (nI (i + 1 + 1)).toNatClampNeg < 1100 - (nI (i + 1)).toNatClampNeg := by rw [nI_clamp (by omega), nI_clamp (by omega)]; omega
    refine gp_if (fun q => ?_) (fun q => ?_)
    · refine gp_let ?_
      rw [nI_1]
      rw [if_pos q] at hJ2
      exact hK (c, nI u, nI (i + 1 + 1)) _ ⟨i + 1, u, rfl, rfl, hJ2⟩ hme
    · refine gp_let ?_
      rw [nI_1]
      rw [if_neg q] at hJ2
      exact hK (c, nI (i + 1), nI (i + 1 + 1)) _ ⟨i + 1, i + 1, rfl, rfl, hJ2⟩ hme
  clear hJ hK hdd htop hs h0 h1 hQ hP
  have st3 : ∀ (s0 : Int64) (s1 : Int32), s0.toInt + s1.toInt = l9.toInt + xd (tz_A σ (M + 20)) x n i + e * xd (tz_A σ (M + 20)) y m i → -2000000000 ≤ s0.toInt ∧ s0.toInt ≤ 2000000000 → gp (X12_joined_b115 f (fun l9 l11 l12 => K (l9, l11, l12)) (some M) (nI x) (nI y) al be (nI t) (nI n) (nI m) (nI mo) (nI u) (nI (i + 1)) s0 s1) σ1 Q := by
    intro s0 s1 hs01 hs0
    unfold X12_joined_b115
    refine gp_let ?_
    have b1 := az_lo32 s1
    have b2 := az_hi32 s1
    have e13 : (s0 + Int32.toInt64 s1).toInt = s0.toInt + s1.toInt := by
      rw [az_ladd (by rw [Int32.toInt_toInt64]; omega) (by rw [Int32.toInt_toInt64]; omega), Int32.toInt_toInt64]
    rw [hs01] at e13
    generalize s0 + Int32.toInt64 s1 = l13 at *
    clear hs01 hs0 b1 b2
    have rng2 : -1000000000 ≤ l13.toInt ∧ l13.toInt < 2000000000 := by rw [e13]; exact rng
    refine gp_if (fun q => ?_) (fun q => ?_)
    · have q' : 0 ≤ l13.toInt := by rw [lg_cmp_ge, Int64.le_iff_toInt_le] at q; exact q
      refine gp_if (fun q2 => ?_) (fun q2 => ?_)
      · have q3 : l13.toInt < 1000000000 := by rw [lg_cmp_lt, Int64.lt_iff_toInt_lt] at q2; exact q2
        exact st4 l13 0 e13 (Or.inr (Or.inl rfl)) (by rw [show (0 : Int64).toInt = 0 from rfl]; clear e13 rng st4; omega) (by rw [show (0 : Int64).toInt = 0 from rfl]; clear e13 rng st4; omega)
      · have q3 : ¬ l13.toInt < 1000000000 := by rw [lg_cmp_lt, Int64.lt_iff_toInt_lt] at q2; exact q2
        exact st4 l13 1 e13 (Or.inr (Or.inr rfl)) (by rw [show (1 : Int64).toInt = 1 from rfl]; clear e13 rng st4; omega) (by rw [show (1 : Int64).toInt = 1 from rfl]; clear e13 rng st4; omega)
    · have q' : ¬ 0 ≤ l13.toInt := by rw [lg_cmp_ge, Int64.le_iff_toInt_le] at q; exact q
      exact st4 l13 (-1) e13 (Or.inl rfl) (by rw [show (-1 : Int64).toInt = -1 from rfl]; clear e13 rng st4; omega) (by rw [show (-1 : Int64).toInt = -1 from rfl]; clear e13 rng st4; omega)
  clear st4
  have st2 : ∀ s1 : Int32, s1.toInt = xd (tz_A σ (M + 20)) x n i → gp (X12_joined_b76 f (fun l9 l11 l12 => K (l9, l11, l12)) (some M) (nI x) (nI y) al be (nI t) (nI n) (nI m) (nI mo) (nI u) (nI (i + 1)) l9 s1) σ1 Q := by
    intro s1 hs1
    unfold X12_joined_b76
    have e0 : (l9 + Int32.toInt64 s1).toInt = l9.toInt + xd (tz_A σ (M + 20)) x n i := by
      rw [az_ladd (by rw [Int32.toInt_toInt64, hs1]; omega) (by rw [Int32.toInt_toInt64, hs1]; omega), Int32.toInt_toInt64, hs1]
    have e00 : -2000000000 ≤ (l9 + Int32.toInt64 s1).toInt ∧ (l9 + Int32.toInt64 s1).toInt ≤ 2000000000 := by rw [e0]; omega
    generalize l9 + Int32.toInt64 s1 = l9b at *
    refine gp_if (fun q => ?_) (fun q => ?_)
    · rw [nI_leI (by omega) (by omega)] at q
      rw [if_pos (by omega)] at ey0
      refine gp_if (fun q2 => ?_) (fun q2 => ?_)
      · have he1 : e = -1 := by
          rcases he with z1 | z1
          · exact z1.2
          · exact absurd q2 z1.1
        refine gp_pl (j := y + (i + 1)) h2 (by omega) (nI_add y (i + 1)) ?_
        rw [ey1 (by omega)]
        refine st3 _ _ ?_ e00
        rw [e0, az_ineg (by rw [← ey0]; omega), ← ey0, he1]
        omega
      · have he1 : e = 1 := by
          rcases he with z1 | z1
          · exact absurd z1.1 q2
          · exact z1.2
        refine gp_pl (j := y + (i + 1)) h2 (by omega) (nI_add y (i + 1)) ?_
        rw [ey1 (by omega)]
        refine st3 _ _ ?_ e00
        rw [e0, ← ey0, he1]
        omega
    · rw [nI_leI (by omega) (by omega)] at q
      rw [if_neg (by omega)] at ey0
      refine st3 _ _ ?_ e00
      rw [e0, ey0, show (0 : Int32).toInt = 0 from rfl]
      omega
  clear st3
  refine gp_if (fun q => ?_) (fun q => ?_)
  · rw [nI_ltI (by omega) (by omega)] at q
    rw [if_neg (by omega)] at ex0
    exact st2 0 (by rw [ex0]; rfl)
  · rw [nI_ltI (by omega) (by omega)] at q
    rw [if_pos (by omega)] at ex0
    refine gp_pl (j := x + (i + 1)) h2 (by omega) (nI_add x (i + 1)) ?_
    exact st2 _ (by rw [ex1 (by omega), ex0])
end RC
