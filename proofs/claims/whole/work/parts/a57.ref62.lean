/-! ===== sums of fractions: the common multiple ===== -/
def prD (g : Nat → Int × Int) : Nat → Int
  | 0 => 1
  | j + 1 => prD g j * (g j).2
def exE (np : Nat) (w : Nat → Int) (g : Nat → Int × Int) (i : Nat) : Int := w i * (g i).1 * (prD g np / (g i).2)
theorem prD_ok {g : Nat → Int × Int} : ∀ {j : Nat}, (∀ i, i < j → 0 < (g i).2 ∧ (g i).2.natAbs ≤ 10 ^ 70) → 0 < prD g j ∧ (prD g j).natAbs ≤ 10 ^ wS j g
  | 0, _ => ⟨by show (0 : Int) < 1; decide, by show 1 ≤ 1; decide⟩
  | j + 1, h => by
    obtain ⟨a1, a2⟩ := prD_ok (j := j) (fun i hi => h i (by omega))
    obtain ⟨b1, b2⟩ := h j (by omega)
    exact ⟨Int.mul_pos a1 b1, p10_mul a2 (wt_p b1 b2)⟩
theorem prD_dvd {g : Nat → Int × Int} {i : Nat} : ∀ {j : Nat}, i < j → (g i).2 ∣ prD g j
  | 0, h => absurd h (Nat.not_lt_zero _)
  | j + 1, h => by
    by_cases e : i = j
    · rw [e]; exact Int.dvd_mul_left _ _
    · exact Int.dvd_mul_of_dvd_left (prD_dvd (j := j) (by omega))
theorem exE_e {np i : Nat} {w : Nat → Int} {g : Nat → Int × Int} (hi : i < np) : exE np w g i * (g i).2 = w i * (g i).1 * prD g np := by
  unfold exE
  rw [Int.mul_assoc, Int.ediv_mul_cancel (prD_dvd hi)]
theorem exE_le {np i : Nat} {w : Nat → Int} {g : Nat → Int × Int} (hi : i < np) (hq : 0 < (g i).2) (hM : 0 < prD g np) (hw : (w i * (g i).1).natAbs ≤ 10 ^ 97) : ((exE np w g i).natAbs : Int) ≤ ((prD g np).natAbs * 10 ^ 97 : Nat) := by
  have h1 := congrArg Int.natAbs (exE_e (w := w) (g := g) hi)
  rw [Int.natAbs_mul, Int.natAbs_mul] at h1
  have h2 : (exE np w g i).natAbs * 1 ≤ (exE np w g i).natAbs * (g i).2.natAbs := Nat.mul_le_mul_left _ (by omega)
  have h3 : (w i * (g i).1).natAbs * (prD g np).natAbs ≤ 10 ^ 97 * (prD g np).natAbs := Nat.mul_le_mul_right _ hw
  rw [Nat.mul_comm (10 ^ 97)] at h3
  have h4 : (exE np w g i).natAbs ≤ (prD g np).natAbs * 10 ^ 97 := by omega
  exact Int.ofNat_le.2 h4
theorem exE_su {np c : Nat} {w : Nat → Int} {g : Nat → Int × Int} (hc : c ≤ np) (hn : np ≤ 32) (hq : ∀ i, i < np → 0 < (g i).2) (hM : 0 < prD g np) (hw : ∀ i, i < np → (w i * (g i).1).natAbs ≤ 10 ^ 97) : (su c (exE np w g)).natAbs ≤ (prD g np).natAbs * (32 * 10 ^ 97) := by
  have h1 := su_le (c := c) (f := exE np w g) (fun j hj => exE_le (by omega) (hq j (by omega)) hM (hw j (by omega)))
  have h2 : (c : Int) * (((prD g np).natAbs * 10 ^ 97 : Nat) : Int) = ((c * ((prD g np).natAbs * 10 ^ 97) : Nat) : Int) := (Int.natCast_mul _ _).symm
  rw [h2] at h1
  have h3 := Int.ofNat_le.1 h1
  have h4 : c * ((prD g np).natAbs * 10 ^ 97) ≤ 32 * ((prD g np).natAbs * 10 ^ 97) := Nat.mul_le_mul_right _ (by omega)
  have h5 : 32 * ((prD g np).natAbs * 10 ^ 97) = (prD g np).natAbs * (32 * 10 ^ 97) := by rw [← Nat.mul_assoc, ← Nat.mul_assoc, Nat.mul_comm 32]
  rw [← h5]
  exact Nat.le_trans h3 h4
/-- the class's parts, too -/
theorem exE_p {np i : Nat} {w : Nat → Int} {f g : Nat → Int × Int} (hi : i < np) (hg : 0 < (g i).2) (h : (f i).1 * (g i).2 = (g i).1 * (f i).2) : exE np w g i * (f i).2 = w i * (f i).1 * prD g np := by
  have h1 := exE_e (w := w) (g := g) hi
  generalize exE np w g i = e at *
  generalize prD g np = P at *
  have : (e * (f i).2) * (g i).2 = (w i * (f i).1 * P) * (g i).2 := by
    have e1 : (e * (f i).2) * (g i).2 = (e * (g i).2) * (f i).2 := by grind
    have e2 : (w i * (f i).1 * P) * (g i).2 = w i * ((f i).1 * (g i).2) * P := by grind
    rw [e1, e2, h1, h]
    grind
  exact Int.eq_of_mul_eq_mul_right (by omega) this
theorem wS_mn {f g : Nat → Int × Int} : ∀ {j : Nat}, (∀ i, i < j → (g i).2 ≤ (f i).2) → wS j g ≤ wS j f
  | 0, _ => Nat.le_refl _
  | j + 1, h => by
    have h1 := wS_mn (j := j) (fun i hi => h i (by omega))
    have h2 : wt (g j) ≤ wt (f j) := by
      have := h j (by omega)
      unfold wt
      by_cases z : (f j).2 ≤ 1000000000
      · rw [if_pos z, if_pos (by omega)]; exact Nat.le_refl _
      · rw [if_neg z]
        by_cases y : (g j).2 ≤ 1000000000
        · rw [if_pos y]; decide
        · rw [if_neg y]; exact Nat.le_refl _
    exact Nat.add_le_add h1 h2
/-- the sign of a total -/
theorem tot_sg {np : Nat} {w : Nat → Int} {f g : Nat → Int × Int} {U V b : Int} (hj : jdP np w f) (hg : ∀ i, i < np → 0 < (g i).2 ∧ (g i).2.natAbs ≤ 10 ^ 70 ∧ (f i).1 * (g i).2 = (g i).1 * (f i).2) (hI : smI (prD g np) (su np (exE np w g)) U V) : isg (U - b * V) = sgT np w f b := by
  have hM := (prD_ok (g := g) (j := np) (fun i hi => ⟨(hg i hi).1, (hg i hi).2.1⟩)).1
  have ht := ct_tot (e := exE np w g) (M := prD g np) hj (fun i hi => exE_p hi (hg i hi).1 (hg i hi).2.2) (Nat.le_refl np)
  have hC := (ct_ok hj (Nat.le_refl np)).1
  obtain ⟨h1, -, h3⟩ := hI
  unfold sgT
  generalize su np (exE np w g) = E at *
  generalize prD g np = P at *
  generalize (ctF w f np).1 = S at *
  generalize (ctF w f np).2 = C at *
  have e1 : (U - b * V) * P = V * (E - b * P) := by
    have : (U - b * V) * P = U * P - b * V * P := by grind
    rw [this, h3]
    grind
  have e2 : (S - b * C) * P = C * (E - b * P) := by
    have : (S - b * C) * P = S * P - b * C * P := by grind
    rw [this, ht]
    grind
  rw [isg_same hM h1 e1, isg_same hM hC e2]
section TK
variable {f M t lo hi t2 : Nat} {σ σ1 σ2 : tz_S} {U V : Int}
theorem smV_pq (hs : smV σ M t U V) (hp : Pq M lo hi σ σ1) (hl : t ≤ lo) (h35 : tz_F σ1 M 35 = nI t2) (ht : t ≤ t2) : smV σ1 M t2 U V := by
  obtain ⟨a1, a2, k1, k2, f30, f31, l1, l2, n1, n2, -⟩ := hs
  exact ⟨a1, a2, k1, k2, by rw [hp.2.1 30 (by decide) (by decide)]; exact f30, by rw [hp.2.1 31 (by decide) (by decide)]; exact f31, by omega, by omega, nV_pq n1 hp (Or.inl (by omega)), nV_pq n2 hp (Or.inl (by omega)), h35⟩
theorem r_addS {p x y ks kx ky W : Nat} {s vx vy U V M0 E e : Int} (h : mSh σ M) (hs : smV σ M t U V) (hI : smI M0 E U V) (h0 : 0 < M0) (hW : W ≤ 959) (hM : M0.natAbs ≤ 10 ^ W) (hE : E.natAbs ≤ M0.natAbs * (32 * 10 ^ 97)) (he : e * vy = s * vx * M0) (hy0 : 0 < vy) (hv : nV (tz_A σ (M + 20)) p ks s) (hx : nV (tz_A σ (M + 20)) x kx vx) (hy : nV (tz_A σ (M + 20)) y ky vy) (hp : p + ks < t) (hx2 : x + kx < t) (hy2 : y + ky < t) (hks : ks ≤ 20) (hkx : kx ≤ 20) (hsy : vy.natAbs ≤ 10 ^ 70) (hsx : (s * vx).natAbs ≤ 10 ^ 97) (hb : t + 3000 ≤ 527200) (hf : 20000 ≤ f) :
    gp (X12_addTo f (some M) (nI p) (nI x) (nI y)) σ (fun _ σ' => Tq M t σ σ' ∧ ∃ t' U' V', t ≤ t' ∧ t' ≤ t + 1000 ∧ smV σ' M t' U' V' ∧ smI M0 (E + e) U' V') := by
  obtain ⟨z1, z2⟩ := smI_sz hI h0 hW hM hE
  refine gp_mono (r_addTo h hs hI.1 hy0 hv hx hy hp hx2 hy2 hks hkx z1 z2 (p9 (p10_s hsy) (by decide)) (p9 (p10_s hsx) (by decide)) hb hf) ?_
  rintro _ σ1 ⟨q, t', a, b, c⟩
  exact ⟨q, t', _, _, a, b, c, smI_add hI hy0 he⟩
theorem rfV_tq {F : zF} (h : rfV σ M F) (ho : okF F) (hq : Tq M 447200 σ σ1) (h35 : tz_F σ1 M 35 = nI 447200) : rfV σ1 M F := by
  obtain ⟨⟨n, m, A, kd, bb, wh, dr⟩, Z, wp, wq, hd, ah⟩ := F
  obtain ⟨hsl, hW, hH⟩ := rfV_un h
  obtain ⟨hr, hz, -⟩ := okF_un ho
  obtain ⟨-, g35, hw, -⟩ := rgV_sh hsl
  have q : Rq M (fun k => k = 30 ∨ k = 31) (fun _ => False) (fun _ => False) σ σ1 := ⟨Fr_mono hq.1 (fun x e => by rcases e with e | e; exact Or.inl e; exact Or.inr (Or.inl e)), fun k a b => by
    by_cases e : k = 35
    · rw [e, h35, g35]
    · exact hq.2.1 k (fun z => a (Or.inl z)) (fun z => a (Or.inr z)) e b, fun i a _ => hq.2.2 i a⟩
  exact rfV_mk (rgV_rq hsl hz q (fun k e => by omega) (fun _ e => e.elim) (fun _ e => e.elim) (rrV_rq hw q (by omega) (by omega) (fun _ _ _ e => e))) (rvV_rq hW q (fun _ _ _ e => e)) (rhV_rq hH q (by omega) (fun _ _ _ e => e))
end TK
