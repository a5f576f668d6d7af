/-! ===== RowSolver$Big and RowSolver$Sum ===== -/
def tz_rowA (σ : tz_S) (b : Nat) (f : Nat → Int32) : tz_S := (tz_nc σ, tz_ns σ, tz_sh σ, tz_F σ, (fun x => if x = b then f else tz_A σ x), tz_L σ, tz_R σ)
def tz_rowL (σ : tz_S) (b : Nat) (f : Nat → Int64) : tz_S := (tz_nc σ, tz_ns σ, tz_sh σ, tz_F σ, tz_A σ, (fun x => if x = b then f else tz_L σ x), tz_R σ)
theorem tz_rowL_at (σ : tz_S) (b : Nat) (f : Nat → Int64) : tz_L (tz_rowL σ b f) b = f := if_pos rfl
theorem tz_rowA_at (σ : tz_S) (b : Nat) (f : Nat → Int32) : tz_A (tz_rowA σ b f) b = f := if_pos rfl
theorem tz_rowA_ne (σ : tz_S) {b c : Nat} (f : Nat → Int32) (h : c ≠ b) : tz_A (tz_rowA σ b f) c = tz_A σ c := if_neg h
theorem tz_rowL_ne (σ : tz_S) {b c : Nat} (f : Nat → Int64) (h : c ≠ b) : tz_L (tz_rowL σ b f) c = tz_L σ c := if_neg h
theorem tz_eqL {σ : tz_S} {f g : Nat → Nat → Int64} (h : f = g) : ((tz_nc σ, tz_ns σ, tz_sh σ, tz_F σ, tz_A σ, f, tz_R σ) : tz_S) = (tz_nc σ, tz_ns σ, tz_sh σ, tz_F σ, tz_A σ, g, tz_R σ) := by rw [h]
theorem tz_eqA {σ : tz_S} {f g : Nat → Nat → Int32} (h : f = g) : ((tz_nc σ, tz_ns σ, tz_sh σ, tz_F σ, f, tz_L σ, tz_R σ) : tz_S) = (tz_nc σ, tz_ns σ, tz_sh σ, tz_F σ, g, tz_L σ, tz_R σ) := by rw [h]
theorem tz_eqF {σ : tz_S} {f g : Nat → Nat → Int32} (h : f = g) : ((tz_nc σ, tz_ns σ, tz_sh σ, f, tz_A σ, tz_L σ, tz_R σ) : tz_S) = (tz_nc σ, tz_ns σ, tz_sh σ, g, tz_A σ, tz_L σ, tz_R σ) := by rw [h]
theorem tz_rowL_put (σ : tz_S) (b : Nat) (f : Nat → Int64) (j : Nat) (x : Int64) : tz_sL (tz_rowL σ b f) b j x = tz_rowL σ b (vp_updL f j x) := by
  refine tz_eqL (funext fun y => ?_)
  by_cases hy : y = b
  · subst hy
    rw [tz_u2_updL, tz_rowL_at, if_pos rfl]
  · rw [tz_u2_row _ _ _ _ hy, if_neg hy, tz_rowL_ne _ _ hy]
theorem tz_rowA_put (σ : tz_S) (b : Nat) (f : Nat → Int32) (j : Nat) (x : Int32) : tz_sA (tz_rowA σ b f) b j x = tz_rowA σ b (upd f j x) := by
  refine tz_eqA (funext fun y => ?_)
  by_cases hy : y = b
  · subst hy
    rw [tz_u2_upd, tz_rowA_at, if_pos rfl]
  · rw [tz_u2_row _ _ _ _ hy, if_neg hy, tz_rowA_ne _ _ hy]
theorem tz_rowL_self (σ : tz_S) (b : Nat) : tz_rowL σ b (tz_L σ b) = σ := by
  refine (tz_eqL (funext fun y => ?_) : _ = ((tz_nc σ, tz_ns σ, tz_sh σ, tz_F σ, tz_A σ, tz_L σ, tz_R σ) : tz_S))
  by_cases hy : y = b
  · subst hy; rw [if_pos rfl]
  · rw [if_neg hy]
theorem tz_rowA_self (σ : tz_S) (b : Nat) : tz_rowA σ b (tz_A σ b) = σ := by
  refine (tz_eqA (funext fun y => ?_) : _ = ((tz_nc σ, tz_ns σ, tz_sh σ, tz_F σ, tz_A σ, tz_L σ, tz_R σ) : tz_S))
  by_cases hy : y = b
  · subst hy; rw [if_pos rfl]
  · rw [if_neg hy]
theorem tz_sF_self {σ : tz_S} {a k : Nat} {x : Int32} (h : tz_F σ a k = x) : tz_sF σ a k x = σ := by
  refine (tz_eqF (funext fun y => funext fun i => ?_) : _ = ((tz_nc σ, tz_ns σ, tz_sh σ, tz_F σ, tz_A σ, tz_L σ, tz_R σ) : tz_S))
  by_cases hy : y = a ∧ i = k
  · rw [hy.1, hy.2, tz_u2_same]; exact h.symm
  · exact if_neg hy
def bSh (σ : tz_S) (a b n : Nat) : Prop := tz_sh σ a = some (.inl (0, [some (some b), none, none])) ∧ tz_sh σ b = some (.inr (0, n)) ∧ n < 1000
/-- N is 128; it is kept as a letter, so that nothing is worked out limb by limb -/
def sSh (σ : tz_S) (s l N : Nat) : Prop := tz_sh σ s = some (.inl (8, [some (some l), none])) ∧ tz_sh σ l = some (.inr (2, N)) ∧ N = 128
/-- limbs of an int row, of a long row -/
abbrev dI (f : Nat → Int32) : Nat → Int := fun j => (f j).toInt
abbrev dL (f : Nat → Int64) : Nat → Int := fun j => (f j).toInt
def sOk (N : Nat) (g : Nat → Int64) (u : Nat) : Prop := u ≤ N ∧ (∀ j, j < N → -1000000000 < (g j).toInt ∧ (g j).toInt < 1000000000) ∧ ∀ j, u ≤ j → j < N → g j = 0
theorem dL_upd {f : Nat → Int64} {i : Nat} {x : Int64} : dL (vp_updL f i x) = fun j => if j = i then x.toInt else dL f j := by
  funext j
  by_cases h : j = i
  · subst h; rw [if_pos rfl]; exact congrArg Int64.toInt pk_uLs
  · rw [if_neg h]; exact congrArg Int64.toInt (pk_uLn h)
theorem dI_upd {f : Nat → Int32} {i : Nat} {x : Int32} : dI (upd f i x) = fun j => if j = i then x.toInt else dI f j := by
  funext j
  by_cases h : j = i
  · subst h; rw [if_pos rfl]; exact congrArg Int32.toInt pk_us
  · rw [if_neg h]; exact congrArg Int32.toInt (pk_un h)
theorem rg_1 (M G c q P : Int) : M + (G + c - q * 1000000000 - G) * P + q * (P * 1000000000) = M + c * P := by grind
theorem rg_2 (M M0 G T c q P P2 Dj dj : Int) (h : M + c * (P * P2) = M0 + T * Dj * P) : M + (G + T * dj + c - q * 1000000000 - G) * (P * P2) + q * (P * P2 * 1000000000) = M0 + T * (Dj + dj * P2) * P := by grind
set_option maxHeartbeats 1000000 in
/-- the carry runs on: from limb p, until it is 0 -/
theorem c_carry {n s l N : Nat} {σ : tz_S} {Q : Unit → tz_S → Prop} {g0 : Nat → Int64} {S : Int} {w p0 : Nat} {c0 : Int64} (hS : sSh σ s l N) (hn : 201 ≤ n) (hw : w + 1 ≤ N) (hp0 : p0 ≤ w)
    (hg0 : ∀ j, j < N → -1000000000 < (g0 j).toInt ∧ (g0 j).toInt < 1000000000) (hz0 : ∀ j, w ≤ j → j < N → g0 j = 0) (hc0 : -1000000000 < c0.toInt ∧ c0.toInt < 1000000000) (hv0 : mg (dL g0) N + c0.toInt * 1000000000 ^ p0 = S)
    (hQ : ∀ (g : Nat → Int64) (p : Nat), p ≤ w + 1 → p0 ≤ p → (∀ j, j < N → -1000000000 < (g j).toInt ∧ (g j).toInt < 1000000000) → (∀ j, w ≤ j → p ≤ j → j < N → g j = 0) → mg (dL g) N = S → gp (X8_addShifted_b151 n (some s) (nI p)) (tz_rowL σ l g) Q) :
    gp (X8_addShifted_L92 n (some s) c0 (nI p0)) (tz_rowL σ l g0) Q := by
  have hN := hS.2.2
  unfold X8_addShifted_L92
  refine gp_loop (I := fun (τ : Int64 × Int32) (σ' : tz_S) => ∃ (g : Nat → Int64) (p : Nat), σ' = tz_rowL σ l g ∧ τ.2 = nI p ∧ p0 ≤ p ∧ (p ≤ w ∨ (p = w + 1 ∧ τ.1.toInt = 0)) ∧ (∀ j, j < N → -1000000000 < (g j).toInt ∧ (g j).toInt < 1000000000) ∧ (∀ j, w ≤ j → p ≤ j → j < N → g j = 0) ∧ (-1000000000 < τ.1.toInt ∧ τ.1.toInt < 1000000000) ∧ mg (dL g) N + τ.1.toInt * 1000000000 ^ p = S) (fun τ _ => 200 - τ.2.toNatClampNeg) ?_ n _ _ ⟨g0, p0, rfl, rfl, Nat.le_refl _, Or.inl hp0, hg0, fun j h1 _ h3 => hz0 j h1 h3, hc0, hv0⟩ (by simp only; omega)
  rintro K ⟨c, l7⟩ σ' ⟨g, p, rfl, hp, hpp, hpw, hg, hz, hc, hv⟩ hK
  simp only at hp hpw hc hv hK
  subst hp
  show gp (X8_addShifted_L92_body n (some s) (fun l5 l7 => K (l5, l7)) c (nI p)) (tz_rowL σ l g) Q
  unfold X8_addShifted_L92_body
  refine gp_if (fun hc0 => ?_) (fun hc0 => ?_)
  · rw [lg_cmp_eq] at hc0
    subst hc0
    refine hQ g p (by omega) hpp hg hz ?_
    rw [← hv]
    show mg (dL g) N = mg (dL g) N + 0 * _
    omega
  · rw [lg_cmp_eq] at hc0
    have hcn : c.toInt ≠ 0 := fun q => hc0 (az_lz.mp q)
    have hpw : p ≤ w := by omega
    refine gp_rR (σ := tz_rowL σ l g) hS.1 rfl ?_
    refine gp_len (σ := tz_rowL σ l g) hS.2.1 ?_
    refine gp_f (by rw [nI_leI (by omega) (by omega)]; omega) ?_
    refine gp_rR (σ := tz_rowL σ l g) hS.1 rfl ?_
    refine gp_aL (σ := tz_rowL σ l g) (j := p) hS.2.1 (by omega) (by omega) rfl ?_
    rw [tz_rowL_at]
    refine gp_let ?_
    refine gp_dvL az_B0 ?_
    refine gp_rR (σ := tz_rowL σ l g) hS.1 rfl ?_
    refine gp_sL (σ := tz_rowL σ l g) (j := p) hS.2.1 (by omega) (by omega) rfl ?_
    rw [tz_rowL_put]
    refine gp_let ?_
    have hgp := hg p (by omega)
    have hadd : (g p + c).toInt = (g p).toInt + c.toInt := az_ladd (by omega) (by omega)
    obtain ⟨q, r, h1, h2, h3, h4, h5, h6, h7⟩ := az_lB (g p + c)
    rw [hadd] at h3 h6 h7
    rw [nI_1]
    have hqs : -1 ≤ q ∧ q ≤ 1 := by omega
    refine hK (_, _) _ ⟨_, p + 1, rfl, rfl, by omega, ?_, ?_, ?_, ?_, ?_⟩ ?_
    · by_cases hpq : p < w
      · exact Or.inl hpq
      · have hgz : (g p).toInt = 0 := by rw [hz p (by omega) (Nat.le_refl _) (by omega)]; rfl
        refine Or.inr ⟨by omega, ?_⟩
        simp only
        rw [h1]
        omega
    · intro j hj
      by_cases hjp : j = p
      · subst hjp
        rw [show vp_updL g j _ j = _ from pk_uLs, h2]
        exact ⟨h4, h5⟩
      · rw [pk_uLn hjp]
        exact hg j hj
    · intro j a1 a2 a3
      rw [pk_uLn (by omega)]
      exact hz j a1 (by omega) a3
    · simp only
      rw [h1]
      omega
    · simp only
      rw [dL_upd, mg_upd (by omega), h1, h2, ← hv, mg_ps]
      have e1 : r = (g p).toInt + c.toInt - q * 1000000000 := by omega
      subst e1
      generalize mg (dL g) N = M
      generalize (1000000000 : Int) ^ p = P
      exact rg_1 _ _ _ _ _
    · simp only
      rw [nI_clamp (by omega), nI_clamp (by omega)]
      omega
theorem az_mulB {a b : Int} (ha : -1000000000 < a ∧ a < 1000000000) (hb : -1000000000 < b ∧ b < 1000000000) : -999999998000000001 ≤ a * b ∧ a * b ≤ 999999998000000001 := by
  have h : (a * b).natAbs ≤ 999999999 * 999999999 := by
    rw [Int.natAbs_mul]
    exact Nat.mul_le_mul (by omega) (by omega)
  omega
set_option maxHeartbeats 1000000 in
theorem c_addS {n s l N a b nb k u sh : Nat} {σ : tz_S} {t : Int64} (hS : sSh σ s l N) (hB : bSh σ a b nb) (hn : 2000 ≤ n) (hk : tz_F σ a 1 = nI k) (hkn : k ≤ nb) (hd : ∀ j, j < k → 0 ≤ dI (tz_A σ b) j ∧ dI (tz_A σ b) j < 1000000000)
    (hu : tz_F σ s 1 = nI u) (hg : sOk N (tz_L σ l) u) (ht : -1000000000 < t.toInt ∧ t.toInt < 1000000000) (hr1 : u + 1 ≤ N) (hr2 : sh + k + 1 ≤ N) :
    gp (X8_addShifted n (some s) (some a) t (nI sh)) σ (fun _ σ' => ∃ (g : Nat → Int64) (u' : Nat), σ' = tz_sF (tz_rowL σ l g) s 1 (nI u') ∧ sOk N g u' ∧ u' ≤ max u (sh + k) + 1 ∧ mg (dL g) N = mg (dL (tz_L σ l)) N + t.toInt * mg (dI (tz_A σ b)) k * 1000000000 ^ sh) := by
  obtain ⟨hg1, hg2, hg3⟩ := hg
  have hself : σ = tz_rowL σ l (tz_L σ l) := (tz_rowL_self σ l).symm
  have hN := hS.2.2
  unfold X8_addShifted
  refine gp_if (fun h0 => ?_) (fun h0 => ?_)
  · rw [lg_cmp_eq] at h0
    subst h0
    refine gp_ret ⟨tz_L σ l, u, ?_, ⟨hg1, hg2, hg3⟩, by omega, ?_⟩
    · rw [tz_rowL_self, tz_sF_self hu]
    · show mg _ N = mg _ N + 0 * _ * _
      simp
  · generalize hw : max u (sh + k) = w
    unfold X8_addShifted_L17
    suffices hsuf : ∀ σ1, σ1 = tz_rowL σ l (tz_L σ l) → gp (pz_loop (fun (K : Int64 × Int32 × Int32 → pz_C Unit) (s' : Int64 × Int32 × Int32) => X8_addShifted_L17_body n (some s) (some a) t (fun l5 l7 l8 => K (l5, l7, l8)) s'.1 s'.2.1 s'.2.2) n (0, nI sh, 0)) σ1 (fun _ σ' => ∃ (g : Nat → Int64) (u' : Nat), σ' = tz_sF (tz_rowL σ l g) s 1 (nI u') ∧ sOk N g u' ∧ u' ≤ w + 1 ∧ mg (dL g) N = mg (dL (tz_L σ l)) N + t.toInt * mg (dI (tz_A σ b)) k * 1000000000 ^ sh) from hsuf σ hself
    rintro σ1 rfl
    refine gp_loop (I := fun (τ : Int64 × Int32 × Int32) (σ' : tz_S) => ∃ (g : Nat → Int64) (j : Nat), σ' = tz_rowL σ l g ∧ τ.2.1 = nI (sh + j) ∧ τ.2.2 = nI j ∧ j ≤ k ∧ (∀ i, i < N → -1000000000 < (g i).toInt ∧ (g i).toInt < 1000000000) ∧ (∀ i, w ≤ i → i < N → g i = 0) ∧ (-1000000000 < τ.1.toInt ∧ τ.1.toInt < 1000000000) ∧ mg (dL g) N + τ.1.toInt * 1000000000 ^ (sh + j) = mg (dL (tz_L σ l)) N + t.toInt * mg (dI (tz_A σ b)) j * 1000000000 ^ sh) (fun τ _ => 200 - τ.2.2.toNatClampNeg) ?_ n _ _ ⟨tz_L σ l, 0, rfl, rfl, rfl, Nat.zero_le _, hg2, fun i h1 h2 => hg3 i (by omega) h2, ⟨by show _ < (0 : Int64).toInt; decide, by show (0 : Int64).toInt < _; decide⟩, by show mg _ N + 0 * _ = mg _ N + _ * 0 * _; simp⟩ (by simp only; omega)
    rintro K ⟨c, l7, l8⟩ σ' ⟨g, j, rfl, h7, h8, hjk, hgb, hgz, hc, hv⟩ hK
    simp only at h7 h8 hc hv hK
    subst h7
    subst h8
    show gp (X8_addShifted_L17_body n (some s) (some a) t (fun l5 l7 l8 => K (l5, l7, l8)) c (nI (sh + j)) (nI j)) (tz_rowL σ l g) _
    unfold X8_addShifted_L17_body
    have hB1 : tz_sh (tz_rowL σ l g) a = some (.inl (0, [some (some b), none, none])) := hB.1
    have hB2 : tz_sh (tz_rowL σ l g) b = some (.inr (0, nb)) := hB.2.1
    have hS1 : tz_sh (tz_rowL σ l g) s = some (.inl (8, [some (some l), none])) := hS.1
    have hS2 : tz_sh (tz_rowL σ l g) l = some (.inr (2, N)) := hS.2.1
    have hnb := hB.2.2
    refine gp_rI hB1 rfl ?_
    rw [show tz_F (tz_rowL σ l g) a 1 = nI k from hk]
    refine gp_if (fun hkj => ?_) (fun hkj => ?_)
    · rw [nI_leI (by omega) (by omega)] at hkj
      have hjk' : j = k := by omega
      subst hjk'
      refine c_carry (w := w) hS (by omega) (by omega) (by omega) hgb hgz hc hv ?_
      intro g' p hp hpp hgb' hgz' hv'
      unfold X8_addShifted_b151 X8_addShifted_b166
      refine gp_rI (σ := tz_rowL σ l g') hS.1 rfl ?_
      rw [show tz_F (tz_rowL σ l g') s 1 = nI u from hu]
      refine gp_if (fun hpu => ?_) (fun hpu => ?_)
      · rw [nI_leI (by omega) (by omega)] at hpu
        refine gp_ret ⟨g', u, ?_, ⟨hg1, hgb', fun i h1 h2 => hgz' i (by omega) (by omega) h2⟩, by omega, hv'⟩
        exact (tz_sF_self (σ := tz_rowL σ l g') hu).symm
      · rw [nI_leI (by omega) (by omega)] at hpu
        refine gp_wI (σ := tz_rowL σ l g') hS.1 rfl ?_
        exact gp_ret ⟨g', p, rfl, ⟨by omega, hgb', fun i h1 h2 => hgz' i (by omega) h1 h2⟩, by omega, hv'⟩
    · rw [nI_leI (by omega) (by omega)] at hkj
      refine gp_rR hS1 rfl ?_
      refine gp_len hS2 ?_
      refine gp_f (by rw [nI_leI (by omega) (by omega)]; omega) ?_
      refine gp_rR hS1 rfl ?_
      refine gp_aL (j := sh + j) hS2 (by omega) (by omega) rfl ?_
      rw [tz_rowL_at]
      refine gp_rR hB1 rfl ?_
      refine gp_aI (j := j) hB2 (by decide) (by omega) (by omega) rfl ?_
      rw [show tz_A (tz_rowL σ l g) b = tz_A σ b from rfl]
      refine gp_let ?_
      refine gp_dvL az_B0 ?_
      refine gp_rR hS1 rfl ?_
      refine gp_sL (j := sh + j) hS2 (by omega) (by omega) rfl ?_
      rw [tz_rowL_put]
      refine gp_let ?_
      refine gp_let ?_
      have hdj := hd j (by omega)
      have hmb := az_mulB (a := t.toInt) (b := dI (tz_A σ b) j) ht ⟨by omega, hdj.2⟩
      have hgj := hgb (sh + j) (by omega)
      have e64 : (tz_A σ b j).toInt64.toInt = dI (tz_A σ b) j := Int32.toInt_toInt64 _
      have m1 : (t * (tz_A σ b j).toInt64).toInt = t.toInt * dI (tz_A σ b) j := by rw [az_lmul (by rw [e64]; omega) (by rw [e64]; omega), e64]
      have m2 : (g (sh + j) + t * (tz_A σ b j).toInt64).toInt = (g (sh + j)).toInt + t.toInt * dI (tz_A σ b) j := by rw [az_ladd (by rw [m1]; omega) (by rw [m1]; omega), m1]
      have m3 : (g (sh + j) + t * (tz_A σ b j).toInt64 + c).toInt = (g (sh + j)).toInt + t.toInt * dI (tz_A σ b) j + c.toInt := by rw [az_ladd (by rw [m2]; omega) (by rw [m2]; omega), m2]
      obtain ⟨q, r, h1, h2, h3, h4, h5, h6, h7⟩ := az_lB (g (sh + j) + t * (tz_A σ b j).toInt64 + c)
      rw [m3] at h3 h6 h7
      rw [nI_1, nI_1]
      have hq : -1000000000 < q ∧ q < 1000000000 := by omega
      refine hK (_, _, _) _ ⟨_, j + 1, rfl, rfl, rfl, by omega, ?_, ?_, ?_, ?_⟩ ?_
      · intro i hi
        by_cases hip : i = sh + j
        · subst hip
          rw [show vp_updL g (sh + j) _ (sh + j) = _ from pk_uLs, h2]
          exact ⟨h4, h5⟩
        · rw [pk_uLn hip]
          exact hgb i hi
      · intro i a1 a2
        rw [pk_uLn (by omega)]
        exact hgz i a1 a2
      · simp only
        rw [h1]
        exact hq
      · simp only
        rw [dL_upd, mg_upd (by omega), h1, h2, show sh + (j + 1) = sh + j + 1 by omega, mg_ps]
        simp only [mg]
        rw [Int.pow_add] at hv ⊢
        generalize mg (dI (tz_A σ b)) j = Dj at hv ⊢
        generalize dI (tz_A σ b) j = dj at h3 ⊢
        generalize mg (dL (tz_L σ l)) N = M0 at hv ⊢
        generalize mg (dL g) N = M at hv ⊢
        generalize (1000000000 : Int) ^ sh = P at hv ⊢
        generalize (1000000000 : Int) ^ j = P2 at hv ⊢
        have e1 : r = (g (sh + j)).toInt + t.toInt * dj + c.toInt - q * 1000000000 := by omega
        subst e1
        exact rg_2 _ _ _ _ _ _ _ _ _ _ hv
      · simp only
        rw [nI_clamp (by omega), nI_clamp (by omega)]
        omega
