/-! ===== the reference: what it holds ===== -/
/-- nothing that lasts has changed -/
def Sq (M : Nat) (σ σ' : tz_S) : Prop := Fr (fun x => x = M ∨ x = M + 20) σ σ' ∧ (∀ k, k ≠ 36 → tz_F σ' M k = tz_F σ M k) ∧ ∀ i, i < 447200 → tz_A σ' (M + 20) i = tz_A σ (M + 20) i
def nP (σ : tz_S) (M h : Nat) (v : Int) : Prop := ∃ n, nV (tz_A σ (M + 20)) h n v ∧ (h + n < 447200 ∧ n ≤ 15)
def rrV (σ : tz_S) (M n m : Nat) (A : Nat → Nat → Int) (kd : Nat → Nat) (bb : Nat → Int) (wh : Nat → Bool) (dr : Nat → Int) : Prop := (tz_F σ M 0 = nI n ∧ tz_F σ M 1 = nI m ∧ n ≤ 10 ∧ m ≤ 12) ∧ (∀ r x, r < m → x < 10 → (tz_A σ (M + 1) (10 * r + x)).toInt = A r x) ∧ (∀ r, r < m → tz_A σ (M + 2) r = nI (kd r) ∧ kd r ≤ 2) ∧ (∀ r, r < m → (tz_A σ (M + 3) r).toInt = bb r) ∧ (∀ x, x < 10 → tz_A σ (M + 5) x = if wh x = true then 1 else 0) ∧ ∀ x, x < 10 → (tz_A σ (M + 4) x).toInt = dr x
def rtV (σ : tz_S) (M n m : Nat) (D : Int) (T : Nat → Nat → Int) (va : Nat → Int) (bs cl : Nat → Nat) : Prop := (∀ r, r < m → tz_A σ (M + 7) r = nI (bs r)) ∧ (∀ c, c < n → tz_A σ (M + 8) c = nI (cl c)) ∧ nP σ M 0 D ∧ (∀ r c, r < m → c < n → nP σ M (16 + 16 * (10 * r + c)) (T r c)) ∧ ∀ c, c < n → nP σ M (3856 + 300 * cl c) (va c)
def rbV (σ : tz_S) (M n : Nat) (ub lb : Nat → Option Int) : Prop := ∀ x, x < n → (tz_A σ (M + 6) (2 * x) = if ub x = none then 0 else 1) ∧ (tz_A σ (M + 6) (2 * x + 1) = if lb x = none then 0 else 1) ∧ (∀ v, ub x = some v → nP σ M (10456 + 300 * (2 * x)) v) ∧ ∀ v, lb x = some v → nP σ M (10456 + 300 * (2 * x + 1)) v
def rkV (σ : tz_S) (M K lc : Nat) (up fi se : Nat → Option Nat) (vr : Nat → Nat) (to : Nat → Int) (cd : Nat → Bool) (ln : Nat → Nat) : Prop := (tz_F σ M 15 = nI K ∧ tz_F σ M 23 = nI lc) ∧ ∀ k, k < K → (tz_A σ (M + 9) k = if fi k = none then 0 else 1) ∧ (tz_A σ (M + 10) k = if cd k = true then 1 else 0) ∧ tz_A σ (M + 14) k = eN (up k) ∧ tz_A σ (M + 12) k = eN (fi k) ∧ tz_A σ (M + 13) k = eN (se k) ∧ tz_A σ (M + 15) k = nI (ln k) ∧ (fi k ≠ none → tz_A σ (M + 11) k = nI (vr k) ∧ nP σ M (16456 + 300 * k) (to k))
def roV (σ : tz_S) (M : Nat) (l : List (Nat × Bool)) (fo : Nat → Int) : Prop := tz_F σ M 25 = nI l.length ∧ ∀ i s b, l[i]? = some (s, b) → tz_A σ (M + 16) i = nI s ∧ (tz_A σ (M + 17) i = if b = true then 0 else 1) ∧ nP σ M (440000 + 300 * i) (fo s)
def rmV (σ : tz_S) (M lc : Nat) (mq : Nat → Nat → Int × Int) : Prop := ∀ i j, i < lc → j < 32 → nP σ M (116056 + 16 * (2 * (32 * i + j))) (mq i j).1 ∧ nP σ M (116056 + 16 * (2 * (32 * i + j) + 1)) (mq i j).2
def rvV (σ : tz_S) (M : Nat) (wq : Nat → Int × Int) : Prop := ∀ x, x < 10 → nP σ M (109456 + 300 * (2 * x)) (wq x).1 ∧ nP σ M (109456 + 300 * (2 * x + 1)) (wq x).2
def rhV (σ : tz_S) (M : Nat) (hd : Int × Int) (ah : Bool) : Prop := (tz_F σ M 28 = if ah = true then 1 else 0) ∧ (ah = true → nP σ M 115456 hd.1 ∧ nP σ M 115756 hd.2)
def rcV (σ : tz_S) (M st sp ex cf spl : Nat) : Prop := tz_F σ M 7 = nI st ∧ tz_F σ M 8 = nI sp ∧ tz_F σ M 9 = nI ex ∧ tz_F σ M 10 = nI cf ∧ tz_F σ M 11 = nI spl
section RL
variable {M : Nat} {σ σ1 σ2 : tz_S}
theorem Sq_refl : Sq M σ σ := ⟨Fr_refl, fun _ _ => rfl, fun _ _ => rfl⟩
theorem Sq_trans (h1 : Sq M σ σ1) (h2 : Sq M σ1 σ2) : Sq M σ σ2 := ⟨Fr_trans h1.1 h2.1, fun k a => (h2.2.1 k a).trans (h1.2.1 k a), fun i hi => (h2.2.2 i hi).trans (h1.2.2 i hi)⟩
/-- scratch is used and let go -/
theorem Sq_of {lo hi : Nat} (h : Pq M lo hi σ σ1) (hlo : 447200 ≤ lo) (ht : tz_F σ1 M 35 = tz_F σ M 35) : Sq M σ σ1 := ⟨h.1, fun k hk => by
  by_cases e : k = 35
  · rw [e]; exact ht
  · exact h.2.1 k e hk, fun i hi => h.2.2 i (by omega)⟩
theorem Sq_put {lo hi : Nat} {v : Int32} (h : Pq M lo hi σ σ1) (hlo : 447200 ≤ lo) (ht : tz_F σ M 35 = v) : Sq M σ (tz_sF σ1 M 35 v) := Sq_of (Pq_trans h Pq_top) hlo (by rw [ht]; exact tz_u2_same _ _ _ _)
theorem nP_sq {h : Nat} {v : Int} (hp : nP σ M h v) (hs : Sq M σ σ1) : nP σ1 M h v := by
  obtain ⟨n, h1, h2⟩ := hp
  exact ⟨n, nV_congr h1 (fun i a b => hs.2.2 i (by omega)), h2⟩
theorem nP_pq {h lo hi : Nat} {v : Int} (hp : nP σ M h v) (hs : Pq M lo hi σ σ1) (hlo : 447200 ≤ lo) : nP σ1 M h v := by
  obtain ⟨n, h1, h2⟩ := hp
  exact ⟨n, nV_pq h1 hs (Or.inl (by omega)), h2⟩
theorem Sq_A (h : Sq M σ σ1) {x : Nat} (hx : x ≠ M) (hx2 : x ≠ M + 20) : tz_A σ1 x = tz_A σ x := Fr_A h.1 (fun z => by omega)
variable {n m K lc st sp ex cf spl : Nat} {A T : Nat → Nat → Int} {kd : Nat → Nat} {bb dr : Nat → Int} {wh : Nat → Bool} {D : Int} {va : Nat → Int} {bs cl : Nat → Nat} {up fi se : Nat → Option Nat} {vr : Nat → Nat} {fo to : Nat → Int} {cd : Nat → Bool} {ln : Nat → Nat} {mq : Nat → Nat → Int × Int} {wq : Nat → Int × Int} {hd : Int × Int} {ah : Bool} {ub lb : Nat → Option Int} {l : List (Nat × Bool)}
theorem rrV_sq (h : rrV σ M n m A kd bb wh dr) (hs : Sq M σ σ1) : rrV σ1 M n m A kd bb wh dr := by
  unfold rrV at *
  rw [hs.2.1 0 (by decide), hs.2.1 1 (by decide), Sq_A hs (x := M + 1) (by omega) (by omega), Sq_A hs (x := M + 2) (by omega) (by omega), Sq_A hs (x := M + 3) (by omega) (by omega), Sq_A hs (x := M + 5) (by omega) (by omega), Sq_A hs (x := M + 4) (by omega) (by omega)]
  exact h
theorem rtV_sq (h : rtV σ M n m D T va bs cl) (hs : Sq M σ σ1) : rtV σ1 M n m D T va bs cl := by
  obtain ⟨h1, h2, h3, h4, h5⟩ := h
  exact ⟨by rw [Sq_A hs (by omega) (by omega)]; exact h1, by rw [Sq_A hs (by omega) (by omega)]; exact h2, nP_sq h3 hs, fun r c a b => nP_sq (h4 r c a b) hs, fun c a => nP_sq (h5 c a) hs⟩
theorem rbV_sq (h : rbV σ M n ub lb) (hs : Sq M σ σ1) : rbV σ1 M n ub lb := fun x hx => by
  obtain ⟨h1, h2, h3, h4⟩ := h x hx
  exact ⟨by rw [Sq_A hs (by omega) (by omega)]; exact h1, by rw [Sq_A hs (by omega) (by omega)]; exact h2, fun v a => nP_sq (h3 v a) hs, fun v a => nP_sq (h4 v a) hs⟩
theorem rkV_sq (h : rkV σ M K lc up fi se vr to cd ln) (hs : Sq M σ σ1) : rkV σ1 M K lc up fi se vr to cd ln := by
  obtain ⟨⟨h1, h2⟩, h3⟩ := h
  refine ⟨⟨by rw [hs.2.1 15 (by decide)]; exact h1, by rw [hs.2.1 23 (by decide)]; exact h2⟩, fun k hk => ?_⟩
  obtain ⟨a1, a2, a3, a4, a5, a6, a7⟩ := h3 k hk
  exact ⟨by rw [Sq_A hs (by omega) (by omega)]; exact a1, by rw [Sq_A hs (by omega) (by omega)]; exact a2, by rw [Sq_A hs (by omega) (by omega)]; exact a3, by rw [Sq_A hs (by omega) (by omega)]; exact a4, by rw [Sq_A hs (by omega) (by omega)]; exact a5, by rw [Sq_A hs (by omega) (by omega)]; exact a6, fun z => ⟨by rw [Sq_A hs (by omega) (by omega)]; exact (a7 z).1, nP_sq (a7 z).2 hs⟩⟩
theorem roV_sq (h : roV σ M l fo) (hs : Sq M σ σ1) : roV σ1 M l fo := by
  refine ⟨by rw [hs.2.1 25 (by decide)]; exact h.1, fun i s b hi => ?_⟩
  obtain ⟨a1, a2, a3⟩ := h.2 i s b hi
  exact ⟨by rw [Sq_A hs (by omega) (by omega)]; exact a1, by rw [Sq_A hs (by omega) (by omega)]; exact a2, nP_sq a3 hs⟩
theorem rmV_sq (h : rmV σ M lc mq) (hs : Sq M σ σ1) : rmV σ1 M lc mq := fun i j a b => ⟨nP_sq (h i j a b).1 hs, nP_sq (h i j a b).2 hs⟩
theorem rvV_sq (h : rvV σ M wq) (hs : Sq M σ σ1) : rvV σ1 M wq := fun x a => ⟨nP_sq (h x a).1 hs, nP_sq (h x a).2 hs⟩
theorem rhV_sq (h : rhV σ M hd ah) (hs : Sq M σ σ1) : rhV σ1 M hd ah := ⟨by rw [hs.2.1 28 (by decide)]; exact h.1, fun a => ⟨nP_sq (h.2 a).1 hs, nP_sq (h.2 a).2 hs⟩⟩
theorem rcV_sq (h : rcV σ M st sp ex cf spl) (hs : Sq M σ σ1) : rcV σ1 M st sp ex cf spl := by
  unfold rcV at *
  rw [hs.2.1 7 (by decide), hs.2.1 8 (by decide), hs.2.1 9 (by decide), hs.2.1 10 (by decide), hs.2.1 11 (by decide)]
  exact h
end RL
section RM
variable {f M t n m : Nat} {σ : tz_S} {A T : Nat → Nat → Int} {kd : Nat → Nat} {bb dr : Nat → Int} {wh : Nat → Bool} {D : Int} {va : Nat → Int} {bs cl : Nat → Nat} {ub lb : Nat → Option Int}
def eM : Option Nat → Int32 := fun x => match x with
  | none => -1
  | some k => nI k
theorem ix_first {g : Nat → Nat} {p r : Nat} : ∀ {m : Nat}, r < m → g r = p → (∀ i, i < r → g i ≠ p) → ix g p m = some r
  | 0, h, _, _ => absurd h (Nat.not_lt_zero _)
  | m + 1, h, e, hl => by
    simp only [ix]
    by_cases z : r < m
    · rw [ix_first z e hl]
    · have : r = m := by omega
      subst this
      cases hh : ix g p r with
      | some q =>
        obtain ⟨a, b⟩ := ix_some hh
        exact absurd b (hl q a)
      | none =>
        simp only
        rw [if_pos e]
theorem ix_no {g : Nat → Nat} {p : Nat} : ∀ {m : Nat}, (∀ i, i < m → g i ≠ p) → ix g p m = none
  | 0, _ => rfl
  | m + 1, h => by
    simp only [ix]
    rw [ix_no (fun i hi => h i (by omega))]
    simp only
    rw [if_neg (h m (by omega))]
theorem mh_7 (h : mSh σ M) : tz_sh σ (M + 7) = some (.inr (0, 12)) := h.2.2.2.2.2.2.2.1
theorem mh_8 (h : mSh σ M) : tz_sh σ (M + 8) = some (.inr (0, 10)) := h.2.2.2.2.2.2.2.2.1
theorem mh_2 (h : mSh σ M) : tz_sh σ (M + 2) = some (.inr (0, 12)) := h.2.2.1
theorem mh_3 (h : mSh σ M) : tz_sh σ (M + 3) = some (.inr (0, 12)) := h.2.2.2.1
theorem mh_6 (h : mSh σ M) : tz_sh σ (M + 6) = some (.inr (1, 20)) := h.2.2.2.2.2.2.1
theorem r_rowOf {p : Nat} (h : mSh σ M) (h1 : tz_F σ M 1 = nI m) (hm : m ≤ 12) (hb : ∀ r, r < m → tz_A σ (M + 7) r = nI (bs r) ∧ bs r < 1000) (hp : p < 1000) (hf : 2000 ≤ f) : gp (X12_rowOf f (some M) (nI p)) σ (fun y σ' => σ' = σ ∧ y = eM (ix bs p m)) := by
  unfold X12_rowOf X12_rowOf_L2
  refine gp_loop (I := fun (τ : Int32) (σ' : tz_S) => ∃ i, τ = nI i ∧ i ≤ m ∧ σ' = σ ∧ ∀ j, j < i → bs j ≠ p) (fun τ _ => 100 - τ.toNatClampNeg) ?_ f _ _ ⟨0, rfl, Nat.zero_le _, rfl, fun j hj => absurd hj (Nat.not_lt_zero _)⟩ (by omega)
  rintro K l2 σ1 ⟨i, rfl, hi, hσ, hl⟩ hK
  rw [hσ]
  clear hσ σ1
  show gp (X12_rowOf_L2_body f (some M) (nI p) (fun l2 => K l2) (nI i)) σ _
  unfold X12_rowOf_L2_body
  refine gp_rI (mh_me h) rfl ?_
  rw [h1]
  refine gp_if (fun z => ?_) (fun z => ?_)
  · rw [nI_leI (by omega) (by omega)] at z
    exact gp_ret ⟨rfl, by rw [ix_no (fun j hj => hl j (by omega))]; rfl⟩
  rw [nI_leI (by omega) (by omega)] at z
  refine gp_rR (mh_me h) rfl ?_
  refine gp_aI (j := i) (mh_7 h) (by decide) (by omega) (by omega) rfl ?_
  rw [(hb i (by omega)).1]
  have hbi := (hb i (by omega)).2
  refine gp_if (fun q => ?_) (fun q => ?_)
  · rw [nI_eq (by omega) (by omega)] at q
    exact gp_ret ⟨rfl, by rw [ix_first (show i < m by omega) q hl]; rfl⟩
  · rw [nI_eq (by omega) (by omega)] at q
    refine gp_let ?_
    rw [nI_1]
    refine hK _ _ ⟨i + 1, rfl, by omega, rfl, fun j hj => ?_⟩ (by rw [nI_clamp (by omega), nI_clamp (by omega)]; omega)
    by_cases e : j = i
    · rw [e]; exact q
    · exact hl j (by omega)
theorem r_columnAt {p : Nat} (h : mSh σ M) (h1 : tz_F σ M 0 = nI n) (hn : n ≤ 10) (hb : ∀ c, c < n → tz_A σ (M + 8) c = nI (cl c) ∧ cl c < 1000) (hp : p < 1000) (hf : 2000 ≤ f) : gp (X12_columnAt f (some M) (nI p)) σ (fun y σ' => σ' = σ ∧ y = eM (ix cl p n)) := by
  unfold X12_columnAt X12_columnAt_L2
  refine gp_loop (I := fun (τ : Int32) (σ' : tz_S) => ∃ i, τ = nI i ∧ i ≤ n ∧ σ' = σ ∧ ∀ j, j < i → cl j ≠ p) (fun τ _ => 100 - τ.toNatClampNeg) ?_ f _ _ ⟨0, rfl, Nat.zero_le _, rfl, fun j hj => absurd hj (Nat.not_lt_zero _)⟩ (by omega)
  rintro K l2 σ1 ⟨i, rfl, hi, hσ, hl⟩ hK
  rw [hσ]
  clear hσ σ1
  show gp (X12_columnAt_L2_body f (some M) (nI p) (fun l2 => K l2) (nI i)) σ _
  unfold X12_columnAt_L2_body
  refine gp_rI (mh_me h) rfl ?_
  rw [h1]
  refine gp_if (fun z => ?_) (fun z => ?_)
  · rw [nI_leI (by omega) (by omega)] at z
    exact gp_ret ⟨rfl, by rw [ix_no (fun j hj => hl j (by omega))]; rfl⟩
  rw [nI_leI (by omega) (by omega)] at z
  refine gp_rR (mh_me h) rfl ?_
  refine gp_aI (j := i) (mh_8 h) (by decide) (by omega) (by omega) rfl ?_
  rw [(hb i (by omega)).1]
  have hbi := (hb i (by omega)).2
  refine gp_if (fun q => ?_) (fun q => ?_)
  · rw [nI_eq (by omega) (by omega)] at q
    exact gp_ret ⟨rfl, by rw [ix_first (show i < n by omega) q hl]; rfl⟩
  · rw [nI_eq (by omega) (by omega)] at q
    refine gp_let ?_
    rw [nI_1]
    refine hK _ _ ⟨i + 1, rfl, by omega, rfl, fun j hj => ?_⟩ (by rw [nI_clamp (by omega), nI_clamp (by omega)]; omega)
    by_cases e : j = i
    · rw [e]; exact q
    · exact hl j (by omega)
theorem nI_subN {a b : Nat} (h : b ≤ a) : nI a - nI b = nI (a - b) := by
  obtain ⟨c, rfl⟩ : ∃ c, a = b + c := ⟨a - b, by omega⟩
  rw [← nI_add, show b + c - b = c by omega, Int32.add_comm, Int32.add_sub_cancel]
/-- side 0: the upper bound, side 1: the lower one -/
def bdS (n : Nat) (kd : Nat → Nat) (bb : Nat → Int) (ub lb : Nat → Option Int) (p s : Nat) : Option Int := if p < n then (if s = 0 then ub p else lb p) else if s = 0 then rub n kd bb p else rlb n kd bb p
theorem r_hasBound {p s : Nat} (h : mSh σ M) (hr : rrV σ M n m A kd bb wh dr) (hb : rbV σ M n ub lb) (hp : p < n + m) (hs : s < 2) : gp (X12_hasBound f (some M) (nI p) (nI s)) σ (fun y σ' => σ' = σ ∧ y = if bdS n kd bb ub lb p s = none then 0 else 1) := by
  obtain ⟨⟨a1, a2, a3, a4⟩, -, b2, -⟩ := hr
  unfold X12_hasBound X12_hasBound_b41 X12_hasBound_b46
  refine gp_rI (mh_me h) rfl ?_
  rw [a1]
  refine gp_if (fun z => ?_) (fun z => ?_)
  · rw [nI_leI (by omega) (by omega)] at z
    refine gp_rR (mh_me h) rfl ?_
    refine gp_rI (mh_me h) rfl ?_
    rw [a1, nI_subN z]
    refine gp_aI (j := p - n) (mh_2 h) (by decide) (by omega) (by omega) rfl ?_
    obtain ⟨c1, c2⟩ := b2 (p - n) (by omega)
    rw [c1]
    have e : bdS n kd bb ub lb p s = if s = 0 then rub n kd bb p else rlb n kd bb p := if_neg (by omega)
    rw [e]
    unfold rub rlb
    have hsv : s = 0 ∨ s = 1 := by omega
    have hkv : kd (p - n) = 0 ∨ kd (p - n) = 1 ∨ kd (p - n) = 2 := by omega
    rcases hkv with k | k | k <;> rcases hsv with q | q <;> rw [k, q]
    · exact gp_f (by decide) (gp_t (by decide) (gp_zz (Or.inr rfl) (gp_ret ⟨rfl, by simp⟩)))
    · exact gp_f (by decide) (gp_f (by decide) (gp_zz (Or.inl rfl) (gp_ret ⟨rfl, by simp⟩)))
    · exact gp_f (by decide) (gp_f (by decide) (gp_zz (Or.inl rfl) (gp_ret ⟨rfl, by simp⟩)))
    · exact gp_f (by decide) (gp_t (by decide) (gp_zz (Or.inr rfl) (gp_ret ⟨rfl, by simp⟩)))
    · exact gp_t (by decide) (gp_zz (Or.inr rfl) (gp_ret ⟨rfl, by simp⟩))
    · exact gp_t (by decide) (gp_zz (Or.inr rfl) (gp_ret ⟨rfl, by simp⟩))
  · rw [nI_leI (by omega) (by omega)] at z
    obtain ⟨c1, c2, -, -⟩ := hb p (by omega)
    refine gp_rR (mh_me h) rfl ?_
    rw [show (2 : Int32) = nI 2 from rfl, nI_mul, nI_add]
    refine gp_aI (j := 2 * p + s) (mh_6 h) (by decide) (by omega) (by omega) rfl ?_
    have e : bdS n kd bb ub lb p s = if s = 0 then ub p else lb p := if_pos (by omega)
    rw [e]
    have hsv : s = 0 ∨ s = 1 := by omega
    rcases hsv with q | q <;> rw [q]
    · rw [show 2 * p + 0 = 2 * p by omega, c1]
      by_cases w : ub p = none
      · rw [if_pos w]; exact gp_zz (Or.inl rfl) (gp_ret ⟨rfl, by simp [w]⟩)
      · rw [if_neg w]; exact gp_zz (Or.inr rfl) (gp_ret ⟨rfl, by simp [w]⟩)
    · rw [c2]
      by_cases w : lb p = none
      · rw [if_pos w]; exact gp_zz (Or.inl rfl) (gp_ret ⟨rfl, by simp [w]⟩)
      · rw [if_neg w]; exact gp_zz (Or.inr rfl) (gp_ret ⟨rfl, by simp [w]⟩)
/-- where a bound lies: in a place of its own, or new at the top -/
theorem r_bound {p s : Nat} {v : Int} (h : mSh σ M) (ht : tz_F σ M 35 = nI t) (ht2 : 447200 ≤ t) (hb5 : t + 10 ≤ 527200) (hr : rrV σ M n m A kd bb wh dr) (hb : rbV σ M n ub lb) (hp : p < n + m) (hs : s < 2) (hv : bdS n kd bb ub lb p s = some v) (hf : 2000 ≤ f) : gp (X12_bound f (some M) (nI p) (nI s)) σ (fun y σ' => Pq M t (t + 4) σ σ' ∧ ∃ x k t', y = nI x ∧ x + k < t' ∧ t ≤ t' ∧ t' ≤ t + 4 ∧ tz_F σ' M 35 = nI t' ∧ nV (tz_A σ' (M + 20)) x k v ∧ 10456 ≤ x) := by
  obtain ⟨⟨a1, a2, a3, a4⟩, -, -, b4, -⟩ := hr
  unfold X12_bound X12_bound_b32
  refine gp_rI (mh_me h) rfl ?_
  rw [a1]
  refine gp_if (fun z => ?_) (fun z => ?_)
  · rw [nI_leI (by omega) (by omega)] at z
    refine gp_rR (mh_me h) rfl ?_
    refine gp_rI (mh_me h) rfl ?_
    rw [a1, nI_subN z]
    refine gp_aI (j := p - n) (mh_3 h) (by decide) (by omega) (by omega) rfl ?_
    have e : v = bb (p - n) := by
      unfold bdS at hv
      rw [if_neg (by omega)] at hv
      unfold rub rlb at hv
      by_cases q : s = 0
      · rw [if_pos q] at hv
        by_cases w : kd (p - n) = 1
        · rw [if_pos w] at hv; cases hv
        · rw [if_neg w] at hv; cases hv; rfl
      · rw [if_neg q] at hv
        by_cases w : kd (p - n) = 0
        · rw [if_pos w] at hv; cases hv
        · rw [if_neg w] at hv; cases hv; rfl
    have e2 : (Int32.toInt64 (tz_A σ (M + 3) (p - n))).toInt = v := by rw [Int32.toInt_toInt64, b4 _ (by omega), e]
    have b1 := az_lo32 (tz_A σ (M + 3) (p - n))
    refine gp_cV (mh_me h) (gp_mono (r_plainOf h ht (by rw [Int32.toInt_toInt64]; omega) (by omega) hf) ?_)
    rintro _ σ1 ⟨rfl, hP, k, hk, h35, hv1⟩
    rw [e2] at hv1
    exact gp_ret ⟨hP, t, k, t + k + 1, rfl, by omega, by omega, by omega, h35, hv1, by omega⟩
  · rw [nI_leI (by omega) (by omega)] at z
    obtain ⟨-, -, c3, c4⟩ := hb p (by omega)
    unfold X12_boundAt
    refine gp_cB (gp_ret ?_)
    have e3 : (10456 : Int32) + 300 * (2 * nI p + nI s) = nI (10456 + 300 * (2 * p + s)) := by
      rw [show (2 : Int32) = nI 2 from rfl, nI_mul, nI_add, show (300 : Int32) = nI 300 from rfl, nI_mul, show (10456 : Int32) = nI 10456 from rfl, nI_add]
    rw [e3]
    unfold bdS at hv
    rw [if_pos (by omega)] at hv
    have hpp : nP σ M (10456 + 300 * (2 * p + s)) v := by
      by_cases q : s = 0
      · rw [if_pos q] at hv
        rw [q]; exact c3 v hv
      · rw [if_neg q] at hv
        rw [show s = 1 by omega]; exact c4 v hv
    obtain ⟨k, k1, k2⟩ := hpp
    exact gp_ret ⟨Pq_refl, _, k, t, rfl, by omega, Nat.le_refl _, by omega, ht, k1, by omega⟩
end RM
