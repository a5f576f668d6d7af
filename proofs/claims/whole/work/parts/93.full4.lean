/-! ===== digits, witnesses ===== -/
def dgt (a i : Nat) : Int := ((a / 1000000000 ^ i) % 1000000000 : Nat)
theorem mg_lt {d : Nat → Int} : ∀ {k : Nat}, (∀ j, j < k → 0 ≤ d j ∧ d j < 1000000000) → 0 ≤ mg d k ∧ mg d k < 1000000000 ^ k
  | 0, _ => ⟨Int.le_refl _, by show (0 : Int) < 1; decide⟩
  | k + 1, h => by
    obtain ⟨h1, h2⟩ := mg_lt (k := k) (fun j hj => h j (by omega))
    obtain ⟨h3, h4⟩ := h k (by omega)
    have hp := mg_pw k
    have h5 : 0 ≤ d k * 1000000000 ^ k := Int.mul_nonneg h3 (by omega)
    have h6 : d k * 1000000000 ^ k ≤ 999999999 * 1000000000 ^ k := Int.mul_le_mul_of_nonneg_right (by omega) (by omega)
    show 0 ≤ mg d k + d k * 1000000000 ^ k ∧ mg d k + d k * 1000000000 ^ k < 1000000000 ^ (k + 1)
    rw [mg_ps]
    omega
theorem mg_dig {d : Nat → Int} : ∀ {k : Nat}, (∀ j, j < k → 0 ≤ d j ∧ d j < 1000000000) → ∀ i, mg d k / 1000000000 ^ i % 1000000000 = if i < k then d i else 0
  | 0, _, i => by
    show (0 : Int) / _ % _ = _
    rw [Int.zero_ediv, if_neg (by omega)]
    rfl
  | k + 1, h, i => by
    have hk : ∀ j, j < k → 0 ≤ d j ∧ d j < 1000000000 := fun j hj => h j (by omega)
    have ih := mg_dig hk i
    obtain ⟨h1, h2⟩ := mg_lt hk
    obtain ⟨h3, h4⟩ := h k (by omega)
    have hpk := mg_pw k
    have hpi := mg_pw i
    show (mg d k + d k * 1000000000 ^ k) / 1000000000 ^ i % 1000000000 = _
    by_cases z : i < k
    · obtain ⟨t, ht⟩ : ∃ t, k = i + 1 + t := ⟨k - i - 1, by omega⟩
      have e : (1000000000 : Int) ^ k = 1000000000 ^ i * (1000000000 * 1000000000 ^ t) := by
        rw [ht, Int.pow_add, Int.pow_add]
        grind
      have e2 : d k * 1000000000 ^ k = 1000000000 ^ i * (1000000000 * (d k * 1000000000 ^ t)) := by rw [e]; grind
      rw [e2, Int.add_mul_ediv_left _ _ (by omega), Int.add_mul_emod_self_left, ih, if_pos z, if_pos (by omega)]
    · by_cases y : i = k
      · subst y
        rw [Int.add_mul_ediv_right _ _ (by omega), Int.ediv_eq_zero_of_lt h1 h2, if_pos (by omega), Int.zero_add]
        exact Int.emod_eq_of_lt h3 h4
      · rw [if_neg (by omega)]
        have hlt := (mg_lt (k := k + 1) h).2
        have hge := (mg_lt (k := k + 1) h).1
        have hm := mg_pmono (show k + 1 ≤ i by omega)
        have e3 : (mg d k + d k * 1000000000 ^ k) / 1000000000 ^ i = 0 := Int.ediv_eq_zero_of_lt hge (Int.lt_of_lt_of_le hlt hm)
        rw [e3]
        rfl
theorem dgt_big {σ : tz_S} {a b n k : Nat} {v : Int} (h : BigV σ a b n k v) (i : Nat) : dgt v.natAbs i = if i < k then dI (tz_A σ b) i else 0 := by
  have hab := BigV_abs h
  obtain ⟨-, -, -, h1, -⟩ := h
  rw [← mg_dig h1 i, ← hab]
  unfold dgt
  rw [Int.natCast_emod, Int.natCast_ediv, Int.natCast_pow]
  rfl
def mDig (s k : Int32) : zF → Int32
  | (_, _, _, _, hd, ah) => if (0 ≤ s.toInt ∧ s.toInt ≤ 1) ∧ 0 ≤ k.toInt ∧ ah = true then Int32.ofInt (dgt (if s.toInt = 0 then hd.1 else hd.2).natAbs k.toInt.toNat) else -1
def isGv (a b : Int32) : Prop := (-1000000000 ≤ a.toInt ∧ a.toInt ≤ 1000000000) ∧ 1 ≤ b.toInt ∧ b.toInt ≤ 1000000000
def mSeW (x a b : Int32) : zF → zF × Int32
  | ((n, m, A, kd, bb, wh, dr), Z, wp, wq, hd, ah) => if (0 ≤ x.toInt ∧ x.toInt < n) ∧ (-1000000000 ≤ a.toInt ∧ a.toInt ≤ 1000000000) ∧ 1 ≤ b.toInt ∧ b.toInt ≤ 1000000000 then (((n, m, A, kd, bb, wh, dr), Z, ups wp x.toInt.toNat (a.toInt, b.toInt), ups wq x.toInt.toNat (a.toInt, b.toInt), hd, ah), 0) else (((n, m, A, kd, bb, wh, dr), Z, wp, wq, hd, ah), -1)
/-- the value of a place, as a pair -/
def vaP (n m : Nat) (D : Int) (T : Nat → Nat → Int) (va : Nat → Int) (bs cl : Nat → Nat) (x : Nat) : Int × Int := match ix bs x m with
  | some r => (amt n T va r, D)
  | none => match ix cl x n with
    | some c => (va c, 1)
    | none => (0, 1)
def mWit : zF → zF × Int32
  | ((n, m, A, kd, bb, wh, dr), ((D, T, va, bs, cl), tr, (st, sp, ex, cf, spl), mp, mq), wp, wq, hd, ah) => if st = 2 then (((n, m, A, kd, bb, wh, dr), ((D, T, va, bs, cl), tr, (st, sp, ex, cf, spl), mp, mq), (fun x => if x < n then vaP n m D T va bs cl x else wp x), (fun x => if x < n then rd (vaP n m D T va bs cl x).1 (vaP n m D T va bs cl x).2 else wq x), hd, ah), 0) else (((n, m, A, kd, bb, wh, dr), ((D, T, va, bs, cl), tr, (st, sp, ex, cf, spl), mp, mq), wp, wq, hd, ah), -1)
def mJuW : zF → Int32
  | ((n, m, A, kd, bb, wh, _), _, wp, _, _, _) => if n = 0 then -1 else (match fst1 (brR n A kd bb wp) m with
    | some r => nI (1 + r)
    | none => match fst1 (brV wh wp) n with
      | some x => nI (100 + x)
      | none => 0)
section M6
variable {P : Nat → Prop} {σ σ1 : tz_S} {f o N n m q K lc st sp ex cf spl : Nat} {A T : Nat → Nat → Int} {kd : Nat → Nat} {bb dr : Nat → Int} {wh : Nat → Bool} {D : Int} {va : Nat → Int} {bs cl : Nat → Nat} {tr : zTr} {mp mq : Nat → Nat → Int × Int} {wp wq : Nat → Int × Int} {hd : Int × Int} {ah : Bool} {Z : zS} {F : zF}
theorem i32_of {x : Int32} {v : Int} (h : x.toInt = v) : x = Int32.ofInt v := by rw [← h, Int32.ofInt_toInt]
theorem c_digits {s k : Int32} (h : clV σ o q N ((n, m, A, kd, bb, wh, dr), Z, wp, wq, hd, ah)) : gp (X11_digits f (some o) s k) σ (fun y σ' => σ' = σ ∧ y = mDig s k ((n, m, A, kd, bb, wh, dr), Z, wp, wq, hd, ah)) := by
  obtain ⟨hsl, -, -, hh, h9⟩ := clV_un h
  obtain ⟨hc, hw, hs⟩ := slV_cs hsl
  unfold X11_digits X11_digits_b20 X11_digits_b51
  unfold mDig
  simp only
  refine gp_if (fun z => ?_) (fun z => ?_)
  · rw [i32_lt0] at z
    rw [if_neg (by omega)]
    exact gp_ret ⟨rfl, rfl⟩
  rw [i32_lt0] at z
  refine gp_if (fun y => ?_) (fun y => ?_)
  · have y' : 1 < s.toInt := (i32_c 1 s).1.1 y
    rw [if_neg (by omega)]
    exact gp_ret ⟨rfl, rfl⟩
  have y' : ¬ 1 < s.toInt := fun w => y ((i32_c 1 s).1.2 w)
  refine gp_if (fun x => ?_) (fun x => ?_)
  · rw [i32_lt0] at x
    rw [if_neg (by omega)]
    exact gp_ret ⟨rfl, rfl⟩
  rw [i32_lt0] at x
  refine gp_rI (cs_me hc) rfl ?_
  rw [h9]
  cases ah with
  | false =>
    refine gp_t (by simp) ?_
    rw [if_neg (by simp)]
    exact gp_ret ⟨rfl, rfl⟩
  | true =>
    refine gp_f (by simp) ?_
    rw [if_pos ⟨by omega, by omega, rfl⟩]
    obtain ⟨kk, hk, hk31, hk2⟩ := i32_nat (show 0 ≤ k.toInt by omega)
    have hcl : k.toNatClampNeg = kk := by rw [hk]; exact nI_clamp hk31
    have lim : ∀ (a b nb c : Nat) (v : Int), BigV σ a b nb c v → ∀ r : Int32, r = (if 0 ≤ k.toInt ∧ k.toInt < c then tz_A σ b k.toNatClampNeg else 0) → r = Int32.ofInt (dgt v.natAbs k.toInt.toNat) := by
      intro a b nb c v hb r hr
      refine i32_of ?_
      rw [hr, dgt_big hb, show k.toInt.toNat = kk by omega, hcl]
      by_cases w : kk < c
      · rw [if_pos (by omega), if_pos w]
      · rw [if_neg (by omega), if_neg w]; rfl
    refine gp_if (fun w => ?_) (fun w => ?_)
    · have w' : s.toInt = 0 := by rw [w]; rfl
      rw [if_pos w']
      refine gp_rR (cs_me hc) rfl ?_
      refine gp_rR hh.1 rfl ?_
      obtain ⟨c, hb⟩ := hh.2.1
      refine gp_cV hb.1.1 (gp_mono (c_limbAt hb k) ?_)
      rintro r σ0 ⟨e0, hr⟩
      rw [e0]
      exact gp_ret ⟨rfl, lim _ _ _ _ _ hb r hr⟩
    · have w' : ¬ s.toInt = 0 := fun e => w (by rw [← Int32.toInt_inj]; exact e)
      rw [if_neg w']
      refine gp_rR (cs_me hc) rfl ?_
      refine gp_rR hh.1 rfl ?_
      obtain ⟨c, hb⟩ := hh.2.2
      refine gp_cV hb.1.1 (gp_mono (c_limbAt hb k) ?_)
      rintro r σ0 ⟨e0, hr⟩
      rw [e0]
      exact gp_ret ⟨rfl, lim _ _ _ _ _ hb r hr⟩
theorem c_isGiven {a b : Int32} : gp (X11_isGiven f a b) σ (fun y σ' => σ' = σ ∧ y = if (-1000000000 ≤ a.toInt ∧ a.toInt ≤ 1000000000) ∧ 1 ≤ b.toInt ∧ b.toInt ≤ 1000000000 then 1 else 0) := by
  unfold X11_isGiven X11_isGiven_b27 X11_isGiven_b28
  refine gp_if (fun z => ?_) (fun z => ?_)
  · have z' : a.toInt < -1000000000 := (i32_c a (-1000000000)).1.1 z
    rw [if_neg (by omega)]
    exact gp_zz (Or.inl rfl) (gp_ret ⟨rfl, rfl⟩)
  have z' : ¬ a.toInt < -1000000000 := fun w => z ((i32_c a (-1000000000)).1.2 w)
  refine gp_if (fun y => ?_) (fun y => ?_)
  · have y' : 1000000000 < a.toInt := (i32_c 1000000000 a).1.1 y
    rw [if_neg (by omega)]
    exact gp_zz (Or.inl rfl) (gp_ret ⟨rfl, rfl⟩)
  have y' : ¬ 1000000000 < a.toInt := fun w => y ((i32_c 1000000000 a).1.2 w)
  refine gp_if (fun x => ?_) (fun x => ?_)
  · have x' : b.toInt < 1 := (i32_c b 1).1.1 x
    rw [if_neg (by omega)]
    exact gp_zz (Or.inl rfl) (gp_ret ⟨rfl, rfl⟩)
  have x' : ¬ b.toInt < 1 := fun w => x ((i32_c b 1).1.2 w)
  refine gp_if (fun v => ?_) (fun v => ?_)
  · have v' : 1000000000 < b.toInt := (i32_c 1000000000 b).1.1 v
    rw [if_neg (by omega)]
    exact gp_zz (Or.inl rfl) (gp_ret ⟨rfl, rfl⟩)
  have v' : ¬ 1000000000 < b.toInt := fun w => v ((i32_c 1000000000 b).1.2 w)
  rw [if_pos (by omega)]
  exact gp_zz (Or.inr rfl) (gp_ret ⟨rfl, rfl⟩)
theorem clW_wp {x : Nat} {v : Int × Int} (h : clW σ o N wp hd ah) (hx : x < 10) (hF : Fr P σ σ1) (hP : ∀ y, P y → o + 347 + 5 * x ≤ y ∧ y ≤ o + 351 + 5 * x) (h2 : Fz σ1 (o + 347 + 5 * x) 12 v.1 v.2) : clW σ1 o N (ups wp x v) hd ah := by
  obtain ⟨a, b, c, d⟩ := h
  refine ⟨smOk_fr a hF (fun z => by have := hP _ z; omega) (fun z => by have := hP _ z; omega), fun y hy => ?_, Fz_fr c hF (fun y e1 e2 z => by have := hP _ z; omega), by rw [Fr_F hF (fun z => by have := hP _ z; omega)]; exact d⟩
  by_cases e : y = x
  · rw [e, ups_s]; exact h2
  · rw [ups_n _ _ e]
    exact Fz_fr (b y hy) hF (fun w e1 e2 z => by have := hP _ z; omega)
theorem i64_s {a : Int32} (h : -1000000000 ≤ a.toInt ∧ a.toInt ≤ 1000000000) {k : Nat} (hk : 2 ≤ k) : ((Int32.toInt64 a).toInt.natAbs : Int) < 1000000000 ^ k := by
  rw [Int32.toInt_toInt64]
  have := mg_pmono hk
  have e : (1000000000 : Int) ^ 2 = 1000000000000000000 := by decide
  omega
theorem c_setWitness {x a b : Int32} (h : clV σ o q N ((n, m, A, kd, bb, wh, dr), Z, wp, wq, hd, ah)) (hf : 2000 ≤ f) : gp (X11_setWitness f (some o) x a b) σ (cPo σ o q N (mSeW x a b ((n, m, A, kd, bb, wh, dr), Z, wp, wq, hd, ah)).1 (mSeW x a b ((n, m, A, kd, bb, wh, dr), Z, wp, wq, hd, ah)).2) := by
  obtain ⟨hsl, hW⟩ := clV_un h
  obtain ⟨hc, hw, hs⟩ := slV_cs hsl
  have hn := hw.1.2.2.1
  have bad : ¬ ((0 ≤ x.toInt ∧ x.toInt < n) ∧ (-1000000000 ≤ a.toInt ∧ a.toInt ≤ 1000000000) ∧ 1 ≤ b.toInt ∧ b.toInt ≤ 1000000000) → gp (X11_setWitness_b28 f) σ (cPo σ o q N (mSeW x a b ((n, m, A, kd, bb, wh, dr), Z, wp, wq, hd, ah)).1 (mSeW x a b ((n, m, A, kd, bb, wh, dr), Z, wp, wq, hd, ah)).2) := by
    intro w
    have e : mSeW x a b ((n, m, A, kd, bb, wh, dr), Z, wp, wq, hd, ah) = (((n, m, A, kd, bb, wh, dr), Z, wp, wq, hd, ah), -1) := if_neg w
    rw [e]
    exact gp_ret (cPo_0 h rfl)
  unfold X11_setWitness
  refine gp_rR (cs_me hc) rfl ?_
  refine gp_cV (cs_rows hc) (gp_mono (c_hasVariable hc hw) ?_)
  rintro y σ0 ⟨z0, hy⟩
  rw [z0]
  clear z0 σ0
  refine gp_if (fun z => ?_) (fun z => ?_)
  · exact bad (fun w => ite0 hy z w.1)
  have hx := ite1 hy z
  obtain ⟨k, hk, hk31, hk2⟩ := i32_nat hx.1
  refine gp_rR (cs_me hc) rfl ?_
  refine gp_len (cs_wits hc) ?_
  refine gp_f (by rw [hk, nI_leI (by omega) (by omega)]; omega) ?_
  refine gp_cB (gp_mono c_isGiven ?_)
  rintro y2 σ0 ⟨z0, hy2⟩
  rw [z0]
  clear z0 σ0
  refine gp_if (fun z => ?_) (fun z => ?_)
  · exact bad (fun w => ite0 hy2 z w.2)
  have hg := ite1 hy2 z
  clear bad
  have e : mSeW x a b ((n, m, A, kd, bb, wh, dr), Z, wp, wq, hd, ah) = (((n, m, A, kd, bb, wh, dr), Z, ups wp x.toInt.toNat (a.toInt, b.toInt), ups wq x.toInt.toNat (a.toInt, b.toInt), hd, ah), 0) := if_pos ⟨hx, hg⟩
  rw [e, show x.toInt.toNat = k by omega, hk]
  obtain ⟨w1, w2⟩ := cs_wit hc k (by omega)
  refine gp_rR (cs_me hc) rfl ?_
  refine gp_aR (j := k) (cs_wits hc) (by decide) (by omega) (by omega) rfl ?_
  rw [w2]
  refine gp_cV w1.1 (gp_mono (c_setSmall w1 hf (i64_s hg.1 (by omega)) (i64_s (a := b) (by omega) (by omega))) ?_)
  rintro _ σ1 ⟨hF, hz⟩
  rw [Int32.toInt_toInt64, Int32.toInt_toInt64] at hz
  exact gp_ret (cPo_fr hF (fun x z => by unfold fP at z; unfold clP; omega) (clV_mk (slV_fr hsl hF (fun x z => by unfold fP at z; omega)) (clW_wp hW (by omega) hF (fun y z => by unfold fP at z; omega) hz)) rfl)
theorem okF_setWitness {x a b : Int32} (h : okF ((n, m, A, kd, bb, wh, dr), Z, wp, wq, hd, ah)) : okF (mSeW x a b ((n, m, A, kd, bb, wh, dr), Z, wp, wq, hd, ah)).1 := by
  obtain ⟨h1, h2, h3⟩ := okF_un h
  unfold mSeW
  simp only
  by_cases z : (0 ≤ x.toInt ∧ x.toInt < n) ∧ (-1000000000 ≤ a.toInt ∧ a.toInt ≤ 1000000000) ∧ 1 ≤ b.toInt ∧ b.toInt ≤ 1000000000
  · rw [if_pos z]
    refine okF_mk h1 h2 (fun y hy => ?_)
    by_cases e : y = x.toInt.toNat
    · rw [e, ups_s, ups_s]
      have e9 : (1000000000 : Nat) ≤ 10 ^ 10 := by decide
      refine ⟨by show 0 < b.toInt; omega, p10_m (i := 10) (by show b.toInt.natAbs ≤ _; omega) (by omega), p10_m (i := 10) (by show a.toInt.natAbs ≤ _; omega) (by omega), by show 0 < b.toInt; omega, rfl, Nat.le_refl _, Int.le_refl _⟩
    · rw [ups_n _ _ e, ups_n _ _ e]; exact h3 y hy
  · rw [if_neg z]; exact h
set_option maxHeartbeats 1000000 in
theorem c_witness (h : clV σ o q N ((n, m, A, kd, bb, wh, dr), ((D, T, va, bs, cl), tr, (st, sp, ex, cf, spl), mp, mq), wp, wq, hd, ah)) (ho : okF ((n, m, A, kd, bb, wh, dr), ((D, T, va, bs, cl), tr, (st, sp, ex, cf, spl), mp, mq), wp, wq, hd, ah)) (hf : 2000 ≤ f) : gp (X11_witness f (some o)) σ (cPo σ o q N (mWit ((n, m, A, kd, bb, wh, dr), ((D, T, va, bs, cl), tr, (st, sp, ex, cf, spl), mp, mq), wp, wq, hd, ah)).1 (mWit ((n, m, A, kd, bb, wh, dr), ((D, T, va, bs, cl), tr, (st, sp, ex, cf, spl), mp, mq), wp, wq, hd, ah)).2) := by
  obtain ⟨K, lc, up, fi, se, vr, fo, to, cd, ln, op⟩ := tr
  obtain ⟨hsl, hW⟩ := clV_un h
  obtain ⟨hr, hz, -⟩ := okF_un ho
  obtain ⟨hc, hw, hs, ht, hct, hlf, htb, hbn⟩ := slV_un hsl
  obtain ⟨⟨z1, -, -⟩, z4, -⟩ := zI_un hz
  have hn := hw.1.2.2.1
  unfold X11_witness
  unfold mWit
  simp only
  refine gp_rR (cs_me hc) rfl ?_
  refine gp_rI (cs_solv hc) rfl ?_
  rw [hct.1]
  refine gp_if (fun z => ?_) (fun z => ?_)
  rotate_left
  · rw [show (2 : Int32) = nI 2 from rfl, nI_eq (by omega) (by omega)] at z
    rw [if_neg z]
    exact gp_ret (cPo_0 h rfl)
  rw [show (2 : Int32) = nI 2 from rfl, nI_eq (by omega) (by omega)] at z
  rw [if_pos z]
  subst z
  have ht1 := htb (by decide)
  obtain ⟨-, hI, hpm, hva, -⟩ := z4 (by decide)
  clear htb z4 hbn
  unfold X11_witness_L15
  refine gp_loop (I := fun (τ : Int32) (σ' : tz_S) => ∃ i, τ = nI i ∧ i ≤ n ∧ Fr (fun x => o + 347 ≤ x ∧ x ≤ o + 396) σ σ' ∧ clW σ' o N (fun x => if x < i then vaP n m D T va bs cl x else wp x) hd ah) (fun τ _ => 100 - τ.toNatClampNeg) ?_ f _ _ ⟨0, rfl, Nat.zero_le _, Fr_refl, by simpa using hW⟩ (by omega)
  rintro K1 l1 σ1 ⟨i, rfl, hi, hF, hW1⟩ hK
  show gp (X11_witness_L15_body f (some o) (fun l1 => K1 l1) (nI i)) σ1 _
  unfold X11_witness_L15_body X11_witness_b55
  have hc1 := cs_fr hc hF
  have hw1 := rwV_fr hw hF (fun x a b => by omega)
  have ht2 := tbV_fr ht1 hF (fun x a b => by omega) (fun x a b => by omega)
  refine gp_rR (cs_me hc1) rfl ?_
  refine gp_rI (cs_rows hc1) rfl ?_
  rw [hw1.1.1]
  refine gp_if (fun y => ?_) (fun y => ?_)
  · rw [nI_leI (by omega) (by omega)] at y
    have hin : i = n := by omega
    subst hin
    exact gp_ret (cPo_fr hF (fun x z => by unfold clP; omega) (clV_mk (slV_fr hsl hF (fun x z => by omega)) hW1) rfl)
  rw [nI_leI (by omega) (by omega)] at y
  have hin : i < n := by omega
  refine gp_rR (cs_me hc1) rfl ?_
  refine gp_len (cs_wits hc1) ?_
  refine gp_f (by rw [nI_leI (by omega) (by omega)]; omega) ?_
  refine gp_rR (cs_me hc1) rfl ?_
  refine gp_rR (cs_me hc1) rfl ?_
  refine gp_aR (j := i) (cs_wits hc1) (by decide) (by omega) (by omega) rfl ?_
  obtain ⟨w1, w2⟩ := cs_wit hc1 i (by omega)
  rw [w2]
  have hcp : gp (X9_copyValue f (some (o + 32)) (nI i) (some (o + 347 + 5 * i))) σ1 (fun _ σ' => Fr (fP (o + 347 + 5 * i)) σ1 σ' ∧ Fz σ' (o + 347 + 5 * i) 12 (vaP n m D T va bs cl i).1 (vaP n m D T va bs cl i).2) := by
    rcases hpm.2.2.2.2.2 i (by omega) with ⟨r, hrm, hbr⟩ | ⟨c, hcn, hcc⟩
    · have e : vaP n m D T va bs cl i = (amt n T va r, D) := by unfold vaP; rw [← hbr, tb_ixR ht2 hrm]
      rw [e, ← hbr]
      have := c_copyValueR (f := f) (t := o + 347 + 5 * bs r) hc1 ht2 hf hrm (by rw [hbr]; exact w1) (by omega)
      exact this
    · have hvc := hva c hcn
      have e : vaP n m D T va bs cl i = (va c, 1) := by unfold vaP; rw [← hcc, tb_ixRn ht2 hcn]; simp only; rw [tb_ixC ht2 hcn]
      rw [e, ← hcc]
      exact c_copyValueC (f := f) (t := o + 347 + 5 * cl c) hc1 ht2 hf hcn (by rw [hcc]; exact w1) (by omega)
  refine gp_cV (cs_tab hc1) (gp_mono hcp ?_)
  rintro _ σ2 ⟨hF2, hz2⟩
  refine gp_let ?_
  rw [nI_1]
  refine hK _ _ ⟨i + 1, rfl, by omega, Fr_trans hF (Fr_mono hF2 (fun x z => by unfold fP at z; omega)), ?_⟩ (by rw [nI_clamp (by omega), nI_clamp (by omega)]; omega)
  have hW2 := clW_wp hW1 (show i < 10 by omega) hF2 (fun y z => by unfold fP at z; omega) hz2
  have e : ups (fun x => if x < i then vaP n m D T va bs cl x else wp x) i (vaP n m D T va bs cl i) = fun x => if x < i + 1 then vaP n m D T va bs cl x else wp x := funext fun x => by
    by_cases v : x = i
    · rw [v, ups_s, if_pos (by omega)]
    · rw [ups_n _ _ v]
      by_cases u : x < i
      · rw [if_pos u, if_pos (by omega)]
      · rw [if_neg u, if_neg (by omega)]
  rw [← e]
  exact hW2
theorem okF_witness (h : okF ((n, m, A, kd, bb, wh, dr), ((D, T, va, bs, cl), tr, (st, sp, ex, cf, spl), mp, mq), wp, wq, hd, ah)) : okF (mWit ((n, m, A, kd, bb, wh, dr), ((D, T, va, bs, cl), tr, (st, sp, ex, cf, spl), mp, mq), wp, wq, hd, ah)).1 := by
  obtain ⟨K, lc, up, fi, se, vr, fo, to, cd, ln, op⟩ := tr
  obtain ⟨h1, h2, h3⟩ := okF_un h
  unfold mWit
  simp only
  by_cases z : st = 2
  · rw [if_pos z]
    refine okF_mk h1 h2 (fun x hx => ?_)
    obtain ⟨-, z4, -⟩ := zI_un h2
    obtain ⟨-, hI, hpm, hva, -⟩ := z4 (by omega)
    show wvI (if x < n then _ else _) (if x < n then _ else _)
    by_cases y : x < n
    · rw [if_pos y, if_pos y]
      have hv : 0 < (vaP n m D T va bs cl x).2 ∧ (vaP n m D T va bs cl x).2.natAbs ≤ 10 ^ 70 ∧ (vaP n m D T va bs cl x).1.natAbs ≤ 10 ^ 90 := by
        unfold vaP
        cases hb : ix bs x m with
        | some r =>
          obtain ⟨hrm, -⟩ := ix_some hb
          have a1 := tb_D hI hpm h1.1.1 (rw_A h1)
          rw [e70] at a1
          exact ⟨hI.1, a1, Nat.le_of_lt (am_le hI hpm h1.1.1 (rw_A h1) hva hrm)⟩
        | none =>
          simp only
          cases hc : ix cl x n with
          | some c =>
            obtain ⟨hcn, -⟩ := ix_some hc
            have := hva c hcn
            have e9 : (1000000000000000001 : Nat) ≤ 10 ^ 19 := by decide
            exact ⟨by show (0 : Int) < 1; decide, by show (1 : Int).natAbs ≤ 10 ^ 70; decide, p10_m (i := 19) (by show (va c).natAbs ≤ _; omega) (by omega)⟩
          | none => exact ⟨by show (0 : Int) < 1; decide, by show (1 : Int).natAbs ≤ 10 ^ 70; decide, by show (0 : Int).natAbs ≤ 10 ^ 90; decide⟩
      obtain ⟨v1, v2, v3⟩ := hv
      obtain ⟨a, b, c, d, -⟩ := rd_ok (p := (vaP n m D T va bs cl x).1) v1
      exact ⟨v1, v2, v3, a, b, c, d⟩
    · rw [if_neg y, if_neg y]; exact h3 x hx
  · rw [if_neg z]; exact h
theorem c_judgeWitness (h : clV σ o q N ((n, m, A, kd, bb, wh, dr), Z, wp, wq, hd, ah)) (ho : okF ((n, m, A, kd, bb, wh, dr), Z, wp, wq, hd, ah)) (hf : 2000 ≤ f) : gp (X11_judgeWitness f (some o)) σ (cPo σ o q N ((n, m, A, kd, bb, wh, dr), Z, wp, wq, hd, ah) (mJuW ((n, m, A, kd, bb, wh, dr), Z, wp, wq, hd, ah))) := by
  obtain ⟨hsl, hW⟩ := clV_un h
  obtain ⟨hr, hz, hwv⟩ := okF_un ho
  obtain ⟨hc, hw, hs⟩ := slV_cs hsl
  have hn := hw.1.2.2.1
  have hm := hw.1.2.2.2
  unfold X11_judgeWitness X11_judgeWitness_b56
  unfold mJuW
  simp only
  refine gp_rR (cs_me hc) rfl ?_
  refine gp_rI (cs_rows hc) rfl ?_
  rw [hw.1.1]
  refine gp_if (fun z => ?_) (fun z => ?_)
  · rw [show (0 : Int32) = nI 0 from rfl, nI_eq (by omega) (by omega)] at z
    rw [if_pos z]
    exact gp_ret (cPo_0 h rfl)
  rw [show (0 : Int32) = nI 0 from rfl, nI_eq (by omega) (by omega)] at z
  rw [if_neg z]
  refine gp_rR (cs_me hc) rfl ?_
  refine gp_rR (cs_me hc) rfl ?_
  have hps : psV σ o (o + 341) 10 12 (fun x => o + 347 + 5 * x) wp := ⟨cs_wits hc, fun i hi => ⟨(cs_wit hc i hi).2, hW.2.1 i hi, by show o + 340 < o + 347 + 5 * i; omega⟩⟩
  have hwk : wiK wp := fun x hx => ⟨(hwv x hx).1, (hwv x hx).2.1, (hwv x hx).2.2.1⟩
  refine gp_cV (cs_judge hc) (gp_mono (c_firstBrokenRow hc hr hw hs hW.1 hps hwk hf) ?_)
  rintro y σ1 ⟨hF, hs1, hO1, rfl⟩
  have hc1 := cs_fr hc hF
  have keep : ∀ σ2, Fr (jP o) σ σ2 → smOk σ2 (o + 30) N → smOk σ2 (o + 329) N → clV σ2 o q N ((n, m, A, kd, bb, wh, dr), Z, wp, wq, hd, ah) := by
    intro σ2 g1 g2 g3
    obtain ⟨⟨D, T, va, bs, cl⟩, ⟨K, lc, up, fi, se, vr, fo, to, cd, ln, op⟩, ⟨st, sp, ex, cf, spl⟩, mp, mq⟩ := Z
    obtain ⟨-, -, -, ht, hct, hlf, htb, hbn⟩ := slV_un hsl
    refine clV_mk (slV_mk (cs_fr hc g1) (rwV_fr hw g1 (fun x a b => by unfold jP; omega)) g2 (trV_fr ht g1 (fun x a b => by unfold jP; omega)) (ctV_fr hct g1 (by unfold jP; omega)) (fun i hi => lfV_fr (hlf i hi) g1 (fun x a b => by unfold jP; unfold lfA at a; omega)) (fun z => tbV_fr (htb z) g1 (fun x a b => by unfold jP; omega) (fun x a b => by unfold jP; omega)) (fun z k e => bnA_fr (hbn z k e) g1 (fun x a b => by unfold jP; omega))) ?_
    obtain ⟨-, b, c, d⟩ := hW
    exact ⟨g3, fun x hx => Fz_fr (b x hx) g1 (fun y e1 e2 => by unfold jP; omega), Fz_fr c g1 (fun y e1 e2 => by unfold jP; omega), by rw [Fr_F g1 (by unfold jP; omega)]; exact d⟩
  cases hb : fst1 (brR n A kd bb wp) m with
  | some r =>
    have hrm := (fst1_spec hb).1
    refine gp_f (nI_pos (by omega)) ?_
    refine gp_ret (cPo_fr hF (fun x z => by unfold jP at z; unfold clP; omega) (keep σ1 hF hs1 hO1) ?_)
    show 1 + nI r = nI (1 + r)
    rw [show (1 : Int32) = nI 1 from rfl, nI_add]
  | none =>
    refine gp_t (by decide) ?_
    refine gp_rR (cs_me hc1) rfl ?_
    refine gp_rR (cs_me hc1) rfl ?_
    refine gp_cV (cs_judge hc1) (gp_mono (c_firstBrokenVariable hc1 hr (rwV_fr hw hF (fun x a b => by unfold jP; omega)) (psV_fr hps hF (fun x hx => j_no hx)) hf) ?_)
    rintro y σ2 ⟨hF2, rfl⟩
    have hFa : Fr (jP o) σ σ2 := Fr_trans hF (Fr_mono hF2 (fun x z => by unfold divP at z; unfold jP; omega))
    have hk2 := keep σ2 hFa (smOk_fr hs1 hF2 (by unfold divP; omega) (by unfold divP; omega)) (smOk_fr hO1 hF2 (by unfold divP; omega) (by unfold divP; omega))
    cases hv : fst1 (brV wh wp) n with
    | some x =>
      have hxn := (fst1_spec hv).1
      refine gp_f (nI_pos (by omega)) ?_
      refine gp_ret (cPo_fr hFa (fun x z => by unfold jP at z; unfold clP; omega) hk2 ?_)
      show 100 + nI x = nI (100 + x)
      rw [show (100 : Int32) = nI 100 from rfl, nI_add]
    | none =>
      refine gp_t (by decide) ?_
      exact gp_ret (cPo_fr hFa (fun x z => by unfold jP at z; unfold clP; omega) hk2 rfl)
end M6
