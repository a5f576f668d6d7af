/-! ===== the state and its step ===== -/
abbrev zTb : Type := Int × (Nat → Nat → Int) × (Nat → Int) × (Nat → Nat) × (Nat → Nat)
abbrev zTr : Type := Nat × Nat × (Nat → Option Nat) × (Nat → Option Nat) × (Nat → Option Nat) × (Nat → Nat) × (Nat → Int) × (Nat → Int) × (Nat → Bool) × (Nat → Nat) × Option Nat
abbrev zCt : Type := Nat × Nat × Nat × Nat × Nat
abbrev zMp : Type := Nat → Nat → Int × Int
abbrev zS : Type := zTb × zTr × zCt × zMp × zMp
def UB (n : Nat) (kd : Nat → Nat) (bb : Nat → Int) (vr : Nat → Nat) (fo : Nat → Int) (up fi : Nat → Option Nat) (k p : Nat) : Option Int := if p < n then fU vr fo p (pt up fi k) none else rub n kd bb p
def LB (n : Nat) (kd : Nat → Nat) (bb : Nat → Int) (vr : Nat → Nat) (fo : Nat → Int) (up fi : Nat → Option Nat) (k p : Nat) : Option Int := if p < n then fL vr fo p (pt up fi k) none else rlb n kd bb p
def sdI (D a : Int) (l : Option Int) : Int := if isBelow D a l = true then -1 else 1
def bdI (s : Int) (u l : Option Int) : Int := if s < 0 then l.getD 0 else u.getD 0
def rd (p q : Int) : Int × Int := (p / (Int.gcd p q : Int), q / (Int.gcd p q : Int))
def clQ (n r : Nat) (T : Nat → Nat → Int) (D s : Int) (cl : Nat → Nat) : Nat → (Nat → Int × Int) → Nat → Int × Int
  | 0, mq => mq
  | c + 1, mq => if T r c = 0 then clQ n r T D s cl c mq else ups (clQ n r T D s cl c mq) (mix n (cl c) (wayI s (T r c))) (rd (T r c * (-s)) D)
def zEx (D : Int) (T : Nat → Nat → Int) (va : Nat → Int) (bs cl : Nat → Nat) (r c : Nat) (b : Int) : zTb := (T r c * (isg (T r c)).toInt, xT D T r c (isg (T r c)).toInt, ups va c b, (fun i => if i = r then cl c else bs i), fun j => if j = c then bs r else cl j)
def mvV (n : Nat) (cl : Nat → Nat) (va : Nat → Int) (x : Nat) (l : Option Int) : Nat → Int := match ix cl x n with
  | none => va
  | some c => if va c < l.getD 0 then ups va c (l.getD 0) else va
def mStep (n m : Nat) (kd : Nat → Nat) (bb : Nat → Int) (wh : Nat → Bool) : zS → zS
  | ((D, T, va, bs, cl), (K, lc, up, fi, se, vr, fo, to, cd, ln, op), (st, sp, ex, cf, spl), mp, mq) =>
    match op with
    | none => ((D, T, va, bs, cl), (K, lc, up, fi, se, vr, fo, to, cd, ln, none), (st, sp, ex, cf, spl), mp, mq)
    | some k =>
      match fst1 (isBey m D (amt n T va) bs (UB n kd bb vr fo up fi k) (LB n kd bb vr fo up fi k)) (n + m) with
      | some p =>
        match ix bs p m with
        | none => ((D, T, va, bs, cl), (K, lc, up, fi, se, vr, fo, to, cd, ln, some k), (st, sp, ex, cf, spl), mp, mq)
        | some r =>
          match fst1 (isEnt n T va cl (UB n kd bb vr fo up fi k) (LB n kd bb vr fo up fi k) r (sdI D (amt n T va r) (LB n kd bb vr fo up fi k p))) (n + m) with
          | some p2 =>
            match ix cl p2 n with
            | none => ((D, T, va, bs, cl), (K, lc, up, fi, se, vr, fo, to, cd, ln, some k), (st, sp, ex, cf, spl), mp, mq)
            | some c => (zEx D T va bs cl r c (bdI (sdI D (amt n T va r) (LB n kd bb vr fo up fi k p)) (UB n kd bb vr fo up fi k p) (LB n kd bb vr fo up fi k p)), (K, lc, up, fi, se, vr, fo, to, cd, ln, some k), (st, sp + 1, ex + 1, cf, spl), mp, mq)
          | none =>
            match lwt se (pt up fi k) with
            | none => ((D, T, va, bs, cl), (K, lc, up, fi, se, vr, fo, to, ups cd k true, ln, none), (3, sp + 1, ex, cf + 1, spl), ups mp (ln k) (clM n r T D (sdI D (amt n T va r) (LB n kd bb vr fo up fi k p)) cl n (ups (mp (ln k)) (mix n (bs r) (sdI D (amt n T va r) (LB n kd bb vr fo up fi k p))) (D * sdI D (amt n T va r) (LB n kd bb vr fo up fi k p), D))), ups mq (ln k) (clQ n r T D (sdI D (amt n T va r) (LB n kd bb vr fo up fi k p)) cl n (ups (mq (ln k)) (mix n (bs r) (sdI D (amt n T va r) (LB n kd bb vr fo up fi k p))) (sdI D (amt n T va r) (LB n kd bb vr fo up fi k p), 1))))
            | some s => ((D, T, mvV n cl va (vr s) (fL vr fo (vr s) ((s, false) :: pt up fi s) none), bs, cl), (K + 1, lc + 1, ups up K (some s), ups fi K none, (fun j => if j = K then none else if some s = some j then some K else se j), vr, fo, to, ups (ups cd k true) K false, ups ln K lc, some K), (st, sp + 1, ex, cf + 1, spl), ups (ups mp (ln k) (clM n r T D (sdI D (amt n T va r) (LB n kd bb vr fo up fi k p)) cl n (ups (mp (ln k)) (mix n (bs r) (sdI D (amt n T va r) (LB n kd bb vr fo up fi k p))) (D * sdI D (amt n T va r) (LB n kd bb vr fo up fi k p), D)))) lc (fun _ => (0, 1)), ups (ups mq (ln k) (clQ n r T D (sdI D (amt n T va r) (LB n kd bb vr fo up fi k p)) cl n (ups (mq (ln k)) (mix n (bs r) (sdI D (amt n T va r) (LB n kd bb vr fo up fi k p))) (sdI D (amt n T va r) (LB n kd bb vr fo up fi k p), 1)))) lc (fun _ => (0, 1)))
      | none =>
        match fst1 (isBrk m D (amt n T va) bs wh) n with
        | none => ((D, T, va, bs, cl), (K, lc, up, fi, se, vr, fo, to, cd, ln, some k), (2, sp + 1, ex, cf, spl), mp, mq)
        | some x =>
          match ix bs x m with
          | none => ((D, T, va, bs, cl), (K, lc, up, fi, se, vr, fo, to, cd, ln, some k), (st, sp, ex, cf, spl), mp, mq)
          | some r =>
            if (1000000000000000000 < flr (amt n T va r) D ∨ flr (amt n T va r) D < -1000000000000000000) ∨ 150 ≤ spl ∨ 24 ≤ (pt up fi k).length then ((D, T, va, bs, cl), (K, lc, up, fi, se, vr, fo, to, cd, ln, some k), (4, sp + 1, ex, cf, spl), mp, mq)
            else ((D, T, va, bs, cl), (K + 1, lc, ups up K (some k), ups (ups fi k (some K)) K none, ups se K none, ups vr k x, ups fo k (flr (amt n T va r) D), ups to k (flr (amt n T va r) D), ups cd K false, ups ln K (ln k), some K), (st, sp + 1, ex, cf, spl + 1), ups mp (ln k) (fun _ => (0, 1)), ups mq (ln k) (fun _ => (0, 1)))
/-! ===== what holds in every state ===== -/
def nbI (n : Nat) (cl : Nat → Nat) (va : Nat → Int) (ub lb : Nat → Option Int) : Prop := ∀ c, c < n → (∀ v, oU (ub (cl c)) v → va c ≤ v) ∧ ∀ v, oL (lb (cl c)) v → v ≤ va c
def wt (x : Int × Int) : Nat := if x.2 ≤ 1000000000 then 9 else 70
def wS : Nat → (Nat → Int × Int) → Nat
  | 0, _ => 0
  | j + 1, f => wS j f + wt (f j)
def mvI (x y : Int × Int) : Prop := 0 < x.2 ∧ 0 < y.2 ∧ x.1 * y.2 = y.1 * x.2 ∧ y.1.natAbs ≤ x.1.natAbs ∧ y.2 ≤ x.2 ∧ x.1.natAbs ≤ 10000000 ^ 10 ∧ x.2 ≤ ((10000000 ^ 10 : Nat) : Int)
def lfI (f g : Nat → Int × Int) : Prop := (∀ j, j < 32 → mvI (f j) (g j)) ∧ wS 32 f ≤ 959
def lfS (f : Nat → Int × Int) : Prop := ∀ j, j < 32 → (f j).2 ≤ 1000000000
def rwI (n m : Nat) (A : Nat → Nat → Int) (kd : Nat → Nat) (bb dr : Nat → Int) : Prop := (n ≤ 10 ∧ m ≤ 12) ∧ (∀ r x, r < m → x < 10 → -1000000 ≤ A r x ∧ A r x ≤ 1000000) ∧ (∀ r, r < m → kd r ≤ 2 ∧ -1000000 ≤ bb r ∧ bb r ≤ 1000000) ∧ ∀ x, x < 10 → -1000000 ≤ dr x ∧ dr x ≤ 1000000
def zI (n m : Nat) (A : Nat → Nat → Int) (kd : Nat → Nat) (bb : Nat → Int) : zS → Prop
  | ((D, T, va, bs, cl), (K, lc, up, fi, se, vr, fo, to, _, ln, op), (st, _, _, _, spl), mp, mq) =>
    (st ≤ 4 ∧ (st = 0 → K = 0 ∧ lc = 0 ∧ spl = 0) ∧ (st = 0 ∨ st = 3 → op = none)) ∧
    (st ≠ 0 → 1 ≤ n ∧ tbI n m A D T bs cl ∧ pmI n m bs cl ∧ vaB n va ∧ 0 < K) ∧ stA n K lc up fi se vr fo to ln ∧ stB K up fi vr fo ∧
    (st ≠ 0 → st ≠ 3 → ∃ k, op = some k ∧ stO K lc spl up fi se ln k ∧ nbI n cl va (UB n kd bb vr fo up fi k) (LB n kd bb vr fo up fi k) ∧ lfS (mp (ln k))) ∧
    ∀ i, i < lc → lfI (mp i) (mq i)
/-! ===== leaves ===== -/
theorem wS_cong {f g : Nat → Int × Int} : ∀ {j : Nat}, (∀ i, i < j → f i = g i) → wS j f = wS j g
  | 0, _ => rfl
  | j + 1, h => by
    show wS j f + wt (f j) = wS j g + wt (g j)
    rw [wS_cong (fun i hi => h i (by omega)), h j (by omega)]
theorem wt_le (x : Int × Int) : 9 ≤ wt x ∧ wt x ≤ 70 := by
  unfold wt
  by_cases z : x.2 ≤ 1000000000
  · rw [if_pos z]; omega
  · rw [if_neg z]; omega
theorem wS_ups {f : Nat → Int × Int} {v : Int × Int} {i : Nat} : ∀ {j : Nat}, wS j (ups f i v) ≤ wS j f + 61
  | 0 => Nat.zero_le _
  | j + 1 => by
    have h0 := wS_ups (f := f) (v := v) (i := i) (j := j)
    show wS j (ups f i v) + wt (ups f i v j) ≤ wS j f + wt (f j) + 61
    by_cases z : j = i
    · have e : wS j (ups f i v) = wS j f := wS_cong fun a ha => ups_n _ _ (by omega)
      have h1 := wt_le (ups f i v j)
      have h2 := wt_le (f j)
      omega
    · rw [ups_n _ _ z]
      omega
theorem wS_set {f : Nat → Int × Int} {v : Int × Int} {i : Nat} (hv : wt v = 9) : ∀ {j : Nat}, wS j (ups f i v) ≤ wS j f
  | 0 => Nat.le_refl _
  | j + 1 => by
    have h0 := wS_set (f := f) (i := i) hv (j := j)
    show wS j (ups f i v) + wt (ups f i v j) ≤ wS j f + wt (f j)
    have h2 := wt_le (f j)
    by_cases z : j = i
    · rw [z, ups_s, hv]
      rw [z] at h0 h2
      omega
    · rw [ups_n _ _ z]
      omega
theorem wS_small {f : Nat → Int × Int} : ∀ {j : Nat}, (∀ i, i < j → (f i).2 ≤ 1000000000) → wS j f = 9 * j
  | 0, _ => rfl
  | j + 1, h => by
    show wS j f + wt (f j) = _
    rw [wS_small (fun i hi => h i (by omega)), show wt (f j) = 9 from if_pos (h j (by omega))]
    omega
theorem mvI_01 : mvI (0, 1) (0, 1) := ⟨by decide, by decide, by decide, by decide, by decide, by decide, by decide⟩
theorem lfI_0 : lfI (fun _ => (0, 1)) (fun _ => (0, 1)) ∧ lfS (fun _ => (0, 1)) := by
  refine ⟨⟨fun j _ => mvI_01, ?_⟩, fun j _ => by show (1 : Int) ≤ 1000000000; decide⟩
  rw [wS_small (fun i _ => by show (1 : Int) ≤ 1000000000; decide)]
  decide
theorem rd_ok {p q : Int} (hq : 0 < q) : 0 < (rd p q).2 ∧ p * (rd p q).2 = (rd p q).1 * q ∧ (rd p q).1.natAbs ≤ p.natAbs ∧ (rd p q).2 ≤ q ∧ Int.gcd (rd p q).1 (rd p q).2 = 1 := by
  have hg : 0 < (Int.gcd p q : Int) := by
    have : 0 < Int.gcd p q := Int.gcd_pos_of_ne_zero_right _ (by omega)
    omega
  obtain ⟨a, ha⟩ := Int.gcd_dvd_left p q
  obtain ⟨b, hb⟩ := Int.gcd_dvd_right p q
  have e1 : (rd p q).1 = a := by
    show p / (Int.gcd p q : Int) = a
    exact Int.ediv_eq_of_eq_mul_right (by omega) ha
  have e2 : (rd p q).2 = b := by
    show q / (Int.gcd p q : Int) = b
    exact Int.ediv_eq_of_eq_mul_right (by omega) hb
  have hg1 : Int.gcd a b = 1 := by
    rw [← e1, ← e2]
    exact Int.gcd_ediv_gcd_ediv_gcd (by have : 0 < Int.gcd p q := by omega
                                        exact this)
  rw [e1, e2]
  generalize (Int.gcd p q : Int) = g at *
  have hb0 : 0 < b := by
    rw [hb, Int.mul_comm] at hq
    exact Int.pos_of_mul_pos_left hq hg
  refine ⟨hb0, by rw [ha, hb]; grind, ?_, ?_, hg1⟩
  · rw [ha, Int.natAbs_mul]
    exact Nat.le_mul_of_pos_left _ (by omega)
  · rw [hb]
    have := Int.mul_le_mul_of_nonneg_right (show 1 ≤ g by omega) (show 0 ≤ b by omega)
    omega
theorem mvI_rd {p q : Int} (hq : 0 < q) (h1 : p.natAbs ≤ 10000000 ^ 10) (h2 : q ≤ ((10000000 ^ 10 : Nat) : Int)) : mvI (p, q) (rd p q) := by
  obtain ⟨a, b, c, d, -⟩ := rd_ok (p := p) hq
  exact ⟨hq, a, b, c, d, h1, h2⟩
theorem mv_ups {f g : Nat → Int × Int} {x y : Int × Int} {i : Nat} (h : ∀ j, j < 32 → mvI (f j) (g j)) (hx : mvI x y) : ∀ j, j < 32 → mvI (ups f i x j) (ups g i y j) := fun j hj => by
  by_cases z : j = i
  · rw [z, ups_s, ups_s]; exact hx
  · rw [ups_n _ _ z, ups_n _ _ z]; exact h j hj
section CM
variable {n m r : Nat} {A T : Nat → Nat → Int} {D s : Int} {bs cl : Nat → Nat} {f g : Nat → Int × Int}
theorem s_abs {a s : Int} (hs : s = 1 ∨ s = -1) : (a * s).natAbs = a.natAbs ∧ (a * (-s)).natAbs = a.natAbs := by
  rcases hs with rfl | rfl
  · exact ⟨by omega, by omega⟩
  · exact ⟨by omega, by omega⟩
theorem clM_I (hs : s = 1 ∨ s = -1) (hD0 : 0 < D) (hD : D.natAbs ≤ 10000000 ^ 10) (hT : ∀ c, c < n → (T r c).natAbs ≤ 10000000 ^ 10) (h : ∀ j, j < 32 → mvI (f j) (g j)) : ∀ {c : Nat}, c ≤ n → (∀ j, j < 32 → mvI (clM n r T D s cl c f j) (clQ n r T D s cl c g j)) ∧ wS 32 (clM n r T D s cl c f) ≤ wS 32 f + 61 * c
  | 0, _ => ⟨h, by show wS 32 f ≤ _; omega⟩
  | c + 1, hc => by
    obtain ⟨h1, h2⟩ := clM_I hs hD0 hD hT h (c := c) (by omega)
    simp only [clM, clQ]
    by_cases z : T r c = 0
    · rw [if_pos z, if_pos z]
      exact ⟨h1, by omega⟩
    · rw [if_neg z, if_neg z]
      refine ⟨mv_ups h1 (mvI_rd hD0 (by rw [(s_abs hs).2]; exact hT c (by omega)) (by omega)), ?_⟩
      have := wS_ups (f := clM n r T D s cl c f) (v := (T r c * (-s), D)) (i := mix n (cl c) (wayI s (T r c))) (j := 32)
      omega
theorem lf_close {p : Nat} (hs : s = 1 ∨ s = -1) (hD0 : 0 < D) (hD : D.natAbs ≤ 10000000 ^ 10) (hT : ∀ c, c < n → (T r c).natAbs ≤ 10000000 ^ 10) (hn : n ≤ 10) (h : lfI f g) (hsm : lfS f) : lfI (clM n r T D s cl n (ups f p (D * s, D))) (clQ n r T D s cl n (ups g p (s, 1))) := by
  have h1 : mvI (D * s, D) (s, 1) := by
    have e := (s_abs (a := D) hs).1
    refine ⟨hD0, Int.one_pos, ?_, ?_, ?_, ?_, ?_⟩
    · show D * s * 1 = s * D
      grind
    · show s.natAbs ≤ (D * s).natAbs
      rw [e]
      rcases hs with rfl | rfl <;> omega
    · show (1 : Int) ≤ D
      omega
    · show (D * s).natAbs ≤ _
      rw [e]; exact hD
    · show D ≤ _
      omega
  obtain ⟨a1, a2⟩ := clM_I (cl := cl) hs hD0 hD hT (mv_ups (i := p) h.1 h1) (Nat.le_refl n)
  refine ⟨a1, ?_⟩
  have b1 := wS_ups (f := f) (v := (D * s, D)) (i := p) (j := 32)
  have b2 := wS_small hsm
  omega
end CM
