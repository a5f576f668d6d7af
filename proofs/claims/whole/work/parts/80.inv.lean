/-! ===== the step keeps what holds ===== -/
section ZI
variable {n m K lc spl sp ex cf st k : Nat} {A T : Nat → Nat → Int} {kd : Nat → Nat} {bb dr : Nat → Int} {wh : Nat → Bool} {D : Int} {va : Nat → Int} {bs cl : Nat → Nat} {up fi se : Nat → Option Nat} {vr : Nat → Nat} {fo to : Nat → Int} {cd : Nat → Bool} {ln : Nat → Nat} {op : Option Nat} {mp mq : Nat → Nat → Int × Int} {ub lb : Nat → Option Int}
theorem zI_mk (a : st ≤ 4 ∧ (st = 0 → K = 0 ∧ lc = 0 ∧ spl = 0) ∧ (st = 0 ∨ st = 3 → op = none)) (b : st ≠ 0 → 1 ≤ n ∧ tbI n m A D T bs cl ∧ pmI n m bs cl ∧ vaB n va ∧ 0 < K) (c : stA n K lc up fi se vr fo to ln) (d : stB K up fi vr fo)
    (e : st ≠ 0 → st ≠ 3 → ∃ k, op = some k ∧ stO K lc spl up fi se ln k ∧ nbI n cl va (UB n kd bb vr fo up fi k) (LB n kd bb vr fo up fi k) ∧ lfS (mp (ln k))) (f : ∀ i, i < lc → lfI (mp i) (mq i)) : zI n m A kd bb ((D, T, va, bs, cl), (K, lc, up, fi, se, vr, fo, to, cd, ln, op), (st, sp, ex, cf, spl), mp, mq) :=
  And.intro a (And.intro b (And.intro c (And.intro d (And.intro e f))))
theorem zI_un (h : zI n m A kd bb ((D, T, va, bs, cl), (K, lc, up, fi, se, vr, fo, to, cd, ln, op), (st, sp, ex, cf, spl), mp, mq)) : (st ≤ 4 ∧ (st = 0 → K = 0 ∧ lc = 0 ∧ spl = 0) ∧ (st = 0 ∨ st = 3 → op = none)) ∧ (st ≠ 0 → 1 ≤ n ∧ tbI n m A D T bs cl ∧ pmI n m bs cl ∧ vaB n va ∧ 0 < K) ∧ stA n K lc up fi se vr fo to ln ∧ stB K up fi vr fo ∧ (st ≠ 0 → st ≠ 3 → ∃ k, op = some k ∧ stO K lc spl up fi se ln k ∧ nbI n cl va (UB n kd bb vr fo up fi k) (LB n kd bb vr fo up fi k) ∧ lfS (mp (ln k))) ∧ ∀ i, i < lc → lfI (mp i) (mq i) := h
theorem rw_A (h : rwI n m A kd bb dr) : ∀ r x, r < m → x < n → -1000000 ≤ A r x ∧ A r x ≤ 1000000 := fun r x hr hx => h.2.1 r x hr (by have := h.1.1; omega)
theorem bd_R {p : Nat} {u l : Int} (h1 : oU (rub n kd bb p) u) (h2 : oL (rlb n kd bb p) l) : l ≤ u := by
  unfold rub at h1
  unfold rlb at h2
  by_cases z : kd (p - n) = 1
  · rw [if_pos z] at h1; exact absurd h1 oU_none
  · rw [if_neg z, oU_some] at h1
    by_cases y : kd (p - n) = 0
    · rw [if_pos y] at h2; exact absurd h2 oL_none
    · rw [if_neg y, oL_some] at h2
      omega
theorem bd_all (hA : stA n K lc up fi se vr fo to ln) (hB : stB K up fi vr fo) (hk : k < K) {p : Nat} {u l : Int} (h1 : oU (UB n kd bb vr fo up fi k p) u) (h2 : oL (LB n kd bb vr fo up fi k p) l) : l ≤ u := by
  unfold UB at h1
  unfold LB at h2
  by_cases z : p < n
  · rw [if_pos z] at h1 h2
    exact stB_bd hA hB hk h1 h2
  · rw [if_neg z] at h1 h2
    exact bd_R h1 h2
theorem bn_U (hr : rwI n m A kd bb dr) (hA : stA n K lc up fi se vr fo to ln) (hk : k < K) {p : Nat} {u : Int} (hp : p < n + m) (h : UB n kd bb vr fo up fi k p = some u) : -1000000000000000001 ≤ u ∧ u ≤ 1000000000000000001 := by
  unfold UB at h
  by_cases z : p < n
  · rw [if_pos z] at h
    have := st_U hA hk h
    omega
  · rw [if_neg z] at h
    unfold rub at h
    by_cases y : kd (p - n) = 1
    · rw [if_pos y] at h; cases h
    · rw [if_neg y] at h
      cases h
      have := (hr.2.2.1 (p - n) (by omega)).2
      omega
theorem bn_L (hr : rwI n m A kd bb dr) (hA : stA n K lc up fi se vr fo to ln) (hk : k < K) {p : Nat} {u : Int} (hp : p < n + m) (h : LB n kd bb vr fo up fi k p = some u) : -1000000000000000001 ≤ u ∧ u ≤ 1000000000000000001 := by
  unfold LB at h
  by_cases z : p < n
  · rw [if_pos z] at h
    have := st_L hA hk h
    omega
  · rw [if_neg z] at h
    unfold rlb at h
    by_cases y : kd (p - n) = 0
    · rw [if_pos y] at h; cases h
    · rw [if_neg y] at h
      cases h
      have := (hr.2.2.1 (p - n) (by omega)).2
      omega
theorem isBelow_t {D a : Int} {l : Option Int} (h : isBelow D a l = true) : ∃ v, l = some v ∧ a < v * D := by
  cases l with
  | none => cases h
  | some v => exact ⟨v, rfl, of_decide_eq_true h⟩
theorem isAbove_t {D a : Int} {l : Option Int} (h : isAbove D a l = true) : ∃ v, l = some v ∧ v * D < a := by
  cases l with
  | none => cases h
  | some v => exact ⟨v, rfl, of_decide_eq_true h⟩
theorem bey_side {D a : Int} {u l : Option Int} (h : sdB D a u l ≠ 0) : (∃ v, l = some v ∧ a < v * D ∧ sdB D a u l = -1 ∧ sdI D a l = -1 ∧ bdI (-1) u l = v) ∨ ∃ v, u = some v ∧ v * D < a ∧ sdB D a u l = 1 ∧ sdI D a l = 1 ∧ bdI 1 u l = v := by
  by_cases z : isBelow D a l = true
  · obtain ⟨v, h1, h2⟩ := isBelow_t z
    refine Or.inl ⟨v, h1, h2, if_pos z, if_pos z, ?_⟩
    rw [h1]; rfl
  · by_cases y : isAbove D a u = true
    · obtain ⟨v, h1, h2⟩ := isAbove_t y
      refine Or.inr ⟨v, h1, h2, ?_, if_neg z, ?_⟩
      · unfold sdB; rw [if_neg z, if_pos y]
      · rw [h1]; rfl
    · exact absurd (by unfold sdB; rw [if_neg z, if_neg y]) h
theorem bey_t {am : Nat → Int} {p : Nat} (h : isBey m D am bs ub lb p = true) : ∃ r, ix bs p m = some r ∧ sdB D (am r) (ub p) (lb p) ≠ 0 := by
  unfold isBey at h
  cases hx : ix bs p m with
  | none => rw [hx] at h; cases h
  | some r =>
    rw [hx] at h
    exact ⟨r, rfl, of_decide_eq_true h⟩
theorem bey_f {am : Nat → Int} {p r : Nat} (h : isBey m D am bs ub lb p = false) (hx : ix bs p m = some r) : isBelow D (am r) (lb p) = false ∧ isAbove D (am r) (ub p) = false := by
  unfold isBey at h
  rw [hx] at h
  have h2 : ¬ sdB D (am r) (ub p) (lb p) ≠ 0 := of_decide_eq_false h
  cases z : isBelow D (am r) (lb p) with
  | true => exact absurd (by unfold sdB; rw [if_pos z]; decide) h2
  | false =>
    cases y : isAbove D (am r) (ub p) with
    | true => exact absurd (by unfold sdB; rw [if_neg (by rw [z]; decide), if_pos y]; decide) h2
    | false => exact ⟨rfl, rfl⟩
theorem ent_t {r p : Nat} {s : Int} (h : isEnt n T va cl ub lb r s p = true) : ∃ c, ix cl p n = some c ∧ T r c ≠ 0 := by
  unfold isEnt at h
  cases hx : ix cl p n with
  | none => rw [hx] at h; cases h
  | some c =>
    rw [hx] at h
    refine ⟨c, rfl, fun e => ?_⟩
    have : wayI s (T r c) = 0 := by rw [e]; unfold wayI; rw [isg_zero]; exact Int.mul_zero _
    simp [this] at h
theorem brk_t {am : Nat → Int} {x : Nat} (h : isBrk m D am bs wh x = true) : ∃ r, ix bs x m = some r ∧ wh x = true ∧ am r % D ≠ 0 := by
  unfold isBrk at h
  cases hx : ix bs x m with
  | none => rw [hx] at h; cases h
  | some r =>
    rw [hx] at h
    simp only [Bool.and_eq_true, decide_eq_true_eq] at h
    exact ⟨r, rfl, h.1, h.2⟩
theorem nb_ex {r c : Nat} {b : Int} (hnb : nbI n cl va ub lb) (hbu : ∀ v, oU (ub (bs r)) v → b ≤ v) (hbl : ∀ v, oL (lb (bs r)) v → v ≤ b) : nbI n (fun j => if j = c then bs r else cl j) (ups va c b) ub lb := by
  intro j hj
  by_cases z : j = c
  · simp only [if_pos z]
    rw [z, ups_s]
    exact ⟨hbu, hbl⟩
  · simp only [if_neg z]
    rw [ups_n _ _ z]
    exact hnb j hj
theorem isg_pm {t : Int} (h : t ≠ 0) : ((isg t).toInt = 1 ∨ (isg t).toInt = -1) ∧ 0 < t * (isg t).toInt := by
  rcases isg_cases t with z | z | z
  · rw [z.2]; exact ⟨Or.inl rfl, by show 0 < t * 1; omega⟩
  · rw [z.2]; exact ⟨Or.inr rfl, by show 0 < t * -1; omega⟩
  · exact absurd z.1 h
theorem vaB_ups {c : Nat} {b : Int} (h : vaB n va) (hb : -1000000000000000001 ≤ b ∧ b ≤ 1000000000000000001) : vaB n (ups va c b) := by
  intro j hj
  by_cases z : j = c
  · rw [z, ups_s]; exact hb
  · rw [ups_n _ _ z]; exact h j hj
theorem flr_f {a D : Int} (hD : 0 < D) (ha : a % D ≠ 0) (h : ¬ (1000000000000000000 < flr a D ∨ flr a D < -1000000000000000000)) : flr a D * D < a ∧ a < (flr a D + 1) * D ∧ flr a D = a / D := by
  have e : flr a D = a / D := by
    unfold flr at h ⊢
    by_cases z : (a.natAbs : Int) / D < 2000000000000000000
    · rw [if_pos z]
    · rw [if_neg z] at h
      exact absurd (Or.inl (by decide)) h
  rw [e]
  have h1 := Int.mul_ediv_add_emod a D
  have h2 := Int.emod_nonneg a (show D ≠ 0 by omega)
  have h3 := Int.emod_lt_of_pos a hD
  rw [Int.mul_comm] at h1
  have e2 : (a / D + 1) * D = a / D * D + D := by rw [Int.add_mul, Int.one_mul]
  rw [e2]
  generalize a / D * D = y at *
  generalize a % D = w at *
  refine ⟨by omega, by omega, rfl⟩
theorem lt_of_mulD {a b D : Int} (hD : 0 < D) (h : a * D < b * D) : a < b := Int.lt_of_mul_lt_mul_right h (by omega)
theorem sp_nb {x r : Nat} {f : Int} (hA : stA n K lc up fi se vr fo to ln) (hp : pmI n m bs cl) (hk : k < K) (hfk : fi k = none) (hr : r < m) (hx : bs r = x) (hnb : nbI n cl va (UB n kd bb vr fo up fi k) (LB n kd bb vr fo up fi k)) : nbI n cl va (UB n kd bb (ups vr k x) (ups fo k f) (ups up K (some k)) (ups (ups fi k (some K)) K none) K) (LB n kd bb (ups vr k x) (ups fo k f) (ups up K (some k)) (ups (ups fi k (some K)) K none) K) := by
  intro c hc
  obtain ⟨h1, h2⟩ := hnb c hc
  have hxc : x ≠ cl c := fun e => hp.2.2.2.2.1 r c hr hc (by rw [hx]; exact e)
  have hmem : ∀ s b, (s, b) ∈ pt up fi k → ups vr k x s = vr s ∧ ups fo k f s = fo s := fun s b hs => by
    obtain ⟨a1, a2⟩ := stA_mem hA hk hs
    have e : s ≠ k := fun e => a2 (by rw [e]; exact hfk)
    exact ⟨ups_n _ _ e, ups_n _ _ e⟩
  unfold UB LB at *
  by_cases z : cl c < n
  · rw [if_pos z] at h1 h2 ⊢
    rw [if_pos z, sp_ptK hA hk hfk]
    refine ⟨fun v hv => ?_, fun v hv => ?_⟩
    · rw [fU_c, fU_cong hmem] at hv
      rcases hv with ⟨-, w, -⟩ | w
      · rw [ups_s] at w; exact absurd w hxc
      · exact h1 v w
    · rw [fL_c, fL_cong hmem] at hv
      rcases hv with ⟨w, -, -⟩ | w
      · cases w
      · exact h2 v w
  · rw [if_neg z] at h1 h2 ⊢
    rw [if_neg z]
    exact ⟨h1, h2⟩
theorem mv_at {x : Nat} {l : Option Int} {c : Nat} (hc : c < n) (hinj : ∀ c c', c < n → c' < n → cl c = cl c' → c = c') : (cl c = x → mvV n cl va x l c = max (va c) (l.getD 0)) ∧ (cl c ≠ x → mvV n cl va x l c = va c) := by
  unfold mvV
  cases hx : ix cl x n with
  | none => exact ⟨fun e => absurd e (ix_none hx c hc), fun _ => rfl⟩
  | some d =>
    obtain ⟨d1, d2⟩ := ix_some hx
    refine ⟨fun e => ?_, fun e => ?_⟩
    · have : c = d := hinj c d hc d1 (by rw [e, d2])
      subst this
      simp only
      by_cases z : va c < l.getD 0
      · rw [if_pos z, ups_s]; omega
      · rw [if_neg z]; omega
    · have : c ≠ d := fun w => e (by rw [w]; exact d2)
      simp only
      by_cases z : va d < l.getD 0
      · rw [if_pos z, ups_n _ _ this]
      · rw [if_neg z]
theorem fL_has {s : Nat} {l : List (Nat × Bool)} : ∃ v, fL vr fo (vr s) ((s, false) :: l) none = some v := by
  have : oL (fL vr fo (vr s) ((s, false) :: l) none) (fo s + 1) := fL_c.2 (Or.inl ⟨rfl, rfl, Int.le_refl _⟩)
  obtain ⟨u, h, -⟩ := this
  exact ⟨u, h⟩
theorem ad_nb {s : Nat} {se2 : Nat → Option Nat} {lc2 : Nat} {ln2 : Nat → Nat} (hA : stA n K lc up fi se vr fo to ln) (hA2 : stA n (K + 1) lc2 (ups up K (some s)) (ups fi K none) se2 vr fo to ln2) (hB2 : stB (K + 1) (ups up K (some s)) (ups fi K none) vr fo) (hp : pmI n m bs cl) (hs : s < K) (hfs : fi s ≠ none) (hsub : ∀ e, e ∈ pt up fi s → e ∈ pt up fi k) (hnb : nbI n cl va (UB n kd bb vr fo up fi k) (LB n kd bb vr fo up fi k)) : nbI n cl (mvV n cl va (vr s) (fL vr fo (vr s) ((s, false) :: pt up fi s) none)) (UB n kd bb vr fo (ups up K (some s)) (ups fi K none) K) (LB n kd bb vr fo (ups up K (some s)) (ups fi K none) K) := by
  intro c hc
  obtain ⟨h1, h2⟩ := hnb c hc
  obtain ⟨m1, m2⟩ := mv_at (va := va) (x := vr s) (l := fL vr fo (vr s) ((s, false) :: pt up fi s) none) hc hp.2.2.2.1
  obtain ⟨w, hw⟩ := fL_has (vr := vr) (fo := fo) (s := s) (l := pt up fi s)
  have hvn := (hA s hs).2.2.2.2 hfs
  rw [hw] at m1 m2 ⊢
  by_cases z : cl c < n
  · have hbd : ∀ v, oU (fU vr fo (cl c) (pt (ups up K (some s)) (ups fi K none) K) none) v → cl c = vr s → w ≤ v := fun v hv e => by
      refine stB_bd hA2 hB2 (k := K) (x := cl c) (by omega) hv ?_
      rw [ad_ptK hA hs hfs, e, hw]
      exact ⟨w, rfl, Int.le_refl _⟩
    unfold UB LB at *
    rw [if_pos z] at h1 h2 ⊢
    rw [if_pos z]
    refine ⟨fun v hv => ?_, fun v hv => ?_⟩
    · have hb := hbd v hv
      rw [ad_ptK hA hs hfs, fU_c] at hv
      rcases hv with ⟨y, -, -⟩ | y
      · cases y
      · have hv1 := h1 v (fU_sub hsub y)
        by_cases e : cl c = vr s
        · rw [m1 e]
          have := hb e
          show max (va c) w ≤ v
          omega
        · rw [m2 e]; exact hv1
    · rw [ad_ptK hA hs hfs] at hv
      by_cases e : cl c = vr s
      · rw [m1 e]
        rw [e, hw, oL_some] at hv
        show v ≤ max (va c) w
        omega
      · rw [m2 e]
        rw [fL_c] at hv
        rcases hv with ⟨-, y, -⟩ | y
        · exact absurd y.symm e
        · exact h2 v (fL_sub hsub y)
  · have e : cl c ≠ vr s := fun e => z (by rw [e]; exact hvn.1)
    unfold UB LB at *
    rw [if_neg z] at h1 h2 ⊢
    rw [if_neg z, m2 e]
    exact ⟨h1, h2⟩
theorem mv_B {x : Nat} {l : Option Int} (h : vaB n va) (hl : -1000000000000000001 ≤ l.getD 0 ∧ l.getD 0 ≤ 1000000000000000001) : vaB n (mvV n cl va x l) := by
  unfold mvV
  cases hx : ix cl x n with
  | none => exact h
  | some c =>
    simp only
    by_cases z : va c < l.getD 0
    · rw [if_pos z]; exact vaB_ups h hl
    · rw [if_neg z]; exact h
theorem lf_ups {i : Nat} {f g : Nat → Int × Int} {lc2 : Nat} (h : ∀ i, i < lc → lfI (mp i) (mq i)) (hn : lfI f g) (h2 : ∀ j, j < lc2 → j ≠ i → j < lc) : ∀ j, j < lc2 → lfI (ups mp i f j) (ups mq i g j) := fun j hj => by
  by_cases z : j = i
  · rw [z, ups_s, ups_s]; exact hn
  · rw [ups_n _ _ z, ups_n _ _ z]; exact h j (h2 j hj z)
theorem rd_1 {D s : Int} : True := trivial
set_option maxHeartbeats 1000000 in
theorem zI_step (hr : rwI n m A kd bb dr) (h : zI n m A kd bb ((D, T, va, bs, cl), (K, lc, up, fi, se, vr, fo, to, cd, ln, op), (1, sp, ex, cf, spl), mp, mq)) : zI n m A kd bb (mStep n m kd bb wh ((D, T, va, bs, cl), (K, lc, up, fi, se, vr, fo, to, cd, ln, op), (1, sp, ex, cf, spl), mp, mq)) := by
  obtain ⟨h1, h4, hA, hB, h5, h6⟩ := zI_un h
  obtain ⟨k, rfl, ho, hnb, hsm⟩ := h5 (by decide) (by decide)
  obtain ⟨hn1, htb, hpm, hva, hK0⟩ := h4 (by decide)
  have hk : k < K := by have := ho.1; omega
  have hn := hr.1.1
  have hlk : ln k < lc := by have := ho.2.2.1; omega
  have hfk : fi k = none := ho.2.1
  unfold mStep
  simp only
  cases hb : fst1 (isBey m D (amt n T va) bs (UB n kd bb vr fo up fi k) (LB n kd bb vr fo up fi k)) (n + m) with
  | some p =>
    obtain ⟨hp, hbt, -⟩ := fst1_spec hb
    obtain ⟨r, hxr, hsd⟩ := bey_t hbt
    obtain ⟨hrm, hbr⟩ := ix_some hxr
    simp only [hxr]
    have hside := bey_side hsd
    cases he : fst1 (isEnt n T va cl (UB n kd bb vr fo up fi k) (LB n kd bb vr fo up fi k) r (sdI D (amt n T va r) (LB n kd bb vr fo up fi k p))) (n + m) with
    | some p2 =>
      obtain ⟨hp2, het, -⟩ := fst1_spec he
      obtain ⟨c, hxc, hTc⟩ := ent_t het
      obtain ⟨hcn, hclc⟩ := ix_some hxc
      simp only [hxc]
      obtain ⟨hg1, hg2⟩ := isg_pm hTc
      have hbb : (-1000000000000000001 ≤ bdI (sdI D (amt n T va r) (LB n kd bb vr fo up fi k p)) (UB n kd bb vr fo up fi k p) (LB n kd bb vr fo up fi k p) ∧ bdI (sdI D (amt n T va r) (LB n kd bb vr fo up fi k p)) (UB n kd bb vr fo up fi k p) (LB n kd bb vr fo up fi k p) ≤ 1000000000000000001) ∧ (∀ v, oU (UB n kd bb vr fo up fi k (bs r)) v → bdI (sdI D (amt n T va r) (LB n kd bb vr fo up fi k p)) (UB n kd bb vr fo up fi k p) (LB n kd bb vr fo up fi k p) ≤ v) ∧ ∀ v, oL (LB n kd bb vr fo up fi k (bs r)) v → v ≤ bdI (sdI D (amt n T va r) (LB n kd bb vr fo up fi k p)) (UB n kd bb vr fo up fi k p) (LB n kd bb vr fo up fi k p) := by
        rw [hbr]
        rcases hside with ⟨v, e1, e2, e3, e4, e5⟩ | ⟨v, e1, e2, e3, e4, e5⟩
        · rw [e4, e5]
          refine ⟨bn_L hr hA hk hp e1, fun w hw => bd_all hA hB hk hw ⟨v, e1, Int.le_refl _⟩, fun w hw => ?_⟩
          rw [e1, oL_some] at hw; exact hw
        · rw [e4, e5]
          refine ⟨bn_U hr hA hk hp e1, fun w hw => ?_, fun w hw => bd_all hA hB hk ⟨v, e1, Int.le_refl _⟩ hw⟩
          rw [e1, oU_some] at hw; exact hw
      unfold zEx
      refine zI_mk ⟨by decide, fun z => absurd z (by decide), fun z => absurd z (by decide)⟩ (fun _ => ⟨hn1, tbI_ex htb hrm hcn hTc hg1 hg2, pmI_ex hpm hrm hcn, vaB_ups hva hbb.1, hK0⟩) hA hB (fun _ _ => ⟨k, rfl, ho, nb_ex hnb hbb.2.1 hbb.2.2, hsm⟩) h6
    | none =>
      have hs1 : sdI D (amt n T va r) (LB n kd bb vr fo up fi k p) = 1 ∨ sdI D (amt n T va r) (LB n kd bb vr fo up fi k p) = -1 := by
        rcases hside with ⟨v, -, -, -, e4, -⟩ | ⟨v, -, -, -, e4, -⟩
        · exact Or.inr e4
        · exact Or.inl e4
      have hcl := lf_close (cl := cl) (p := mix n (bs r) (sdI D (amt n T va r) (LB n kd bb vr fo up fi k p))) hs1 htb.1 (tb_D htb hpm hn (rw_A hr)) (fun c hc => tb_T htb hpm hn (rw_A hr) hrm hc) hn (h6 _ hlk) hsm
      cases hw : lwt se (pt up fi k) with
      | none =>
        simp only
        exact zI_mk ⟨by decide, fun z => absurd z (by decide), fun _ => rfl⟩ (fun _ => ⟨hn1, htb, hpm, hva, hK0⟩) hA hB (fun _ z => absurd rfl z) (lf_ups h6 hcl (fun j hj _ => hj))
      | some s =>
        simp only
        obtain ⟨hs, hfs, hls, hsub, ho2⟩ := ad_O hA ho hw
        have hu : ∀ j, some s = some j → j < K ∧ fi j ≠ none := fun j e => by cases e; exact ⟨hs, hfs⟩
        have hA2 := ad_A hA hu
        have hB2 := ad_B (u := some s) hA hB
        obtain ⟨w, hw2⟩ := fL_has (vr := vr) (fo := fo) (s := s) (l := pt up fi s)
        have hwb := st_L hA2 (k := K) (x := vr s) (by omega) (by rw [ad_ptK hA hs hfs]; exact hw2)
        refine zI_mk ⟨by decide, fun z => absurd z (by decide), fun z => absurd z (by decide)⟩ (fun _ => ⟨hn1, htb, hpm, mv_B hva (by rw [hw2]; show -1000000000000000001 ≤ w ∧ w ≤ 1000000000000000001; omega), by omega⟩) hA2 hB2 (fun _ _ => ⟨K, rfl, ho2, ad_nb hA hA2 hB2 hpm hs hfs hsub hnb, ?_⟩) (lf_ups (lf_ups h6 hcl (fun j hj _ => hj)) lfI_0.1 (fun j hj hne => by omega))
        rw [ups_s, ups_s]
        exact lfI_0.2
  | none =>
    cases hx : fst1 (isBrk m D (amt n T va) bs wh) n with
    | none =>
      simp only
      exact zI_mk ⟨by decide, fun z => absurd z (by decide), fun z => absurd z (by decide)⟩ (fun _ => ⟨hn1, htb, hpm, hva, hK0⟩) hA hB (fun _ _ => ⟨k, rfl, ho, hnb, hsm⟩) h6
    | some x =>
      obtain ⟨hxn, hxt, -⟩ := fst1_spec hx
      obtain ⟨r, hxr, -, hmod⟩ := brk_t hxt
      obtain ⟨hrm, hbr⟩ := ix_some hxr
      simp only [hxr]
      by_cases hd : (1000000000000000000 < flr (amt n T va r) D ∨ flr (amt n T va r) D < -1000000000000000000) ∨ 150 ≤ spl ∨ 24 ≤ (pt up fi k).length
      · rw [if_pos hd]
        exact zI_mk ⟨by decide, fun z => absurd z (by decide), fun z => absurd z (by decide)⟩ (fun _ => ⟨hn1, htb, hpm, hva, hK0⟩) hA hB (fun _ _ => ⟨k, rfl, ho, hnb, hsm⟩) h6
      · rw [if_neg hd]
        obtain ⟨f1, f2, -⟩ := flr_f htb.1 hmod (fun z => hd (Or.inl z))
        have hff : -1000000000000000000 ≤ flr (amt n T va r) D ∧ flr (amt n T va r) D ≤ 1000000000000000000 := by
          have : ¬ (1000000000000000000 < flr (amt n T va r) D ∨ flr (amt n T va r) D < -1000000000000000000) := fun z => hd (Or.inl z)
          omega
        obtain ⟨g1, g2⟩ := bey_f (fst1_noneI hb x (by omega)) hxr
        have hD0 := htb.1
        have hu : ∀ v, oU (fU vr fo x (pt up fi k) none) v → flr (amt n T va r) D + 1 ≤ v := by
          rintro v ⟨u, e, hle⟩
          have g3 : isAbove D (amt n T va r) (some u) = false := by
            unfold UB at g2
            rw [if_pos hxn, e] at g2
            exact g2
          have g4 : ¬ u * D < amt n T va r := of_decide_eq_false g3
          have := lt_of_mulD hD0 (show flr (amt n T va r) D * D < u * D by omega)
          omega
        have hl : ∀ v, oL (fL vr fo x (pt up fi k) none) v → v ≤ flr (amt n T va r) D := by
          rintro v ⟨u, e, hle⟩
          have g3 : isBelow D (amt n T va r) (some u) = false := by
            unfold LB at g1
            rw [if_pos hxn, e] at g1
            exact g1
          have g4 : ¬ amt n T va r < u * D := of_decide_eq_false g3
          have := lt_of_mulD hD0 (show u * D < (flr (amt n T va r) D + 1) * D by omega)
          omega
        refine zI_mk ⟨by decide, fun z => absurd z (by decide), fun z => absurd z (by decide)⟩ (fun _ => ⟨hn1, htb, hpm, hva, by omega⟩) (sp_A hA hk hfk hxn hff) (sp_B hA hB hk hfk hu hl) (fun _ _ => ⟨K, rfl, sp_O hA ho (by omega) (by omega), sp_nb hA hpm hk hfk hrm hbr hnb, ?_⟩) (lf_ups h6 lfI_0.1 (fun j hj _ => hj))
        rw [ups_s, ups_s]
        exact lfI_0.2
end ZI
