/-! ===== nodes and multipliers ===== -/
def cut2 (v : Int) : Int := max (-2000000000) (min 2000000000 v)
def mNod (k w : Int32) : zF → Int32
  | (_, (_, (K, _, up, fi, se, vr, _, to, cd, _, _), _, _, _), _, _, _, _) => if 0 ≤ k.toInt ∧ k.toInt < K then (if w.toInt = 0 then (if fi k.toInt.toNat = none then (if cd k.toInt.toNat = true then 1 else 2) else 0) else if w.toInt = 1 then (if fi k.toInt.toNat = none then -2 else nI (vr k.toInt.toNat)) else if w.toInt = 2 then (if fi k.toInt.toNat = none then -2 else Int32.ofInt (cut2 (to k.toInt.toNat))) else if w.toInt = 3 then (if fi k.toInt.toNat = none then -2 else eN (fi k.toInt.toNat)) else if w.toInt = 4 then (if fi k.toInt.toNat = none then -2 else eN (se k.toInt.toNat)) else if w.toInt = 5 then eN (up k.toInt.toNat) else -2100000000) else -2100000000
def mIx (n m : Nat) (s i : Int32) : Option Nat := if s.toInt = 0 then (if 0 ≤ i.toInt ∧ i.toInt < m then some i.toInt.toNat else none) else if 0 ≤ i.toInt ∧ i.toInt < n then (if s.toInt = 1 then some (12 + i.toInt.toNat) else if s.toInt = 2 then some (22 + i.toInt.toNat) else none) else none
def mMul (k s i : Int32) : zF → zF × Int32
  | ((n, m, A, kd, bb, wh, dr), (tb, (K, lc, up, fi, se, vr, fo, to, cd, ln, op), ct, mp, mq), wp, wq, hd, ah) => if (0 ≤ k.toInt ∧ k.toInt < K) ∧ fi k.toInt.toNat = none then (match mIx n m s i with
    | some j => (((n, m, A, kd, bb, wh, dr), (tb, (K, lc, up, fi, se, vr, fo, to, cd, ln, op), ct, mp, mq), wp, wq, rd (mp (ln k.toInt.toNat) j).1 (mp (ln k.toInt.toNat) j).2, true), isg (mp (ln k.toInt.toNat) j).1)
    | none => (((n, m, A, kd, bb, wh, dr), (tb, (K, lc, up, fi, se, vr, fo, to, cd, ln, op), ct, mp, mq), wp, wq, hd, ah), -4)) else (((n, m, A, kd, bb, wh, dr), (tb, (K, lc, up, fi, se, vr, fo, to, cd, ln, op), ct, mp, mq), wp, wq, hd, ah), -4)
def mSeM (k s i a b : Int32) : zF → zF × Int32
  | ((n, m, A, kd, bb, wh, dr), (tb, (K, lc, up, fi, se, vr, fo, to, cd, ln, op), ct, mp, mq), wp, wq, hd, ah) => if ((0 ≤ k.toInt ∧ k.toInt < K) ∧ fi k.toInt.toNat = none) ∧ (-1000000000 ≤ a.toInt ∧ a.toInt ≤ 1000000000) ∧ 1 ≤ b.toInt ∧ b.toInt ≤ 1000000000 then (match mIx n m s i with
    | some j => (((n, m, A, kd, bb, wh, dr), (tb, (K, lc, up, fi, se, vr, fo, to, cd, ln, op), ct, ups mp (ln k.toInt.toNat) (ups (mp (ln k.toInt.toNat)) j (a.toInt, b.toInt)), ups mq (ln k.toInt.toNat) (ups (mq (ln k.toInt.toNat)) j (a.toInt, b.toInt))), wp, wq, hd, ah), 0)
    | none => (((n, m, A, kd, bb, wh, dr), (tb, (K, lc, up, fi, se, vr, fo, to, cd, ln, op), ct, mp, mq), wp, wq, hd, ah), -1)) else (((n, m, A, kd, bb, wh, dr), (tb, (K, lc, up, fi, se, vr, fo, to, cd, ln, op), ct, mp, mq), wp, wq, hd, ah), -1)
def mSeS (k v : Int32) : zF → zF × Int32
  | (rw1, (tb, (K, lc, up, fi, se, vr, fo, to, cd, ln, op), ct, mp, mq), wp, wq, hd, ah) => if ((0 ≤ k.toInt ∧ k.toInt < K) ∧ fi k.toInt.toNat ≠ none) ∧ -1000000000 ≤ v.toInt ∧ v.toInt ≤ 1000000000 then ((rw1, (tb, (K, lc, up, fi, se, vr, fo, ups to k.toInt.toNat v.toInt, cd, ln, op), ct, mp, mq), wp, wq, hd, ah), 0) else ((rw1, (tb, (K, lc, up, fi, se, vr, fo, to, cd, ln, op), ct, mp, mq), wp, wq, hd, ah), -1)
def mJuT : zF → Int32
  | ((n, m, A, kd, bb, wh, _), (_, (K, _, up, fi, se, vr, _, to, _, ln, _), _, mp, _), _, _, _, _) => if K = 0 then -1 else (match fst1 (fun k => !gdN n m A kd bb wh up fi se vr to ln mp k) K with
    | some k => nI (1 + k)
    | none => 0)
section M7
variable {P : Nat → Prop} {σ σ1 : tz_S} {f o N n m q K lc st sp ex cf spl : Nat} {A T : Nat → Nat → Int} {kd : Nat → Nat} {bb dr : Nat → Int} {wh : Nat → Bool} {D : Int} {va : Nat → Int} {bs cl : Nat → Nat} {up fi se : Nat → Option Nat} {vr : Nat → Nat} {fo to : Nat → Int} {cd : Nat → Bool} {ln : Nat → Nat} {op : Option Nat} {mp mq : Nat → Nat → Int × Int} {wp wq : Nat → Int × Int} {hd : Int × Int} {ah : Bool} {Z : zS} {F : zF}
theorem l64_32 {x : Int64} {v : Int} (h : x.toInt = v) : Int64.toInt32 x = Int32.ofInt v := by
  rw [← Int32.toInt_inj, Int64.toInt_toInt32, Int32.toInt_ofInt, h]
theorem c_cut {x : Int64} {v : Int} (h : x.toInt = v) : Int64.toInt32 (if (if x < 2000000000 then x else 2000000000) < (-2000000000) then (-2000000000) else (if x < 2000000000 then x else 2000000000)) = Int32.ofInt (cut2 v) := by
  refine l64_32 ?_
  have e1 : (2000000000 : Int64).toInt = 2000000000 := by decide
  have e2 : (-2000000000 : Int64).toInt = -2000000000 := by decide
  unfold cut2
  by_cases z : x < 2000000000
  · rw [if_pos z]
    rw [Int64.lt_iff_toInt_lt, e1, h] at z
    by_cases y : x < -2000000000
    · rw [if_pos y, e2]
      rw [Int64.lt_iff_toInt_lt, e2, h] at y
      omega
    · rw [if_neg y, h]
      rw [Int64.lt_iff_toInt_lt, e2, h] at y
      omega
  · rw [if_neg z]
    rw [Int64.lt_iff_toInt_lt, e1, h] at z
    rw [if_neg (by decide), e1]
    omega
set_option maxHeartbeats 1000000 in
theorem c_node {k w : Int32} (h : clV σ o q N ((n, m, A, kd, bb, wh, dr), ((D, T, va, bs, cl), (K, lc, up, fi, se, vr, fo, to, cd, ln, op), (st, sp, ex, cf, spl), mp, mq), wp, wq, hd, ah)) (ho : okF ((n, m, A, kd, bb, wh, dr), ((D, T, va, bs, cl), (K, lc, up, fi, se, vr, fo, to, cd, ln, op), (st, sp, ex, cf, spl), mp, mq), wp, wq, hd, ah)) : gp (X11_node f (some o) k w) σ (fun y σ' => σ' = σ ∧ y = mNod k w ((n, m, A, kd, bb, wh, dr), ((D, T, va, bs, cl), (K, lc, up, fi, se, vr, fo, to, cd, ln, op), (st, sp, ex, cf, spl), mp, mq), wp, wq, hd, ah)) := by
  obtain ⟨hsl, hW⟩ := clV_un h
  obtain ⟨hr, hz, -⟩ := okF_un ho
  obtain ⟨hc, hw, hs, ht, hct, hlf, htb, hbn⟩ := slV_un hsl
  obtain ⟨-, -, hA, -⟩ := zI_un hz
  have hK3 := ht.1.2.2.2.1
  unfold X11_node X11_node_b89 X11_node_b108 X11_node_b140 X11_node_b159 X11_node_b178
  unfold mNod
  simp only
  refine gp_rR (cs_me hc) rfl ?_
  refine gp_cV (cs_tree hc) (gp_mono (c_has hc ht) ?_)
  rintro y σ0 ⟨e0, hy⟩
  rw [e0]
  clear e0 σ0
  refine gp_if (fun z => ?_) (fun z => ?_)
  · rw [if_neg (ite0 hy z)]
    exact gp_ret ⟨rfl, rfl⟩
  have hx := ite1 hy z
  rw [if_pos hx]
  obtain ⟨kk, hk, hk31, hk2⟩ := i32_nat hx.1
  have hkK : kk < K := by omega
  rw [show k.toInt.toNat = kk by omega, hk]
  obtain ⟨t1, t2, t3, t4, t5⟩ := ht.2.2.1 kk hkK
  refine gp_rR (cs_me hc) rfl ?_
  refine gp_cV (cs_tree hc) (gp_mono (c_isSplit hc ht (stA_w hA) hkK) ?_)
  rintro x4 σ0 ⟨e0, rfl⟩
  rw [e0]
  clear e0 σ0
  refine gp_tsw (fun v => ?_) (fun j mm hj hm => ?_)
  · have v' : w.toInt < 0 ∨ 6 ≤ w.toInt := by
      rcases v with v | v
      · exact Or.inl v
      · simp only [List.length_cons, List.length_nil] at v
        omega
    rw [if_neg (by omega), if_neg (by omega), if_neg (by omega), if_neg (by omega), if_neg (by omega), if_neg (by omega)]
    exact gp_ret ⟨rfl, rfl⟩
  rw [hj]
  by_cases hfk : fi kk = none
  · match j, hm with
    | 0, hm =>
      cases hm
      simp only [if_pos hfk]
      show gp _ σ (fun y σ' => σ' = σ ∧ y = if cd kk = true then 1 else 2)
      refine gp_t (if_pos hfk) ?_
      refine gp_rR (cs_me hc) rfl (gp_rR (cs_tree hc) rfl (gp_aI (j := kk) (cs_closed hc) (by decide) (by omega) (by omega) rfl ?_))
      rw [t4]
      cases hcd : cd kk with
      | false => exact gp_t (by simp) (gp_ret ⟨rfl, by simp⟩)
      | true => exact gp_f (by simp) (gp_ret ⟨rfl, by simp⟩)
    | 1, hm =>
      cases hm
      simp only [if_pos hfk]
      show gp _ σ (fun y σ' => σ' = σ ∧ y = -2)
      exact gp_t (if_pos hfk) (gp_ret ⟨rfl, rfl⟩)
    | 2, hm =>
      cases hm
      simp only [if_pos hfk]
      show gp _ σ (fun y σ' => σ' = σ ∧ y = -2)
      exact gp_t (if_pos hfk) (gp_ret ⟨rfl, rfl⟩)
    | 3, hm =>
      cases hm
      simp only [if_pos hfk]
      show gp _ σ (fun y σ' => σ' = σ ∧ y = -2)
      exact gp_t (if_pos hfk) (gp_ret ⟨rfl, rfl⟩)
    | 4, hm =>
      cases hm
      simp only [if_pos hfk]
      show gp _ σ (fun y σ' => σ' = σ ∧ y = -2)
      exact gp_t (if_pos hfk) (gp_ret ⟨rfl, rfl⟩)
    | 5, hm =>
      cases hm
      show gp _ σ (fun y σ' => σ' = σ ∧ y = eN (up kk))
      exact gp_rR (cs_me hc) rfl (gp_rR (cs_tree hc) rfl (gp_aI (j := kk) (cs_above hc) (by decide) (by omega) (by omega) rfl (gp_ret ⟨rfl, t1⟩)))
    | j + 6, hm => simp at hm
  · obtain ⟨u1, u2, u3⟩ := ht.2.2.2 kk hkK hfk
    match j, hm with
    | 0, hm =>
      cases hm
      simp only [if_neg hfk]
      show gp _ σ (fun y σ' => σ' = σ ∧ y = 0)
      exact gp_f (by rw [if_neg hfk]; decide) (gp_ret ⟨rfl, rfl⟩)
    | 1, hm =>
      cases hm
      simp only [if_neg hfk]
      show gp _ σ (fun y σ' => σ' = σ ∧ y = nI (vr kk))
      exact gp_f (by rw [if_neg hfk]; decide) (gp_rR (cs_me hc) rfl (gp_rR (cs_tree hc) rfl (gp_aI (j := kk) (cs_variable hc) (by decide) (by omega) (by omega) rfl (gp_ret ⟨rfl, u1⟩))))
    | 2, hm =>
      cases hm
      simp only [if_neg hfk]
      show gp _ σ (fun y σ' => σ' = σ ∧ y = Int32.ofInt (cut2 (to kk)))
      exact gp_f (by rw [if_neg hfk]; decide) (gp_rR (cs_me hc) rfl (gp_rR (cs_tree hc) rfl (gp_aL (j := kk) (cs_told hc) (by omega) (by omega) rfl (gp_ret ⟨rfl, c_cut u3⟩))))
    | 3, hm =>
      cases hm
      simp only [if_neg hfk]
      show gp _ σ (fun y σ' => σ' = σ ∧ y = eN (fi kk))
      exact gp_f (by rw [if_neg hfk]; decide) (gp_rR (cs_me hc) rfl (gp_rR (cs_tree hc) rfl (gp_aI (j := kk) (cs_first hc) (by decide) (by omega) (by omega) rfl (gp_ret ⟨rfl, t2⟩))))
    | 4, hm =>
      cases hm
      simp only [if_neg hfk]
      show gp _ σ (fun y σ' => σ' = σ ∧ y = eN (se kk))
      exact gp_f (by rw [if_neg hfk]; decide) (gp_rR (cs_me hc) rfl (gp_rR (cs_tree hc) rfl (gp_aI (j := kk) (cs_second hc) (by decide) (by omega) (by omega) rfl (gp_ret ⟨rfl, t3⟩))))
    | 5, hm =>
      cases hm
      show gp _ σ (fun y σ' => σ' = σ ∧ y = eN (up kk))
      exact gp_rR (cs_me hc) rfl (gp_rR (cs_tree hc) rfl (gp_aI (j := kk) (cs_above hc) (by decide) (by omega) (by omega) rfl (gp_ret ⟨rfl, t1⟩)))
    | j + 6, hm => simp at hm
theorem mIx_lt {s i : Int32} {j : Nat} (hn : n ≤ 10) (hm : m ≤ 12) (h : mIx n m s i = some j) : j < 32 := by
  unfold mIx at h
  by_cases a : s.toInt = 0
  · rw [if_pos a] at h
    by_cases b : 0 ≤ i.toInt ∧ i.toInt < m
    · rw [if_pos b] at h; cases h; omega
    · rw [if_neg b] at h; cases h
  · rw [if_neg a] at h
    by_cases b : 0 ≤ i.toInt ∧ i.toInt < n
    · rw [if_pos b] at h
      by_cases c : s.toInt = 1
      · rw [if_pos c] at h; cases h; omega
      · rw [if_neg c] at h
        by_cases d : s.toInt = 2
        · rw [if_pos d] at h; cases h; omega
        · rw [if_neg d] at h; cases h
    · rw [if_neg b] at h; cases h
theorem s_i32 {s : Int32} {v : Int32} : (s = v ↔ s.toInt = v.toInt) := Int32.toInt_inj.symm
/-- where a multiplier lies, or none -/
theorem c_multiplierAt {k s i : Int32} (hc : cSh σ o N) (hw : rwV σ o n m A kd bb wh dr) (ht : trV σ o q K lc up fi se vr fo to cd ln op) (hA : stA n K lc up fi se vr fo to ln) : gp (X11_multiplierAt f (some o) k s i) σ (fun y σ' => σ' = σ ∧ y = if (0 ≤ k.toInt ∧ k.toInt < K) ∧ fi k.toInt.toNat = none then (match mIx n m s i with
    | some j => some (lfA o (ln k.toInt.toNat) + 2 + 5 * j)
    | none => none) else none) := by
  have hn := hw.1.2.2.1
  have hm := hw.1.2.2.2
  have hK3 := ht.1.2.2.2.1
  have hlq := ht.1.2.2.2.2
  unfold X11_multiplierAt X11_multiplierAt_b43 X11_multiplierAt_b92
  refine gp_rR (cs_me hc) rfl ?_
  refine gp_cV (cs_tree hc) (gp_mono (c_leafOf hc ht (stA_w hA)) ?_)
  rintro y σ0 ⟨e0, hy⟩
  rw [e0]
  clear e0 σ0
  rcases hy with ⟨kk, e1, e2, e3, e4⟩ | ⟨e1, e2⟩
  rotate_left
  · rw [e1]
    refine gp_t rfl (gp_ret ⟨rfl, ?_⟩)
    rw [if_neg]
    rintro ⟨⟨a, b⟩, c⟩
    obtain ⟨kk, hk, hk31, hk2⟩ := i32_nat a
    exact e2 kk hk hk31 (by omega) (by rw [show kk = k.toInt.toNat by omega]; exact c)
  rw [e4, e1]
  refine gp_f (by simp) ?_
  have ek : (nI kk).toInt.toNat = kk := by rw [nI_toInt (by omega)]; omega
  rw [if_pos ⟨by rw [nI_toInt (by omega)]; omega, by rw [ek]; exact e3⟩, ek]
  have hl := ht.2.1.2.2 (ln kk) (by have := (hA kk e2).2.2.2.1; omega)
  unfold mIx
  refine gp_if (fun z => ?_) (fun z => ?_)
  · have z' : s.toInt = 0 := by rw [z]; rfl
    rw [if_pos z']
    refine gp_rR (cs_me hc) rfl ?_
    refine gp_cV (cs_rows hc) (gp_mono (c_hasRow hc hw) ?_)
    rintro y2 σ0 ⟨e0, hy2⟩
    rw [e0]
    clear e0 σ0
    refine gp_if (fun w => ?_) (fun w => ?_)
    · rw [if_neg (ite0 hy2 w)]
      exact gp_ret ⟨rfl, rfl⟩
    have hx := ite1 hy2 w
    rw [if_pos hx]
    obtain ⟨ii, hi, hi31, hi2⟩ := i32_nat hx.1
    refine gp_rR hl.1 rfl ?_
    refine gp_aR (j := ii) hl.2.1 (by decide) (by omega) (by omega) hi ?_
    rw [(hl.2.2 ii (by omega)).2]
    exact gp_ret ⟨rfl, by rw [show i.toInt.toNat = ii by omega]⟩
  · have z' : ¬ s.toInt = 0 := fun e => z (by rw [← Int32.toInt_inj]; exact e)
    rw [if_neg z']
    refine gp_rR (cs_me hc) rfl ?_
    refine gp_cV (cs_rows hc) (gp_mono (c_hasVariable hc hw) ?_)
    rintro y2 σ0 ⟨e0, hy2⟩
    rw [e0]
    clear e0 σ0
    refine gp_if (fun w => ?_) (fun w => ?_)
    · rw [if_neg (ite0 hy2 w)]
      exact gp_ret ⟨rfl, rfl⟩
    have hx := ite1 hy2 w
    rw [if_pos hx]
    obtain ⟨ii, hi, hi31, hi2⟩ := i32_nat hx.1
    rw [show i.toInt.toNat = ii by omega]
    refine gp_if (fun v => ?_) (fun v => ?_)
    · have v' : s.toInt = 1 := by rw [v]; rfl
      rw [if_pos v']
      refine gp_rR hl.1 rfl ?_
      refine gp_aR (j := 12 + ii) hl.2.1 (by decide) (by omega) (by omega) (by rw [hi, show (12 : Int32) = nI 12 from rfl, nI_add]) ?_
      rw [(hl.2.2 (12 + ii) (by omega)).2]
      exact gp_ret ⟨rfl, rfl⟩
    · have v' : ¬ s.toInt = 1 := fun e => v (by rw [← Int32.toInt_inj]; exact e)
      rw [if_neg v']
      refine gp_if (fun u => ?_) (fun u => ?_)
      · have u' : s.toInt = 2 := by rw [u]; rfl
        rw [if_pos u']
        refine gp_rR hl.1 rfl ?_
        refine gp_aR (j := 22 + ii) hl.2.1 (by decide) (by omega) (by omega) (by rw [hi, show (22 : Int32) = nI 22 from rfl, nI_add]) ?_
        rw [(hl.2.2 (22 + ii) (by omega)).2]
        exact gp_ret ⟨rfl, rfl⟩
      · have u' : ¬ s.toInt = 2 := fun e => u (by rw [← Int32.toInt_inj]; exact e)
        rw [if_neg u']
        exact gp_ret ⟨rfl, rfl⟩
theorem c_multiplier {k s i : Int32} (h : clV σ o q N ((n, m, A, kd, bb, wh, dr), ((D, T, va, bs, cl), (K, lc, up, fi, se, vr, fo, to, cd, ln, op), (st, sp, ex, cf, spl), mp, mq), wp, wq, hd, ah)) (ho : okF ((n, m, A, kd, bb, wh, dr), ((D, T, va, bs, cl), (K, lc, up, fi, se, vr, fo, to, cd, ln, op), (st, sp, ex, cf, spl), mp, mq), wp, wq, hd, ah)) (hf : 30000 ≤ f) : gp (X11_multiplier f (some o) k s i) σ (cPo σ o q N (mMul k s i ((n, m, A, kd, bb, wh, dr), ((D, T, va, bs, cl), (K, lc, up, fi, se, vr, fo, to, cd, ln, op), (st, sp, ex, cf, spl), mp, mq), wp, wq, hd, ah)).1 (mMul k s i ((n, m, A, kd, bb, wh, dr), ((D, T, va, bs, cl), (K, lc, up, fi, se, vr, fo, to, cd, ln, op), (st, sp, ex, cf, spl), mp, mq), wp, wq, hd, ah)).2) := by
  obtain ⟨hsl, hW⟩ := clV_un h
  obtain ⟨hr, hz, -⟩ := okF_un ho
  obtain ⟨hc, hw, hs, ht, hct, hlf, htb, hbn⟩ := slV_un hsl
  obtain ⟨-, -, hA, -, -, hI⟩ := zI_un hz
  unfold X11_multiplier
  unfold mMul
  simp only
  refine gp_cV (cs_me hc) (gp_mono (c_multiplierAt hc hw ht hA) ?_)
  rintro y σ0 ⟨e0, hy⟩
  rw [e0, hy]
  clear e0 σ0 hy
  by_cases z : (0 ≤ k.toInt ∧ k.toInt < K) ∧ fi k.toInt.toNat = none
  rotate_left
  · rw [if_neg z, if_neg z]
    exact gp_t rfl (gp_ret (cPo_0 h rfl))
  rw [if_pos z, if_pos z]
  cases hj : mIx n m s i with
  | none => exact gp_t rfl (gp_ret (cPo_0 h rfl))
  | some j =>
    have hj32 := mIx_lt hr.1.1 hr.1.2 hj
    have hlk := (hA k.toInt.toNat (by omega)).2.2.2.1
    have hfz := hlf _ hlk j hj32
    obtain ⟨hq0, -⟩ := (hI _ hlk).1 j hj32
    have hpl := Bz_lt hfz.2.1
    have hql := Bz_lt hfz.2.2
    have hpm8 := mg_pmono (show 8 ≤ 12 by omega)
    refine gp_f (by simp) ?_
    refine gp_rR (cs_me hc) rfl ?_
    refine gp_rR hfz.1 rfl ?_
    refine gp_rR hfz.1 rfl ?_
    refine gp_cV (cs_hand hc).1 (gp_mono (c_setQuotient (turn := 1) (cs_hand hc) (by omega) hfz.2.1 hfz.2.2 (by omega) (by omega) (Or.inr (Or.inl rfl)) (by unfold lfA; omega)) ?_)
    rintro _ σ1 ⟨hF, hz1⟩
    have hc1 := cs_fr hc hF
    rw [show (mp (ln k.toInt.toNat) j).1 * (1 : Int32).toInt = (mp (ln k.toInt.toNat) j).1 from Int.mul_one _] at hz1
    refine gp_cV (cs_me hc1) (gp_mono (c_take hc1 hz1 hq0 hf) ?_)
    rintro s2 σ2 ⟨hF2, hz2, h9, hs2⟩
    have hFa : Fr (taP o) σ σ2 := Fr_trans (Fr_mono hF (fun x z => by unfold fP at z; unfold taP; omega)) hF2
    exact gp_ret (cPo_fr hFa (fun x z => by unfold taP at z; unfold clP; omega) (clV_mk (slV_fr hsl hFa (fun x z => by unfold taP at z; omega)) (clW_hd hW hFa (fun x z => by unfold taP at z; omega) hz2 h9)) hs2)
theorem c_setMultiplier {k s i a b : Int32} (h : clV σ o q N ((n, m, A, kd, bb, wh, dr), ((D, T, va, bs, cl), (K, lc, up, fi, se, vr, fo, to, cd, ln, op), (st, sp, ex, cf, spl), mp, mq), wp, wq, hd, ah)) (ho : okF ((n, m, A, kd, bb, wh, dr), ((D, T, va, bs, cl), (K, lc, up, fi, se, vr, fo, to, cd, ln, op), (st, sp, ex, cf, spl), mp, mq), wp, wq, hd, ah)) (hf : 2000 ≤ f) : gp (X11_setMultiplier f (some o) k s i a b) σ (cPo σ o q N (mSeM k s i a b ((n, m, A, kd, bb, wh, dr), ((D, T, va, bs, cl), (K, lc, up, fi, se, vr, fo, to, cd, ln, op), (st, sp, ex, cf, spl), mp, mq), wp, wq, hd, ah)).1 (mSeM k s i a b ((n, m, A, kd, bb, wh, dr), ((D, T, va, bs, cl), (K, lc, up, fi, se, vr, fo, to, cd, ln, op), (st, sp, ex, cf, spl), mp, mq), wp, wq, hd, ah)).2) := by
  obtain ⟨hsl, hW⟩ := clV_un h
  obtain ⟨hr, hz, -⟩ := okF_un ho
  obtain ⟨hc, hw, hs, ht, hct, hlf, htb, hbn⟩ := slV_un hsl
  obtain ⟨-, -, hA, -, -, hI⟩ := zI_un hz
  unfold X11_setMultiplier X11_setMultiplier_b24
  unfold mSeM
  simp only
  refine gp_cV (cs_me hc) (gp_mono (c_multiplierAt hc hw ht hA) ?_)
  rintro y σ0 ⟨e0, hy⟩
  rw [e0, hy]
  clear e0 σ0 hy
  by_cases z : (0 ≤ k.toInt ∧ k.toInt < K) ∧ fi k.toInt.toNat = none
  rotate_left
  · rw [if_neg z, if_neg (fun w => z w.1)]
    exact gp_t rfl (gp_ret (cPo_0 h rfl))
  rw [if_pos z]
  cases hj : mIx n m s i with
  | none =>
    refine gp_t rfl (gp_ret (cPo_0 ?_ ?_))
    · by_cases w : ((0 ≤ k.toInt ∧ k.toInt < K) ∧ fi k.toInt.toNat = none) ∧ (-1000000000 ≤ a.toInt ∧ a.toInt ≤ 1000000000) ∧ 1 ≤ b.toInt ∧ b.toInt ≤ 1000000000
      · rw [if_pos w]; exact h
      · rw [if_neg w]; exact h
    · by_cases w : ((0 ≤ k.toInt ∧ k.toInt < K) ∧ fi k.toInt.toNat = none) ∧ (-1000000000 ≤ a.toInt ∧ a.toInt ≤ 1000000000) ∧ 1 ≤ b.toInt ∧ b.toInt ≤ 1000000000
      · rw [if_pos w]
      · rw [if_neg w]
  | some j =>
    have hj32 := mIx_lt hr.1.1 hr.1.2 hj
    have hlk := (hA k.toInt.toNat (by omega)).2.2.2.1
    refine gp_f (by simp) ?_
    refine gp_cB (gp_mono c_isGiven ?_)
    rintro y2 σ0 ⟨z0, hy2⟩
    rw [z0]
    clear z0 σ0
    refine gp_if (fun v => ?_) (fun v => ?_)
    · rw [if_neg (fun w => ite0 hy2 v w.2)]
      exact gp_ret (cPo_0 h rfl)
    have hg := ite1 hy2 v
    rw [if_pos ⟨z, hg⟩]
    simp only
    have hlq := ht.1.2.2.2.2
    have hls := (ht.2.1.2.2 (ln k.toInt.toNat) (by omega)).2.2 j hj32
    refine gp_cV hls.1.1 (gp_mono (c_setSmall hls.1 hf (i64_s hg.1 (by omega)) (i64_s (a := b) (by omega) (by omega))) ?_)
    rintro _ σ1 ⟨hF, hz1⟩
    rw [Int32.toInt_toInt64, Int32.toInt_toInt64] at hz1
    have hP : ∀ x, fP (lfA o (ln k.toInt.toNat) + 2 + 5 * j) x → lfA o (ln k.toInt.toNat) + 2 ≤ x ∧ x ≤ lfA o (ln k.toInt.toNat) + 161 := fun x z => by unfold fP at z; omega
    refine gp_ret (cPo_fr hF (fun x z => by have := hP x z; unfold lfA at this; unfold clP; omega) (clV_mk (slV_mk (cs_fr hc hF) (rwV_fr hw hF (fun x a b z => by have := hP x z; unfold lfA at this; omega)) (smOk_fr hs hF (fun z => by have := hP _ z; unfold lfA at this; omega) (fun z => by have := hP _ z; unfold lfA at this; omega)) (trV_fr ht hF (fun x a b z => by have := hP x z; unfold lfA at this; omega)) (ctV_fr hct hF (fun z => by have := hP _ z; unfold lfA at this; omega)) (fun i hi => ?_) (fun w => tbV_fr (htb w) hF (fun x a b z => by have := hP x z; unfold lfA at this; omega) (fun x a b z => by have := hP x z; unfold lfA at this; omega)) (fun w k e => bnA_fr (hbn w k e) hF (fun x a b z => by have := hP x z; unfold lfA at this; omega))) (clW_fr hW hF (fun z => by have := hP _ z; unfold lfA at this; omega) (fun z => by have := hP _ z; unfold lfA at this; omega) (fun z => by have := hP _ z; unfold lfA at this; omega) (fun x a b z => by have := hP x z; unfold lfA at this; omega))) rfl)
    by_cases e : i = ln k.toInt.toNat
    · rw [e, ups_s]
      exact lfV_set (hlf _ hlk) hF hz1
    · rw [ups_n _ _ e]
      exact lfV_fr (hlf i hi) hF (fun x a b z => by have := hP x z; unfold lfA at this a b; omega)
theorem okF_setMultiplier {k s i a b : Int32} (h : okF ((n, m, A, kd, bb, wh, dr), ((D, T, va, bs, cl), (K, lc, up, fi, se, vr, fo, to, cd, ln, op), (st, sp, ex, cf, spl), mp, mq), wp, wq, hd, ah)) : okF (mSeM k s i a b ((n, m, A, kd, bb, wh, dr), ((D, T, va, bs, cl), (K, lc, up, fi, se, vr, fo, to, cd, ln, op), (st, sp, ex, cf, spl), mp, mq), wp, wq, hd, ah)).1 := by
  obtain ⟨h1, h2, h3⟩ := okF_un h
  unfold mSeM
  simp only
  by_cases z : ((0 ≤ k.toInt ∧ k.toInt < K) ∧ fi k.toInt.toNat = none) ∧ (-1000000000 ≤ a.toInt ∧ a.toInt ≤ 1000000000) ∧ 1 ≤ b.toInt ∧ b.toInt ≤ 1000000000
  · rw [if_pos z]
    cases hj : mIx n m s i with
    | none => exact h
    | some j =>
      simp only
      obtain ⟨z1, z4, hA, hB, z5, hI⟩ := zI_un h2
      have hlk := (hA k.toInt.toNat (by omega)).2.2.2.1
      have e9 : (1000000000 : Nat) ≤ 10000000 ^ 10 := by decide
      have hmv : mvI (a.toInt, b.toInt) (a.toInt, b.toInt) := ⟨by show 0 < b.toInt; omega, by show 0 < b.toInt; omega, rfl, Nat.le_refl _, Int.le_refl _, by show a.toInt.natAbs ≤ _; omega, by show b.toInt ≤ _; omega⟩
      refine okF_mk h1 (zI_mk z1 z4 hA hB (fun w1 w2 => ?_) (lf_ups hI ⟨mv_ups (hI _ hlk).1 hmv, ?_⟩ (fun j hj _ => hj))) h3
      · obtain ⟨k2, e1, e2, e3, e4⟩ := z5 w1 w2
        refine ⟨k2, e1, e2, e3, fun x hx => ?_⟩
        by_cases e : ln k2 = ln k.toInt.toNat
        · rw [e, ups_s]
          by_cases e5 : x = j
          · rw [e5, ups_s]; show b.toInt ≤ _; omega
          · rw [ups_n _ _ e5, ← e]; exact e4 x hx
        · rw [ups_n _ _ e]; exact e4 x hx
      · have := wS_set (f := mp (ln k.toInt.toNat)) (v := (a.toInt, b.toInt)) (i := j) (if_pos (by show b.toInt ≤ 1000000000; omega)) (j := 32)
        have := (hI _ hlk).2
        omega
  · rw [if_neg z]; exact h
theorem c_setSplit {k v : Int32} (h : clV σ o q N ((n, m, A, kd, bb, wh, dr), ((D, T, va, bs, cl), (K, lc, up, fi, se, vr, fo, to, cd, ln, op), (st, sp, ex, cf, spl), mp, mq), wp, wq, hd, ah)) (ho : okF ((n, m, A, kd, bb, wh, dr), ((D, T, va, bs, cl), (K, lc, up, fi, se, vr, fo, to, cd, ln, op), (st, sp, ex, cf, spl), mp, mq), wp, wq, hd, ah)) : gp (X11_setSplit f (some o) k v) σ (cPo σ o q N (mSeS k v ((n, m, A, kd, bb, wh, dr), ((D, T, va, bs, cl), (K, lc, up, fi, se, vr, fo, to, cd, ln, op), (st, sp, ex, cf, spl), mp, mq), wp, wq, hd, ah)).1 (mSeS k v ((n, m, A, kd, bb, wh, dr), ((D, T, va, bs, cl), (K, lc, up, fi, se, vr, fo, to, cd, ln, op), (st, sp, ex, cf, spl), mp, mq), wp, wq, hd, ah)).2) := by
  obtain ⟨hsl, hW⟩ := clV_un h
  obtain ⟨hr, hz, -⟩ := okF_un ho
  obtain ⟨hc, hw, hs, ht, hct, hlf, htb, hbn⟩ := slV_un hsl
  obtain ⟨-, -, hA, -, -, hI⟩ := zI_un hz
  have hK3 := ht.1.2.2.2.1
  have bad : ¬ (((0 ≤ k.toInt ∧ k.toInt < K) ∧ fi k.toInt.toNat ≠ none) ∧ -1000000000 ≤ v.toInt ∧ v.toInt ≤ 1000000000) → gp (X11_setSplit_b34 f) σ (cPo σ o q N (mSeS k v ((n, m, A, kd, bb, wh, dr), ((D, T, va, bs, cl), (K, lc, up, fi, se, vr, fo, to, cd, ln, op), (st, sp, ex, cf, spl), mp, mq), wp, wq, hd, ah)).1 (mSeS k v ((n, m, A, kd, bb, wh, dr), ((D, T, va, bs, cl), (K, lc, up, fi, se, vr, fo, to, cd, ln, op), (st, sp, ex, cf, spl), mp, mq), wp, wq, hd, ah)).2) := by
    intro w
    have e : mSeS k v ((n, m, A, kd, bb, wh, dr), ((D, T, va, bs, cl), (K, lc, up, fi, se, vr, fo, to, cd, ln, op), (st, sp, ex, cf, spl), mp, mq), wp, wq, hd, ah) = (((n, m, A, kd, bb, wh, dr), ((D, T, va, bs, cl), (K, lc, up, fi, se, vr, fo, to, cd, ln, op), (st, sp, ex, cf, spl), mp, mq), wp, wq, hd, ah), -1) := if_neg w
    rw [e]
    exact gp_ret (cPo_0 h rfl)
  unfold X11_setSplit
  refine gp_rR (cs_me hc) rfl ?_
  refine gp_cV (cs_tree hc) (gp_mono (c_has hc ht) ?_)
  rintro y σ0 ⟨e0, hy⟩
  rw [e0]
  clear e0 σ0
  refine gp_if (fun z => ?_) (fun z => ?_)
  · exact bad (fun w => ite0 hy z w.1.1)
  have hx := ite1 hy z
  obtain ⟨kk, hk, hk31, hk2⟩ := i32_nat hx.1
  have hkK : kk < K := by omega
  have ek : k.toInt.toNat = kk := by omega
  refine gp_rR (cs_me hc) rfl ?_
  have hsp : gp (X10_isSplit f (some (o + 312)) k) σ (fun y σ' => σ' = σ ∧ y = if fi kk = none then 0 else 1) := by rw [hk]; exact c_isSplit hc ht (stA_w hA) hkK
  refine gp_cV (cs_tree hc) (gp_mono hsp ?_)
  rintro x4 σ0 ⟨e0, rfl⟩
  rw [e0]
  clear e0 σ0 hsp
  by_cases hfk : fi kk = none
  · rw [if_pos hfk]
    exact gp_t rfl (bad (fun w => w.1.2 (by rw [ek]; exact hfk)))
  rw [if_neg hfk]
  refine gp_f (by decide) ?_
  refine gp_if (fun w => ?_) (fun w => ?_)
  · have w' : v.toInt < -1000000000 := (i32_c v (-1000000000)).1.1 w
    exact bad (by omega)
  have w' : ¬ v.toInt < -1000000000 := fun e => w ((i32_c v (-1000000000)).1.2 e)
  refine gp_if (fun u => ?_) (fun u => ?_)
  rotate_left
  · have u' : ¬ v.toInt ≤ 1000000000 := fun e => u ((i32_c v 1000000000).2.2 e)
    exact bad (by omega)
  have u' : v.toInt ≤ 1000000000 := (i32_c v 1000000000).2.1 u
  clear bad
  have e : mSeS k v ((n, m, A, kd, bb, wh, dr), ((D, T, va, bs, cl), (K, lc, up, fi, se, vr, fo, to, cd, ln, op), (st, sp, ex, cf, spl), mp, mq), wp, wq, hd, ah) = (((n, m, A, kd, bb, wh, dr), ((D, T, va, bs, cl), (K, lc, up, fi, se, vr, fo, ups to k.toInt.toNat v.toInt, cd, ln, op), (st, sp, ex, cf, spl), mp, mq), wp, wq, hd, ah), 0) := if_pos ⟨⟨hx, by rw [ek]; exact hfk⟩, by omega, u'⟩
  rw [e, ek, hk]
  refine gp_rR (cs_me hc) rfl ?_
  refine gp_rR (cs_tree hc) rfl ?_
  refine gp_sL (j := kk) (cs_told hc) (by omega) (by omega) rfl ?_
  have hF : Fr (fun x => x = o + 318) σ (tz_sL σ (o + 318) kk (Int32.toInt64 v)) := Fr_sL rfl
  obtain ⟨t1, t2, t3, t4⟩ := id ht
  have ht2 : trV (tz_sL σ (o + 318) kk (Int32.toInt64 v)) o q K lc up fi se vr fo (ups to kk v.toInt) cd ln op := by
    refine ⟨t1, t2, t3, fun j hj hfj => ?_⟩
    obtain ⟨a1, a2, a3⟩ := t4 j hj hfj
    rw [Fr_A hF (x := o + 316) (by omega)]
    refine ⟨a1, ?_, ?_⟩
    · rw [Fr_L hF (x := o + 317) (by omega)]; exact a2
    · show (tz_u2 (tz_L σ) (o + 318) kk (Int32.toInt64 v) (o + 318) j).toInt = _
      by_cases w : j = kk
      · rw [w, tz_u2_same, ups_s, Int32.toInt_toInt64]
      · rw [tz_u2_ne _ _ (Or.inr w), ups_n _ _ w]; exact a3
  exact gp_ret (cPo_fr hF (fun x z => by unfold clP; omega) (clV_mk (slV_mk (cs_fr hc hF) (rwV_fr hw hF (fun x a b => by omega)) (smOk_fr hs hF (by omega) (by omega)) ht2 (ctV_fr hct hF (by omega)) (fun i hi => lfV_fr (hlf i hi) hF (fun x a b => by unfold lfA at a; omega)) (fun w => tbV_fr (htb w) hF (fun x a b => by omega) (fun x a b => by omega)) (fun w k e => bnA_fr (hbn w k e) hF (fun x a b => by omega))) (clW_fr hW hF (by omega) (by omega) (by omega) (fun x a b => by omega))) rfl)
theorem okF_setSplit {k v : Int32} (h : okF ((n, m, A, kd, bb, wh, dr), ((D, T, va, bs, cl), (K, lc, up, fi, se, vr, fo, to, cd, ln, op), (st, sp, ex, cf, spl), mp, mq), wp, wq, hd, ah)) : okF (mSeS k v ((n, m, A, kd, bb, wh, dr), ((D, T, va, bs, cl), (K, lc, up, fi, se, vr, fo, to, cd, ln, op), (st, sp, ex, cf, spl), mp, mq), wp, wq, hd, ah)).1 := by
  obtain ⟨h1, h2, h3⟩ := okF_un h
  unfold mSeS
  simp only
  by_cases z : ((0 ≤ k.toInt ∧ k.toInt < K) ∧ fi k.toInt.toNat ≠ none) ∧ -1000000000 ≤ v.toInt ∧ v.toInt ≤ 1000000000
  · rw [if_pos z]
    obtain ⟨z1, z4, hA, hB, z5, hI⟩ := zI_un h2
    refine okF_mk h1 (zI_mk z1 z4 (fun j hj => ?_) hB z5 hI) h3
    obtain ⟨a1, a2, a3, a4, a5⟩ := hA j hj
    refine ⟨a1, a2, a3, a4, fun w => ?_⟩
    obtain ⟨b1, b2, b3⟩ := a5 w
    refine ⟨b1, b2, ?_⟩
    by_cases e : j = k.toInt.toNat
    · rw [e, ups_s]; omega
    · rw [ups_n _ _ e]; exact b3
  · rw [if_neg z]; exact h
theorem c_judgeTree (h : clV σ o q N ((n, m, A, kd, bb, wh, dr), ((D, T, va, bs, cl), (K, lc, up, fi, se, vr, fo, to, cd, ln, op), (st, sp, ex, cf, spl), mp, mq), wp, wq, hd, ah)) (ho : okF ((n, m, A, kd, bb, wh, dr), ((D, T, va, bs, cl), (K, lc, up, fi, se, vr, fo, to, cd, ln, op), (st, sp, ex, cf, spl), mp, mq), wp, wq, hd, ah)) (hf : 2000 ≤ f) : gp (X11_judgeTree f (some o)) σ (cPo σ o q N ((n, m, A, kd, bb, wh, dr), ((D, T, va, bs, cl), (K, lc, up, fi, se, vr, fo, to, cd, ln, op), (st, sp, ex, cf, spl), mp, mq), wp, wq, hd, ah) (mJuT ((n, m, A, kd, bb, wh, dr), ((D, T, va, bs, cl), (K, lc, up, fi, se, vr, fo, to, cd, ln, op), (st, sp, ex, cf, spl), mp, mq), wp, wq, hd, ah))) := by
  obtain ⟨hsl, hW⟩ := clV_un h
  obtain ⟨hr, hz, -⟩ := okF_un ho
  obtain ⟨hc, hw, hs, ht, hct, hlf, htb, hbn⟩ := slV_un hsl
  obtain ⟨-, -, hA, -, -, hI⟩ := zI_un hz
  have hK3 := ht.1.2.2.2.1
  unfold X11_judgeTree
  unfold mJuT
  simp only
  refine gp_rR (cs_me hc) rfl ?_
  refine gp_rI (cs_tree hc) rfl ?_
  rw [ht.1.1]
  refine gp_if (fun z => ?_) (fun z => ?_)
  · rw [show (0 : Int32) = nI 0 from rfl, nI_eq (by omega) (by omega)] at z
    rw [if_pos z]
    exact gp_ret (cPo_0 h rfl)
  rw [show (0 : Int32) = nI 0 from rfl, nI_eq (by omega) (by omega)] at z
  rw [if_neg z]
  have keep : ∀ σ2, Fr (jP o) σ σ2 → smOk σ2 (o + 30) N → smOk σ2 (o + 329) N → clV σ2 o q N ((n, m, A, kd, bb, wh, dr), ((D, T, va, bs, cl), (K, lc, up, fi, se, vr, fo, to, cd, ln, op), (st, sp, ex, cf, spl), mp, mq), wp, wq, hd, ah) := by
    intro σ2 g1 g2 g3
    refine clV_mk (slV_mk (cs_fr hc g1) (rwV_fr hw g1 (fun x a b => by unfold jP; omega)) g2 (trV_fr ht g1 (fun x a b => by unfold jP; omega)) (ctV_fr hct g1 (by unfold jP; omega)) (fun i hi => lfV_fr (hlf i hi) g1 (fun x a b => by unfold jP; unfold lfA at a; omega)) (fun z => tbV_fr (htb z) g1 (fun x a b => by unfold jP; omega) (fun x a b => by unfold jP; omega)) (fun z k e => bnA_fr (hbn z k e) g1 (fun x a b => by unfold jP; omega))) ?_
    obtain ⟨-, b, c, d⟩ := hW
    exact ⟨g3, fun x hx => Fz_fr (b x hx) g1 (fun y e1 e2 => by unfold jP; omega), Fz_fr c g1 (fun y e1 e2 => by unfold jP; omega), by rw [Fr_F g1 (by unfold jP; omega)]; exact d⟩
  unfold X11_judgeTree_L14
  refine gp_loop (I := fun (τ : Int32) (σ' : tz_S) => ∃ i, τ = nI i ∧ i ≤ K ∧ Fr (jP o) σ σ' ∧ smOk σ' (o + 30) N ∧ smOk σ' (o + 329) N ∧ ∀ p, p < i → (!gdN n m A kd bb wh up fi se vr to ln mp p) = false) (fun τ _ => 400 - τ.toNatClampNeg) ?_ f _ _ ⟨0, rfl, Nat.zero_le _, Fr_refl, hs, hW.1, fun x hx => absurd hx (Nat.not_lt_zero _)⟩ (by omega)
  rintro K1 l1 σ1 ⟨i, rfl, hi, hF, hs1, hO1, h1⟩ hK
  show gp (X11_judgeTree_L14_body f (some o) (fun l1 => K1 l1) (nI i)) σ1 _
  unfold X11_judgeTree_L14_body
  have hc1 := cs_fr hc hF
  have ht1 := trV_fr ht hF (fun x a b => by unfold jP; omega)
  refine gp_rR (cs_me hc1) rfl ?_
  refine gp_rI (cs_tree hc1) rfl ?_
  rw [ht1.1.1]
  refine gp_if (fun y => ?_) (fun y => ?_)
  · rw [nI_leI (by omega) (by omega)] at y
    refine gp_ret (cPo_fr hF (fun x z => by unfold jP at z; unfold clP; omega) (keep σ1 hF hs1 hO1) ?_)
    rw [fst1_none (fun p hp => h1 p (by omega))]
  rw [nI_leI (by omega) (by omega)] at y
  refine gp_rR (cs_me hc1) rfl ?_
  refine gp_cV (cs_judge hc1) (gp_mono (c_isGood (mq := mq) hc1 hr (rwV_fr hw hF (fun x a b => by unfold jP; omega)) hs1 hO1 ht1 hA (fun i hi => lfV_fr (hlf i hi) hF (fun x a b => by unfold jP; unfold lfA at a; omega)) hI (by omega) hf) ?_)
  rintro x6 σ2 ⟨hF2, hs2, hO2, rfl⟩
  have hFa := Fr_trans hF hF2
  cases hg : gdN n m A kd bb wh up fi se vr to ln mp i with
  | true =>
    refine gp_f (by simp) ?_
    refine gp_let ?_
    rw [nI_1]
    refine hK _ _ ⟨i + 1, rfl, by omega, hFa, hs2, hO2, fun p hp => ?_⟩ (by rw [nI_clamp (by omega), nI_clamp (by omega)]; omega)
    by_cases e : p = i
    · rw [e, hg]; rfl
    · exact h1 p (by omega)
  | false =>
    refine gp_t (by simp) ?_
    refine gp_ret (cPo_fr hFa (fun x z => by unfold jP at z; unfold clP; omega) (keep σ2 hFa hs2 hO2) ?_)
    rw [fst1_some h1 (by rw [hg]; rfl) (show i < K by omega)]
    show 1 + nI i = nI (1 + i)
    rw [show (1 : Int32) = nI 1 from rfl, nI_add]
end M7
