/-! ===== Solving: sideBeyond, firstBeyond, firstNotWhole, enteringColumn ===== -/
def ix (g : Nat → Nat) (p : Nat) : Nat → Option Nat
  | 0 => none
  | m + 1 => match ix g p m with
    | some r => some r
    | none => if g m = p then some m else none
theorem ix_some {g : Nat → Nat} {p : Nat} : ∀ {m r : Nat}, ix g p m = some r → r < m ∧ g r = p
  | 0, r, h => by cases h
  | m + 1, r, h => by
    simp only [ix] at h
    cases hm : ix g p m with
    | some r' =>
      rw [hm] at h
      cases h
      have := ix_some hm
      exact ⟨by omega, this.2⟩
    | none =>
      rw [hm] at h
      by_cases z : g m = p
      · simp only [z, if_true] at h; cases h; exact ⟨by omega, z⟩
      · simp only [z, if_false] at h; cases h
theorem ix_none {g : Nat → Nat} {p : Nat} : ∀ {m : Nat}, ix g p m = none → ∀ r, r < m → g r ≠ p
  | 0, _, r, hr => absurd hr (Nat.not_lt_zero _)
  | m + 1, h, r, hr => by
    simp only [ix] at h
    cases hm : ix g p m with
    | some r' => rw [hm] at h; cases h
    | none =>
      rw [hm] at h
      by_cases z : g m = p
      · simp only [z, if_true] at h; cases h
      · by_cases y : r = m
        · rw [y]; exact z
        · exact ix_none hm r (by omega)
theorem ix_eq {g : Nat → Nat} {p m r : Nat} (hr : r < m) (hg : g r = p) (hi : ∀ r', r' < m → g r' = p → r' = r) : ix g p m = some r := by
  cases h : ix g p m with
  | none => exact absurd hg (ix_none h r hr)
  | some r' =>
    obtain ⟨h1, h2⟩ := ix_some h
    rw [hi r' h1 h2]
def fst1 (P : Nat → Bool) : Nat → Option Nat
  | 0 => none
  | N + 1 => match fst1 P N with
    | some i => some i
    | none => if P N = true then some N else none
theorem fst1_none {P : Nat → Bool} : ∀ {N : Nat}, (∀ p, p < N → P p = false) → fst1 P N = none
  | 0, _ => rfl
  | N + 1, h => by
    simp only [fst1]
    rw [fst1_none (fun p hp => h p (by omega))]
    simp [h N (by omega)]
theorem fst1_some {P : Nat → Bool} {i : Nat} (h : ∀ p, p < i → P p = false) (hi : P i = true) : ∀ {N : Nat}, i < N → fst1 P N = some i
  | 0, hN => absurd hN (Nat.not_lt_zero _)
  | N + 1, hN => by
    simp only [fst1]
    by_cases z : i = N
    · subst z
      rw [fst1_none h]
      simp [hi]
    · rw [fst1_some h hi (show i < N by omega)]
theorem fst1_spec {P : Nat → Bool} : ∀ {N i : Nat}, fst1 P N = some i → i < N ∧ P i = true ∧ ∀ p, p < i → P p = false
  | 0, i, h => by cases h
  | N + 1, i, h => by
    simp only [fst1] at h
    cases hm : fst1 P N with
    | some j =>
      rw [hm] at h
      cases h
      have := fst1_spec hm
      exact ⟨by omega, this.2⟩
    | none =>
      rw [hm] at h
      by_cases z : P N = true
      · simp only [z, if_true] at h
        cases h
        refine ⟨by omega, z, ?_⟩
        clear z
        have : ∀ M, fst1 P M = none → ∀ p, p < M → P p = false := by
          intro M
          induction M with
          | zero => intro _ p hp; exact absurd hp (Nat.not_lt_zero _)
          | succ M ih =>
            intro h p hp
            simp only [fst1] at h
            cases hq : fst1 P M with
            | some j => rw [hq] at h; cases h
            | none =>
              rw [hq] at h
              by_cases y : P M = true
              · simp only [y, if_true] at h; cases h
              · by_cases w : p = M
                · rw [w]; simpa using y
                · exact ih hq p (by omega)
        exact this N hm
      · simp only [z] at h; cases h
theorem fst1_noneI {P : Nat → Bool} {N : Nat} (h : fst1 P N = none) : ∀ p, p < N → P p = false := by
  intro p hp
  cases hP : P p with
  | false => rfl
  | true =>
    -- the smallest such one
    have : ∃ i, i ≤ p ∧ P i = true ∧ ∀ j, j < i → P j = false := by
      clear h hp
      induction p using Nat.strongRecOn with
      | ind p ih =>
        by_cases z : ∃ j, j < p ∧ P j = true
        · obtain ⟨j, hj, hPj⟩ := z
          obtain ⟨i, hi, h1, h2⟩ := ih j hj hPj
          exact ⟨i, by omega, h1, h2⟩
        · refine ⟨p, Nat.le_refl _, hP, fun j hj => ?_⟩
          cases hPj : P j with
          | false => rfl
          | true => exact absurd ⟨j, hj, hPj⟩ z
    obtain ⟨i, hi, h1, h2⟩ := this
    rw [fst1_some h2 h1 (show i < N by omega)] at h
    cases h
def isBelow (D a : Int) (l : Option Int) : Bool := match l with
  | none => false
  | some v => decide (a < v * D)
def isAbove (D a : Int) (u : Option Int) : Bool := match u with
  | none => false
  | some v => decide (v * D < a)
def sdB (D a : Int) (u l : Option Int) : Int32 := if isBelow D a l = true then -1 else if isAbove D a u = true then 1 else 0
def bnA (σ : tz_S) (B c : Nat) (ub lb : Nat → Option Int) : Prop := ∀ p, p < c → bp σ B p (ub p) (lb p)
def bnR (c : Nat) (ub lb : Nat → Option Int) : Prop := ∀ p v, p < c → (ub p = some v ∨ lb p = some v) → -4000000000000000000 < v ∧ v < 4000000000000000000
theorem bnA_fr {P : Nat → Prop} {σ σ1 : tz_S} {B c : Nat} {ub lb : Nat → Option Int} (h : bnA σ B c ub lb) (hf : Fr P σ σ1) (hP : ∀ x, B + 1 ≤ x → x ≤ B + 4 → ¬ P x) : bnA σ1 B c ub lb := fun p hp => bp_fr (h p hp) hf hP
/-- every place is basic, or it isn't -/
def plc (n m : Nat) (bs cl : Nat → Nat) : Prop := ∀ p, p < n + m → (∃ r, r < m ∧ bs r = p) ∨ ∃ c, c < n ∧ cl c = p
section SV
variable {f o N n m : Nat} {σ : tz_S} {D : Int} {T : Nat → Nat → Int} {am va : Nat → Int} {bs cl : Nat → Nat} {A : Nat → Nat → Int} {kd : Nat → Nat} {bb dr : Nat → Int} {wh : Nat → Bool} {ub lb : Nat → Option Int}
theorem tb_bs {r r' : Nat} (ht : tbV σ o n m D T am va bs cl) (hr : r < m) (hr' : r' < m) (h : bs r' = bs r) : r' = r := by
  obtain ⟨⟨-, -, h3, h3'⟩, -, -, -, -, h8, -⟩ := ht
  have a := (h8 r hr).2.2.1
  have b := (h8 r' hr').2.2.1
  rw [h, a, nI_eq (by omega) (by omega)] at b
  exact b.symm
theorem tb_cl {r r' : Nat} (ht : tbV σ o n m D T am va bs cl) (hr : r < n) (hr' : r' < n) (h : cl r' = cl r) : r' = r := by
  obtain ⟨⟨-, -, h3, h3'⟩, -, -, -, -, -, h9⟩ := ht
  have a := (h9 r hr).2.2.1
  have b := (h9 r' hr').2.2.1
  rw [h, a, nI_eq (by omega) (by omega)] at b
  exact b.symm
theorem tb_bc {r c : Nat} (ht : tbV σ o n m D T am va bs cl) (hr : r < m) (hc : c < n) : bs r ≠ cl c := by
  obtain ⟨-, -, -, -, -, h8, h9⟩ := ht
  intro h
  have a := (h8 r hr).2.2.2
  have b := (h9 c hc).2.2.2
  rw [h, b] at a
  exact absurd a (by decide)
theorem tb_ixR {r : Nat} (ht : tbV σ o n m D T am va bs cl) (hr : r < m) : ix bs (bs r) m = some r := ix_eq hr rfl (fun r' h1 h2 => tb_bs ht hr h1 h2)
theorem tb_ixC {c : Nat} (ht : tbV σ o n m D T am va bs cl) (hc : c < n) : ix cl (cl c) n = some c := ix_eq hc rfl (fun r' h1 h2 => tb_cl ht hc h1 h2)
theorem tb_ixRn {c : Nat} (ht : tbV σ o n m D T am va bs cl) (hc : c < n) : ix bs (cl c) m = none := by
  cases h : ix bs (cl c) m with
  | none => rfl
  | some r =>
    obtain ⟨h1, h2⟩ := ix_some h
    exact absurd h2 (tb_bc ht h1 hc)
theorem tb_ixCn {r : Nat} (ht : tbV σ o n m D T am va bs cl) (hr : r < m) : ix cl (bs r) n = none := by
  cases h : ix cl (bs r) n with
  | none => rfl
  | some c =>
    obtain ⟨h1, h2⟩ := ix_some h
    exact absurd h2.symm (tb_bc ht hr h1)
set_option maxHeartbeats 1000000 in
theorem c_sideBeyond {r : Nat} (hc : cSh σ o N) (ht : tbV σ o n m D T am va bs cl) (hs : smOk σ (o + 30) N) (hb : bnA σ (o + 323) (n + m) ub lb) (hbr : bnR (n + m) ub lb) (hf : 2000 ≤ f) (hr : r < m) :
    gp (X7_sideBeyond f (some (o + 322)) (nI (bs r)) (nI r)) σ (fun y σ' => Fr (bP (o + 30)) σ σ' ∧ smOk σ' (o + 30) N ∧ y = sdB D (am r) (ub (bs r)) (lb (bs r))) := by
  have hp := (ht.2.2.2.2.2.1 r hr).2.1
  have hn1 := ht.1.2.2.1
  have hm1 := ht.1.2.2.2
  generalize hpe : bs r = p at hp ⊢
  have half : ∀ σ1, Fr (bP (o + 30)) σ σ1 → smOk σ1 (o + 30) N → isBelow D (am r) (lb p) = false → gp (X7_sideBeyond_b34 f (some (o + 322)) (nI p) (nI r)) σ1 (fun y σ' => Fr (bP (o + 30)) σ σ' ∧ smOk σ' (o + 30) N ∧ y = sdB D (am r) (ub p) (lb p)) := by
    intro σ1 hF1 hs1 hbel
    have hc1 := cs_fr hc hF1
    have ht1 := tbV_fr ht hF1 (fun x a b => by unfold bP; omega) (fun x a b => by unfold bP; omega)
    have hb1 := bnA_fr hb hF1 (fun x a b => by unfold bP; omega)
    obtain ⟨b1, b2, b3, b4⟩ := hb1 p hp
    have s1 := cs_bn1 hc1
    unfold X7_sideBeyond_b34 X7_sideBeyond_b70 X7_sideBeyond_b71
    refine gp_rR (cs_solv hc1) rfl ?_
    refine gp_rR s1.1 rfl ?_
    refine gp_aI (j := p) s1.2.1 (by decide) (by omega) (by omega) rfl ?_
    rw [b1]
    have e0 : isAbove D (am r) (ub p) = false → sdB D (am r) (ub p) (lb p) = 0 := fun h => by simp [sdB, hbel, h]
    have e1 : isAbove D (am r) (ub p) = true → sdB D (am r) (ub p) (lb p) = 1 := fun h => by simp [sdB, hbel, h]
    cases hu : ub p with
    | none =>
      rw [hu] at e0
      refine gp_t (by simp) (gp_ret ⟨hF1, hs1, ?_⟩)
      rw [e0 rfl]
    | some v =>
      rw [hu] at e0 e1
      have hv := hbr p v hp (Or.inl hu)
      have hvL := b3 v hu
      refine gp_f (by simp) ?_
      refine gp_rR (cs_solv hc1) rfl ?_
      refine gp_rR (cs_solv hc1) rfl ?_
      refine gp_rR s1.1 rfl ?_
      refine gp_aL (j := p) s1.2.2.2.1 (by omega) (by omega) rfl ?_
      generalize tz_L σ1 (o + 323 + 3) p = w at hvL ⊢
      refine gp_cV (cs_tab hc1) (gp_mono (c_compareAmount hc1 ht1 hs1 hf hr (by rw [hvL]; omega)) ?_)
      rintro x11 σ2 ⟨hF2, hx, u, hu2, hS⟩
      rw [hvL] at hx
      refine gp_if (fun z => ?_) (fun z => ?_)
      · refine gp_ret ⟨Fr_trans hF1 hF2, ⟨u, _, hS⟩, ?_⟩
        rw [e0]
        show decide (v * D < am r) = false
        rw [decide_eq_false_iff_not]
        rw [hx] at z
        rcases isg_cases (am r - v * D) with y | y | y
        · rw [y.2] at z; exact absurd z (by decide)
        · omega
        · omega
      · refine gp_ret ⟨Fr_trans hF1 hF2, ⟨u, _, hS⟩, ?_⟩
        rw [e1]
        show decide (v * D < am r) = true
        rw [decide_eq_true_iff]
        rw [hx] at z
        rcases isg_cases (am r - v * D) with y | y | y
        · omega
        · rw [y.2] at z; exact absurd (by decide) z
        · rw [y.2] at z; exact absurd (by decide) z
  obtain ⟨b1, b2, b3, b4⟩ := hb p hp
  have s1 := cs_bn1 hc
  unfold X7_sideBeyond
  refine gp_rR (cs_solv hc) rfl ?_
  refine gp_rR s1.1 rfl ?_
  refine gp_aI (j := p) s1.2.2.1 (by decide) (by omega) (by omega) rfl ?_
  rw [b2]
  cases hl : lb p with
  | none =>
    rw [hl] at half
    exact gp_t (by simp) (half σ Fr_refl hs rfl)
  | some v =>
    rw [hl] at half
    have hv := hbr p v hp (Or.inr hl)
    have hvL := b4 v hl
    refine gp_f (by simp) ?_
    refine gp_rR (cs_solv hc) rfl ?_
    refine gp_rR (cs_solv hc) rfl ?_
    refine gp_rR s1.1 rfl ?_
    refine gp_aL (j := p) s1.2.2.2.2 (by omega) (by omega) rfl ?_
    generalize tz_L σ (o + 323 + 4) p = w at hvL ⊢
    refine gp_cV (cs_tab hc) (gp_mono (c_compareAmount hc ht hs hf hr (by rw [hvL]; omega)) ?_)
    rintro x16 σ2 ⟨hF2, hx, u, hu2, hS⟩
    rw [hvL] at hx
    refine gp_if (fun z => ?_) (fun z => ?_)
    · refine half σ2 hF2 ⟨u, _, hS⟩ ?_
      show decide (am r < v * D) = false
      rw [decide_eq_false_iff_not]
      rw [hx] at z
      rcases isg_cases (am r - v * D) with y | y | y
      · omega
      · rw [y.2] at z; exact absurd z (by decide)
      · omega
    · refine gp_ret ⟨hF2, ⟨u, _, hS⟩, ?_⟩
      have : isBelow D (am r) (some v) = true := by
        show decide (am r < v * D) = true
        rw [decide_eq_true_iff]
        rw [hx] at z
        rcases isg_cases (am r - v * D) with y | y | y
        · rw [y.2] at z; exact absurd (by decide) z
        · omega
        · rw [y.2] at z; exact absurd (by decide) z
      simp [sdB, this]
/-- the place p is basic and beyond a bound -/
def isBey (m : Nat) (D : Int) (am : Nat → Int) (bs : Nat → Nat) (ub lb : Nat → Option Int) (p : Nat) : Bool := match ix bs p m with
  | none => false
  | some r => decide (sdB D (am r) (ub p) (lb p) ≠ 0)
theorem c_firstBeyond (hc : cSh σ o N) (ht : tbV σ o n m D T am va bs cl) (hs : smOk σ (o + 30) N) (hb : bnA σ (o + 323) (n + m) ub lb) (hbr : bnR (n + m) ub lb) (hpl : plc n m bs cl) (hf : 2000 ≤ f) :
    gp (X7_firstBeyond f (some (o + 322))) σ (fun y σ' => Fr (bP (o + 30)) σ σ' ∧ smOk σ' (o + 30) N ∧ y = eN (fst1 (isBey m D am bs ub lb) (n + m))) := by
  have hn1 := ht.1.2.2.1
  have hm1 := ht.1.2.2.2
  unfold X7_firstBeyond X7_firstBeyond_L2
  refine gp_loop (I := fun (τ : Int32) (σ' : tz_S) => ∃ i, τ = nI i ∧ i ≤ n + m ∧ Fr (bP (o + 30)) σ σ' ∧ smOk σ' (o + 30) N ∧ ∀ p, p < i → isBey m D am bs ub lb p = false) (fun τ _ => 100 - τ.toNatClampNeg) ?_ f _ _ ⟨0, rfl, Nat.zero_le _, Fr_refl, hs, fun p hp => absurd hp (Nat.not_lt_zero _)⟩ (by omega)
  rintro K l1 σ1 ⟨i, rfl, hi, hF1, hs1, h1⟩ hK
  show gp (X7_firstBeyond_L2_body f (some (o + 322)) (fun l1 => K l1) (nI i)) σ1 _
  unfold X7_firstBeyond_L2_body
  have hc1 := cs_fr hc hF1
  have ht1 := tbV_fr ht hF1 (fun x a b => by unfold bP; omega) (fun x a b => by unfold bP; omega)
  have hb1 := bnA_fr hb hF1 (fun x a b => by unfold bP; omega)
  refine gp_rR (cs_solv hc1) rfl ?_
  refine gp_cV (cs_tab hc1) (gp_mono (c_places hc1 ht1) ?_)
  rintro y σ0 ⟨z0, rfl⟩
  rw [z0]
  clear z0 σ0
  refine gp_if (fun z => ?_) (fun z => ?_)
  · rw [nI_leI (by omega) (by omega)] at z
    refine gp_ret ⟨hF1, hs1, ?_⟩
    rw [fst1_none (fun p hp => h1 p (by omega))]
    rfl
  rw [nI_leI (by omega) (by omega)] at z
  have next : ∀ σ2, Fr (bP (o + 30)) σ σ2 → smOk σ2 (o + 30) N → isBey m D am bs ub lb i = false → gp (X7_firstBeyond_b37 f (fun l1 => K l1) (some (o + 322)) (nI i)) σ2 (fun y σ' => Fr (bP (o + 30)) σ σ' ∧ smOk σ' (o + 30) N ∧ y = eN (fst1 (isBey m D am bs ub lb) (n + m))) := by
    intro σ2 q1 q2 q3
    unfold X7_firstBeyond_b37
    refine gp_let ?_
    rw [nI_1]
    refine hK _ _ ⟨i + 1, rfl, by omega, q1, q2, fun p hp => ?_⟩ (by rw [nI_clamp (by omega), nI_clamp (by omega)]; omega)
    by_cases y : p = i
    · rw [y]; exact q3
    · exact h1 p (by omega)
  refine gp_rR (cs_solv hc1) rfl ?_
  rcases hpl i (by omega) with ⟨r, hr, hri⟩ | ⟨c, hcn, hci⟩
  · have hix := tb_ixR ht hr
    subst hri
    refine gp_cV (cs_tab hc1) (gp_mono (c_rowOfR hc1 ht1 hr) ?_)
    rintro y σ0 ⟨z0, rfl⟩
    rw [z0]
    clear z0 σ0
    refine gp_f (nI_pos (by omega)) ?_
    refine gp_cV (cs_solv hc1) (gp_mono (c_sideBeyond hc1 ht1 hs1 hb1 hbr hf hr) ?_)
    rintro x6 σ2 ⟨hF2, hs2, hx⟩
    have e : isBey m D am bs ub lb (bs r) = decide (sdB D (am r) (ub (bs r)) (lb (bs r)) ≠ 0) := by simp only [isBey, hix]
    refine gp_if (fun y => ?_) (fun y => ?_)
    · refine next σ2 (Fr_trans hF1 hF2) hs2 ?_
      rw [e, ← hx, y]
      rfl
    · refine gp_ret ⟨Fr_trans hF1 hF2, hs2, ?_⟩
      rw [fst1_some h1 (by rw [e, ← hx]; simpa using y) (by omega)]
      rfl
  · subst hci
    refine gp_cV (cs_tab hc1) (gp_mono (c_rowOfC hc1 ht1 hcn) ?_)
    rintro y σ0 ⟨z0, rfl⟩
    rw [z0]
    clear z0 σ0
    refine gp_t (by decide) (next σ1 hF1 hs1 ?_)
    simp only [isBey, tb_ixRn ht hcn]
/-- the variable x is to be whole, is basic, and isn't whole -/
def isBrk (m : Nat) (D : Int) (am : Nat → Int) (bs : Nat → Nat) (wh : Nat → Bool) (x : Nat) : Bool := match ix bs x m with
  | none => false
  | some r => wh x && decide (am r % D ≠ 0)
theorem c_firstNotWhole (hc : cSh σ o N) (ht : tbV σ o n m D T am va bs cl) (hw : rwV σ o n m A kd bb wh dr) (hpl : plc n m bs cl) (hf : 2000 ≤ f) :
    gp (X7_firstNotWhole f (some (o + 322))) σ (fun y σ' => Fr (divP (o + 19)) σ σ' ∧ y = eN (fst1 (isBrk m D am bs wh) n)) := by
  have hn1 := ht.1.2.2.1
  have hm1 := ht.1.2.2.2
  unfold X7_firstNotWhole X7_firstNotWhole_L2
  refine gp_loop (I := fun (τ : Int32) (σ' : tz_S) => ∃ i, τ = nI i ∧ i ≤ n ∧ Fr (divP (o + 19)) σ σ' ∧ ∀ p, p < i → isBrk m D am bs wh p = false) (fun τ _ => 100 - τ.toNatClampNeg) ?_ f _ _ ⟨0, rfl, Nat.zero_le _, Fr_refl, fun p hp => absurd hp (Nat.not_lt_zero _)⟩ (by omega)
  rintro K l1 σ1 ⟨i, rfl, hi, hF1, h1⟩ hK
  show gp (X7_firstNotWhole_L2_body f (some (o + 322)) (fun l1 => K l1) (nI i)) σ1 _
  unfold X7_firstNotWhole_L2_body
  have hc1 := cs_fr hc hF1
  have ht1 := tbV_fr ht hF1 (fun x a b => by unfold divP; omega) (fun x a b => by unfold divP; omega)
  have hw1 := rwV_fr hw hF1 (fun x a b => by unfold divP; omega)
  obtain ⟨⟨w1, w2, -, -⟩, w3, w4, w5, w6, w7⟩ := id hw1
  refine gp_rR (cs_solv hc1) rfl ?_
  refine gp_rI (cs_rows hc1) rfl ?_
  rw [w1]
  refine gp_if (fun z => ?_) (fun z => ?_)
  · rw [nI_leI (by omega) (by omega)] at z
    refine gp_ret ⟨hF1, ?_⟩
    rw [fst1_none (fun p hp => h1 p (by omega))]
    rfl
  rw [nI_leI (by omega) (by omega)] at z
  have next : ∀ σ2, Fr (divP (o + 19)) σ σ2 → isBrk m D am bs wh i = false → gp (X7_firstNotWhole_b51 f (fun l1 => K l1) (some (o + 322)) (nI i)) σ2 (fun y σ' => Fr (divP (o + 19)) σ σ' ∧ y = eN (fst1 (isBrk m D am bs wh) n)) := by
    intro σ2 q1 q3
    unfold X7_firstNotWhole_b51
    refine gp_let ?_
    rw [nI_1]
    refine hK _ _ ⟨i + 1, rfl, by omega, q1, fun p hp => ?_⟩ (by rw [nI_clamp (by omega), nI_clamp (by omega)]; omega)
    by_cases y : p = i
    · rw [y]; exact q3
    · exact h1 p (by omega)
  refine gp_rR (cs_solv hc1) rfl ?_
  rcases hpl i (by omega) with ⟨r, hr, hri⟩ | ⟨c, hcn, hci⟩
  · have hix := tb_ixR ht hr
    have e : isBrk m D am bs wh (bs r) = (wh (bs r) && decide (am r % D ≠ 0)) := by simp only [isBrk, hix]
    subst hri
    refine gp_cV (cs_tab hc1) (gp_mono (c_rowOfR hc1 ht1 hr) ?_)
    rintro y σ0 ⟨z0, rfl⟩
    rw [z0]
    clear z0 σ0
    refine gp_rR (cs_solv hc1) rfl ?_
    refine gp_rR (cs_rows hc1) rfl ?_
    refine gp_aI (j := bs r) (cs_iswh hc1) (by decide) (by omega) (by omega) rfl ?_
    rw [w6 _ (by omega)]
    refine gp_if (fun y => ?_) (fun y => ?_)
    · refine next σ1 hF1 ?_
      rw [e]
      cases hwb : wh (bs r) with
      | false => rfl
      | true => rw [hwb] at y; exact absurd y (by decide)
    · have hwb : wh (bs r) = true := by
        cases hwb : wh (bs r) with
        | false => rw [hwb] at y; exact absurd (by decide) y
        | true => rfl
      refine gp_f (nI_pos (by omega)) ?_
      refine gp_rR (cs_solv hc1) rfl ?_
      refine gp_cV (cs_tab hc1) (gp_mono (c_isAmountWhole hc1 ht1 hf hr) ?_)
      rintro x10 σ2 ⟨hF2, hx⟩
      refine gp_if (fun y2 => ?_) (fun y2 => ?_)
      · have h0 := ite0 hx y2
        refine gp_ret ⟨Fr_trans hF1 hF2, ?_⟩
        rw [fst1_some h1 (by rw [e, hwb]; simpa using h0) (by omega)]
        rfl
      · have h0 := ite1 hx y2
        refine next σ2 (Fr_trans hF1 hF2) ?_
        rw [e, hwb, h0]
        rfl
  · subst hci
    refine gp_cV (cs_tab hc1) (gp_mono (c_rowOfC hc1 ht1 hcn) ?_)
    rintro y σ0 ⟨z0, rfl⟩
    rw [z0]
    clear z0 σ0
    have e : isBrk m D am bs wh (cl c) = false := by simp only [isBrk, tb_ixRn ht hcn]
    refine gp_rR (cs_solv hc1) rfl ?_
    refine gp_rR (cs_rows hc1) rfl ?_
    refine gp_aI (j := cl c) (cs_iswh hc1) (by decide) (by omega) (by omega) rfl ?_
    refine gp_if (fun _ => next σ1 hF1 e) (fun _ => ?_)
    exact gp_t (by decide) (next σ1 hF1 e)
end SV
