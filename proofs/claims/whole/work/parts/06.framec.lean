/-! ===== arrays, making, calls, answers ===== -/
section PZ3
variable {X : pz_X} {Qx : Option Value → pz_H → State → Prop} {J : pz_J} {ρ : Type} {rv : ρ → Option Value} {pc : Nat} {lv : List (Nat × Value)} {st : List Value} {m m1 m2 : pz_C ρ}
theorem pz_alen {t : Nat} {ft : FieldType} {r : Option Nat} {K : Int32 → pz_C ρ} (ht : pz_ty[t]? = some ft) (d : decode J.1 pc = .ok (.arraylength, 1)) (kk : ∀ x, pz_Sm X Qx J rv (pc + 1) lv (.int x :: st) (K x)) : pz_Sm X Qx J rv pc lv (va_rf r :: st) (pz_gB (pz_len t r) K) := by
  intro h y hm
  simp only [pz_gB, pz_len] at hm
  cases hx : pz_ar t r h with
  | none => rw [hx] at hm; cases hm
  | some x =>
    rw [hx] at hm
    obtain ⟨g1, g2⟩ := kk _ h y hm
    refine ⟨g1, fun A H locs cells slots ls hI hl' => ?_⟩
    obtain ⟨a, rfl, hb, -, hat⟩ := pz_ar_at hI.1 hx
    exact va_alen (ws := [(a, .inl (pz_xA X t, x))]) A.1 A.2.1 A.2.2.2.2.2.2.2.2.2.1.1 (pz_P1 hat) 0 t rfl (pz_tys_at ht) rfl d (g2 A H locs cells slots ls hI hl')
theorem pz_iald {t : Nat} {r : Option Nat} {i : Int32} {K : Int32 → pz_C ρ} (ht : pz_ty[t]? = some .int) (d : decode J.1 pc = .ok (.iaload, 1)) (kk : ∀ x, pz_Sm X Qx J rv (pc + 1) lv (.int x :: st) (K x)) : pz_Sm X Qx J rv pc lv (.int i :: va_rf r :: st) (pz_gB (pz_aI t r i) K) := by
  intro h y hm
  simp only [pz_gB, pz_aI] at hm
  cases hx : pz_ar t r h with
  | none => rw [hx] at hm; cases hm
  | some x =>
    rw [hx] at hm
    obtain ⟨n, f | f | f | f | f⟩ := x <;> first | (cases hm; done) | skip
    by_cases hi : i < 0 ∨ n ≤ i.toNatClampNeg
    · simp [hi] at hm
    · simp only [hi, if_false] at hm
      obtain ⟨g1, g2⟩ := kk _ h y hm
      refine ⟨g1, fun A H locs cells slots ls hI hl' => ?_⟩
      obtain ⟨a, rfl, hb, -, hat⟩ := pz_ar_at hI.1 hx
      exact va_iald (ws := [(a, .inl (pz_xA X t, n, .inl f))]) A.1 A.2.1 A.2.2.2.2.2.2.2.2.2.1.1 (pz_P1 hat) 0 t rfl (pz_tys_at ht) hi d (g2 A H locs cells slots ls hI hl')
theorem pz_zald {t : Nat} {r : Option Nat} {i : Int32} {K : Int32 → pz_C ρ} (ht : pz_ty[t]? = some .boolean) (d : decode J.1 pc = .ok (.baload, 1)) (kk : ∀ x, pz_Sm X Qx J rv (pc + 1) lv (.int x :: st) (K x)) : pz_Sm X Qx J rv pc lv (.int i :: va_rf r :: st) (pz_gB (pz_aI t r i) K) := by
  intro h y hm
  simp only [pz_gB, pz_aI] at hm
  cases hx : pz_ar t r h with
  | none => rw [hx] at hm; cases hm
  | some x =>
    rw [hx] at hm
    obtain ⟨n, f | f | f | f | f⟩ := x <;> first | (cases hm; done) | skip
    by_cases hi : i < 0 ∨ n ≤ i.toNatClampNeg
    · simp [hi] at hm
    · simp only [hi, if_false] at hm
      obtain ⟨g1, g2⟩ := kk _ h y hm
      refine ⟨g1, fun A H locs cells slots ls hI hl' => ?_⟩
      obtain ⟨a, rfl, hb, -, hat⟩ := pz_ar_at hI.1 hx
      exact va_zald (ws := [(a, .inl (pz_xA X t, n, .inl f))]) A.1 A.2.1 A.2.2.2.2.2.2.2.2.2.1.1 (pz_P1 hat) 0 t rfl (pz_tys_at ht) hi d (g2 A H locs cells slots ls hI hl')
theorem pz_lald {t : Nat} {r : Option Nat} {i : Int32} {K : Int64 → pz_C ρ} (ht : pz_ty[t]? = some .long) (d : decode J.1 pc = .ok (.laload, 1)) (kk : ∀ x, pz_Sm X Qx J rv (pc + 1) lv (.long x :: st) (K x)) : pz_Sm X Qx J rv pc lv (.int i :: va_rf r :: st) (pz_gB (pz_aL t r i) K) := by
  intro h y hm
  simp only [pz_gB, pz_aL] at hm
  cases hx : pz_ar t r h with
  | none => rw [hx] at hm; cases hm
  | some x =>
    rw [hx] at hm
    obtain ⟨n, f | f | f | f | f⟩ := x <;> first | (cases hm; done) | skip
    by_cases hi : i < 0 ∨ n ≤ i.toNatClampNeg
    · simp [hi] at hm
    · simp only [hi, if_false] at hm
      obtain ⟨g1, g2⟩ := kk _ h y hm
      refine ⟨g1, fun A H locs cells slots ls hI hl' => ?_⟩
      obtain ⟨a, rfl, hb, -, hat⟩ := pz_ar_at hI.1 hx
      exact va_lald (ws := [(a, .inl (pz_xA X t, n, .inr (.inl f)))]) A.1 A.2.1 A.2.2.2.2.2.2.2.2.2.1.1 (pz_P1 hat) 0 t rfl (pz_tys_at ht) hi d (g2 A H locs cells slots ls hI hl')
theorem pz_aald {t : Nat} {ft : FieldType} {r : Option Nat} {i : Int32} {K : Option Nat → pz_C ρ} (ht : pz_ty[t]? = some ft) (href : ft.isReference = true) (d : decode J.1 pc = .ok (.aaload, 1)) (kk : ∀ x, pz_Sm X Qx J rv (pc + 1) lv (va_rf x :: st) (K x)) : pz_Sm X Qx J rv pc lv (.int i :: va_rf r :: st) (pz_gB (pz_aR t r i) K) := by
  intro h y hm
  simp only [pz_gB, pz_aR] at hm
  cases hx : pz_ar t r h with
  | none => rw [hx] at hm; cases hm
  | some x =>
    rw [hx] at hm
    obtain ⟨n, f | f | f | f | f⟩ := x <;> first | (cases hm; done) | skip
    by_cases hi : i < 0 ∨ n ≤ i.toNatClampNeg
    · simp [hi] at hm
    · simp only [hi, if_false] at hm
      obtain ⟨g1, g2⟩ := kk _ h y hm
      refine ⟨g1, fun A H locs cells slots ls hI hl' => ?_⟩
      obtain ⟨a, rfl, hb, -, hat⟩ := pz_ar_at hI.1 hx
      have hlt : i.toNatClampNeg < n := Nat.not_le.mp fun q => hi (Or.inr q)
      exact W.aald (v := va_rf (f i.toNatClampNeg)) (ty := ft) A.1 A.2.1 hat ((A.2.2.2.2.2.2.2.2.2.1.1.2 t _ (pz_tys_at ht)).1 n (fun j => va_rf (f j))) href (fun q => by cases q) (by show ¬ (i < 0 ∨ (arrV _ _ _).slots.size ≤ _); rw [arrV_size]; exact hi) (by show (arrV _ _ _).slots[_]? = _; rw [arrV_read _ _ hlt]) rfl rfl d (g2 A H locs cells slots ls hI hl')
/-- stores -/
theorem pz_iast {t : Nat} {r : Option Nat} {i x : Int32} (ht : pz_ty[t]? = some .int) (d : decode J.1 pc = .ok (.iastore, 1)) (kk : pz_Sm X Qx J rv (pc + 1) lv st m) : pz_Sm X Qx J rv pc lv (.int x :: .int i :: va_rf r :: st) (pz_uB (pz_sI t r i x) m) := by
  intro h y hm
  simp only [pz_uB, pz_sI] at hm
  cases hx : pz_ar t r h with
  | none => rw [hx] at hm; cases hm
  | some z =>
    rw [hx] at hm
    obtain ⟨n, f | f | f | f | f⟩ := z <;> first | (cases hm; done) | skip
    by_cases hi : i < 0 ∨ n ≤ i.toNatClampNeg
    · simp [hi] at hm
    · cases hr : r with
      | none => rw [hr] at hx; simp [pz_ar] at hx
      | some a =>
        subst hr
        simp only [hi, if_false, pz_uA] at hm
        obtain ⟨g1, g2⟩ := kk _ y hm
        refine ⟨g1, fun A H locs cells slots ls hI hl' => ?_⟩
        obtain ⟨a', ha', hb, -, hat⟩ := pz_ar_at hI.1 hx
        cases ha'
        refine W.iast A.1 A.2.1 hat ((A.2.2.2.2.2.2.2.2.2.1.1.2 t _ (pz_tys_at ht)).1 n (fun j => .int (f j))) (fun q => by cases q) (by show ¬ (i < 0 ∨ (arrV _ _ _).slots.size ≤ _); rw [arrV_size]; exact hi) rfl rfl d fun H1 e z oq => ?_
        refine g2 A H1 _ cells slots ls (pz_In_set hI hb ?_ z oq) hl'
        show H1[a]? = some (vp_cell _ _)
        rw [e]
        rw [vp_cell_i, vp_cell_i, arrV_store]
        congr 2
        funext q
        by_cases hq : q = i.toNatClampNeg
        · subst hq
          simp [updV, upd]
        · simp [updV, upd, hq]
theorem pz_zast {t : Nat} {r : Option Nat} {i x : Int32} (ht : pz_ty[t]? = some .boolean) (d : decode J.1 pc = .ok (.bastore, 1)) (kk : pz_Sm X Qx J rv (pc + 1) lv st m) : pz_Sm X Qx J rv pc lv (.int x :: .int i :: va_rf r :: st) (pz_uB (pz_sZ t r i x) m) := by
  intro h y hm
  simp only [pz_uB, pz_sZ] at hm
  cases hx : pz_ar t r h with
  | none => rw [hx] at hm; cases hm
  | some z =>
    rw [hx] at hm
    obtain ⟨n, f | f | f | f | f⟩ := z <;> first | (cases hm; done) | skip
    by_cases hi : i < 0 ∨ n ≤ i.toNatClampNeg
    · simp [hi] at hm
    · cases hr : r with
      | none => rw [hr] at hx; simp [pz_ar] at hx
      | some a =>
        subst hr
        simp only [hi, if_false, pz_uA] at hm
        obtain ⟨g1, g2⟩ := kk _ y hm
        refine ⟨g1, fun A H locs cells slots ls hI hl' => ?_⟩
        obtain ⟨a', ha', hb, -, hat⟩ := pz_ar_at hI.1 hx
        cases ha'
        refine W.zast A.1 A.2.1 hat ((A.2.2.2.2.2.2.2.2.2.1.1.2 t _ (pz_tys_at ht)).1 n (fun j => .int (f j))) (fun q => by cases q) (by show ¬ (i < 0 ∨ (arrV _ _ _).slots.size ≤ _); rw [arrV_size]; exact hi) rfl rfl d fun H1 e z oq => ?_
        refine g2 A H1 _ cells slots ls (pz_In_set hI hb ?_ z oq) hl'
        show H1[a]? = some (vp_cell _ _)
        rw [e]
        rw [vp_cell_i, vp_cell_i, arrV_store]
        congr 2
        funext q
        by_cases hq : q = i.toNatClampNeg
        · subst hq
          simp [updV, upd, vp_nar]
          try rfl
        · simp [updV, upd, hq]
theorem pz_last {t : Nat} {r : Option Nat} {i : Int32} {x : Int64} (ht : pz_ty[t]? = some .long) (d : decode J.1 pc = .ok (.lastore, 1)) (kk : pz_Sm X Qx J rv (pc + 1) lv st m) : pz_Sm X Qx J rv pc lv (.long x :: .int i :: va_rf r :: st) (pz_uB (pz_sL t r i x) m) := by
  intro h y hm
  simp only [pz_uB, pz_sL] at hm
  cases hx : pz_ar t r h with
  | none => rw [hx] at hm; cases hm
  | some z =>
    rw [hx] at hm
    obtain ⟨n, f | f | f | f | f⟩ := z <;> first | (cases hm; done) | skip
    by_cases hi : i < 0 ∨ n ≤ i.toNatClampNeg
    · simp [hi] at hm
    · cases hr : r with
      | none => rw [hr] at hx; simp [pz_ar] at hx
      | some a =>
        subst hr
        simp only [hi, if_false, pz_uA] at hm
        obtain ⟨g1, g2⟩ := kk _ y hm
        refine ⟨g1, fun A H locs cells slots ls hI hl' => ?_⟩
        obtain ⟨a', ha', hb, -, hat⟩ := pz_ar_at hI.1 hx
        cases ha'
        refine W.last A.1 A.2.1 hat ((A.2.2.2.2.2.2.2.2.2.1.1.2 t _ (pz_tys_at ht)).1 n (fun j => .long (f j))) (fun q => by cases q) (by show ¬ (i < 0 ∨ (arrV _ _ _).slots.size ≤ _); rw [arrV_size]; exact hi) rfl rfl d fun H1 e z oq => ?_
        refine g2 A H1 _ cells slots ls (pz_In_set hI hb ?_ z oq) hl'
        show H1[a]? = some (vp_cell _ _)
        rw [e]
        rw [vp_cell_l, vp_cell_l, arrV_store]
        congr 2
        funext q
        by_cases hq : q = i.toNatClampNeg
        · subst hq
          simp [updV, vp_updL]
        · simp [updV, vp_updL, hq]
theorem pz_aast {t ci N : Nat} {C : String} {T : u_T} {ty : Nat → FieldType} {r v : Option Nat} {i : Int32} (ck : pz_CK ci C T N ty) (ht : pz_ty[t]? = some (.object C)) (d : decode J.1 pc = .ok (.aastore, 1)) (kk : pz_Sm X Qx J rv (pc + 1) lv st m) : pz_Sm X Qx J rv pc lv (va_rf v :: .int i :: va_rf r :: st) (pz_uB (pz_sR t ci r i v) m) := by
  intro h y hm
  simp only [pz_uB, pz_sR] at hm
  cases hv : pz_ob ci v h with
  | none => rw [hv] at hm; cases hm
  | some vs =>
    rw [hv] at hm
    cases hx : pz_ar t r h with
    | none => rw [hx] at hm; cases hm
    | some z =>
      rw [hx] at hm
      obtain ⟨n, f | f | f | f | f⟩ := z <;> first | (cases hm; done) | skip
      by_cases hi : i < 0 ∨ n ≤ i.toNatClampNeg
      · simp [hi] at hm
      · cases hr : r with
        | none => rw [hr] at hx; simp [pz_ar] at hx
        | some a =>
          subst hr
          simp only [hi, if_false, pz_uA] at hm
          obtain ⟨g1, g2⟩ := kk _ y hm
          refine ⟨g1, fun A H locs cells slots ls hI hl' => ?_⟩
          obtain ⟨a', ha', hb, -, hat⟩ := pz_ar_at hI.1 hx
          cases ha'
          obtain ⟨b, rfl, hbb, -, hatv⟩ := pz_ob_at hI.1 hv
          have hK := A.2.2.2.2.2.2.2.2.2.1.1
          have hlt : i.toNatClampNeg < n := Nat.not_le.mp fun q => hi (Or.inr q)
          have h0 : ¬ i < 0 := fun q => hi (Or.inl q)
          obtain ⟨r', hr', cellV, q1, q2, q3, -⟩ := hatv
          have hcls := (hK.1 ci _ ck.1).2
          obtain ⟨kA, comp, k1, k2, k3, -⟩ := (hK.2 t _ (pz_tys_at ht)).2
          have hcomp : comp = (pz_xD X).1 ci := Option.some.inj (k3.symm.trans hcls.1)
          subst hcomp
          obtain ⟨kC, hkC, -⟩ := hcls.2
          refine W.aast A.1 A.2.1 hat (fun q h => by cases h) (fun h => by cases h) k1 k2 rfl hkC ⟨h0, by show _ < (arrV _ _ _).slots.size; rw [arrV_size]; exact hlt⟩ q1 (fun q h => by rw [q3] at h; cases h) (by rw [q2]; exact hkC) (by rw [q2]; exact va_assign hcls) rfl rfl d fun H1 e z oq => ?_
          refine g2 A H1 _ cells slots ls (pz_In_set hI hb ?_ z oq) hl'
          show H1[a]? = some (vp_cell _ _)
          rw [e]
          rw [vp_cell_q, vp_cell_q, arrV_store]
          congr 2
          funext q
          by_cases hq : q = i.toNatClampNeg
          · subst hq
            simp [updV, va_up, va_rf]
          · simp [updV, va_up, hq]
/-- making -/
theorem pz_newo {ci N idx : Nat} {C : String} {T : u_T} {ty : Nat → FieldType} {fs : List Value} {K : Option Nat → pz_C ρ} (ck : pz_CK ci C T N ty) (hw1 : Cond.classLink J.2.1 idx C ∈ pz_ws) (hw2 : Cond.instantiable C N ∈ pz_ws) (hw3 : Cond.initialized C ∈ pz_ws) (hfs : ∀ j, j < N → defaultValue (ty j) = vp_V fs j) (d : decode J.1 pc = .ok (.new idx, 3))
    (kk : ∀ x, pz_Sm X Qx J rv (pc + 3) lv (va_rf x :: st) (K x)) : pz_Sm X Qx J rv pc lv st (pz_new ci N fs K) := by
  intro h y hm
  simp only [pz_new] at hm
  obtain ⟨g1, g2⟩ := kk _ _ y hm
  have g1a : h.1 + 1 ≤ y.2.1 := g1.1
  have g1b : h.2.1 + N ≤ y.2.2.1 := g1.2
  refine ⟨⟨by omega, by omega⟩, fun A H locs cells slots ls hI hl' => ?_⟩
  have hts := A.2.2.2.2.2.2.2.2.1
  have hKn := A.2.2.2.2.2.2.2.2.2.1.1.1 ci _ ck.1
  obtain ⟨⟨a1, a2, a3⟩, i2, i3, i4, i5⟩ := id hI
  refine W.newcK A.1 A.2.1 A.2.2.1 (hts _ hw1) (hts _ hw2) (hts _ hw3) rfl d (by omega) (by omega) hKn.2.1 rfl fun H1 kC hkC e1 z1 o1 => ?_
  have k2 := g2 A H1 locs (cells + 1) (slots + N) ls (pz_In_mk hI ⟨_, ck.1, (u_born ty hts ck.2.1 hKn hkC e1 ck.2.2.1).to hfs⟩ z1 o1) hl'
  rw [a1] at k2
  exact k2
theorem pz_newaI {t : Nat} {ft : FieldType} {atype : ArrayType} {n : Int32} {K : Option Nat → pz_C ρ} (hty : newarray.typeOf atype = ft) (ht : pz_ty[t]? = some ft) (hw : Cond.arrayClass ft ∈ pz_ws) (hdv : defaultValue ft = .int 0) (hcb : componentBytes ft ≤ 8) (hno : ∀ C, ft ≠ .object C) (d : decode J.1 pc = .ok (.newarray atype, 2))
    (kk : ∀ x, pz_Sm X Qx J rv (pc + 2) lv (va_rf x :: st) (K x)) : pz_Sm X Qx J rv pc lv (.int n :: st) (pz_newI t n K) := by
  subst hty
  intro h y hm
  simp only [pz_newI] at hm
  by_cases hn : n < 0 ∨ 67108864 < n.toNatClampNeg
  · simp [hn] at hm
  · simp only [hn, if_false] at hm
    obtain ⟨g1, g2⟩ := kk _ _ y hm
    have g1a : h.1 + 1 ≤ y.2.1 := g1.1
    have g1b : h.2.1 + n.toNatClampNeg ≤ y.2.2.1 := g1.2
    refine ⟨⟨by omega, by omega⟩, fun A H locs cells slots ls hI hl' => ?_⟩
    have hts := A.2.2.2.2.2.2.2.2.1
    obtain ⟨⟨a1, a2, a3⟩, i2, i3, i4, i5⟩ := id hI
    have hn2 : n.toNatClampNeg ≤ 67108864 := by omega
    have hb : n.toNatClampNeg * componentBytes (newarray.typeOf atype) ≤ 536870912 := Nat.le_trans (Nat.mul_le_mul hn2 hcb) (by decide)
    refine va_newaK A.1 A.2.1 (hts _ hw) rfl d rfl (fun q => hn (Or.inl q)) rfl hb (by omega) (by omega) rfl fun H1 cA e1 z1 o1 hAr hNm => ?_
    have hRA := (A.2.2.2.2.2.2.2.2.2.1.1.2 t _ (pz_tys_at ht)).2
    have hcA : cA = pz_xA X t := by
      have h9 : (pz_xs X).vm.findClass ("[" ++ (newarray.typeOf atype).toString) = some (pz_xA X t) := by
        cases atype <;> exact hRA
      exact Option.some.inj (hNm.symm.trans h9)
    subst hcA
    have k2 := g2 A H1 locs (cells + 1) (slots + n.toNatClampNeg) ls (pz_In_mk hI (by
      show H1[H.size]? = some (vp_cell _ _)
      rw [vp_cell_i, e1, hdv]) z1 o1) hl'
    rw [a1] at k2
    exact k2
theorem pz_newaL {t : Nat} {n : Int32} {K : Option Nat → pz_C ρ} {atype : ArrayType} (hty : newarray.typeOf atype = .long) (ht : pz_ty[t]? = some .long) (hw : Cond.arrayClass .long ∈ pz_ws) (d : decode J.1 pc = .ok (.newarray atype, 2))
    (kk : ∀ x, pz_Sm X Qx J rv (pc + 2) lv (va_rf x :: st) (K x)) : pz_Sm X Qx J rv pc lv (.int n :: st) (pz_newL t n K) := by
  intro h y hm
  simp only [pz_newL] at hm
  by_cases hn : n < 0 ∨ 67108864 < n.toNatClampNeg
  · simp [hn] at hm
  · simp only [hn, if_false] at hm
    obtain ⟨g1, g2⟩ := kk _ _ y hm
    have g1a : h.1 + 1 ≤ y.2.1 := g1.1
    have g1b : h.2.1 + n.toNatClampNeg ≤ y.2.2.1 := g1.2
    refine ⟨⟨by omega, by omega⟩, fun A H locs cells slots ls hI hl' => ?_⟩
    have hts := A.2.2.2.2.2.2.2.2.1
    obtain ⟨⟨a1, a2, a3⟩, i2, i3, i4, i5⟩ := id hI
    have hn2 : n.toNatClampNeg ≤ 67108864 := by omega
    have hb : n.toNatClampNeg * componentBytes (newarray.typeOf atype) ≤ 536870912 := by
      rw [hty]
      exact Nat.le_trans (Nat.mul_le_mul hn2 (show componentBytes .long ≤ 8 by decide)) (by decide)
    refine va_newaK A.1 A.2.1 (by rw [hty]; exact hts _ hw) rfl d rfl (fun q => hn (Or.inl q)) rfl hb (by omega) (by omega) rfl fun H1 cA e1 z1 o1 hAr hNm => ?_
    have hRA := (A.2.2.2.2.2.2.2.2.2.1.1.2 t _ (pz_tys_at ht)).2
    have hcA : cA = pz_xA X t := by
      rw [hty] at hNm
      exact Option.some.inj (hNm.symm.trans hRA)
    subst hcA
    have k2 := g2 A H1 locs (cells + 1) (slots + n.toNatClampNeg) ls (pz_In_mk hI (by
      show H1[H.size]? = some (vp_cell _ _)
      rw [vp_cell_l, e1, hty]
      rfl) z1 o1) hl'
    rw [a1] at k2
    exact k2
theorem pz_newaR {t idx : Nat} {C : String} {n : Int32} {K : Option Nat → pz_C ρ} (ht : pz_ty[t]? = some (.object C)) (hw : Cond.classLink J.2.1 idx C ∈ pz_ws) (hao : C ∈ pz_ao) (d : decode J.1 pc = .ok (.anewarray idx, 3))
    (kk : ∀ x, pz_Sm X Qx J rv (pc + 3) lv (va_rf x :: st) (K x)) : pz_Sm X Qx J rv pc lv (.int n :: st) (pz_newR t n K) := by
  intro h y hm
  simp only [pz_newR] at hm
  by_cases hn : n < 0 ∨ 67108864 < n.toNatClampNeg
  · simp [hn] at hm
  · simp only [hn, if_false] at hm
    obtain ⟨g1, g2⟩ := kk _ _ y hm
    have g1a : h.1 + 1 ≤ y.2.1 := g1.1
    have g1b : h.2.1 + n.toNatClampNeg ≤ y.2.2.1 := g1.2
    refine ⟨⟨by omega, by omega⟩, fun A H locs cells slots ls hI hl' => ?_⟩
    have hts := A.2.2.2.2.2.2.2.2.1
    obtain ⟨⟨a1, a2, a3⟩, i2, i3, i4, i5⟩ := id hI
    refine W.anew A.1 A.2.1 A.2.2.1 (hts _ hw) (va_AO.use (A.2.2.2.2.2.2.2.2.2.1.2.2.1 _ hao)) rfl d rfl (fun q => hn (Or.inl q)) (by omega) (by omega) (by omega) fun cA kA comp f1 f2 f3 f4 => ?_
    generalize hH1 : H.push ({ cls := cA, slots := Array.replicate n.toNatClampNeg .null, vm := .none } : Cell) = H1
    have z1 : H1.size = H.size + 1 := by rw [← hH1, Array.size_push]
    have e1 : H1[H.size]? = some (arrV cA n.toNatClampNeg (fun _ => .null)) := by rw [← hH1, Array.getElem?_push_size, ← arrV_new]
    have o1 : ∀ q : Nat, q < H.size → H1[q]? = H[q]? := fun q hq => by rw [← hH1, Array.getElem?_push, if_neg (Nat.ne_of_lt hq)]
    obtain ⟨kA', comp', b1, b2, b3, b4⟩ := (A.2.2.2.2.2.2.2.2.2.1.1.2 t _ (pz_tys_at ht)).2
    have hcA : cA = pz_xA X t := Option.some.inj (f1.symm.trans b4)
    subst hcA
    have k2 := g2 A H1 locs (cells + 1) (slots + n.toNatClampNeg) ls (pz_In_mk hI (by
      show H1[H.size]? = some (vp_cell _ _)
      rw [vp_cell_q, e1]
      rfl) z1 o1) hl'
    rw [a1] at k2
    exact k2
/-- Object's own constructor; the receiver isn't null -/
def pz_nn {ρ : Type} (r : Option Nat) (K : pz_C ρ) : pz_C ρ := fun h => if r.isSome then K h else none
theorem pz_objInit {idx : Nat} {r : Option Nat} (hw1 : Cond.methodLink J.2.1 idx Lib.objectInit ∈ pz_ws) (hw2 : Cond.instanceMethod Lib.objectInit ∈ pz_ws) (hw3 : Cond.code Lib.objectInit ⟨#[0xb1]⟩ 1 none ∈ pz_ws) (hst : (st.map fun v => v.category).sum = 0) (hf : 1 ≤ J.2.2.2.2.2.1) (hlo : 12 ≤ J.2.2.2.2.2.2) (d : decode J.1 pc = .ok (.invokespecial idx, 3)) (k : pz_Sm X Qx J rv (pc + 3) lv st m) : pz_Sm X Qx J rv pc lv (va_rf r :: st) (pz_nn r m) := by
  cases r with
  | none => intro h x hm; simp [pz_nn] at hm
  | some a =>
    exact pz_go (fun A _ _ _ _ _ ls hl kk => by
      have h6 := A.2.2.2.2.2.2.1
      have h7 := A.2.2.2.2.2.2.2.1
      refine W.objInit A.1 A.2.1 A.2.2.1 (A.2.2.2.2.2.2.2.2.1 _ hw1) (A.2.2.2.2.2.2.2.2.1 _ hw2) (A.2.2.2.2.2.2.2.2.1 _ hw3) rfl (by rw [A.2.2.2.1]; exact hl.1) rfl d (by omega) ?_ (kk ls hl)
      show 2 * 0 + _ + 12 ≤ _
      omega) k
end PZ3

/-! ===== answers, methods, calls ===== -/
def pz_Qc (D : va_G) (dA : Nat → ClassId) (base : Nat) (h' : pz_H) (v : Option Value) : Array Value → State → Outcome → State → Prop := fun _ u oc t => oc = .returned v ∧ pz_Rep D dA base h' t.heap ∧ ∀ q : Nat, q < base → t.heap[q]? = u.heap[q]?
def pz_Pc (D : va_G) (dA : Nat → ClassId) (base : Nat) (av : List Value) (h : pz_H) : Array Value → State → Prop := fun v U => v = av.toArray ∧ pz_Rep D dA base h U.heap ∧ pz_Kn D dA U
/-- what a method's end is -/
def pz_QM (X : pz_X) : Option Value → pz_H → State → Prop := fun v h' => MQ (pz_xb X) (pz_Qc (pz_xD X) (pz_xA X) (pz_xB X) h' v) (pz_xa X) (pz_xs X) (pz_xR X).cells (pz_xR X).slots (fun q => pz_xB X ≤ q)
abbrev pz_vI : Int32 → Option Value := fun x => some (.int x)
abbrev pz_vL : Int64 → Option Value := fun x => some (.long x)
abbrev pz_vR : Option Nat → Option Value := fun x => some (va_rf x)
abbrev pz_vU : Unit → Option Value := fun _ => none
theorem pz_Qc_ok {X : pz_X} {h : pz_H} {H : Heap} {locs : List Loc} {cells slots : Nat} {h' : pz_H} {v : Option Value} (hI : pz_In X h H locs cells slots h') {a : Array Value} : ∀ t : State, t.heap = H → (pz_xs X).WarmedH t.vm → pz_Qc (pz_xD X) (pz_xA X) (pz_xB X) h v a (pz_xs X) (.returned v) t := fun t ht _ => ⟨rfl, by rw [ht]; exact hI.1, fun q hq => by rw [ht]; exact hI.2.2.1 q hq⟩
section PZ4
variable {X : pz_X} {J : pz_J} {pc : Nat} {lv : List (Nat × Value)}
theorem pz_iret {x : Int32} (hr : J.2.2.2.1 = some .int) (d : decode J.1 pc = .ok (.ireturn, 1)) : pz_Sm X (pz_QM X) J pz_vI pc lv [.int x] (pz_ret x) := by
  intro h y hm
  cases hm
  refine ⟨⟨Nat.le_refl _, Nat.le_refl _⟩, fun A H locs cells slots ls hI _ => ?_⟩
  have hlk := A.2.2.2.2.2.2.2.2.2.2.1
  exact W.widen (k := (pz_xR X).cells) (n := (pz_xR X).slots) (Nat.le_of_add_le_add_right hI.2.2.2.1) (Nat.le_of_add_le_add_right hI.2.2.2.2) (W.iret A.1 A.2.1 (A.2.2.2.2.1.trans hr) (pz_Qc_ok hI) hI.2.1 d hlk)
theorem pz_zret {x : Int32} (hr : J.2.2.2.1 = some .boolean) (d : decode J.1 pc = .ok (.ireturn, 1)) : pz_Sm X (pz_QM X) J pz_vI pc lv [.int x] (pz_zz x (pz_ret x)) := by
  refine pz_bool fun hx => ?_
  intro h y hm
  cases hm
  refine ⟨⟨Nat.le_refl _, Nat.le_refl _⟩, fun A H locs cells slots ls hI _ => ?_⟩
  have hlk := A.2.2.2.2.2.2.2.2.2.2.1
  exact W.widen (k := (pz_xR X).cells) (n := (pz_xR X).slots) (Nat.le_of_add_le_add_right hI.2.2.2.1) (Nat.le_of_add_le_add_right hI.2.2.2.2) (W.zret A.1 A.2.1 (A.2.2.2.2.1.trans hr) (pz_nz hx) (pz_Qc_ok hI) hI.2.1 d hlk)
theorem pz_lret {x : Int64} (hr : J.2.2.2.1 = some .long) (d : decode J.1 pc = .ok (.lreturn, 1)) : pz_Sm X (pz_QM X) J pz_vL pc lv [.long x] (pz_ret x) := by
  intro h y hm
  cases hm
  refine ⟨⟨Nat.le_refl _, Nat.le_refl _⟩, fun A H locs cells slots ls hI _ => ?_⟩
  have hlk := A.2.2.2.2.2.2.2.2.2.2.1
  exact W.widen (k := (pz_xR X).cells) (n := (pz_xR X).slots) (Nat.le_of_add_le_add_right hI.2.2.2.1) (Nat.le_of_add_le_add_right hI.2.2.2.2) (W.lret A.1 A.2.1 (A.2.2.2.2.1.trans hr) (pz_Qc_ok hI) hI.2.1 d hlk)
theorem pz_aret {r : Option Nat} {C : String} (hr : J.2.2.2.1 = some (.object C)) (d : decode J.1 pc = .ok (.areturn, 1)) : pz_Sm X (pz_QM X) J pz_vR pc lv [va_rf r] (pz_ret r) := by
  intro h y hm
  cases hm
  refine ⟨⟨Nat.le_refl _, Nat.le_refl _⟩, fun A H locs cells slots ls hI _ => ?_⟩
  have hlk := A.2.2.2.2.2.2.2.2.2.2.1
  exact W.widen (k := (pz_xR X).cells) (n := (pz_xR X).slots) (Nat.le_of_add_le_add_right hI.2.2.2.1) (Nat.le_of_add_le_add_right hI.2.2.2.2) (W.aret A.1 A.2.1 (A.2.2.2.2.1.trans hr) (Or.inl ⟨C, rfl⟩) (va_rf_or r) (pz_Qc_ok hI) hI.2.1 d hlk)
theorem pz_vret (hr : J.2.2.2.1 = none) (d : decode J.1 pc = .ok (.return_, 1)) : pz_Sm X (pz_QM X) J pz_vU pc lv [] (pz_ret ()) := by
  intro h y hm
  cases hm
  refine ⟨⟨Nat.le_refl _, Nat.le_refl _⟩, fun A H locs cells slots ls hI _ => ?_⟩
  have hlk := A.2.2.2.2.2.2.2.2.2.2.1
  exact W.widen (k := (pz_xR X).cells) (n := (pz_xR X).slots) (Nat.le_of_add_le_add_right hI.2.2.2.1) (Nat.le_of_add_le_add_right hI.2.2.2.2) (W.vret A.1 A.2.1 (A.2.2.2.2.1.trans hr) (pz_Qc_ok hI) hI.2.1 d hlk)
end PZ4
/-- a method does what the function says -/
def pz_Md (X : pz_X) (y : MethodName) (J : pz_J) {ρ : Type} (rv : ρ → Option Value) (av : List Value) (m : pz_C ρ) : Prop :=
  ∀ (h : pz_H) (x : ρ × pz_H), m h = some x → (h.1 ≤ x.2.1 ∧ h.2.1 ≤ x.2.2.1) ∧ ∀ (D : va_G) (dA : Nat → ClassId) (base : Nat),
    Met X.2.1 y (.code y J.1 J.2.2.1 J.2.2.2.1 :: pz_ws) { frames := J.2.2.2.2.2.1, cells := x.2.1 - h.1, slots := x.2.2.1 - h.2.1, locals := J.2.2.2.2.2.2 } (pz_Pc D dA base av h) (pz_Qc D dA base x.2 (rv x.1)) (x.2.1 - h.1) (x.2.2.1 - h.2.1) (fun q => base ≤ q)
theorem pz_md {X : pz_X} {y : MethodName} {J : pz_J} {ρ : Type} {rv : ρ → Option Value} {av : List Value} {m : pz_C ρ} (lv : List (Nat × Value)) (hy : plainName y.cls = true) (hown : y.cls = J.2.1) (hname : y.name = J.2.2.2.2.1) (hlv : lv_args 0 av = lv) (hlen : (lg_sl av).length ≤ J.2.2.1)
    (hs : ∀ X : pz_X, pz_Sm X (pz_QM X) J rv 0 lv [] m) : pz_Md X y J rv av m := by
  intro h x hm
  refine ⟨((hs X) h x hm).1, fun D dA base => ?_⟩
  refine Met.ofW (cc := J.1) (maxL := J.2.2.1) (ret := J.2.2.2.1) hy rfl ?_
  intro p e s mm args below meth c s₁ B hml hv
  obtain ⟨rfl, hR, hKn⟩ := hv
  have hts := atoms_spec (ws := .code y J.1 J.2.2.1 J.2.2.2.1 :: pz_ws) B.pre
  obtain ⟨g1, g2⟩ := hs (p, X.2.1, e, { frames := J.2.2.2.2.2.1, cells := x.2.1 - h.1, slots := x.2.2.1 - h.2.1, locals := J.2.2.2.2.2.2 }, s, mm, av.toArray, below, meth, c, D, dA, base) h x hm
  have hl := lv_entry av (n := J.2.2.1) hlen
  rw [lg_entry_eq]
  generalize (lg_sl av ++ List.replicate (J.2.2.1 - (lg_sl av).length) Slot.unset).toArray = ls at hl ⊢
  refine g2 ⟨B.exec, B.bytes, by rw [← hown]; exact findClass_of_methodNamed B.named, hml, B.returns, by rw [← hname]; exact (name_of_methodNamed B.named B.method).1, Nat.le_refl _, Nat.le_refl _, fun w hw => hts w (List.mem_cons_of_mem _ hw), hKn, B.notSynchronized, hR.2.1⟩ s.heap [] 0 0 ls ⟨hR, fun q hq => (by cases hq), fun q _ => rfl, ?_, ?_⟩ (hlv ▸ hl)
  · show 0 + x.2.1 ≤ (x.2.1 - h.1) + h.1
    omega
  · show 0 + x.2.2.1 ≤ (x.2.2.1 - h.2.1) + h.2.1
    omega
theorem pz_grid_moved {dA : Nat → ClassId} {u U : State} (hvm : u.vm.Alike U.vm) (h : pz_grid dA u) : pz_grid dA U := by
  obtain ⟨kA, h1, h2⟩ := h
  obtain ⟨k', hk', he⟩ := hvm.2.2 _ _ h1
  exact ⟨k', hk', by rw [he]; exact h2⟩
/-- the tables' words stay when the tables grow warm -/
theorem pz_Kn_warm {D : va_G} {dA : Nat → ClassId} {s U : State} (hW : s.WarmedH U.vm) (h : pz_Kn D dA s) : pz_Kn D dA U := by
  refine ⟨va_K.moved hW.alike h.1, fun w hw => ?_, fun C hC => va_AO.moved hW.alike (h.2.2.1 C hC), pz_grid_moved hW.alike h.2.2.2⟩
  have hz := h.2.1 w hw
  have hn : pz_isN w = true := (List.mem_filter.mp hw).2
  cases w <;> first | (simp [pz_isN] at hn; done) | exact va_Nw.warmF hW hz | exact va_Nw.warmM hW hz
theorem pz_Kn_same {D : va_G} {dA : Nat → ClassId} {s U : State} (hv : s.vm = U.vm) (h : pz_Kn D dA s) : pz_Kn D dA U := by
  refine ⟨va_K.moved (by rw [hv]; exact Vm.Alike.refl _) h.1, fun w hw => ?_, fun C hC => va_AO.moved (by rw [hv]; exact Vm.Alike.refl _) (h.2.2.1 C hC), pz_grid_moved (by rw [hv]; exact Vm.Alike.refl _) h.2.2.2⟩
  have hz := h.2.1 w hw
  have hn : pz_isN w = true := (List.mem_filter.mp hw).2
  cases w <;> first | (simp [pz_isN] at hn; done) | exact va_Nw.same rfl hv hz
def pz_MK (y : MethodName) (J : pz_J) (np : Nat) : Prop := Cond.code y J.1 J.2.2.1 J.2.2.2.1 ∈ pz_ws ∧ Cond.initialized y.cls ∈ pz_ws ∧ y.cls ≠ "java/lang/invoke/MethodHandle" ∧ y.cls ≠ "java/lang/invoke/VarHandle" ∧ (parseMethodDescriptor y.desc).map (fun d => d.parameters.length) = some np
def pz_ML (own : String) (idx : Nat) (y : MethodName) : Prop := Cond.methodLink own idx y ∈ pz_ws ∨ ∃ host, Cond.methodLinkNest own idx y host ∈ pz_nw
theorem pz_good (y : MethodName) (J : pz_J) (hc : Cond.code y J.1 J.2.2.1 J.2.2.2.1 ∈ pz_ws) : GoodIn pz_ws (.code y J.1 J.2.2.1 J.2.2.2.1 :: pz_ws) := by
  intro w hw
  have h1 : w ∈ pz_ws := by
    rcases List.mem_cons.mp hw with rfl | h
    · exact hc
    · exact h
  exact ⟨h1, good_of_word (List.mem_filter.mp h1).2⟩
section PZ5
variable {X : pz_X} {Qx : Option Value → pz_H → State → Prop} {J : pz_J} {ρ : Type} {rv : ρ → Option Value} {pc : Nat} {lv : List (Nat × Value)} {st : List Value}
/-- behind a call -/
theorem pz_after {H : Heap} {locs : List Loc} {cells slots mc ms : Nat} {Q : State → Prop} {ls : Array Slot} {st0 rest : List Value} {a : Array Value} {h h1 h' : pz_H} {v : Option Value} (hI : pz_In X h H locs cells slots h') (hm1 : h.1 ≤ h1.1) (hm2 : h.2.1 ≤ h1.2.1) (hc : mc = h1.1 - h.1) (hs : ms = h1.2.1 - h.2.1)
    (hr : va_Run X.1 X.2.1 X.2.2.1 (pz_xR X) (pz_xs X) (pz_xm X) (pz_xa X) (pz_xb X) (pz_xt X) (pz_xc X) H locs cells slots mc ms (F0 (pz_xm X) pc ls st0) rest (pz_Qc (pz_xD X) (pz_xA X) (pz_xB X) h1 v a) (fun q => pz_xB X ≤ q))
    (kk : ∀ (H1 : Heap) (locs1 : List Loc), pz_In X h1 H1 locs1 (cells + mc) (slots + ms) h' → pz_W X H1 locs1 (cells + mc) (slots + ms) Q (F0 (pz_xm X) (pc + 3) ls (v.toList ++ rest))) : pz_W X H locs cells slots Q (F0 (pz_xm X) pc ls st0) := by
  intro T hT S
  obtain ⟨w, st₀, t, T', L, h0, X', hL, e1, e2, ⟨hv, hR, hk⟩, go⟩ := hr T hT S
  cases hv
  obtain ⟨i1, i2, i3, i4, i5⟩ := hI
  obtain ⟨t2, a1, b1⟩ := kk T'.heap (locs ++ L) ⟨by rw [e1]; exact hR, fun q hq => by
      rcases List.mem_append.mp hq with h | h
      · exact i2 q h
      · exact hL q h, fun q hq => by rw [e1, hk q hq, h0]; exact i3 q hq, by subst hc; omega, by subst hs; omega⟩ T' rfl X'
  exact ⟨t2, go t2 a1, b1⟩
theorem pz_pre {H : Heap} {av : List Value} {h : pz_H} (hR : pz_Rep (pz_xD X) (pz_xA X) (pz_xB X) h H) (hK : pz_Kn (pz_xD X) (pz_xA X) (pz_xs X)) : PreS (pz_xs X) H (pz_Pc (pz_xD X) (pz_xA X) (pz_xB X) av h) av :=
  ⟨fun a U g mk q => ⟨q.1, q.2.1, pz_Kn_same (s := U) (U := U.calling g mk a) rfl q.2.2⟩, fun U hU hW => ⟨rfl, by rw [hU]; exact hR, pz_Kn_warm hW hK⟩⟩
/-- a call of an object's method -/
theorem pz_callV {α : Type} {rv' : α → Option Value} {J' : pz_J} {y : MethodName} {r : Option Nat} {As : List Value} {f : pz_C α} {K : α → pz_C ρ} {ci N idx np : Nat} {C : String} {T : u_T} {ty : Nat → FieldType} {st0 : List Value} (M : pz_Md X y J' rv' (va_rf r :: As) f) (ck : pz_CK ci C T N ty) (hC : y.cls = C) (mk : pz_MK y J' np) (ml : pz_ML J.2.1 idx y) (mi : Cond.instanceMethod y ∈ pz_ws) (msel : Cond.selects y.cls y y ∈ pz_ws)
    (hn : As.length = np) (hst0 : st0 = As.reverse ++ va_rf r :: st) (hst : (st.map fun v => v.category).sum ≤ 8) (hfr : J'.2.2.2.2.2.1 + 1 ≤ J.2.2.2.2.2.1) (hlo : 8 + (J'.2.2.1 + 11) + J'.2.2.2.2.2.2 ≤ J.2.2.2.2.2.2) (d : decode J.1 pc = .ok (.invokevirtual idx, 3))
    (kk : ∀ z, pz_Sm X Qx J rv (pc + 3) lv ((rv' z).toList ++ st) (K z)) : pz_Sm X Qx J rv pc lv st0 (pz_cV ci r f K) := by
  subst hC
  subst hst0
  intro h x hm
  simp only [pz_cV, pz_gB, pz_cB] at hm
  cases hob : pz_ob ci r h with
  | none => rw [hob] at hm; cases hm
  | some fs =>
    rw [hob] at hm
    cases hf : f h with
    | none => simp only [hf] at hm; cases hm
    | some z =>
      simp only [hf] at hm
      obtain ⟨m1, m2⟩ := M h z hf
      obtain ⟨g1, g2⟩ := kk z.1 z.2 x hm
      refine ⟨⟨Nat.le_trans m1.1 g1.1, Nat.le_trans m1.2 g1.2⟩, fun A H locs cells slots ls hI hl' => ?_⟩
      obtain ⟨b, rfl, hb, -, hat⟩ := pz_ob_at hI.1 hob
      have hts := A.2.2.2.2.2.2.2.2.1
      have hKn := A.2.2.2.2.2.2.2.2.2.1
      have hG := pz_good y J' mk.1
      have hfr' := A.2.2.2.2.2.2.1
      have hlo' := A.2.2.2.2.2.2.2.1
      have hrec := va_recv (ws := [(b, .inr (ci, fs))]) hKn.1 (pz_P1 hat) ck.1 (q0 := 0) rfl
      have hpre := pz_pre (av := va_rf (some b) :: As) hI.1 hKn
      have hM := m2 (pz_xD X) (pz_xA X) (pz_xB X)
      have h4 := hI.2.2.2.1
      have h5 := hI.2.2.2.2
      have k1 := g1.1
      have k2 := g1.2
      have n1 := m1.1
      have n2 := m1.2
      refine pz_after (a := (va_rf (some b) :: As).toArray) hI m1.1 m1.2 rfl rfl ?_ (fun H1 locs1 hI1 => g2 A H1 locs1 _ _ ls hI1 hl')
      rcases ml with hl | ⟨host, hl⟩
      · exact va_runV (Ts := pz_ws) (As := As) (b := b) (rest := st) ⟨A.1, A.2.1, A.2.2.2.1, A.2.2.1, hts⟩ hM ⟨callB_of np hts hG rfl rfl rfl (hts _ mk.2.1) (hts _ hl) mk.2.2 ⟨Nat.le_trans hfr hfr', Nat.le_trans hlo hlo'⟩, hts _ mi, hts _ msel⟩ ⟨hpre.1, hrec, hpre.2⟩ rfl hn hl'.1 rfl (lv_room hst) d ⟨by omega, by omega⟩
      · exact va_runVN (Ts := pz_ws) (As := As) (b := b) (rest := st) ⟨A.1, A.2.1, A.2.2.2.1, A.2.2.1, hts⟩ hM ⟨va_cnB np hts hG rfl rfl rfl (hKn.2.1 _ hl) (hts _ mk.2.1) mk.2.2 ⟨Nat.le_trans hfr hfr', Nat.le_trans hlo hlo'⟩, hts _ mi, hts _ msel⟩ ⟨hpre.1, hrec, hpre.2⟩ rfl hn hl'.1 rfl (lv_room hst) d ⟨by omega, by omega⟩
/-- a call of a static method -/
theorem pz_callS {α : Type} {rv' : α → Option Value} {J' : pz_J} {y : MethodName} {As : List Value} {f : pz_C α} {K : α → pz_C ρ} {idx np : Nat} {st0 : List Value} (M : pz_Md X y J' rv' As f) (mk : pz_MK y J' np) (ml : pz_ML J.2.1 idx y) (mi : Cond.static y ∈ pz_ws)
    (hn : As.length = np) (hst0 : st0 = As.reverse ++ st) (hst : (st.map fun v => v.category).sum ≤ 8) (hfr : J'.2.2.2.2.2.1 + 1 ≤ J.2.2.2.2.2.1) (hlo : 8 + (J'.2.2.1 + 11) + J'.2.2.2.2.2.2 ≤ J.2.2.2.2.2.2) (d : decode J.1 pc = .ok (.invokestatic idx, 3))
    (kk : ∀ z, pz_Sm X Qx J rv (pc + 3) lv ((rv' z).toList ++ st) (K z)) : pz_Sm X Qx J rv pc lv st0 (pz_cB f K) := by
  subst hst0
  intro h x hm
  simp only [pz_cB] at hm
  cases hf : f h with
  | none => rw [hf] at hm; cases hm
  | some z =>
    rw [hf] at hm
    obtain ⟨m1, m2⟩ := M h z hf
    obtain ⟨g1, g2⟩ := kk z.1 z.2 x hm
    refine ⟨⟨Nat.le_trans m1.1 g1.1, Nat.le_trans m1.2 g1.2⟩, fun A H locs cells slots ls hI hl' => ?_⟩
    have hts := A.2.2.2.2.2.2.2.2.1
    have hKn := A.2.2.2.2.2.2.2.2.2.1
    have hG := pz_good y J' mk.1
    have hfr' := A.2.2.2.2.2.2.1
    have hlo' := A.2.2.2.2.2.2.2.1
    have hpre := pz_pre (av := As) hI.1 hKn
    have hM := m2 (pz_xD X) (pz_xA X) (pz_xB X)
    have h4 := hI.2.2.2.1
    have h5 := hI.2.2.2.2
    have k1 := g1.1
    have k2 := g1.2
    have n1 := m1.1
    have n2 := m1.2
    refine pz_after (a := As.toArray) hI m1.1 m1.2 rfl rfl ?_ (fun H1 locs1 hI1 => g2 A H1 locs1 _ _ ls hI1 hl')
    rcases ml with hl | ⟨host, hl⟩
    · exact va_runS (Ts := pz_ws) (As := As) (rest := st) ⟨A.1, A.2.1, A.2.2.2.1, A.2.2.1, hts⟩ hM ⟨callB_of np hts hG rfl rfl rfl (hts _ mk.2.1) (hts _ hl) mk.2.2 ⟨Nat.le_trans hfr hfr', Nat.le_trans hlo hlo'⟩, hts _ mi⟩ hpre rfl hn hl'.1 rfl (lv_room hst) d ⟨by omega, by omega⟩
    · exact va_runSN (Ts := pz_ws) (As := As) (rest := st) ⟨A.1, A.2.1, A.2.2.2.1, A.2.2.1, hts⟩ hM ⟨va_cnB np hts hG rfl rfl rfl (hKn.2.1 _ hl) (hts _ mk.2.1) mk.2.2 ⟨Nat.le_trans hfr hfr', Nat.le_trans hlo hlo'⟩, hts _ mi, trivial⟩ hpre rfl hn hl'.1 rfl (lv_room hst) d ⟨by omega, by omega⟩
/-- a call of a constructor -/
theorem pz_callI {J' : pz_J} {y : MethodName} {r : Option Nat} {As : List Value} {f : pz_C Unit} {K : Unit → pz_C ρ} {idx np : Nat} {st0 : List Value} (M : pz_Md X y J' pz_vU (va_rf r :: As) f) (mk : pz_MK y J' np) (hnone : J'.2.2.2.1 = none) (ml : pz_ML J.2.1 idx y) (mi : Cond.instanceMethod y ∈ pz_ws) (hin : y.name = "<init>")
    (hn : As.length = np) (hst0 : st0 = As.reverse ++ va_rf r :: st) (hst : (st.map fun v => v.category).sum ≤ 8) (hfr : J'.2.2.2.2.2.1 + 1 ≤ J.2.2.2.2.2.1) (hlo : 8 + (J'.2.2.1 + 11) + J'.2.2.2.2.2.2 ≤ J.2.2.2.2.2.2) (d : decode J.1 pc = .ok (.invokespecial idx, 3))
    (kk : ∀ z, pz_Sm X Qx J rv (pc + 3) lv st (K z)) : pz_Sm X Qx J rv pc lv st0 (pz_nn r (pz_cB f K)) := by
  subst hst0
  cases r with
  | none => intro h x hm; simp [pz_nn] at hm
  | some b =>
    intro h x hm
    simp only [pz_nn, pz_cB, Option.isSome_some, if_true] at hm
    cases hf : f h with
    | none => rw [hf] at hm; cases hm
    | some z =>
      rw [hf] at hm
      obtain ⟨m1, m2⟩ := M h z hf
      obtain ⟨g1, g2⟩ := kk z.1 z.2 x hm
      refine ⟨⟨Nat.le_trans m1.1 g1.1, Nat.le_trans m1.2 g1.2⟩, fun A H locs cells slots ls hI hl' => ?_⟩
      have hts := A.2.2.2.2.2.2.2.2.1
      have hKn := A.2.2.2.2.2.2.2.2.2.1
      have hG := pz_good y J' mk.1
      rw [hnone] at hG
      have hfr' := A.2.2.2.2.2.2.1
      have hlo' := A.2.2.2.2.2.2.2.1
      have hpre := pz_pre (av := va_rf (some b) :: As) hI.1 hKn
      have hM := m2 (pz_xD X) (pz_xA X) (pz_xB X)
      rw [hnone] at hM
      have h4 := hI.2.2.2.1
      have h5 := hI.2.2.2.2
      have k1 := g1.1
      have k2 := g1.2
      have n1 := m1.1
      have n2 := m1.2
      refine pz_after (v := none) (a := (va_rf (some b) :: As).toArray) hI m1.1 m1.2 rfl rfl ?_ (fun H1 locs1 hI1 => g2 A H1 locs1 _ _ ls hI1 hl')
      rcases ml with hl | ⟨host, hl⟩
      · exact va_runI (Ts := pz_ws) (As := As) (b := b) (rest := st) ⟨A.1, A.2.1, A.2.2.2.1, A.2.2.1, hts⟩ hM ⟨callB_of np hts hG rfl rfl rfl (hts _ mk.2.1) (hts _ hl) mk.2.2 ⟨Nat.le_trans hfr hfr', Nat.le_trans hlo hlo'⟩, hin, hts _ mi⟩ hpre rfl hn hl'.1 rfl (lv_room hst) d ⟨by omega, by omega⟩
      · exact va_runIN (Ts := pz_ws) (As := As) (b := b) (rest := st) ⟨A.1, A.2.1, A.2.2.2.1, A.2.2.1, hts⟩ hM ⟨va_cnB np hts hG rfl rfl rfl (hKn.2.1 _ hl) (hts _ mk.2.1) mk.2.2 ⟨Nat.le_trans hfr hfr', Nat.le_trans hlo hlo'⟩, hin, hts _ mi⟩ hpre rfl hn hl'.1 rfl (lv_room hst) d ⟨by omega, by omega⟩
end PZ5
