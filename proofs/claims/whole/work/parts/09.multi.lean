/-! ===== new int[n][k], over the machine itself ===== -/
def pm_in (comp : ClassId) (M : Nat) : Cell := { cls := comp, slots := Array.replicate M (.int 0), vm := .none }
def pm_out (c : ClassId) (N h0 : Nat) : Nat → Cell
  | 0 => { cls := c, slots := Array.replicate N .null, vm := .none }
  | i + 1 => (pm_out c N h0 i).setSlot i (.ref (h0 + 1 + i))
def pm_fill (s : State) (c comp : ClassId) (N M : Nat) : Nat → State
  | 0 => s.pushCell (pm_out c N s.heap.size 0)
  | i + 1 => ((pm_fill s c comp N M i).pushCell (pm_in comp M)).setCell s.heap.size (pm_out c N s.heap.size (i + 1))
theorem pm_out_cell (c : ClassId) (N h0 : Nat) : ∀ i : Nat, pm_out c N h0 i = arrV c N (fun j => va_rf (if j < i then some (h0 + 1 + j) else none))
  | 0 => by
    show ({ cls := c, slots := Array.replicate N .null, vm := .none } : Cell) = _
    rw [arrV_new]
    refine congrArg (arrV c N) (funext fun j => ?_)
    simp [va_rf]
  | i + 1 => by
    show (pm_out c N h0 i).setSlot i (.ref (h0 + 1 + i)) = _
    rw [pm_out_cell c N h0 i, arrV_store]
    refine congrArg (arrV c N) (funext fun j => ?_)
    by_cases e : j = i
    · subst e
      simp [updV, va_rf]
    · by_cases h : j < i
      · simp [updV, e, h, Nat.lt_succ_of_lt h]
      · simp [updV, e, h, show ¬ j < i + 1 by omega]
theorem pm_out_facts (c : ClassId) (N h0 : Nat) : ∀ i, (pm_out c N h0 i).cls = c ∧ (pm_out c N h0 i).vm = .none ∧ (pm_out c N h0 i).slots.size = N
  | 0 => ⟨rfl, rfl, by simp [pm_out]⟩
  | i + 1 => by
    obtain ⟨a, b, d⟩ := pm_out_facts c N h0 i
    exact ⟨by simp [pm_out, Cell.setSlot, a], by simp [pm_out, Cell.setSlot, b], by simp [pm_out, Cell.setSlot, d]⟩
theorem pm_facts (s : State) (c comp : ClassId) (N M : Nat) : ∀ i, (pm_fill s c comp N M i).heap.size = s.heap.size + 1 + i ∧ (pm_fill s c comp N M i).heap[s.heap.size]? = some (pm_out c N s.heap.size i) ∧ (pm_fill s c comp N M i).vm = s.vm ∧ (pm_fill s c comp N M i).slotsUsed = s.slotsUsed + N + i * M
  | 0 => ⟨by simp [pm_fill], by simp [pm_fill], rfl, by simp [pm_fill, pm_out]⟩
  | i + 1 => by
    obtain ⟨a, b, d, u⟩ := pm_facts s c comp N M i
    have hlt : s.heap.size < (pm_fill s c comp N M i).heap.size := by omega
    have hb' : ((pm_fill s c comp N M i).pushCell (pm_in comp M)).heap[s.heap.size]? = some (pm_out c N s.heap.size i) := by rw [State.heap_pushCell_of_lt (h := hlt)]; exact b
    refine ⟨?_, State.heap_setCell_self hb', by simp [pm_fill, d], ?_⟩
    · simp [pm_fill, State.setCell, a]; omega
    · simp [pm_fill, u, pm_in, Nat.succ_mul]; omega
theorem pm_top (s : State) (f : JFrame) (c comp : ClassId) (N M : Nat) : ∀ i, pm_fill (s.setTop f) c comp N M i = (pm_fill s c comp N M i).setTop f
  | 0 => rfl
  | i + 1 => by simp only [pm_fill, pm_top s f c comp N M i, State.heap_setTop, State.pushCell_setTop, State.setCell_setTop]
theorem pm_old (s : State) (c comp : ClassId) (N M : Nat) {a : Addr} (ha : a < s.heap.size) : ∀ i, (pm_fill s c comp N M i).heap[a]? = s.heap[a]?
  | 0 => State.heap_pushCell_of_lt _ _ ha
  | i + 1 => by
    have f1 := (pm_facts s c comp N M i).1
    have hlt : a < (pm_fill s c comp N M i).heap.size := Nat.lt_of_lt_of_le ha (by rw [f1]; omega)
    show (((pm_fill s c comp N M i).pushCell (pm_in comp M)).setCell s.heap.size _).heap[a]? = _
    rw [State.heap_setCell_other (Nat.ne_of_gt ha), State.heap_pushCell_of_lt (h := hlt)]
    exact pm_old s c comp N M ha i
theorem pm_row (s : State) (c comp : ClassId) (N M : Nat) : ∀ i j, j < i → (pm_fill s c comp N M i).heap[s.heap.size + 1 + j]? = some (pm_in comp M)
  | 0, _, h => absurd h (Nat.not_lt_zero _)
  | i + 1, j, h => by
    have f1 := (pm_facts s c comp N M i).1
    show (((pm_fill s c comp N M i).pushCell (pm_in comp M)).setCell s.heap.size _).heap[s.heap.size + 1 + j]? = _
    rw [State.heap_setCell_other (show s.heap.size ≠ s.heap.size + 1 + j by omega)]
    rcases Nat.lt_or_ge j i with hj | hj
    · have hlt : s.heap.size + 1 + j < (pm_fill s c comp N M i).heap.size := by rw [f1]; omega
      rw [State.heap_pushCell_of_lt (h := hlt)]
      exact pm_row s c comp N M i j hj
    · have e : j = i := by omega
      subst e
      rw [← f1]
      exact State.heap_pushCell_size _ _
section PM1
variable {E : CtlPost} {e : Env} {d : Bool} {acts : List Action} {s : State}
theorem pm_newArray {c comp : ClassId} {k : Class} {type : FieldType} {len : Nat} {init : Value} (hk : s.vm.classes[c]? = some k) (hkind : k.kind = .array comp type)
    (hlimit : ¬ len > e.platform.arrayLengthLimit) (hheap : ¬ len * componentBytes type > e.platform.maxHeapBytes) (hfit : fits type init = true) (hdef : init.isDefault = true) {Q : Addr → Pre}
    (h1 : s.heap.size < e.platform.maxCells) (h2 : s.slotsUsed + len ≤ e.platform.maxSlots) (hq : Q s.heap.size d acts (s.pushCell { cls := c, slots := Array.replicate len init, vm := .none })) :
    wp (Jvm.newArray c len init) Q E e d acts s := by
  have hfits : ∀ i v, (Array.replicate len init)[i]? = some v → s.fitsSlot c .none i v = true := by
    intro i v hv
    simp only [Array.getElem?_replicate] at hv
    split at hv
    · cases hv; simp [State.fitsSlot, State.slotType?, hk, hkind, hfit]
    · cases hv
  have hda : allocActs (Array.replicate len init) s.heap.size acts = acts := by
    have hall : ((Array.replicate len init).all (·.isDefault)) = true := by
      rw [Array.all_replicate]; split <;> simp [hdef]
    unfold allocActs; rw [if_pos hall]
  simp only [Jvm.newArray, Jvm.arrayFits, wp_bind', W.ask, W.ite, hlimit, if_false, wp_pure', W.theClass, hk, hkind, hheap, W.alloc, W.stop, Option.some.injEq, exists_eq_left', Array.size_replicate, hda]
  rw [if_neg (by omega)]
  exact ⟨h1, h2, hfits, hq⟩
theorem pm_make1 {comp cc : ClassId} {kc : Class} {m : Int32} (hkc : s.vm.classes[comp]? = some kc) (hkindc : kc.kind = .array cc .int) (hm : ¬ m < 0)
    (hl2 : ¬ m.toNatClampNeg > e.platform.arrayLengthLimit) (hh2 : ¬ m.toNatClampNeg * componentBytes .int > e.platform.maxHeapBytes) (h1 : s.heap.size < e.platform.maxCells) (h2 : s.slotsUsed + m.toNatClampNeg ≤ e.platform.maxSlots)
    {Q : Addr → Pre} (hq : Q s.heap.size d acts (s.pushCell (pm_in comp m.toNatClampNeg))) : wp (multianewarray.make comp [m]) Q E e d acts s := by
  rw [multianewarray.make]
  simp only [wp_bind', W.ite, hm, if_false, wp_pure', W.theClass, hkc, hkindc, Option.some.injEq, exists_eq_left']
  exact pm_newArray hkc hkindc hl2 hh2 rfl rfl h1 h2 hq
theorem pm_make2 {c comp cc : ClassId} {k kc : Class} {n m : Int32} (hk : s.vm.classes[c]? = some k) (hkind : k.kind = .array comp (.array .int))
    (hkc : s.vm.classes[comp]? = some kc) (hkindc : kc.kind = .array cc .int) (hn : ¬ n < 0) (hm : ¬ m < 0)
    (hl1 : ¬ n.toNatClampNeg > e.platform.arrayLengthLimit) (hh1 : ¬ n.toNatClampNeg * componentBytes (.array .int) > e.platform.maxHeapBytes)
    (hl2 : ¬ m.toNatClampNeg > e.platform.arrayLengthLimit) (hh2 : ¬ m.toNatClampNeg * componentBytes .int > e.platform.maxHeapBytes)
    (hc : s.heap.size + 1 + n.toNatClampNeg ≤ e.platform.maxCells) (hs : s.slotsUsed + n.toNatClampNeg + n.toNatClampNeg * m.toNatClampNeg ≤ e.platform.maxSlots)
    {Q : Addr → Pre} (hq : ∀ d' acts', Q s.heap.size d' acts' (pm_fill s c comp n.toNatClampNeg m.toNatClampNeg n.toNatClampNeg)) :
    wp (multianewarray.make c [n, m]) Q E e d acts s := by
  have hfind : ([m].find? (· < 0)) = none := by simp [hm]
  rw [multianewarray.make]
  simp only [wp_bind', W.ite, hn, if_false, wp_pure', W.theClass, hk, hkind, Option.some.injEq, exists_eq_left']
  refine pm_newArray hk hkind hl1 hh1 rfl rfl (by omega) (by have := Nat.zero_le (n.toNatClampNeg * m.toNatClampNeg); omega) ?_
  simp only [hfind]
  rw [ite_self, wp_bind', Std.Legacy.Range.forIn_eq_forIn_range']
  have hsz : ([:n.toNatClampNeg] : Std.Legacy.Range).size = n.toNatClampNeg := by simp [Std.Legacy.Range.size]
  rw [hsz]
  show wp (forIn (List.range' 0 n.toNatClampNeg 1) PUnit.unit _) _ E e d acts _
  refine wp_forIn_inv (fun rest s' => ∃ i, i ≤ n.toNatClampNeg ∧ rest = List.range' i (n.toNatClampNeg - i) ∧ s' = pm_fill s c comp n.toNatClampNeg m.toNatClampNeg i) _ _ ⟨0, Nat.zero_le _, rfl, rfl⟩ ?_ ?_
  · rintro x rest s' d' acts' Q' ⟨i, hi, hl, rfl⟩ hnext
    have hlt : i < n.toNatClampNeg := by
      rcases Nat.lt_or_ge i n.toNatClampNeg with h | h
      · exact h
      · rw [show n.toNatClampNeg - i = 0 from by omega] at hl; simp at hl
    obtain ⟨rfl, hrest⟩ : x = i ∧ rest = List.range' (i + 1) (n.toNatClampNeg - (i + 1)) := by
      rw [show n.toNatClampNeg - i = (n.toNatClampNeg - (i + 1)) + 1 from by omega, List.range'_succ] at hl
      exact ⟨(List.cons.inj hl).1, (List.cons.inj hl).2⟩
    obtain ⟨f1, f2, f3, f4⟩ := pm_facts s c comp n.toNatClampNeg m.toNatClampNeg x
    obtain ⟨o1, o2, o3⟩ := pm_out_facts c n.toNatClampNeg s.heap.size x
    have hmul : x * m.toNatClampNeg + m.toNatClampNeg ≤ n.toNatClampNeg * m.toNatClampNeg := by
      have := Nat.mul_le_mul_right m.toNatClampNeg (show x + 1 ≤ n.toNatClampNeg from hlt)
      rw [Nat.succ_mul] at this; exact this
    simp only [wp_bind']
    refine pm_make1 (by rw [f3]; exact hkc) hkindc hm hl2 hh2 (by rw [f1]; omega) (by rw [f4]; omega) ?_
    have hlt0 : s.heap.size < (pm_fill s c comp n.toNatClampNeg m.toNatClampNeg x).heap.size := by rw [f1]; omega
    simp only [wp_bind', W.writeLoc, wp_pure']
    refine ⟨pm_out c n.toNatClampNeg s.heap.size x, by rw [State.heap_pushCell_of_lt (h := hlt0)]; exact f2, by rw [o2]; simp, by rw [o3]; exact hlt, ?_, hnext _ _ _ ⟨x + 1, hlt, hrest, ?_⟩⟩
    · rw [o1, o2]
      simp [State.fitsSlot, State.slotType?, f3, hk, hkind, fits]
    · rw [f1]; rfl
  · rintro s' d' acts' ⟨i, hi, hl, rfl⟩
    have hiN : i = n.toNatClampNeg := by
      rcases Nat.lt_or_ge i n.toNatClampNeg with h | h
      · rw [show n.toNatClampNeg - i = (n.toNatClampNeg - (i + 1)) + 1 from by omega, List.range'_succ] at hl; cases hl
      · omega
    subst hiN
    simp only [wp_pure']
    exact hq _ _
end PM1
section PM2
variable {p : Program} {l : Launch} {e : Env} {R : Room} {s : State} {m : MethodId} {args : Array Value} {below : List Frame} {meth : Method} {c : Code} {T : State} {locs : List Loc} {cells slots : Nat}
theorem pm_filled (X : Stand p l e R s m args below meth c T locs cells slots) (cA comp : ClassId) (N M : Nat) : ∀ i, Stand p l e R s m args below meth c (pm_fill T cA comp N M i) (locs ++ (List.range i).map fun j => ⟨T.heap.size, j⟩) (cells + 1 + i) (slots + N + i * M)
  | 0 => by
    have h := X.pushed (pm_out cA N T.heap.size 0)
    rw [(pm_out_facts cA N T.heap.size 0).2.2] at h
    simpa [pm_fill] using h
  | i + 1 => by
    have Xi := pm_filled X cA comp N M i
    obtain ⟨f1, f2, f3, f4⟩ := pm_facts T cA comp N M i
    have hlt0 : T.heap.size < (pm_fill T cA comp N M i).heap.size := by rw [f1]; omega
    have hcell : ((pm_fill T cA comp N M i).pushCell (pm_in comp M)).heap[T.heap.size]? = some (pm_out cA N T.heap.size i) := by rw [State.heap_pushCell_of_lt (h := hlt0)]; exact f2
    have h := (Xi.pushed (pm_in comp M)).stored hcell i (.ref (T.heap.size + 1 + i))
    have e1 : (pm_in comp M).slots.size = M := by simp [pm_in]
    rw [e1] at h
    have e2 : (locs ++ (List.range (i + 1)).map fun j => (⟨T.heap.size, j⟩ : Loc)) = (locs ++ (List.range i).map fun j => (⟨T.heap.size, j⟩ : Loc)) ++ [⟨T.heap.size, i⟩] := by simp [List.range_succ, List.append_assoc]
    have e3 : slots + N + (i + 1) * M = slots + N + i * M + M := by rw [Nat.succ_mul]; omega
    rw [e2, e3]
    exact h
end PM2
section PM3
variable {X : pz_X} {Qx : Option Value → pz_H → State → Prop} {J : pz_J} {ρ : Type} {rv : ρ → Option Value} {pc : Nat} {lv : List (Nat × Value)} {st : List Value}
set_option maxHeartbeats 1000000 in
theorem pz_newaG {idx : Nat} {n k : Int32} {K : Option Nat → pz_C ρ} (hw : Cond.classLink J.2.1 idx "[[I" ∈ pz_ws) (d : decode J.1 pc = .ok (.multianewarray idx 2, 4)) (kk : ∀ x, pz_Sm X Qx J rv (pc + 4) lv (va_rf x :: st) (K x)) : pz_Sm X Qx J rv pc lv (.int k :: .int n :: st) (pz_newG 6 0 n k K) := by
  intro h y hm
  simp only [pz_newG] at hm
  by_cases hnk : n < 0 ∨ k < 0 ∨ 67108864 < n.toNatClampNeg ∨ 67108864 < k.toNatClampNeg
  · simp [hnk] at hm
  · simp only [hnk, if_false] at hm
    obtain ⟨g1, g2⟩ := kk _ _ y hm
    generalize hN : n.toNatClampNeg = N at *
    generalize hM : k.toNatClampNeg = M at *
    have g1a : h.1 + 1 + N ≤ y.2.1 := g1.1
    have g1b : h.2.1 + (N + N * M) ≤ y.2.2.1 := g1.2
    refine ⟨⟨by omega, by omega⟩, fun A H locs cells slots ls hI hl' => ?_⟩
    have hts := A.2.2.2.2.2.2.2.2.1
    obtain ⟨⟨a1, a2, a3⟩, i2, i3, i4, i5⟩ := id hI
    have hKn := A.2.2.2.2.2.2.2.2.2.1
    have hn : ¬ n < 0 := fun q => hnk (Or.inl q)
    have hk : ¬ k < 0 := fun q => hnk (Or.inr (Or.inl q))
    have hcells : cells + (1 + N) ≤ (pz_xR X).cells := by omega
    have hslots : slots + (N + N * M) ≤ (pz_xR X).slots := by omega
    intro T hT S
    obtain ⟨kA, hkA, hkindA⟩ := hKn.2.2.2
    obtain ⟨-, kC, hkC, cc, hkindC⟩ := (hKn.1.2 0 _ (pz_tys_at (t := 0) (ft := .int) rfl)).1 0 (fun _ => .int 0)
    have hkC : (pz_xs X).vm.classes[pz_xA X 0]? = some kC := hkC
    have hnameA : (pz_xs X).vm.findClass "[[I" = some (pz_xA X 6) := (hKn.1.2 6 _ (pz_tys_at (t := 6) (ft := .array .int) rfl)).2
    have hpl : X.2.2.1.platform.magicAccessors = ({} : Platform).magicAccessors := by rw [S.admits.platform]
    obtain ⟨c0, hfc0, hcl⟩ := Cond.classLink_spec A.2.2.1 (hts _ hw) X.2.2.1.platform hpl
    cases hnameA.symm.trans hfc0
    obtain ⟨hg₁, hwarm₁, hready₁⟩ := State.classEntry (e := X.2.2.1) S.warmed hcl
    generalize T.vm.noted (pz_xm X).cls idx (.cls (pz_xA X 6)) = vm₁ at hg₁ hwarm₁ hready₁
    have hal : (pz_xs X).vm.Alike vm₁ := hwarm₁.alike
    obtain ⟨kA₁, hkA₁, heA⟩ := hal.2.2 _ _ hkA
    obtain ⟨kC₁, hkC₁, heC⟩ := hal.2.2 _ _ hkC
    have hkindA₁ : kA₁.kind = .array (pz_xA X 0) (.array .int) := by rw [heA]; exact hkindA
    have hkindC₁ : kC₁.kind = .array cc .int := by rw [heC]; exact hkindC
    have S₁ := S.noted hwarm₁
    obtain ⟨hr1, hr2⟩ := S.roomAbove hcells hslots
    have SF := pm_filled S₁ (pz_xA X 6) (pz_xA X 0) N M N
    obtain ⟨f1, f2, f3, f4⟩ := pm_facts (T.setVm vm₁) (pz_xA X 6) (pz_xA X 0) N M N
    have hTh : (T.setVm vm₁).heap = H := hT
    rw [hTh] at f1 f2
    have hI' : pz_In X (pz_mkG h 6 0 N M) (pm_fill (T.setVm vm₁) (pz_xA X 6) (pz_xA X 0) N M N).heap (locs ++ (List.range N).map fun j => ⟨(T.setVm vm₁).heap.size, j⟩) (cells + 1 + N) (slots + N + N * M) y.2 := by
      refine ⟨⟨?_, by omega, fun q e' hq => ?_⟩, fun q hq => ?_, fun q hq => ?_, ?_, ?_⟩
      · show h.1 + 1 + N = _
        omega
      · simp only [pz_mkG] at hq
        by_cases hq1 : q = h.1
        · rw [if_pos hq1] at hq
          cases hq
          refine ⟨by omega, ?_⟩
          show (pm_fill _ _ _ _ _ _).heap[q]? = some (vp_cell _ _)
          rw [hq1, a1, f2, vp_cell_q]
          exact congrArg some (pm_out_cell _ _ _ _)
        · rw [if_neg hq1] at hq
          by_cases hq2 : h.1 < q ∧ q ≤ h.1 + N
          · rw [if_pos hq2] at hq
            cases hq
            refine ⟨by omega, ?_⟩
            have hr := pm_row (T.setVm vm₁) (pz_xA X 6) (pz_xA X 0) N M N (q - h.1 - 1) (by omega)
            rw [hTh, show H.size + 1 + (q - h.1 - 1) = q by omega] at hr
            show (pm_fill _ _ _ _ _ _).heap[q]? = some (vp_cell _ _)
            rw [hr, vp_cell_i]
            refine congrArg some ?_
            show ({ cls := _, slots := _, vm := _ } : Cell) = _
            rw [arrV_new]
          · rw [if_neg hq2] at hq
            have h8 := a3 q e' hq
            refine ⟨h8.1, h8.2.kept ?_⟩
            rw [pm_old (T.setVm vm₁) _ _ _ _ (a := q) (by rw [hTh]; exact h8.2.lt), hTh]
      · rcases List.mem_append.mp hq with h9 | h9
        · exact i2 q h9
        · obtain ⟨j, -, rfl⟩ := List.mem_map.mp h9
          show pz_xB X ≤ (T.setVm vm₁).heap.size
          rw [hTh]
          exact a2
      · rw [pm_old (T.setVm vm₁) _ _ _ _ (a := q) (by rw [hTh]; exact Nat.lt_of_lt_of_le hq a2), hTh]
        exact i3 q hq
      · show cells + 1 + N + y.2.1 ≤ _ + (h.1 + 1 + N)
        omega
      · show slots + N + N * M + y.2.2.1 ≤ _ + (h.2.1 + (N + N * M))
        omega
    obtain ⟨t, st1, q1⟩ := g2 A _ _ _ _ ls hI' hl' _ rfl SF
    refine ⟨t, ?_, q1⟩
    have hl1 : ¬ n.toNatClampNeg > X.2.2.1.platform.arrayLengthLimit := by rw [Launch.admits_arrayLengthLimit S.admits]; omega
    have hh1 : ¬ n.toNatClampNeg * componentBytes (.array .int) > X.2.2.1.platform.maxHeapBytes := by
      rw [Launch.admits_maxHeapBytes S.admits]; show ¬ n.toNatClampNeg * 4 > 536870912; omega
    have hl2 : ¬ k.toNatClampNeg > X.2.2.1.platform.arrayLengthLimit := by rw [Launch.admits_arrayLengthLimit S.admits]; omega
    have hh2 : ¬ k.toNatClampNeg * componentBytes .int > X.2.2.1.platform.maxHeapBytes := by
      rw [Launch.admits_maxHeapBytes S.admits]; show ¬ k.toNatClampNeg * 4 > 536870912; omega
    have hb := A.2.1
    jvm_step S.here [A.1, hb, d]
    simp only [multianewarray.sem, wp_bind', W.resolveClassAt_links (State.method?_setTop (F0 (pz_xm X) pc ls (.int k :: .int n :: st)) S.here.top) hg₁]
    rw [W.popN, if_neg (by decide)]
    refine ⟨F0 (pz_xm X) pc ls (.int k :: .int n :: st), State.topJava?_setTop' (s := T.setVm vm₁) _ S.here.top, [.int n, .int k], st, rfl, rfl, ?_⟩
    simp only [List.mapM_cons, List.mapM_nil, wp_bind', wp_pure']
    refine pm_make2 (k := kA₁) (kc := kC₁) (comp := pz_xA X 0) (cc := cc) hkA₁ hkindA₁ hkC₁ hkindC₁ hn hk hl1 hh1 hl2 hh2 (by show T.heap.size + 1 + _ ≤ _; omega) (by rw [hN, hM]; show T.slotsUsed + _ + _ ≤ _; omega) (fun d' acts' => ?_)
    rw [hN, hM]
    have eS : ((T.setTop (F0 (pz_xm X) pc ls (.int k :: .int n :: st))).setVm vm₁).setTop (F0 (pz_xm X) pc ls st) = (T.setVm vm₁).setTop (F0 (pz_xm X) pc ls st) := by
      show ((T.setVm vm₁).setTop _).setTop _ = _
      rw [State.setTop_setTop]
    rw [eS, pm_top]
    simp only [wp_bind', W.mark, W.pushRef, State.topJava?_setTop' _ SF.here.top, Option.some.injEq, exists_eq_left', State.setTop_setTop, State.heap_setTop]
    intro acts
    simp [jvm, SF.here.top]
    have ha : (T.setVm vm₁).heap.size = h.1 := by rw [hTh]; exact a1.symm
    have st2 : Steps X.1.tables X.2.2.1 (pz_xb X) ((pm_fill (T.setVm vm₁) (pz_xA X 6) (pz_xA X 0) N M N).setTop (F0 (pz_xm X) (pc + 4) ls (.ref h.1 :: st))) t := st1
    rw [← ha] at st2
    exact st2
end PM3
