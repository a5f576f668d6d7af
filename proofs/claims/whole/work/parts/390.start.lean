/-! ===== the claim, out of what the law's function does ===== -/
/-- what is left to show: the law's function comes to its end, within the room -/
def lw_pure : Prop := ∀ (sz L : Nat) (xs : Nat → Int32), L ≤ 3072 → ∃ (n : Nat) (h' : pz_H), L_law n L xs (sz, 0, fun _ => none) = some ((), h') ∧ h'.1 ≤ sz + 600000 ∧ h'.2.1 ≤ 7302250
theorem lw_arr {s : State} {cA : ClassId} {k : Class} {comp : ClassId} {ty : FieldType} (h1 : s.vm.classes[cA]? = some k) (h2 : k.kind = .array comp ty) : ArrOfT s cA ty := fun _ _ => ⟨fun q h => (by cases h), k, h1, comp, h2⟩
theorem lw_kn {args : Array Value} {s : State} (hts : ∀ w ∈ lw_tbl, w.before args s = true) : ∃ (D : va_G) (dA : Nat → ClassId), pz_Kn D dA s := by
  have hin : ∀ {ci : Nat} {C : String} {T : u_T} {N : Nat} {ty : Nat → FieldType}, pz_CK ci C T N ty → ∀ w ∈ u_ws C T N, w ∈ lw_tbl := fun ck w hw => (List.mem_filter.mp (ck.2.1 w hw)).1
  obtain ⟨c0, i0, k0⟩ := u_known (C := RX0) (T := TX0) (N := 3) (n := 3) hts (hin ck_0) (hts (.instantiable RX0 3) (List.mem_append_right _ (List.mem_of_getElem? (i := 81) (by decide +kernel))))
  obtain ⟨c1, i1, k1⟩ := u_known (C := RX1) (T := TX1) (N := 4) (n := 4) hts (hin ck_1) (hts (.instantiable RX1 4) (List.mem_append_right _ (List.mem_of_getElem? (i := 274) (by decide +kernel))))
  obtain ⟨c2, i2, k2⟩ := u_known (C := RX2) (T := TX2) (N := 6) (n := 6) hts (hin ck_2) (hts (.instantiable RX2 6) (List.mem_append_right _ (List.mem_of_getElem? (i := 75) (by decide +kernel))))
  obtain ⟨c3, i3, k3⟩ := u_known (C := RX3) (T := TX3) (N := 2) (n := 2) hts (hin ck_3) (hts (.instantiable RX3 2) (List.mem_append_right _ (List.mem_of_getElem? (i := 375) (by decide +kernel))))
  obtain ⟨c4, i4, k4⟩ := u_known (C := RX4) (T := TX4) (N := 9) (n := 9) hts (hin ck_4) (hts (.instantiable RX4 9) (List.mem_append_right _ (List.mem_of_getElem? (i := 334) (by decide +kernel))))
  obtain ⟨c5, i5, k5⟩ := u_known (C := RX5) (T := TX5) (N := 1) (n := 1) hts (hin ck_5) (hts (.instantiable RX5 1) (List.mem_append_right _ (List.mem_of_getElem? (i := 502) (by decide +kernel))))
  obtain ⟨c6, i6, k6⟩ := u_known (C := RX6) (T := TX6) (N := 7) (n := 7) hts (hin ck_6) (hts (.instantiable RX6 7) (List.mem_append_right _ (List.mem_of_getElem? (i := 24) (by decide +kernel))))
  obtain ⟨c7, i7, k7⟩ := u_known (C := RX7) (T := TX7) (N := 9) (n := 9) hts (hin ck_7) (hts (.instantiable RX7 9) (List.mem_append_right _ (List.mem_of_getElem? (i := 268) (by decide +kernel))))
  obtain ⟨c8, i8, k8⟩ := u_known (C := RX8) (T := TX8) (N := 2) (n := 2) hts (hin ck_8) (hts (.instantiable RX8 2) (List.mem_append_right _ (List.mem_of_getElem? (i := 132) (by decide +kernel))))
  obtain ⟨c9, i9, k9⟩ := u_known (C := RX9) (T := TX9) (N := 15) (n := 15) hts (hin ck_9) (hts (.instantiable RX9 15) (List.mem_append_right _ (List.mem_of_getElem? (i := 145) (by decide +kernel))))
  obtain ⟨c10, i10, k10⟩ := u_known (C := RX10) (T := TX10) (N := 12) (n := 12) hts (hin ck_10) (hts (.instantiable RX10 12) (List.mem_append_right _ (List.mem_of_getElem? (i := 205) (by decide +kernel))))
  obtain ⟨c11, i11, k11⟩ := u_known (C := RX11) (T := TX11) (N := 10) (n := 10) hts (hin ck_11) (hts (.instantiable RX11 10) (List.mem_append_right _ (List.mem_of_getElem? (i := 16) (by decide +kernel))))
  obtain ⟨c12, i12, k12⟩ := u_known (C := RX12) (T := TX12) (N := 37) (n := 37) hts (hin ck_12) (hts (.instantiable RX12 37) (List.mem_append_right _ (List.mem_of_getElem? (i := 904) (by decide +kernel))))
  obtain ⟨a0, ka0, ca0, na0, ha0, da0⟩ := Cond.arrayClass_spec (hts (.arrayClass .int) (List.mem_append_right _ (List.mem_of_getElem? (i := 72) (by decide +kernel))))
  obtain ⟨a1, ka1, ca1, na1, ha1, da1⟩ := Cond.arrayClass_spec (hts (.arrayClass .boolean) (List.mem_append_right _ (List.mem_of_getElem? (i := 73) (by decide +kernel))))
  obtain ⟨a2, ka2, ca2, na2, ha2, da2⟩ := Cond.arrayClass_spec (hts (.arrayClass .long) (List.mem_append_right _ (List.mem_of_getElem? (i := 130) (by decide +kernel))))
  have w3 := hts (.arrayOver (.object "RowSolver$Big")) (List.mem_append_right _ (List.mem_of_getElem? (i := 151) (by decide +kernel)))
  obtain ⟨ca3, a3, ka3, nc3, -, ha3, da3, na3⟩ := Cond.arrayOver_spec w3
  have w4 := hts (.arrayOver (.object "RowSolver$Fraction")) (List.mem_append_right _ (List.mem_of_getElem? (i := 374) (by decide +kernel)))
  obtain ⟨ca4, a4, ka4, nc4, -, ha4, da4, na4⟩ := Cond.arrayOver_spec w4
  have w5 := hts (.arrayOver (.object "RowSolver$Leaf")) (List.mem_append_right _ (List.mem_of_getElem? (i := 211) (by decide +kernel)))
  obtain ⟨ca5, a5, ka5, nc5, -, ha5, da5, na5⟩ := Cond.arrayOver_spec w5
  obtain ⟨ca6, a6, ka6, nc6, -, ha6, da6, na6⟩ := arrayOverA_spec (hts (.arrayOver (.array .int)) (List.mem_append_right _ (List.mem_of_getElem? (i := 30) (by decide +kernel))))
  have e6 : ca6 = a0 := Option.some.inj (nc6.symm.trans na0)
  subst e6
  refine ⟨(fun c => match c with
    | 0 => c0
    | 1 => c1
    | 2 => c2
    | 3 => c3
    | 4 => c4
    | 5 => c5
    | 6 => c6
    | 7 => c7
    | 8 => c8
    | 9 => c9
    | 10 => c10
    | 11 => c11
    | _ => c12, fun c => match c with
    | 0 => i0
    | 1 => i1
    | 2 => i2
    | 3 => i3
    | 4 => i4
    | 5 => i5
    | 6 => i6
    | 7 => i7
    | 8 => i8
    | 9 => i9
    | 10 => i10
    | 11 => i11
    | _ => i12), fun t => match t with
    | 0 => ca6
    | 1 => a1
    | 2 => a2
    | 3 => a3
    | 4 => a4
    | 5 => a5
    | _ => a6, ⟨fun c q hq => ?_, fun t q hq => ?_⟩, fun w hw => ?_, fun C hC => ?_, ka6, ha6, da6⟩
  · match c, hq with
    | 0, hq => cases hq; exact k0
    | 1, hq => cases hq; exact k1
    | 2, hq => cases hq; exact k2
    | 3, hq => cases hq; exact k3
    | 4, hq => cases hq; exact k4
    | 5, hq => cases hq; exact k5
    | 6, hq => cases hq; exact k6
    | 7, hq => cases hq; exact k7
    | 8, hq => cases hq; exact k8
    | 9, hq => cases hq; exact k9
    | 10, hq => cases hq; exact k10
    | 11, hq => cases hq; exact k11
    | 12, hq => cases hq; exact k12
    | c + 13, hq => simp [vwCl] at hq
  · match t, hq with
    | 0, hq => cases hq; exact ⟨lw_arr ha0 da0, na0⟩
    | 1, hq => cases hq; exact ⟨lw_arr ha1 da1, na1⟩
    | 2, hq => cases hq; exact ⟨lw_arr ha2 da2, na2⟩
    | 3, hq => cases hq; exact ⟨lw_arr ha3 da3, ka3, ca3, ha3, da3, nc3, na3⟩
    | 4, hq => cases hq; exact ⟨lw_arr ha4 da4, ka4, ca4, ha4, da4, nc4, na4⟩
    | 5, hq => cases hq; exact ⟨lw_arr ha5 da5, ka5, ca5, ha5, da5, nc5, na5⟩
    | 6, hq => cases hq; exact ⟨lw_arr ha6 da6, na6⟩
    | t + 7, hq => simp [pz_tys, pz_ty] at hq
  · obtain ⟨h1, h2⟩ := List.mem_filter.mp hw
    have h3 := hts w h1
    cases w <;> first | (simp [pz_isN] at h2; done) | exact va_Nw.of rfl h3
  · simp only [pz_ao, List.mem_cons, List.not_mem_nil, or_false] at hC
    rcases hC with rfl | rfl | rfl
    · exact va_AO.of w3
    · exact va_AO.of w4
    · exact va_AO.of w5

set_option maxHeartbeats 4000000 in
set_option maxRecDepth 100000 in
/-- THE LAW, from its entry, out of lw_pure -/
theorem whole_open (hPure : lw_pure) {p : Program} {e : Env} {s : State} {m : MethodId} {below : List Frame} {meth : Method} {c : Code} (l : Launch) {b L : Nat} {xs : Nat → Int32} (hL : L ≤ 3072) (hx : p.tables.exec = Jvm.exec) (hb : c.code = code) (hr : meth.sig.returnType = ret) (hml : c.maxLocals = 4) (hown : s.vm.findClass RL = some m.cls) (hts : ∀ w ∈ lw_tbl, w.before #[Value.ref b] s = true) (hX : va_X b L xs s s.heap) (hbl : b < s.heap.size) (hlocks : meth.locks = false)
    (Qf : State → Prop) (hend : ∀ (pc : Nat) (H : Heap) (ls : Array Slot), decode code pc = .ok (.ireturn, 1) → W p l e room_1 s m #[Value.ref b] below meth c H [] 600000 7302250 Qf (F0 m pc ls [.int 1])) :
    W p l e room_1 s m #[Value.ref b] below meth c s.heap [] 0 0 Qf (entryFrame m ([Value.ref b] : List Value).toArray 4) := by
  obtain ⟨D, dA, hKn⟩ := lw_kn hts
  obtain ⟨n, h', hrun, hc, hs⟩ := hPure s.heap.size L xs hL
  have hS := S_L_law (p, l, e, room_1, s, m, #[Value.ref b], below, meth, c, D, dA, s.heap.size) (fun _ _ => Qf) meth.name b n L xs ⟨hX, hbl⟩ (by
    intro pc lv d h y hm
    cases hm
    refine ⟨⟨Nat.le_refl _, Nat.le_refl _⟩, fun A H locs cells slots ls hI _ => ?_⟩
    refine va_forget (fun q hq => hI.2.1 q hq) ?_
    exact W.widen (k := 600000) (n := 7302250) (Nat.le_of_add_le_add_right hI.2.2.2.1) (Nat.le_of_add_le_add_right hI.2.2.2.2) (hend pc H ls d)) _ _ hrun
  have hl := lv_entry ([.ref b]) (n := 4) (Nat.le_of_ble_eq_true rfl)
  rw [lg_entry_eq]
  generalize (lg_sl ([.ref b]) ++ List.replicate (4 - (lg_sl ([.ref b])).length) Slot.unset).toArray = ls at hl ⊢
  refine hS.2 ⟨hx, hb, hown, hml, hr, rfl, by show 11 ≤ 12; decide, by show 238 ≤ 478; decide, fun w hw => hts w (List.mem_filter.mp hw).1, hKn, hlocks, Nat.le_refl _⟩ s.heap [] 0 0 ls ⟨⟨rfl, Nat.le_refl _, fun a e h => by cases h⟩, fun q hq => (by cases hq), fun _ _ => rfl, ?_, ?_⟩ hl
  · show 0 + h'.1 ≤ 600000 + s.heap.size
    omega
  · show 0 + h'.2.1 ≤ 7302250 + 0
    omega
