/-! ===== calls by the answer's kind; an array of arrays ===== -/
section PZ6
variable {X : pz_X} {Qx : Option Value → pz_H → State → Prop} {J : pz_J} {ρ : Type} {rv : ρ → Option Value} {pc : Nat} {lv : List (Nat × Value)} {st : List Value}
theorem pz_cvI {J' : pz_J} {y : MethodName} {r : Option Nat} {As : List Value} {f : pz_C Int32} {K : Int32 → pz_C ρ} {ci N idx np : Nat} {C : String} {T : u_T} {ty : Nat → FieldType} {st0 : List Value} (M : pz_Md X y J' pz_vI (va_rf r :: As) f) (ck : pz_CK ci C T N ty) (hC : y.cls = C) (mk : pz_MK y J' np) (ml : pz_ML J.2.1 idx y) (mi : Cond.instanceMethod y ∈ pz_ws) (msel : Cond.selects y.cls y y ∈ pz_ws)
    (hn : As.length = np) (hst0 : st0 = As.reverse ++ va_rf r :: st) (hst : (st.map fun v => v.category).sum ≤ 8) (hfr : J'.2.2.2.2.2.1 + 1 ≤ J.2.2.2.2.2.1) (hlo : 8 + (J'.2.2.1 + 11) + J'.2.2.2.2.2.2 ≤ J.2.2.2.2.2.2) (d : decode J.1 pc = .ok (.invokevirtual idx, 3))
    (kk : ∀ z, pz_Sm X Qx J rv (pc + 3) lv (.int z :: st) (K z)) : pz_Sm X Qx J rv pc lv st0 (pz_cV ci r f K) := pz_callV M ck hC mk ml mi msel hn hst0 hst hfr hlo d kk
theorem pz_cvL {J' : pz_J} {y : MethodName} {r : Option Nat} {As : List Value} {f : pz_C Int64} {K : Int64 → pz_C ρ} {ci N idx np : Nat} {C : String} {T : u_T} {ty : Nat → FieldType} {st0 : List Value} (M : pz_Md X y J' pz_vL (va_rf r :: As) f) (ck : pz_CK ci C T N ty) (hC : y.cls = C) (mk : pz_MK y J' np) (ml : pz_ML J.2.1 idx y) (mi : Cond.instanceMethod y ∈ pz_ws) (msel : Cond.selects y.cls y y ∈ pz_ws)
    (hn : As.length = np) (hst0 : st0 = As.reverse ++ va_rf r :: st) (hst : (st.map fun v => v.category).sum ≤ 8) (hfr : J'.2.2.2.2.2.1 + 1 ≤ J.2.2.2.2.2.1) (hlo : 8 + (J'.2.2.1 + 11) + J'.2.2.2.2.2.2 ≤ J.2.2.2.2.2.2) (d : decode J.1 pc = .ok (.invokevirtual idx, 3))
    (kk : ∀ z, pz_Sm X Qx J rv (pc + 3) lv (.long z :: st) (K z)) : pz_Sm X Qx J rv pc lv st0 (pz_cV ci r f K) := pz_callV M ck hC mk ml mi msel hn hst0 hst hfr hlo d kk
theorem pz_cvR {J' : pz_J} {y : MethodName} {r : Option Nat} {As : List Value} {f : pz_C (Option Nat)} {K : Option Nat → pz_C ρ} {ci N idx np : Nat} {C : String} {T : u_T} {ty : Nat → FieldType} {st0 : List Value} (M : pz_Md X y J' pz_vR (va_rf r :: As) f) (ck : pz_CK ci C T N ty) (hC : y.cls = C) (mk : pz_MK y J' np) (ml : pz_ML J.2.1 idx y) (mi : Cond.instanceMethod y ∈ pz_ws) (msel : Cond.selects y.cls y y ∈ pz_ws)
    (hn : As.length = np) (hst0 : st0 = As.reverse ++ va_rf r :: st) (hst : (st.map fun v => v.category).sum ≤ 8) (hfr : J'.2.2.2.2.2.1 + 1 ≤ J.2.2.2.2.2.1) (hlo : 8 + (J'.2.2.1 + 11) + J'.2.2.2.2.2.2 ≤ J.2.2.2.2.2.2) (d : decode J.1 pc = .ok (.invokevirtual idx, 3))
    (kk : ∀ z, pz_Sm X Qx J rv (pc + 3) lv (va_rf z :: st) (K z)) : pz_Sm X Qx J rv pc lv st0 (pz_cV ci r f K) := pz_callV M ck hC mk ml mi msel hn hst0 hst hfr hlo d kk
theorem pz_cvU {J' : pz_J} {y : MethodName} {r : Option Nat} {As : List Value} {f : pz_C Unit} {K : Unit → pz_C ρ} {ci N idx np : Nat} {C : String} {T : u_T} {ty : Nat → FieldType} {st0 : List Value} (M : pz_Md X y J' pz_vU (va_rf r :: As) f) (ck : pz_CK ci C T N ty) (hC : y.cls = C) (mk : pz_MK y J' np) (ml : pz_ML J.2.1 idx y) (mi : Cond.instanceMethod y ∈ pz_ws) (msel : Cond.selects y.cls y y ∈ pz_ws)
    (hn : As.length = np) (hst0 : st0 = As.reverse ++ va_rf r :: st) (hst : (st.map fun v => v.category).sum ≤ 8) (hfr : J'.2.2.2.2.2.1 + 1 ≤ J.2.2.2.2.2.1) (hlo : 8 + (J'.2.2.1 + 11) + J'.2.2.2.2.2.2 ≤ J.2.2.2.2.2.2) (d : decode J.1 pc = .ok (.invokevirtual idx, 3))
    (kk : ∀ z, pz_Sm X Qx J rv (pc + 3) lv st (K z)) : pz_Sm X Qx J rv pc lv st0 (pz_cV ci r f K) := pz_callV M ck hC mk ml mi msel hn hst0 hst hfr hlo d kk
theorem pz_csI {J' : pz_J} {y : MethodName} {As : List Value} {f : pz_C Int32} {K : Int32 → pz_C ρ} {idx np : Nat} {st0 : List Value} (M : pz_Md X y J' pz_vI As f) (mk : pz_MK y J' np) (ml : pz_ML J.2.1 idx y) (mi : Cond.static y ∈ pz_ws)
    (hn : As.length = np) (hst0 : st0 = As.reverse ++ st) (hst : (st.map fun v => v.category).sum ≤ 8) (hfr : J'.2.2.2.2.2.1 + 1 ≤ J.2.2.2.2.2.1) (hlo : 8 + (J'.2.2.1 + 11) + J'.2.2.2.2.2.2 ≤ J.2.2.2.2.2.2) (d : decode J.1 pc = .ok (.invokestatic idx, 3))
    (kk : ∀ z, pz_Sm X Qx J rv (pc + 3) lv (.int z :: st) (K z)) : pz_Sm X Qx J rv pc lv st0 (pz_cB f K) := pz_callS M mk ml mi hn hst0 hst hfr hlo d kk
theorem pz_csL {J' : pz_J} {y : MethodName} {As : List Value} {f : pz_C Int64} {K : Int64 → pz_C ρ} {idx np : Nat} {st0 : List Value} (M : pz_Md X y J' pz_vL As f) (mk : pz_MK y J' np) (ml : pz_ML J.2.1 idx y) (mi : Cond.static y ∈ pz_ws)
    (hn : As.length = np) (hst0 : st0 = As.reverse ++ st) (hst : (st.map fun v => v.category).sum ≤ 8) (hfr : J'.2.2.2.2.2.1 + 1 ≤ J.2.2.2.2.2.1) (hlo : 8 + (J'.2.2.1 + 11) + J'.2.2.2.2.2.2 ≤ J.2.2.2.2.2.2) (d : decode J.1 pc = .ok (.invokestatic idx, 3))
    (kk : ∀ z, pz_Sm X Qx J rv (pc + 3) lv (.long z :: st) (K z)) : pz_Sm X Qx J rv pc lv st0 (pz_cB f K) := pz_callS M mk ml mi hn hst0 hst hfr hlo d kk
theorem pz_csU {J' : pz_J} {y : MethodName} {As : List Value} {f : pz_C Unit} {K : Unit → pz_C ρ} {idx np : Nat} {st0 : List Value} (M : pz_Md X y J' pz_vU As f) (mk : pz_MK y J' np) (ml : pz_ML J.2.1 idx y) (mi : Cond.static y ∈ pz_ws)
    (hn : As.length = np) (hst0 : st0 = As.reverse ++ st) (hst : (st.map fun v => v.category).sum ≤ 8) (hfr : J'.2.2.2.2.2.1 + 1 ≤ J.2.2.2.2.2.1) (hlo : 8 + (J'.2.2.1 + 11) + J'.2.2.2.2.2.2 ≤ J.2.2.2.2.2.2) (d : decode J.1 pc = .ok (.invokestatic idx, 3))
    (kk : ∀ z, pz_Sm X Qx J rv (pc + 3) lv st (K z)) : pz_Sm X Qx J rv pc lv st0 (pz_cB f K) := pz_callS M mk ml mi hn hst0 hst hfr hlo d kk
theorem pz_ci (x : Int32) : (Value.int x).category = 1 := rfl
theorem pz_cl (x : Int64) : (Value.long x).category = 2 := rfl
theorem pz_mmin {x y : Int32} {idx : Nat} {m : pz_C ρ} (hl : Cond.methodLink J.2.1 idx Lib.Math.min.name ∈ pz_ws) (hs : Cond.static Lib.Math.min.name ∈ pz_ws) (hi : Cond.initialized "java/lang/Math" ∈ pz_ws) (hc : Cond.code Lib.Math.min.name Lib.Math.min.code 2 (some .int) ∈ pz_ws) (hst : (st.map fun v => v.category).sum ≤ 8) (hf : 1 ≤ J.2.2.2.2.2.1) (hlo : 21 ≤ J.2.2.2.2.2.2) (d : decode J.1 pc = .ok (.invokestatic idx, 3))
    (k : pz_Sm X Qx J rv (pc + 3) lv (.int (if y < x then y else x) :: st) m) : pz_Sm X Qx J rv pc lv (.int y :: .int x :: st) m := by
  intro h z hm
  obtain ⟨g1, g2⟩ := k h z hm
  refine ⟨g1, fun A H locs cells slots ls hI hl' => ?_⟩
  have hts := A.2.2.2.2.2.2.2.2.1
  have h6 := A.2.2.2.2.2.2.1
  have h7 := A.2.2.2.2.2.2.2.1
  have i4 := hI.2.2.2.1
  have i5 := hI.2.2.2.2
  have n1 := g1.1
  have n2 := g1.2
  exact va_mmin A.1 A.2.1 (A.2.2.2.1.trans hl'.1.symm) A.2.2.1 (hts _ hl) (hts _ hs) (hts _ hi) (hts _ hc) (by omega) (by omega) (by omega) (by omega) d (g2 A H locs cells slots ls hI hl')
theorem pz_mminL {x y : Int64} {idx : Nat} {m : pz_C ρ} (hl : Cond.methodLink J.2.1 idx Lib.MathLoose.min_long.x ∈ pz_ws) (hs : Cond.static Lib.MathLoose.min_long.x ∈ pz_ws) (hi : Cond.initialized "java/lang/Math" ∈ pz_ws) (hc : Cond.code Lib.MathLoose.min_long.x Lib.MathLoose.min_long.code 4 (some .long) ∈ pz_ws) (hst : (st.map fun v => v.category).sum ≤ 8) (hf : 1 ≤ J.2.2.2.2.2.1) (hlo : 23 ≤ J.2.2.2.2.2.2) (d : decode J.1 pc = .ok (.invokestatic idx, 3))
    (k : pz_Sm X Qx J rv (pc + 3) lv (.long (if y < x then y else x) :: st) m) : pz_Sm X Qx J rv pc lv (.long y :: .long x :: st) m := by
  intro h z hm
  obtain ⟨g1, g2⟩ := k h z hm
  refine ⟨g1, fun A H locs cells slots ls hI hl' => ?_⟩
  have hts := A.2.2.2.2.2.2.2.2.1
  have h6 := A.2.2.2.2.2.2.1
  have h7 := A.2.2.2.2.2.2.2.1
  have i4 := hI.2.2.2.1
  have i5 := hI.2.2.2.2
  have n1 := g1.1
  have n2 := g1.2
  exact va_mmin_long A.1 A.2.1 (A.2.2.2.1.trans hl'.1.symm) A.2.2.1 (hts _ hl) (hts _ hs) (hts _ hi) (hts _ hc) (by omega) (by omega) (by omega) (by omega) d (g2 A H locs cells slots ls hI hl')
theorem pz_mmaxL {x y : Int64} {idx : Nat} {m : pz_C ρ} (hl : Cond.methodLink J.2.1 idx Lib.MathLoose.max_long.x ∈ pz_ws) (hs : Cond.static Lib.MathLoose.max_long.x ∈ pz_ws) (hi : Cond.initialized "java/lang/Math" ∈ pz_ws) (hc : Cond.code Lib.MathLoose.max_long.x Lib.MathLoose.max_long.code 4 (some .long) ∈ pz_ws) (hst : (st.map fun v => v.category).sum ≤ 8) (hf : 1 ≤ J.2.2.2.2.2.1) (hlo : 23 ≤ J.2.2.2.2.2.2) (d : decode J.1 pc = .ok (.invokestatic idx, 3))
    (k : pz_Sm X Qx J rv (pc + 3) lv (.long (if y < x then x else y) :: st) m) : pz_Sm X Qx J rv pc lv (.long y :: .long x :: st) m := by
  intro h z hm
  obtain ⟨g1, g2⟩ := k h z hm
  refine ⟨g1, fun A H locs cells slots ls hI hl' => ?_⟩
  have hts := A.2.2.2.2.2.2.2.2.1
  have h6 := A.2.2.2.2.2.2.1
  have h7 := A.2.2.2.2.2.2.2.1
  have i4 := hI.2.2.2.1
  have i5 := hI.2.2.2.2
  have n1 := g1.1
  have n2 := g1.2
  exact va_mmax_long A.1 A.2.1 (A.2.2.2.1.trans hl'.1.symm) A.2.2.1 (hts _ hl) (hts _ hs) (hts _ hi) (hts _ hc) (by omega) (by omega) (by omega) (by omega) d (g2 A H locs cells slots ls hI hl')
/-- new T[n][k]: the outer array, then its rows, one behind the other -/
def pz_mkG (h : pz_H) (t t' N M : Nat) : pz_H := (h.1 + 1 + N, h.2.1 + (N + N * M), fun a => if a = h.1 then some (.inl (t, N, .inr (.inr (.inr (.inr (fun i => if i < N then some (h.1 + 1 + i) else none)))))) else if h.1 < a ∧ a ≤ h.1 + N then some (.inl (t', M, .inl (fun _ => 0))) else h.2.2 a)
def pz_newG (t t' : Nat) (n k : Int32) (K : Option Nat → pz_C ρ) : pz_C ρ := fun h => if n < 0 ∨ k < 0 ∨ 67108864 < n.toNatClampNeg ∨ 67108864 < k.toNatClampNeg then none else K (some h.1) (pz_mkG h t t' n.toNatClampNeg k.toNatClampNeg)
end PZ6
