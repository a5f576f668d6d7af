/-! ===== THE PURE MACHINE: cells, heaps, computations in tail form; what a method does is a function of its arguments and the heap ===== -/
abbrev pz_E : Type := (Nat × vp_A) ⊕ (Nat × List Value)
/-- how many cells (the next address), how many slots, what lies where -/
abbrev pz_H : Type := Nat × Nat × (Nat → Option pz_E)
abbrev pz_C (ρ : Type) : Type := pz_H → Option (ρ × pz_H)
def pz_gB {α ρ : Type} (g : pz_H → Option α) (K : α → pz_C ρ) : pz_C ρ := fun h => match g h with
  | some x => K x h
  | none => none
def pz_uB {ρ : Type} (u : pz_H → Option pz_H) (K : pz_C ρ) : pz_C ρ := fun h => match u h with
  | some h' => K h'
  | none => none
def pz_cB {α ρ : Type} (m : pz_C α) (K : α → pz_C ρ) : pz_C ρ := fun h => match m h with
  | some x => K x.1 x.2
  | none => none
def pz_let {α ρ : Type} (e : α) (K : α → pz_C ρ) : pz_C ρ := K e
def pz_ret {ρ : Type} (r : ρ) : pz_C ρ := fun h => some (r, h)
def pz_if {ρ : Type} (c : Prop) [Decidable c] (a b : pz_C ρ) : pz_C ρ := fun h => if c then a h else b h
def pz_loop {σ ρ : Type} (body : (σ → pz_C ρ) → σ → pz_C ρ) : Nat → σ → pz_C ρ
  | 0 => fun _ _ => none
  | n + 1 => body (pz_loop body n)
/-- an object's fields -/
def pz_ob (ci : Nat) (r : Option Nat) (h : pz_H) : Option (List Value) := match r with
  | none => none
  | some a => match h.2.2 a with
    | some (.inr o) => if o.1 = ci then some o.2 else none
    | _ => none
def pz_asI (v : Option Value) : Option Int32 := match v with
  | some (.int x) => some x
  | _ => none
def pz_asL (v : Option Value) : Option Int64 := match v with
  | some (.long x) => some x
  | _ => none
def pz_asR (v : Option Value) : Option (Option Nat) := match v with
  | some (.ref a) => some (some a)
  | some .null => some none
  | _ => none
def pz_fd (ci k : Nat) (r : Option Nat) (h : pz_H) : Option Value := match pz_ob ci r h with
  | some fs => fs[k]?
  | none => none
def pz_rI (ci k : Nat) (r : Option Nat) (h : pz_H) : Option Int32 := pz_asI (pz_fd ci k r h)
def pz_rL (ci k : Nat) (r : Option Nat) (h : pz_H) : Option Int64 := pz_asL (pz_fd ci k r h)
def pz_rR (ci k : Nat) (r : Option Nat) (h : pz_H) : Option (Option Nat) := pz_asR (pz_fd ci k r h)
def pz_set (h : pz_H) (a : Nat) (e : pz_E) : pz_H := (h.1, h.2.1, va_up h.2.2 a (some e))
def pz_wF (ci k : Nat) (r : Option Nat) (v : Value) (h : pz_H) : Option pz_H := match r with
  | none => none
  | some a => match pz_ob ci (some a) h with
    | some fs => if k < fs.length then some (pz_set h a (.inr (ci, fs.set k v))) else none
    | none => none
/-- an array's cell -/
def pz_ar (t : Nat) (r : Option Nat) (h : pz_H) : Option vp_A := match r with
  | none => none
  | some a => match h.2.2 a with
    | some (.inl o) => if o.1 = t then some o.2 else none
    | _ => none
def pz_len (t : Nat) (r : Option Nat) (h : pz_H) : Option Int32 := match pz_ar t r h with
  | some x => some (Int32.ofNat x.1)
  | none => none
def pz_aI (t : Nat) (r : Option Nat) (i : Int32) (h : pz_H) : Option Int32 := match pz_ar t r h with
  | some (n, .inl f) => if i < 0 ∨ n ≤ i.toNatClampNeg then none else some (f i.toNatClampNeg)
  | _ => none
def pz_aL (t : Nat) (r : Option Nat) (i : Int32) (h : pz_H) : Option Int64 := match pz_ar t r h with
  | some (n, .inr (.inl f)) => if i < 0 ∨ n ≤ i.toNatClampNeg then none else some (f i.toNatClampNeg)
  | _ => none
def pz_aR (t : Nat) (r : Option Nat) (i : Int32) (h : pz_H) : Option (Option Nat) := match pz_ar t r h with
  | some (n, .inr (.inr (.inr (.inr f)))) => if i < 0 ∨ n ≤ i.toNatClampNeg then none else some (f i.toNatClampNeg)
  | _ => none
def pz_uA (r : Option Nat) (t : Nat) (x : vp_A) (h : pz_H) : Option pz_H := match r with
  | none => none
  | some a => some (pz_set h a (.inl (t, x)))
def pz_sI (t : Nat) (r : Option Nat) (i x : Int32) (h : pz_H) : Option pz_H := match pz_ar t r h with
  | some (n, .inl f) => if i < 0 ∨ n ≤ i.toNatClampNeg then none else pz_uA r t (n, .inl (upd f i.toNatClampNeg x)) h
  | _ => none
def pz_sZ (t : Nat) (r : Option Nat) (i x : Int32) (h : pz_H) : Option pz_H := match pz_ar t r h with
  | some (n, .inl f) => if i < 0 ∨ n ≤ i.toNatClampNeg then none else pz_uA r t (n, .inl (upd f i.toNatClampNeg (vp_nar .boolean x))) h
  | _ => none
def pz_sL (t : Nat) (r : Option Nat) (i : Int32) (x : Int64) (h : pz_H) : Option pz_H := match pz_ar t r h with
  | some (n, .inr (.inl f)) => if i < 0 ∨ n ≤ i.toNatClampNeg then none else pz_uA r t (n, .inr (.inl (vp_updL f i.toNatClampNeg x))) h
  | _ => none
/-- a reference to an object of class ci, into an array -/
def pz_sR (t ci : Nat) (r : Option Nat) (i : Int32) (v : Option Nat) (h : pz_H) : Option pz_H := match pz_ob ci v h with
  | none => none
  | some _ => match pz_ar t r h with
    | some (n, .inr (.inr (.inr (.inr f)))) => if i < 0 ∨ n ≤ i.toNatClampNeg then none else pz_uA r t (n, .inr (.inr (.inr (.inr (va_up f i.toNatClampNeg v))))) h
    | _ => none
/-- making -/
def pz_mk (h : pz_H) (n : Nat) (e : pz_E) : pz_H := (h.1 + 1, h.2.1 + n, va_up h.2.2 h.1 (some e))
def pz_new {ρ : Type} (ci N : Nat) (fs : List Value) (K : Option Nat → pz_C ρ) : pz_C ρ := fun h => K (some h.1) (pz_mk h N (.inr (ci, fs)))
def pz_newI {ρ : Type} (t : Nat) (n : Int32) (K : Option Nat → pz_C ρ) : pz_C ρ := fun h => if n < 0 ∨ 67108864 < n.toNatClampNeg then none else K (some h.1) (pz_mk h n.toNatClampNeg (.inl (t, n.toNatClampNeg, .inl (fun _ => 0))))
def pz_newL {ρ : Type} (t : Nat) (n : Int32) (K : Option Nat → pz_C ρ) : pz_C ρ := fun h => if n < 0 ∨ 67108864 < n.toNatClampNeg then none else K (some h.1) (pz_mk h n.toNatClampNeg (.inl (t, n.toNatClampNeg, .inr (.inl (fun _ => 0)))))
def pz_newR {ρ : Type} (t : Nat) (n : Int32) (K : Option Nat → pz_C ρ) : pz_C ρ := fun h => if n < 0 ∨ 67108864 < n.toNatClampNeg then none else K (some h.1) (pz_mk h n.toNatClampNeg (.inl (t, n.toNatClampNeg, .inr (.inr (.inr (.inr (fun _ => none)))))))
/-- a call on a receiver of class ci -/
def pz_cV {α ρ : Type} (ci : Nat) (r : Option Nat) (m : pz_C α) (K : α → pz_C ρ) : pz_C ρ := pz_gB (pz_ob ci r) (fun _ => pz_cB m K)
def pz_dvI (x y : Int32) : pz_H → Option Int32 := fun _ => if y = 0 then none else some (x / y)
def pz_rmI (x y : Int32) : pz_H → Option Int32 := fun _ => if y = 0 then none else some (x - x / y * y)
def pz_dvL (x y : Int64) : pz_H → Option Int64 := fun _ => if y = 0 then none else some (x / y)
def pz_rmL (x y : Int64) : pz_H → Option Int64 := fun _ => if y = 0 then none else some (x - x / y * y)
/-- a boolean is 0 or 1 -/
def pz_zz {ρ : Type} (x : Int32) (K : pz_C ρ) : pz_C ρ := fun h => if x = 0 ∨ x = 1 then K h else none
/-! ===== the Java machine stands at such a heap ===== -/
def pz_toE (dA : Nat → ClassId) (e : pz_E) : va_E := match e with
  | .inl o => .inl (dA o.1, o.2)
  | .inr o => .inr o
/-- the words that stay, and the nest's own -/
def pz_ws : List Cond := lw_tbl.filter goodWord
def pz_isN : Cond → Bool
  | .fieldLinkNest .. => true
  | .methodLinkNest .. => true
  | _ => false
def pz_nw : List Cond := lw_tbl.filter pz_isN
def pz_tys (dA : Nat → ClassId) : List (ClassId × FieldType) := pz_ty.zipIdx.map (fun q => (dA q.2, q.1))
/-- p l e R s m args below meth c, the classes' numbers, the array classes' numbers, the first address -/
abbrev pz_X : Type := Program × Launch × Env × Room × State × MethodId × Array Value × List Frame × Method × Code × va_G × (Nat → ClassId) × Nat
/-- bytes, class, locals, answer's type, name, frames, locals' room -/
abbrev pz_J : Type := ByteArray × String × Nat × Option FieldType × String × Nat × Nat
abbrev pz_xR (X : pz_X) : Room := X.2.2.2.1
abbrev pz_xs (X : pz_X) : State := X.2.2.2.2.1
abbrev pz_xm (X : pz_X) : MethodId := X.2.2.2.2.2.1
abbrev pz_xa (X : pz_X) : Array Value := X.2.2.2.2.2.2.1
abbrev pz_xb (X : pz_X) : List Frame := X.2.2.2.2.2.2.2.1
abbrev pz_xt (X : pz_X) : Method := X.2.2.2.2.2.2.2.2.1
abbrev pz_xc (X : pz_X) : Code := X.2.2.2.2.2.2.2.2.2.1
abbrev pz_xD (X : pz_X) : va_G := X.2.2.2.2.2.2.2.2.2.2.1
abbrev pz_xA (X : pz_X) : Nat → ClassId := X.2.2.2.2.2.2.2.2.2.2.2.1
abbrev pz_xB (X : pz_X) : Nat := X.2.2.2.2.2.2.2.2.2.2.2.2
abbrev pz_W (X : pz_X) (H : Heap) (locs : List Loc) (cells slots : Nat) (Q : State → Prop) (g : JFrame) : Prop :=
  W X.1 X.2.1 X.2.2.1 (pz_xR X) (pz_xs X) (pz_xm X) (pz_xa X) (pz_xb X) (pz_xt X) (pz_xc X) H locs cells slots Q g
def pz_Rep (D : va_G) (dA : Nat → ClassId) (base : Nat) (h : pz_H) (H : Heap) : Prop := h.1 = H.size ∧ base ≤ H.size ∧ ∀ (a : Nat) (e : pz_E), h.2.2 a = some e → base ≤ a ∧ va_at D vwCl (a, pz_toE dA e) H
/-- the arrays of arrays of ints: their components are the arrays of ints -/
def pz_grid (dA : Nat → ClassId) (U : State) : Prop := ∃ kA : Class, U.vm.classes[dA 6]? = some kA ∧ kA.kind = .array (dA 0) (.array .int)
/-- what the tables say, and keep saying -/
def pz_Kn (D : va_G) (dA : Nat → ClassId) (U : State) : Prop := va_K D vwCl (pz_tys dA) U ∧ (∀ w ∈ pz_nw, va_Nw w U) ∧ (∀ C ∈ pz_ao, va_AO C U) ∧ pz_grid dA U
def pz_At (X : pz_X) (J : pz_J) : Prop :=
  X.1.tables.exec = Jvm.exec ∧ (pz_xc X).code = J.1 ∧ (pz_xs X).vm.findClass J.2.1 = some (pz_xm X).cls ∧ (pz_xc X).maxLocals = J.2.2.1 ∧ (pz_xt X).sig.returnType = J.2.2.2.1 ∧ (pz_xt X).name = J.2.2.2.2.1 ∧
  J.2.2.2.2.2.1 ≤ (pz_xR X).frames ∧ J.2.2.2.2.2.2 ≤ (pz_xR X).locals ∧ (∀ w ∈ pz_ws, w.before (pz_xa X) (pz_xs X) = true) ∧ pz_Kn (pz_xD X) (pz_xA X) (pz_xs X) ∧ (pz_xt X).locks = false ∧ pz_xB X ≤ (pz_xs X).heap.size
def pz_In (X : pz_X) (h : pz_H) (H : Heap) (locs : List Loc) (cells slots : Nat) (h' : pz_H) : Prop :=
  pz_Rep (pz_xD X) (pz_xA X) (pz_xB X) h H ∧ (∀ q ∈ locs, pz_xB X ≤ q.base) ∧ (∀ q : Nat, q < pz_xB X → H[q]? = (pz_xs X).heap[q]?) ∧ cells + h'.1 ≤ (pz_xR X).cells + h.1 ∧ slots + h'.2.1 ≤ (pz_xR X).slots + h.2.1
/-- from this place the bytes do what the function says -/
def pz_Sm (X : pz_X) (Qx : Option Value → pz_H → State → Prop) (J : pz_J) {ρ : Type} (rv : ρ → Option Value) (pc : Nat) (lv : List (Nat × Value)) (st : List Value) (m : pz_C ρ) : Prop :=
  ∀ (h : pz_H) (x : ρ × pz_H), m h = some x → (h.1 ≤ x.2.1 ∧ h.2.1 ≤ x.2.2.1) ∧
    (pz_At X J → ∀ (H : Heap) (locs : List Loc) (cells slots : Nat) (ls : Array Slot), pz_In X h H locs cells slots x.2 → lv_has ls J.2.2.1 lv → pz_W X H locs cells slots (Qx (rv x.1) x.2) (F0 (pz_xm X) pc ls st))
section PZ1
variable {X : pz_X} {Qx : Option Value → pz_H → State → Prop} {J : pz_J} {ρ : Type} {rv : ρ → Option Value} {pc : Nat} {lv : List (Nat × Value)} {st : List Value} {m m1 m2 : pz_C ρ}
theorem pz_go {pc' : Nat} {lv' : List (Nat × Value)} {st' : List Value}
    (hW : pz_At X J → ∀ (H : Heap) (locs : List Loc) (cells slots : Nat) (Q : State → Prop) (ls : Array Slot), lv_has ls J.2.2.1 lv → (∀ ls' : Array Slot, lv_has ls' J.2.2.1 lv' → pz_W X H locs cells slots Q (F0 (pz_xm X) pc' ls' st')) → pz_W X H locs cells slots Q (F0 (pz_xm X) pc ls st))
    (k : pz_Sm X Qx J rv pc' lv' st' m) : pz_Sm X Qx J rv pc lv st m := by
  intro h x hm
  obtain ⟨h1, h2⟩ := k h x hm
  exact ⟨h1, fun A H locs cells slots ls hI hl => hW A H locs cells slots _ ls hl (fun ls' hl' => h2 A H locs cells slots ls' hI hl')⟩
/-- fewer locals -/
theorem pz_sub {lv' : List (Nat × Value)} (ks : List Nat) (hl : lv_pick lv ks = lv') (k : pz_Sm X Qx J rv pc lv' st m) : pz_Sm X Qx J rv pc lv st m :=
  pz_go (fun _ _ _ _ _ _ ls h kk => kk ls (lv_sub h ks hl)) k
theorem pz_iconst {n : Int} (v : Int32) (d : decode J.1 pc = .ok (.iconst n, 1)) (hv : Int32.ofInt n = v) (k : pz_Sm X Qx J rv (pc + 1) lv (.int v :: st) m) : pz_Sm X Qx J rv pc lv st m :=
  pz_go (fun A _ _ _ _ _ ls hl kk => lv_iconst A.1 A.2.1 d hv (kk ls hl)) k
theorem pz_bipush {n : Int} (v : Int32) (d : decode J.1 pc = .ok (.bipush n, 2)) (hv : (Int8.ofInt n).toInt32 = v) (k : pz_Sm X Qx J rv (pc + 2) lv (.int v :: st) m) : pz_Sm X Qx J rv pc lv st m :=
  pz_go (fun A _ _ _ _ _ ls hl kk => lv_bipush A.1 A.2.1 d hv (kk ls hl)) k
theorem pz_sipush {n : Int} (v : Int32) (d : decode J.1 pc = .ok (.sipush n, 3)) (hv : (Int16.ofInt n).toInt32 = v) (k : pz_Sm X Qx J rv (pc + 3) lv (.int v :: st) m) : pz_Sm X Qx J rv pc lv st m :=
  pz_go (fun A _ _ _ _ _ ls hl kk => lv_sipush A.1 A.2.1 d hv (kk ls hl)) k
theorem pz_lconst {n : Fin 2} (v : Int64) (d : decode J.1 pc = .ok (.lconst n, 1)) (hv : Int64.ofNat (n : Nat) = v) (k : pz_Sm X Qx J rv (pc + 1) lv (.long v :: st) m) : pz_Sm X Qx J rv pc lv st m :=
  pz_go (fun A _ _ _ _ _ ls hl kk => lv_lconst A.1 A.2.1 d hv (kk ls hl)) k
theorem pz_ldc {i : Nat} (v : Int32) (d : decode J.1 pc = .ok (.ldc i, 2)) (hw : Cond.constant J.2.1 i v ∈ pz_ws) (k : pz_Sm X Qx J rv (pc + 2) lv (.int v :: st) m) : pz_Sm X Qx J rv pc lv st m :=
  pz_go (fun A _ _ _ _ _ ls hl kk => lv_ldc A.1 A.2.1 A.2.2.1 (A.2.2.2.2.2.2.2.2.1 _ hw) d (kk ls hl)) k
theorem pz_ldcw {i : Nat} (v : Int32) (d : decode J.1 pc = .ok (.ldc_w i, 3)) (hw : Cond.constant J.2.1 i v ∈ pz_ws) (k : pz_Sm X Qx J rv (pc + 3) lv (.int v :: st) m) : pz_Sm X Qx J rv pc lv st m :=
  pz_go (fun A _ _ _ _ _ ls hl kk => lv_ldcw A.1 A.2.1 A.2.2.1 (A.2.2.2.2.2.2.2.2.1 _ hw) d (kk ls hl)) k
theorem pz_ldc2 {i : Nat} (v : Int64) (d : decode J.1 pc = .ok (.ldc2_w i, 3)) (hw : Cond.constantLong J.2.1 i v ∈ pz_ws) (k : pz_Sm X Qx J rv (pc + 3) lv (.long v :: st) m) : pz_Sm X Qx J rv pc lv st m :=
  pz_go (fun A _ _ _ _ _ ls hl kk => lv_ldc2 A.1 A.2.1 A.2.2.1 (A.2.2.2.2.2.2.2.2.1 _ hw) d (kk ls hl)) k
theorem pz_null (d : decode J.1 pc = .ok (.aconst_null, 1)) (k : pz_Sm X Qx J rv (pc + 1) lv (va_rf none :: st) m) : pz_Sm X Qx J rv pc lv st m :=
  pz_go (fun A _ _ _ _ _ ls hl kk => lv_null A.1 A.2.1 d (kk ls hl)) k
theorem pz_iload_n {i : Fin 4} {x : Int32} (p : Nat) (d : decode J.1 pc = .ok (.iload_n i, 1)) (hp : lv[p]? = some ((i : Nat), .int x)) (k : pz_Sm X Qx J rv (pc + 1) lv (.int x :: st) m) : pz_Sm X Qx J rv pc lv st m :=
  pz_go (fun A _ _ _ _ _ ls hl kk => lv_iload_n A.1 A.2.1 d rfl (lv_at hl p hp) (kk ls hl)) k
theorem pz_iload {i : Nat} {x : Int32} (p : Nat) (d : decode J.1 pc = .ok (.iload i, 2)) (hp : lv[p]? = some (i, .int x)) (k : pz_Sm X Qx J rv (pc + 2) lv (.int x :: st) m) : pz_Sm X Qx J rv pc lv st m :=
  pz_go (fun A _ _ _ _ _ ls hl kk => lv_iload A.1 A.2.1 d (lv_at hl p hp) (kk ls hl)) k
theorem pz_lload_n {i : Fin 4} {x : Int64} (p : Nat) (d : decode J.1 pc = .ok (.lload_n i, 1)) (hp : lv[p]? = some ((i : Nat), .long x)) (k : pz_Sm X Qx J rv (pc + 1) lv (.long x :: st) m) : pz_Sm X Qx J rv pc lv st m :=
  pz_go (fun A _ _ _ _ _ ls hl kk => lv_lload_n A.1 A.2.1 d rfl (lv_at hl p hp) (kk ls hl)) k
theorem pz_lload {i : Nat} {x : Int64} (p : Nat) (d : decode J.1 pc = .ok (.lload i, 2)) (hp : lv[p]? = some (i, .long x)) (k : pz_Sm X Qx J rv (pc + 2) lv (.long x :: st) m) : pz_Sm X Qx J rv pc lv st m :=
  pz_go (fun A _ _ _ _ _ ls hl kk => lv_lload A.1 A.2.1 d (lv_at hl p hp) (kk ls hl)) k
theorem pz_aload_n {i : Fin 4} {r : Option Nat} (p : Nat) (d : decode J.1 pc = .ok (.aload_n i, 1)) (hp : lv[p]? = some ((i : Nat), va_rf r)) (k : pz_Sm X Qx J rv (pc + 1) lv (va_rf r :: st) m) : pz_Sm X Qx J rv pc lv st m :=
  pz_go (fun A _ _ _ _ _ ls hl kk => by
    have h := lv_at hl p hp
    have kk := kk ls hl
    cases r with
    | none => exact lv_aload_nN A.1 A.2.1 d rfl h kk
    | some a => exact lv_aload_n A.1 A.2.1 d rfl h kk) k
theorem pz_aload {i : Nat} {r : Option Nat} (p : Nat) (d : decode J.1 pc = .ok (.aload i, 2)) (hp : lv[p]? = some (i, va_rf r)) (k : pz_Sm X Qx J rv (pc + 2) lv (va_rf r :: st) m) : pz_Sm X Qx J rv pc lv st m :=
  pz_go (fun A _ _ _ _ _ ls hl kk => by
    have h := lv_at hl p hp
    have kk := kk ls hl
    cases r with
    | none => exact lv_aloadN A.1 A.2.1 d h kk
    | some a => exact lv_aload A.1 A.2.1 d h kk) k
theorem pz_istore_n {i : Fin 4} {x : Int32} (lv' : List (Nat × Value)) (d : decode J.1 pc = .ok (.istore_n i, 1)) (hn : (i : Nat) < J.2.2.1) (hl : ((i : Nat), Value.int x) :: lv.filter (fun q => !(q.1 == (i : Nat)) && !(q.1 + 1 == (i : Nat) && q.2.category == 2)) = lv') (k : pz_Sm X Qx J rv (pc + 1) lv' st m) : pz_Sm X Qx J rv pc lv (.int x :: st) m :=
  pz_go (fun A _ _ _ _ _ _ h kk => lv_istore_n A.1 A.2.1 d rfl h hn hl kk) k
theorem pz_istore {i : Nat} {x : Int32} (lv' : List (Nat × Value)) (d : decode J.1 pc = .ok (.istore i, 2)) (hn : i < J.2.2.1) (hl : (i, Value.int x) :: lv.filter (fun q => !(q.1 == i) && !(q.1 + 1 == i && q.2.category == 2)) = lv') (k : pz_Sm X Qx J rv (pc + 2) lv' st m) : pz_Sm X Qx J rv pc lv (.int x :: st) m :=
  pz_go (fun A _ _ _ _ _ _ h kk => lv_istore A.1 A.2.1 d h hn hl kk) k
theorem pz_lstore_n {i : Fin 4} {x : Int64} (lv' : List (Nat × Value)) (d : decode J.1 pc = .ok (.lstore_n i, 1)) (hn : (i : Nat) + 1 < J.2.2.1) (hl : ((i : Nat), Value.long x) :: lv.filter (fun q => !(q.1 == (i : Nat)) && (!(q.1 == (i : Nat) + 1) && !(q.1 + 1 == (i : Nat) && q.2.category == 2))) = lv') (k : pz_Sm X Qx J rv (pc + 1) lv' st m) : pz_Sm X Qx J rv pc lv (.long x :: st) m :=
  pz_go (fun A _ _ _ _ _ _ h kk => lv_lstore_n A.1 A.2.1 d rfl h hn hl kk) k
theorem pz_lstore {i : Nat} {x : Int64} (lv' : List (Nat × Value)) (d : decode J.1 pc = .ok (.lstore i, 2)) (hn : i + 1 < J.2.2.1) (hl : (i, Value.long x) :: lv.filter (fun q => !(q.1 == i) && (!(q.1 == i + 1) && !(q.1 + 1 == i && q.2.category == 2))) = lv') (k : pz_Sm X Qx J rv (pc + 2) lv' st m) : pz_Sm X Qx J rv pc lv (.long x :: st) m :=
  pz_go (fun A _ _ _ _ _ _ h kk => lv_lstore A.1 A.2.1 d h hn hl kk) k
theorem pz_rf1 (r : Option Nat) : (va_rf r).category = 1 := by cases r <;> rfl
theorem pz_astore_n {i : Fin 4} {r : Option Nat} (lv' : List (Nat × Value)) (d : decode J.1 pc = .ok (.astore_n i, 1)) (hn : (i : Nat) < J.2.2.1) (hl : ((i : Nat), va_rf r) :: lv.filter (fun q => !(q.1 == (i : Nat)) && !(q.1 + 1 == (i : Nat) && q.2.category == 2)) = lv') (k : pz_Sm X Qx J rv (pc + 1) lv' st m) : pz_Sm X Qx J rv pc lv (va_rf r :: st) m :=
  pz_go (fun A _ _ _ _ _ _ h kk => by
    cases r with
    | none => exact lv_astore_nN A.1 A.2.1 d rfl h hn hl kk
    | some a => exact lv_astore_n A.1 A.2.1 d rfl h hn hl kk) k
theorem pz_astore {i : Nat} {r : Option Nat} (lv' : List (Nat × Value)) (d : decode J.1 pc = .ok (.astore i, 2)) (hn : i < J.2.2.1) (hl : (i, va_rf r) :: lv.filter (fun q => !(q.1 == i) && !(q.1 + 1 == i && q.2.category == 2)) = lv') (k : pz_Sm X Qx J rv (pc + 2) lv' st m) : pz_Sm X Qx J rv pc lv (va_rf r :: st) m :=
  pz_go (fun A _ _ _ _ _ _ h kk => by
    cases r with
    | none => exact lv_astoreN A.1 A.2.1 d h hn hl kk
    | some a => exact lv_astore A.1 A.2.1 d h hn hl kk) k
/-- what is on top gets a name -/
theorem pz_nmI {e : Int32} {K : Int32 → pz_C ρ} (k : ∀ y : Int32, pz_Sm X Qx J rv pc lv (.int y :: st) (K y)) : pz_Sm X Qx J rv pc lv (.int e :: st) (pz_let e K) := k e
theorem pz_nmL {e : Int64} {K : Int64 → pz_C ρ} (k : ∀ y : Int64, pz_Sm X Qx J rv pc lv (.long y :: st) (K y)) : pz_Sm X Qx J rv pc lv (.long e :: st) (pz_let e K) := k e
theorem pz_iinc {i : Nat} {n : Int} {x : Int32} {K : Int32 → pz_C ρ} (p : Nat) (v : Int32) (lv' : Int32 → List (Nat × Value)) (d : decode J.1 pc = .ok (.iinc i n, 3)) (hp : lv[p]? = some (i, .int x)) (hv : Int32.ofInt n = v) (hn : i < J.2.2.1) (hl : ∀ y : Int32, (i, Value.int y) :: lv.filter (fun q => !(q.1 == i) && !(q.1 + 1 == i && q.2.category == 2)) = lv' y)
    (k : ∀ y : Int32, pz_Sm X Qx J rv (pc + 3) (lv' y) st (K y)) : pz_Sm X Qx J rv pc lv st (pz_let (x + v) K) :=
  pz_go (fun A _ _ _ _ _ _ h kk => lv_iinc A.1 A.2.1 d h hp (by rw [hv]) hn (hl _) kk) (k (x + v))
theorem pz_iadd {x y : Int32} (d : decode J.1 pc = .ok (.iadd, 1)) (k : pz_Sm X Qx J rv (pc + 1) lv (.int (x + y) :: st) m) : pz_Sm X Qx J rv pc lv (.int y :: .int x :: st) m := pz_go (fun A _ _ _ _ _ ls hl kk => lv_iadd A.1 A.2.1 d (kk ls hl)) k
theorem pz_isub {x y : Int32} (d : decode J.1 pc = .ok (.isub, 1)) (k : pz_Sm X Qx J rv (pc + 1) lv (.int (x - y) :: st) m) : pz_Sm X Qx J rv pc lv (.int y :: .int x :: st) m := pz_go (fun A _ _ _ _ _ ls hl kk => lv_isub A.1 A.2.1 d (kk ls hl)) k
theorem pz_imul {x y : Int32} (d : decode J.1 pc = .ok (.imul, 1)) (k : pz_Sm X Qx J rv (pc + 1) lv (.int (x * y) :: st) m) : pz_Sm X Qx J rv pc lv (.int y :: .int x :: st) m := pz_go (fun A _ _ _ _ _ ls hl kk => lv_imul A.1 A.2.1 d (kk ls hl)) k
theorem pz_iand {x y : Int32} (d : decode J.1 pc = .ok (.iand, 1)) (k : pz_Sm X Qx J rv (pc + 1) lv (.int (x &&& y) :: st) m) : pz_Sm X Qx J rv pc lv (.int y :: .int x :: st) m := pz_go (fun A _ _ _ _ _ ls hl kk => lv_iand A.1 A.2.1 d (kk ls hl)) k
theorem pz_ior {x y : Int32} (d : decode J.1 pc = .ok (.ior, 1)) (k : pz_Sm X Qx J rv (pc + 1) lv (.int (x ||| y) :: st) m) : pz_Sm X Qx J rv pc lv (.int y :: .int x :: st) m := pz_go (fun A _ _ _ _ _ ls hl kk => lv_ior A.1 A.2.1 d (kk ls hl)) k
theorem pz_ixor {x y : Int32} (d : decode J.1 pc = .ok (.ixor, 1)) (k : pz_Sm X Qx J rv (pc + 1) lv (.int (x ^^^ y) :: st) m) : pz_Sm X Qx J rv pc lv (.int y :: .int x :: st) m := pz_go (fun A _ _ _ _ _ ls hl kk => lv_ixor A.1 A.2.1 d (kk ls hl)) k
theorem pz_ineg {x : Int32} (d : decode J.1 pc = .ok (.ineg, 1)) (k : pz_Sm X Qx J rv (pc + 1) lv (.int (-x) :: st) m) : pz_Sm X Qx J rv pc lv (.int x :: st) m := pz_go (fun A _ _ _ _ _ ls hl kk => lv_ineg A.1 A.2.1 d (kk ls hl)) k
theorem pz_ladd {x y : Int64} (d : decode J.1 pc = .ok (.ladd, 1)) (k : pz_Sm X Qx J rv (pc + 1) lv (.long (x + y) :: st) m) : pz_Sm X Qx J rv pc lv (.long y :: .long x :: st) m := pz_go (fun A _ _ _ _ _ ls hl kk => lv_ladd A.1 A.2.1 d (kk ls hl)) k
theorem pz_lsub {x y : Int64} (d : decode J.1 pc = .ok (.lsub, 1)) (k : pz_Sm X Qx J rv (pc + 1) lv (.long (x - y) :: st) m) : pz_Sm X Qx J rv pc lv (.long y :: .long x :: st) m := pz_go (fun A _ _ _ _ _ ls hl kk => lv_lsub A.1 A.2.1 d (kk ls hl)) k
theorem pz_lmul {x y : Int64} (d : decode J.1 pc = .ok (.lmul, 1)) (k : pz_Sm X Qx J rv (pc + 1) lv (.long (x * y) :: st) m) : pz_Sm X Qx J rv pc lv (.long y :: .long x :: st) m := pz_go (fun A _ _ _ _ _ ls hl kk => lv_lmul A.1 A.2.1 d (kk ls hl)) k
theorem pz_lneg {x : Int64} (d : decode J.1 pc = .ok (.lneg, 1)) (k : pz_Sm X Qx J rv (pc + 1) lv (.long (-x) :: st) m) : pz_Sm X Qx J rv pc lv (.long x :: st) m := pz_go (fun A _ _ _ _ _ ls hl kk => lv_lneg A.1 A.2.1 d (kk ls hl)) k
theorem pz_i2l {x : Int32} (d : decode J.1 pc = .ok (.i2l, 1)) (k : pz_Sm X Qx J rv (pc + 1) lv (.long x.toInt64 :: st) m) : pz_Sm X Qx J rv pc lv (.int x :: st) m := pz_go (fun A _ _ _ _ _ ls hl kk => lv_i2l A.1 A.2.1 d rfl (kk ls hl)) k
theorem pz_l2i {x : Int64} (d : decode J.1 pc = .ok (.l2i, 1)) (k : pz_Sm X Qx J rv (pc + 1) lv (.int x.toInt32 :: st) m) : pz_Sm X Qx J rv pc lv (.long x :: st) m := pz_go (fun A _ _ _ _ _ ls hl kk => lv_l2i A.1 A.2.1 d rfl (kk ls hl)) k
theorem pz_lcmp {x y : Int64} (d : decode J.1 pc = .ok (.lcmp, 1)) (k : pz_Sm X Qx J rv (pc + 1) lv (.int (lg_cmp x y) :: st) m) : pz_Sm X Qx J rv pc lv (.long y :: .long x :: st) m := pz_go (fun A _ _ _ _ _ ls hl kk => W.lcmp A.1 A.2.1 d (kk ls hl)) k
theorem pz_dup {v : Value} (d : decode J.1 pc = .ok (.dup, 1)) (hv : v.category = 1) (k : pz_Sm X Qx J rv (pc + 1) lv (v :: v :: st) m) : pz_Sm X Qx J rv pc lv (v :: st) m := pz_go (fun A _ _ _ _ _ ls hl kk => lv_dup A.1 A.2.1 d hv (kk ls hl)) k
theorem pz_pop {v : Value} (d : decode J.1 pc = .ok (.pop, 1)) (hv : v.category = 1) (k : pz_Sm X Qx J rv (pc + 1) lv st m) : pz_Sm X Qx J rv pc lv (v :: st) m := pz_go (fun A _ _ _ _ _ ls hl kk => lv_pop A.1 A.2.1 d hv (kk ls hl)) k
theorem pz_dup_x1 {v w : Value} (d : decode J.1 pc = .ok (.dup_x1, 1)) (hv : v.category = 1) (hw : w.category = 1) (k : pz_Sm X Qx J rv (pc + 1) lv (v :: w :: v :: st) m) : pz_Sm X Qx J rv pc lv (v :: w :: st) m := pz_go (fun A _ _ _ _ _ ls hl kk => lv_dup_x1 A.1 A.2.1 d hv hw (kk ls hl)) k
theorem pz_dup_x2 {v w z : Value} (d : decode J.1 pc = .ok (.dup_x2, 1)) (hv : v.category = 1) (hw : w.category = 1) (hz : z.category = 1) (k : pz_Sm X Qx J rv (pc + 1) lv (v :: w :: z :: v :: st) m) : pz_Sm X Qx J rv pc lv (v :: w :: z :: st) m := pz_go (fun A _ _ _ _ _ ls hl kk => lv_dup_x2 A.1 A.2.1 d hv hw hz (kk ls hl)) k
theorem pz_dup2_11 {v w : Value} (d : decode J.1 pc = .ok (.dup2, 1)) (hv : v.category = 1) (hw : w.category = 1) (k : pz_Sm X Qx J rv (pc + 1) lv (v :: w :: v :: w :: st) m) : pz_Sm X Qx J rv pc lv (v :: w :: st) m := pz_go (fun A _ _ _ _ _ ls hl kk => lv_dup2_11 A.1 A.2.1 d hv hw (kk ls hl)) k
theorem pz_dup2_2 {v : Value} (d : decode J.1 pc = .ok (.dup2, 1)) (hv : v.category = 2) (k : pz_Sm X Qx J rv (pc + 1) lv (v :: v :: st) m) : pz_Sm X Qx J rv pc lv (v :: st) m := pz_go (fun A _ _ _ _ _ ls hl kk => lv_dup2_2 A.1 A.2.1 d hv (kk ls hl)) k
theorem pz_dup2_x1 {v w : Value} (d : decode J.1 pc = .ok (.dup2_x1, 1)) (hv : v.category = 2) (hw : w.category = 1) (k : pz_Sm X Qx J rv (pc + 1) lv (v :: w :: v :: st) m) : pz_Sm X Qx J rv pc lv (v :: w :: st) m := pz_go (fun A _ _ _ _ _ ls hl kk => lv_dup2_x1_2 A.1 A.2.1 d hv hw (kk ls hl)) k
theorem pz_dup2_x2 {v w z : Value} (d : decode J.1 pc = .ok (.dup2_x2, 1)) (hv : v.category = 2) (hw : w.category = 1) (hz : z.category = 1) (k : pz_Sm X Qx J rv (pc + 1) lv (v :: w :: z :: v :: st) m) : pz_Sm X Qx J rv pc lv (v :: w :: z :: st) m := pz_go (fun A _ _ _ _ _ ls hl kk => lv_dup2_x2_2 A.1 A.2.1 d hv hw hz (kk ls hl)) k
theorem pz_pop2_2 {v : Value} (d : decode J.1 pc = .ok (.pop2, 1)) (hv : v.category = 2) (k : pz_Sm X Qx J rv (pc + 1) lv st m) : pz_Sm X Qx J rv pc lv (v :: st) m := pz_go (fun A _ _ _ _ _ ls hl kk => lv_pop2_2 A.1 A.2.1 d hv (kk ls hl)) k
theorem pz_goto {off : Int} (tgt : Nat) (d : decode J.1 pc = .ok (.goto off, 3)) (ht : (pc : Int) + off = (tgt : Int)) (k : pz_Sm X Qx J rv tgt lv st m) : pz_Sm X Qx J rv pc lv st m := pz_go (fun A _ _ _ _ _ ls hl kk => lv_goto A.1 A.2.1 d ht (kk ls hl)) k
/-- a fork -/
theorem pz_fork {c : Prop} [Decidable c] {p1 p2 : Nat} {s1 s2 : List Value}
    (hW : pz_At X J → ∀ (H : Heap) (locs : List Loc) (cells slots : Nat) (Q : State → Prop) (ls : Array Slot), lv_has ls J.2.2.1 lv → (c → pz_W X H locs cells slots Q (F0 (pz_xm X) p1 ls s1)) → (¬ c → pz_W X H locs cells slots Q (F0 (pz_xm X) p2 ls s2)) → pz_W X H locs cells slots Q (F0 (pz_xm X) pc ls st))
    (k1 : pz_Sm X Qx J rv p1 lv s1 m1) (k2 : pz_Sm X Qx J rv p2 lv s2 m2) : pz_Sm X Qx J rv pc lv st (pz_if c m1 m2) := by
  intro h x hm
  by_cases hc : c
  · have hm' : m1 h = some x := by simpa [pz_if, hc] using hm
    obtain ⟨h1, h2⟩ := k1 h x hm'
    exact ⟨h1, fun A H locs cells slots ls hI hl => hW A H locs cells slots _ ls hl (fun _ => h2 A H locs cells slots ls hI hl) (fun q => absurd hc q)⟩
  · have hm' : m2 h = some x := by simpa [pz_if, hc] using hm
    obtain ⟨h1, h2⟩ := k2 h x hm'
    exact ⟨h1, fun A H locs cells slots ls hI hl => hW A H locs cells slots _ ls hl (fun q => absurd q hc) (fun _ => h2 A H locs cells slots ls hI hl)⟩
theorem pz_if_eq {x : Int32} {off : Int} (tgt : Nat) (d : decode J.1 pc = .ok (.ifCond .eq off, 3)) (ht : (pc : Int) + off = (tgt : Int)) (k1 : pz_Sm X Qx J rv tgt lv st m1) (k2 : pz_Sm X Qx J rv (pc + 3) lv st m2) : pz_Sm X Qx J rv pc lv (.int x :: st) (pz_if (x = 0) m1 m2) := pz_fork (fun A _ _ _ _ _ _ _ a b => lv_if_eq A.1 A.2.1 d ht a b) k1 k2
theorem pz_if_ne {x : Int32} {off : Int} (tgt : Nat) (d : decode J.1 pc = .ok (.ifCond .ne off, 3)) (ht : (pc : Int) + off = (tgt : Int)) (k1 : pz_Sm X Qx J rv (pc + 3) lv st m1) (k2 : pz_Sm X Qx J rv tgt lv st m2) : pz_Sm X Qx J rv pc lv (.int x :: st) (pz_if (x = 0) m1 m2) := pz_fork (fun A _ _ _ _ _ _ _ a b => lv_if_ne A.1 A.2.1 d ht b a) k1 k2
theorem pz_if_lt {x : Int32} {off : Int} (tgt : Nat) (d : decode J.1 pc = .ok (.ifCond .lt off, 3)) (ht : (pc : Int) + off = (tgt : Int)) (k1 : pz_Sm X Qx J rv tgt lv st m1) (k2 : pz_Sm X Qx J rv (pc + 3) lv st m2) : pz_Sm X Qx J rv pc lv (.int x :: st) (pz_if (x < 0) m1 m2) := pz_fork (fun A _ _ _ _ _ _ _ a b => lv_if_lt A.1 A.2.1 d ht a b) k1 k2
theorem pz_if_ge {x : Int32} {off : Int} (tgt : Nat) (d : decode J.1 pc = .ok (.ifCond .ge off, 3)) (ht : (pc : Int) + off = (tgt : Int)) (k1 : pz_Sm X Qx J rv tgt lv st m1) (k2 : pz_Sm X Qx J rv (pc + 3) lv st m2) : pz_Sm X Qx J rv pc lv (.int x :: st) (pz_if (0 ≤ x) m1 m2) := pz_fork (fun A _ _ _ _ _ _ _ a b => lv_if_ge A.1 A.2.1 d ht a b) k1 k2
theorem pz_if_gt {x : Int32} {off : Int} (tgt : Nat) (d : decode J.1 pc = .ok (.ifCond .gt off, 3)) (ht : (pc : Int) + off = (tgt : Int)) (k1 : pz_Sm X Qx J rv tgt lv st m1) (k2 : pz_Sm X Qx J rv (pc + 3) lv st m2) : pz_Sm X Qx J rv pc lv (.int x :: st) (pz_if (0 < x) m1 m2) := pz_fork (fun A _ _ _ _ _ _ _ a b => lv_if_gt A.1 A.2.1 d ht a b) k1 k2
theorem pz_if_le {x : Int32} {off : Int} (tgt : Nat) (d : decode J.1 pc = .ok (.ifCond .le off, 3)) (ht : (pc : Int) + off = (tgt : Int)) (k1 : pz_Sm X Qx J rv tgt lv st m1) (k2 : pz_Sm X Qx J rv (pc + 3) lv st m2) : pz_Sm X Qx J rv pc lv (.int x :: st) (pz_if (x ≤ 0) m1 m2) := pz_fork (fun A _ _ _ _ _ _ _ a b => lv_if_le A.1 A.2.1 d ht a b) k1 k2
theorem pz_icmp_eq {x y : Int32} {off : Int} (tgt : Nat) (d : decode J.1 pc = .ok (.if_icmp .eq off, 3)) (ht : (pc : Int) + off = (tgt : Int)) (k1 : pz_Sm X Qx J rv tgt lv st m1) (k2 : pz_Sm X Qx J rv (pc + 3) lv st m2) : pz_Sm X Qx J rv pc lv (.int y :: .int x :: st) (pz_if (x = y) m1 m2) := pz_fork (fun A _ _ _ _ _ _ _ a b => lv_icmp_eq A.1 A.2.1 d ht a b) k1 k2
theorem pz_icmp_ne {x y : Int32} {off : Int} (tgt : Nat) (d : decode J.1 pc = .ok (.if_icmp .ne off, 3)) (ht : (pc : Int) + off = (tgt : Int)) (k1 : pz_Sm X Qx J rv (pc + 3) lv st m1) (k2 : pz_Sm X Qx J rv tgt lv st m2) : pz_Sm X Qx J rv pc lv (.int y :: .int x :: st) (pz_if (x = y) m1 m2) := pz_fork (fun A _ _ _ _ _ _ _ a b => lv_icmp_ne A.1 A.2.1 d ht b a) k1 k2
theorem pz_icmp_lt {x y : Int32} {off : Int} (tgt : Nat) (d : decode J.1 pc = .ok (.if_icmp .lt off, 3)) (ht : (pc : Int) + off = (tgt : Int)) (k1 : pz_Sm X Qx J rv tgt lv st m1) (k2 : pz_Sm X Qx J rv (pc + 3) lv st m2) : pz_Sm X Qx J rv pc lv (.int y :: .int x :: st) (pz_if (x < y) m1 m2) := pz_fork (fun A _ _ _ _ _ _ _ a b => lv_icmp_lt A.1 A.2.1 d ht a b) k1 k2
theorem pz_icmp_ge {x y : Int32} {off : Int} (tgt : Nat) (d : decode J.1 pc = .ok (.if_icmp .ge off, 3)) (ht : (pc : Int) + off = (tgt : Int)) (k1 : pz_Sm X Qx J rv tgt lv st m1) (k2 : pz_Sm X Qx J rv (pc + 3) lv st m2) : pz_Sm X Qx J rv pc lv (.int y :: .int x :: st) (pz_if (y ≤ x) m1 m2) := pz_fork (fun A _ _ _ _ _ _ _ a b => lv_icmp_ge A.1 A.2.1 d ht a b) k1 k2
theorem pz_icmp_gt {x y : Int32} {off : Int} (tgt : Nat) (d : decode J.1 pc = .ok (.if_icmp .gt off, 3)) (ht : (pc : Int) + off = (tgt : Int)) (k1 : pz_Sm X Qx J rv tgt lv st m1) (k2 : pz_Sm X Qx J rv (pc + 3) lv st m2) : pz_Sm X Qx J rv pc lv (.int y :: .int x :: st) (pz_if (y < x) m1 m2) := pz_fork (fun A _ _ _ _ _ _ _ a b => lv_icmp_gt A.1 A.2.1 d ht a b) k1 k2
theorem pz_icmp_le {x y : Int32} {off : Int} (tgt : Nat) (d : decode J.1 pc = .ok (.if_icmp .le off, 3)) (ht : (pc : Int) + off = (tgt : Int)) (k1 : pz_Sm X Qx J rv tgt lv st m1) (k2 : pz_Sm X Qx J rv (pc + 3) lv st m2) : pz_Sm X Qx J rv pc lv (.int y :: .int x :: st) (pz_if (x ≤ y) m1 m2) := pz_fork (fun A _ _ _ _ _ _ _ a b => lv_icmp_le A.1 A.2.1 d ht a b) k1 k2
theorem pz_acmp_eq {rx ry : Option Nat} {off : Int} (tgt : Nat) (d : decode J.1 pc = .ok (.if_acmp .eq off, 3)) (ht : (pc : Int) + off = (tgt : Int)) (k1 : pz_Sm X Qx J rv tgt lv st m1) (k2 : pz_Sm X Qx J rv (pc + 3) lv st m2) : pz_Sm X Qx J rv pc lv (va_rf ry :: va_rf rx :: st) (pz_if (rx = ry) m1 m2) := pz_fork (fun A _ _ _ _ _ _ _ a b => lv_acmp_eq A.1 A.2.1 d ht a b) k1 k2
theorem pz_acmp_ne {rx ry : Option Nat} {off : Int} (tgt : Nat) (d : decode J.1 pc = .ok (.if_acmp .ne off, 3)) (ht : (pc : Int) + off = (tgt : Int)) (k1 : pz_Sm X Qx J rv (pc + 3) lv st m1) (k2 : pz_Sm X Qx J rv tgt lv st m2) : pz_Sm X Qx J rv pc lv (va_rf ry :: va_rf rx :: st) (pz_if (rx = ry) m1 m2) := pz_fork (fun A _ _ _ _ _ _ _ a b => lv_acmp_ne A.1 A.2.1 d ht b a) k1 k2
theorem pz_ifnull {r : Option Nat} {off : Int} (tgt : Nat) (d : decode J.1 pc = .ok (.ifnull off, 3)) (ht : (pc : Int) + off = (tgt : Int)) (k1 : pz_Sm X Qx J rv tgt lv st m1) (k2 : pz_Sm X Qx J rv (pc + 3) lv st m2) : pz_Sm X Qx J rv pc lv (va_rf r :: st) (pz_if (r = none) m1 m2) := pz_fork (fun A _ _ _ _ _ _ _ a b => by
    cases r with
    | none => exact lv_ifnullN A.1 A.2.1 d ht (a rfl)
    | some q => exact lv_ifnull A.1 A.2.1 d (b (fun h => by cases h))) k1 k2
theorem pz_ifnonnull {r : Option Nat} {off : Int} (tgt : Nat) (d : decode J.1 pc = .ok (.ifnonnull off, 3)) (ht : (pc : Int) + off = (tgt : Int)) (k1 : pz_Sm X Qx J rv (pc + 3) lv st m1) (k2 : pz_Sm X Qx J rv tgt lv st m2) : pz_Sm X Qx J rv pc lv (va_rf r :: st) (pz_if (r = none) m1 m2) := pz_fork (fun A _ _ _ _ _ _ _ a b => by
    cases r with
    | none => exact lv_ifnonnullN A.1 A.2.1 d (a rfl)
    | some q => exact lv_ifnonnull A.1 A.2.1 d ht (b (fun h => by cases h))) k1 k2
/-- a switch over a table -/
def pz_tsw {ρ : Type} (lo : Int) (ms : List (pz_C ρ)) (dm : pz_C ρ) (x : Int32) : pz_C ρ := if x.toInt < lo then dm else match ms[(x.toInt - lo).toNat]? with
  | some m => m
  | none => dm
def pz_sws (X : pz_X) (Qx : Option Value → pz_H → State → Prop) (J : pz_J) {ρ : Type} (rv : ρ → Option Value) (pc : Nat) (lv : List (Nat × Value)) (st : List Value) : List Int → List (pz_C ρ) → Prop
  | [], [] => True
  | o :: os, m :: ms => (∃ tgt : Nat, (pc : Int) + o = (tgt : Int) ∧ pz_Sm X Qx J rv tgt lv st m) ∧ pz_sws X Qx J rv pc lv st os ms
  | _, _ => False
theorem pz_sws_len : ∀ {os : List Int} {ms : List (pz_C ρ)}, pz_sws X Qx J rv pc lv st os ms → os.length = ms.length
  | [], [], _ => rfl
  | _ :: _, _ :: _, h => by simp [pz_sws_len h.2]
theorem pz_sws_at : ∀ {os : List Int} {ms : List (pz_C ρ)} (i : Nat) {m : pz_C ρ}, pz_sws X Qx J rv pc lv st os ms → ms[i]? = some m → ∃ (o : Int) (tgt : Nat), os[i]? = some o ∧ (pc : Int) + o = (tgt : Int) ∧ pz_Sm X Qx J rv tgt lv st m
  | [], [], i, m, _, hm => by simp at hm
  | o :: os, m' :: ms, 0, m, h, hm => by
    obtain ⟨⟨tgt, h1, h2⟩, -⟩ := h
    simp at hm
    subst hm
    exact ⟨o, tgt, rfl, h1, h2⟩
  | o :: os, m' :: ms, i + 1, m, h, hm => by
    obtain ⟨o', tgt, h1, h2, h3⟩ := pz_sws_at i h.2 (by simpa using hm)
    exact ⟨o', tgt, by simpa using h1, h2, h3⟩
theorem pz_table {x : Int32} {dflt lo hi : Int} {offs : Array Int} {len : Nat} {ms : List (pz_C ρ)} {dm : pz_C ρ} (tgt : Nat) (d : decode J.1 pc = .ok (.tableswitch dflt lo hi offs, len)) (hn : (offs.size : Int) = hi - lo + 1) (ht : (pc : Int) + dflt = (tgt : Int)) (ks : pz_sws X Qx J rv pc lv st offs.toList ms) (kd : pz_Sm X Qx J rv tgt lv st dm) : pz_Sm X Qx J rv pc lv (.int x :: st) (pz_tsw lo ms dm x) := by
  have hlen := pz_sws_len ks
  intro h y hm
  unfold pz_tsw at hm
  by_cases h1 : x.toInt < lo
  · rw [if_pos h1] at hm
    obtain ⟨g1, g2⟩ := kd h y hm
    exact ⟨g1, fun A H locs cells slots ls hI hl => lv_tableOut A.1 A.2.1 d (Or.inl h1) ht (g2 A H locs cells slots ls hI hl)⟩
  · rw [if_neg h1] at hm
    cases hq : ms[(x.toInt - lo).toNat]? with
    | none =>
      rw [hq] at hm
      have h2 : hi < x.toInt := by
        have h3 := List.getElem?_eq_none_iff.mp hq
        rw [← hlen] at h3
        simp at h3
        omega
      obtain ⟨g1, g2⟩ := kd h y hm
      exact ⟨g1, fun A H locs cells slots ls hI hl => lv_tableOut A.1 A.2.1 d (Or.inr h2) ht (g2 A H locs cells slots ls hI hl)⟩
    | some m' =>
      rw [hq] at hm
      obtain ⟨o, tg, e1, e2, e3⟩ := pz_sws_at _ ks hq
      have h2 : ¬ hi < x.toInt := by
        have h3 := (List.getElem?_eq_some_iff.mp e1).1
        simp at h3
        omega
      obtain ⟨g1, g2⟩ := e3 h y hm
      exact ⟨g1, fun A H locs cells slots ls hI hl => lv_tableIn A.1 A.2.1 d h1 h2 (by simpa using e1) e2 (g2 A H locs cells slots ls hI hl)⟩
/-- a loop -/
theorem pz_lp {σ : Type} {L : σ → List (Nat × Value)} {body : (σ → pz_C ρ) → σ → pz_C ρ} (hb : ∀ K : σ → pz_C ρ, (∀ s, pz_Sm X Qx J rv pc (L s) st (K s)) → ∀ s, pz_Sm X Qx J rv pc (L s) st (body K s)) : ∀ (n : Nat) (s : σ), pz_Sm X Qx J rv pc (L s) st (pz_loop body n s)
  | 0, _ => fun h x hm => by simp [pz_loop] at hm
  | n + 1, s => hb (pz_loop body n) (pz_lp hb n) s
/-- partial values without a heap: a division -/
theorem pz_idiv {x y : Int32} {K : Int32 → pz_C ρ} (d : decode J.1 pc = .ok (.idiv, 1)) (k : ∀ z, pz_Sm X Qx J rv (pc + 1) lv (.int z :: st) (K z)) : pz_Sm X Qx J rv pc lv (.int y :: .int x :: st) (pz_gB (pz_dvI x y) K) := by
  intro h z hm
  by_cases hy : y = 0
  · simp [pz_gB, pz_dvI, hy] at hm
  · simp only [pz_gB, pz_dvI, hy, if_false] at hm
    obtain ⟨g1, g2⟩ := k _ h z hm
    exact ⟨g1, fun A H locs cells slots ls hI hl => lv_idiv A.1 A.2.1 d hy (g2 A H locs cells slots ls hI hl)⟩
theorem pz_irem {x y : Int32} {K : Int32 → pz_C ρ} (d : decode J.1 pc = .ok (.irem, 1)) (k : ∀ z, pz_Sm X Qx J rv (pc + 1) lv (.int z :: st) (K z)) : pz_Sm X Qx J rv pc lv (.int y :: .int x :: st) (pz_gB (pz_rmI x y) K) := by
  intro h z hm
  by_cases hy : y = 0
  · simp [pz_gB, pz_rmI, hy] at hm
  · simp only [pz_gB, pz_rmI, hy, if_false] at hm
    obtain ⟨g1, g2⟩ := k _ h z hm
    exact ⟨g1, fun A H locs cells slots ls hI hl => lv_irem A.1 A.2.1 d hy (g2 A H locs cells slots ls hI hl)⟩
theorem pz_ldiv {x y : Int64} {K : Int64 → pz_C ρ} (d : decode J.1 pc = .ok (.ldiv, 1)) (k : ∀ z, pz_Sm X Qx J rv (pc + 1) lv (.long z :: st) (K z)) : pz_Sm X Qx J rv pc lv (.long y :: .long x :: st) (pz_gB (pz_dvL x y) K) := by
  intro h z hm
  by_cases hy : y = 0
  · simp [pz_gB, pz_dvL, hy] at hm
  · simp only [pz_gB, pz_dvL, hy, if_false] at hm
    obtain ⟨g1, g2⟩ := k _ h z hm
    exact ⟨g1, fun A H locs cells slots ls hI hl => lv_ldiv A.1 A.2.1 d hy (g2 A H locs cells slots ls hI hl)⟩
theorem pz_lrem {x y : Int64} {K : Int64 → pz_C ρ} (d : decode J.1 pc = .ok (.lrem, 1)) (k : ∀ z, pz_Sm X Qx J rv (pc + 1) lv (.long z :: st) (K z)) : pz_Sm X Qx J rv pc lv (.long y :: .long x :: st) (pz_gB (pz_rmL x y) K) := by
  intro h z hm
  by_cases hy : y = 0
  · simp [pz_gB, pz_rmL, hy] at hm
  · simp only [pz_gB, pz_rmL, hy, if_false] at hm
    obtain ⟨g1, g2⟩ := k _ h z hm
    exact ⟨g1, fun A H locs cells slots ls hI hl => lv_lrem A.1 A.2.1 d hy (g2 A H locs cells slots ls hI hl)⟩
end PZ1
