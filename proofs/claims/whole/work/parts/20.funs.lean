/-- RowSolver$Rows.<init> ()V -/
def X6_init (n : Nat) (l0 : Option Nat) : pz_C Unit :=
  pz_nn l0 <|
  pz_newG 6 0 12 10 fun x1 =>
  pz_uB (pz_wF 6 0 l0 (va_rf x1)) <|
  pz_newI 0 12 fun x2 =>
  pz_uB (pz_wF 6 1 l0 (va_rf x2)) <|
  pz_newI 0 12 fun x3 =>
  pz_uB (pz_wF 6 2 l0 (va_rf x3)) <|
  pz_newI 1 10 fun x4 =>
  pz_uB (pz_wF 6 3 l0 (va_rf x4)) <|
  pz_newI 0 10 fun x5 =>
  pz_uB (pz_wF 6 4 l0 (va_rf x5)) <|
  pz_ret ()
/-- RowSolver$Big.<init> (I)V -/
def X0_init_b14 (n : Nat) (s0 : Option Nat) (s1 : Int32) : pz_C Unit :=
  pz_newI 0 s1 fun x1 =>
  pz_uB (pz_wF 0 0 s0 (va_rf x1)) <|
  pz_ret ()
def X0_init (n : Nat) (l0 : Option Nat) (l1 : Int32) : pz_C Unit :=
  pz_nn l0 <|
  pz_if (l1 ≤ 0) (X0_init_b14 n l0 1) <|
  X0_init_b14 n l0 l1
/-- RowSolver$Division.<init> ()V -/
def X2_init (n : Nat) (l0 : Option Nat) : pz_C Unit :=
  pz_nn l0 <|
  pz_new 0 3 [.null, .int 0, .int 0] fun x1 =>
  pz_nn x1 <| pz_cB (X0_init n x1 128) fun _ =>
  pz_uB (pz_wF 2 0 l0 (va_rf x1)) <|
  pz_new 0 3 [.null, .int 0, .int 0] fun x3 =>
  pz_nn x3 <| pz_cB (X0_init n x3 128) fun _ =>
  pz_uB (pz_wF 2 1 l0 (va_rf x3)) <|
  pz_new 0 3 [.null, .int 0, .int 0] fun x5 =>
  pz_nn x5 <| pz_cB (X0_init n x5 128) fun _ =>
  pz_uB (pz_wF 2 2 l0 (va_rf x5)) <|
  pz_new 0 3 [.null, .int 0, .int 0] fun x7 =>
  pz_nn x7 <| pz_cB (X0_init n x7 128) fun _ =>
  pz_uB (pz_wF 2 3 l0 (va_rf x7)) <|
  pz_newL 2 129 fun x9 =>
  pz_uB (pz_wF 2 4 l0 (va_rf x9)) <|
  pz_newL 2 128 fun x10 =>
  pz_uB (pz_wF 2 5 l0 (va_rf x10)) <|
  pz_ret ()
/-- RowSolver$Sum.<init> ()V -/
def X8_init (n : Nat) (l0 : Option Nat) : pz_C Unit :=
  pz_nn l0 <|
  pz_newL 2 128 fun x1 =>
  pz_uB (pz_wF 8 0 l0 (va_rf x1)) <|
  pz_ret ()
/-- RowSolver$Tableau.<init> (LRowSolver$Sum;LRowSolver$Division;)V -/
def X9_init_L159_body (n : Nat) (l0 : Option Nat) (K159 : Int32 → pz_C Unit) (l3 : Int32) : pz_C Unit :=
  pz_gB (pz_rR 9 3 l0) fun x18 =>
  pz_gB (pz_len 3 x18) fun x19 =>
  pz_if (x19 ≤ l3) (pz_ret ()) <|
  pz_gB (pz_rR 9 3 l0) fun x20 =>
  pz_new 0 3 [.null, .int 0, .int 0] fun x21 =>
  pz_nn x21 <| pz_cB (X0_init n x21 12) fun _ =>
  pz_uB (pz_sR 3 0 x20 l3 x21) <|
  pz_let (l3 + 1) fun l3_23 =>
  K159 l3_23
def X9_init_L159 (n : Nat) (l0 : Option Nat) (l3 : Int32) : pz_C Unit := pz_loop (fun (K : Int32 → pz_C Unit) (s : Int32) => X9_init_L159_body n l0 (fun l3 => K l3) s) n l3
def X9_init_L127_body (n : Nat) (l0 : Option Nat) (K127 : Int32 → pz_C Unit) (l3 : Int32) : pz_C Unit :=
  pz_gB (pz_rR 9 2 l0) fun x16 =>
  pz_gB (pz_len 3 x16) fun x17 =>
  pz_if (x17 ≤ l3) (X9_init_L159 n l0 0) <|
  pz_gB (pz_rR 9 2 l0) fun x24 =>
  pz_new 0 3 [.null, .int 0, .int 0] fun x25 =>
  pz_nn x25 <| pz_cB (X0_init n x25 8) fun _ =>
  pz_uB (pz_sR 3 0 x24 l3 x25) <|
  pz_let (l3 + 1) fun l3_27 =>
  K127 l3_27
def X9_init_L127 (n : Nat) (l0 : Option Nat) (l3 : Int32) : pz_C Unit := pz_loop (fun (K : Int32 → pz_C Unit) (s : Int32) => X9_init_L127_body n l0 (fun l3 => K l3) s) n l3
def X9_init (n : Nat) (l0 : Option Nat) (l1 : Option Nat) (l2 : Option Nat) : pz_C Unit :=
  pz_nn l0 <|
  pz_newR 3 120 fun x1 =>
  pz_uB (pz_wF 9 2 l0 (va_rf x1)) <|
  pz_newR 3 12 fun x2 =>
  pz_uB (pz_wF 9 3 l0 (va_rf x2)) <|
  pz_newL 2 10 fun x3 =>
  pz_uB (pz_wF 9 4 l0 (va_rf x3)) <|
  pz_newI 0 12 fun x4 =>
  pz_uB (pz_wF 9 5 l0 (va_rf x4)) <|
  pz_newI 0 10 fun x5 =>
  pz_uB (pz_wF 9 6 l0 (va_rf x5)) <|
  pz_newI 0 22 fun x6 =>
  pz_uB (pz_wF 9 7 l0 (va_rf x6)) <|
  pz_newI 1 22 fun x7 =>
  pz_uB (pz_wF 9 8 l0 (va_rf x7)) <|
  pz_new 0 3 [.null, .int 0, .int 0] fun x8 =>
  pz_nn x8 <| pz_cB (X0_init n x8 8) fun _ =>
  pz_uB (pz_wF 9 9 l0 (va_rf x8)) <|
  pz_new 0 3 [.null, .int 0, .int 0] fun x10 =>
  pz_nn x10 <| pz_cB (X0_init n x10 12) fun _ =>
  pz_uB (pz_wF 9 10 l0 (va_rf x10)) <|
  pz_new 0 3 [.null, .int 0, .int 0] fun x12 =>
  pz_nn x12 <| pz_cB (X0_init n x12 8) fun _ =>
  pz_uB (pz_wF 9 11 l0 (va_rf x12)) <|
  pz_new 0 3 [.null, .int 0, .int 0] fun x14 =>
  pz_nn x14 <| pz_cB (X0_init n x14 128) fun _ =>
  pz_uB (pz_wF 9 12 l0 (va_rf x14)) <|
  pz_uB (pz_wF 9 0 l0 (va_rf l1)) <|
  pz_uB (pz_wF 9 1 l0 (va_rf l2)) <|
  X9_init_L127 n l0 0
/-- RowSolver$Tree.<init> ()V -/
def X10_init (n : Nat) (l0 : Option Nat) : pz_C Unit :=
  pz_nn l0 <|
  pz_newI 0 301 fun x1 =>
  pz_uB (pz_wF 10 0 l0 (va_rf x1)) <|
  pz_newI 0 301 fun x2 =>
  pz_uB (pz_wF 10 1 l0 (va_rf x2)) <|
  pz_newI 0 301 fun x3 =>
  pz_uB (pz_wF 10 2 l0 (va_rf x3)) <|
  pz_newI 0 301 fun x4 =>
  pz_uB (pz_wF 10 3 l0 (va_rf x4)) <|
  pz_newL 2 301 fun x5 =>
  pz_uB (pz_wF 10 4 l0 (va_rf x5)) <|
  pz_newL 2 301 fun x6 =>
  pz_uB (pz_wF 10 5 l0 (va_rf x6)) <|
  pz_newI 1 301 fun x7 =>
  pz_uB (pz_wF 10 6 l0 (va_rf x7)) <|
  pz_newI 0 301 fun x8 =>
  pz_uB (pz_wF 10 7 l0 (va_rf x8)) <|
  pz_newR 5 151 fun x9 =>
  pz_uB (pz_wF 10 8 l0 (va_rf x9)) <|
  pz_uB (pz_wF 10 11 l0 (.int (-2))) <|
  pz_ret ()
/-- RowSolver$Bounds.<init> ()V -/
def X1_init (n : Nat) (l0 : Option Nat) : pz_C Unit :=
  pz_nn l0 <|
  pz_newI 1 22 fun x1 =>
  pz_uB (pz_wF 1 0 l0 (va_rf x1)) <|
  pz_newI 1 22 fun x2 =>
  pz_uB (pz_wF 1 1 l0 (va_rf x2)) <|
  pz_newL 2 22 fun x3 =>
  pz_uB (pz_wF 1 2 l0 (va_rf x3)) <|
  pz_newL 2 22 fun x4 =>
  pz_uB (pz_wF 1 3 l0 (va_rf x4)) <|
  pz_ret ()
/-- RowSolver$Solving.<init> (LRowSolver$Rows;LRowSolver$Tableau;LRowSolver$Tree;)V -/
def X7_init (n : Nat) (l0 : Option Nat) (l1 : Option Nat) (l2 : Option Nat) (l3 : Option Nat) : pz_C Unit :=
  pz_nn l0 <|
  pz_new 1 4 [.null, .null, .null, .null] fun x1 =>
  pz_nn x1 <| pz_cB (X1_init n x1) fun _ =>
  pz_uB (pz_wF 7 3 l0 (va_rf x1)) <|
  pz_uB (pz_wF 7 4 l0 (.int 0)) <|
  pz_uB (pz_wF 7 0 l0 (va_rf l1)) <|
  pz_uB (pz_wF 7 1 l0 (va_rf l2)) <|
  pz_uB (pz_wF 7 2 l0 (va_rf l3)) <|
  pz_ret ()
/-- RowSolver$Judge.<init> (LRowSolver$Rows;LRowSolver$Tree;LRowSolver$Sum;LRowSolver$Division;)V -/
def X4_init (n : Nat) (l0 : Option Nat) (l1 : Option Nat) (l2 : Option Nat) (l3 : Option Nat) (l4 : Option Nat) : pz_C Unit :=
  pz_nn l0 <|
  pz_new 8 2 [.null, .int 0] fun x1 =>
  pz_nn x1 <| pz_cB (X8_init n x1) fun _ =>
  pz_uB (pz_wF 4 4 l0 (va_rf x1)) <|
  pz_new 1 4 [.null, .null, .null, .null] fun x3 =>
  pz_nn x3 <| pz_cB (X1_init n x3) fun _ =>
  pz_uB (pz_wF 4 5 l0 (va_rf x3)) <|
  pz_newL 2 32 fun x5 =>
  pz_uB (pz_wF 4 6 l0 (va_rf x5)) <|
  pz_new 0 3 [.null, .int 0, .int 0] fun x6 =>
  pz_nn x6 <| pz_cB (X0_init n x6 128) fun _ =>
  pz_uB (pz_wF 4 7 l0 (va_rf x6)) <|
  pz_new 0 3 [.null, .int 0, .int 0] fun x8 =>
  pz_nn x8 <| pz_cB (X0_init n x8 128) fun _ =>
  pz_uB (pz_wF 4 8 l0 (va_rf x8)) <|
  pz_uB (pz_wF 4 0 l0 (va_rf l1)) <|
  pz_uB (pz_wF 4 1 l0 (va_rf l2)) <|
  pz_uB (pz_wF 4 2 l0 (va_rf l3)) <|
  pz_uB (pz_wF 4 3 l0 (va_rf l4)) <|
  pz_ret ()
/-- RowSolver$Big.setLong (J)V -/
def X0_setLong_b89 (n : Nat) : pz_C Unit :=
  pz_ret ()
def X0_setLong_L35_body (n : Nat) (l0 : Option Nat) (K35 : Int64 → Int32 → pz_C Unit) (l3 : Int64) (l5 : Int32) : pz_C Unit :=
  pz_gB (pz_rR 0 0 l0) fun x1 =>
  pz_gB (pz_len 0 x1) fun x2 =>
  pz_if (x2 ≤ l5) (X0_setLong_b89 n) <|
  pz_if ((lg_cmp l3 0) = 0) (X0_setLong_b89 n) <|
  pz_gB (pz_rR 0 0 l0) fun x3 =>
  pz_gB (pz_rI 0 2 l0) fun x4 =>
  pz_gB (pz_rmL l3 1000000000) fun x5 =>
  pz_uB (pz_sI 0 x3 l5 (x4 * (Int64.toInt32 x5))) <|
  pz_gB (pz_dvL l3 1000000000) fun x6 =>
  pz_uB (pz_wF 0 1 l0 (.int (l5 + 1))) <|
  pz_let (l5 + 1) fun l5_7 =>
  K35 x6 l5_7
def X0_setLong_L35 (n : Nat) (l0 : Option Nat) (l3 : Int64) (l5 : Int32) : pz_C Unit := pz_loop (fun (K : Int64 × Int32 → pz_C Unit) (s : Int64 × Int32) => X0_setLong_L35_body n l0 (fun l3 l5 => K (l3, l5)) s.1 s.2) n (l3, l5)
def X0_setLong_b22 (n : Nat) (l0 : Option Nat) (l1 : Int64) (s0 : Option Nat) (s1 : Int32) : pz_C Unit :=
  pz_uB (pz_wF 0 2 s0 (.int s1)) <|
  pz_uB (pz_wF 0 1 l0 (.int 0)) <|
  X0_setLong_L35 n l0 l1 0
def X0_setLong (n : Nat) (l0 : Option Nat) (l1 : Int64) : pz_C Unit :=
  pz_if ((lg_cmp l1 0) ≤ 0) (
    pz_if (0 ≤ (lg_cmp l1 0)) (X0_setLong_b22 n l0 l1 l0 0) <|
    X0_setLong_b22 n l0 l1 l0 (-1)) <|
  X0_setLong_b22 n l0 l1 l0 1
/-- RowSolver$Fraction.<init> (I)V -/
def X3_init (n : Nat) (l0 : Option Nat) (l1 : Int32) : pz_C Unit :=
  pz_nn l0 <|
  pz_new 0 3 [.null, .int 0, .int 0] fun x1 =>
  pz_nn x1 <| pz_cB (X0_init n x1 l1) fun _ =>
  pz_uB (pz_wF 3 0 l0 (va_rf x1)) <|
  pz_new 0 3 [.null, .int 0, .int 0] fun x3 =>
  pz_nn x3 <| pz_cB (X0_init n x3 l1) fun _ =>
  pz_uB (pz_wF 3 1 l0 (va_rf x3)) <|
  pz_gB (pz_rR 3 1 l0) fun x5 =>
  pz_cV 0 x5 (X0_setLong n x5 1) fun _ =>
  pz_ret ()
/-- RowSolver.<init> ()V -/
def X11_init_L141_body (n : Nat) (l0 : Option Nat) (K141 : Int32 → pz_C Unit) (l1 : Int32) : pz_C Unit :=
  pz_gB (pz_rR 11 7 l0) fun x27 =>
  pz_gB (pz_len 4 x27) fun x28 =>
  pz_if (x28 ≤ l1) (pz_ret ()) <|
  pz_gB (pz_rR 11 7 l0) fun x29 =>
  pz_new 3 2 [.null, .null] fun x30 =>
  pz_nn x30 <| pz_cB (X3_init n x30 12) fun _ =>
  pz_uB (pz_sR 4 3 x29 l1 x30) <|
  pz_let (l1 + 1) fun l1_32 =>
  K141 l1_32
def X11_init_L141 (n : Nat) (l0 : Option Nat) (l1 : Int32) : pz_C Unit := pz_loop (fun (K : Int32 → pz_C Unit) (s : Int32) => X11_init_L141_body n l0 (fun l1 => K l1) s) n l1
def X11_init (n : Nat) (l0 : Option Nat) : pz_C Unit :=
  pz_nn l0 <|
  pz_new 6 7 [.null, .null, .null, .null, .null, .int 0, .int 0] fun x1 =>
  pz_nn x1 <| pz_cB (X6_init n x1) fun _ =>
  pz_uB (pz_wF 11 0 l0 (va_rf x1)) <|
  pz_new 2 6 [.null, .null, .null, .null, .null, .null] fun x3 =>
  pz_nn x3 <| pz_cB (X2_init n x3) fun _ =>
  pz_uB (pz_wF 11 1 l0 (va_rf x3)) <|
  pz_new 8 2 [.null, .int 0] fun x5 =>
  pz_nn x5 <| pz_cB (X8_init n x5) fun _ =>
  pz_uB (pz_wF 11 2 l0 (va_rf x5)) <|
  pz_new 9 15 [.null, .null, .null, .null, .null, .null, .null, .null, .null, .null, .null, .null, .null, .int 0, .int 0] fun x7 =>
  pz_gB (pz_rR 11 2 l0) fun x8 =>
  pz_gB (pz_rR 11 1 l0) fun x9 =>
  pz_nn x7 <| pz_cB (X9_init n x7 x8 x9) fun _ =>
  pz_uB (pz_wF 11 3 l0 (va_rf x7)) <|
  pz_new 10 12 [.null, .null, .null, .null, .null, .null, .null, .null, .null, .int 0, .int 0, .int 0] fun x11 =>
  pz_nn x11 <| pz_cB (X10_init n x11) fun _ =>
  pz_uB (pz_wF 11 4 l0 (va_rf x11)) <|
  pz_new 7 9 [.null, .null, .null, .null, .int 0, .int 0, .int 0, .int 0, .int 0] fun x13 =>
  pz_gB (pz_rR 11 0 l0) fun x14 =>
  pz_gB (pz_rR 11 3 l0) fun x15 =>
  pz_gB (pz_rR 11 4 l0) fun x16 =>
  pz_nn x13 <| pz_cB (X7_init n x13 x14 x15 x16) fun _ =>
  pz_uB (pz_wF 11 5 l0 (va_rf x13)) <|
  pz_new 4 9 [.null, .null, .null, .null, .null, .null, .null, .null, .null] fun x18 =>
  pz_gB (pz_rR 11 0 l0) fun x19 =>
  pz_gB (pz_rR 11 4 l0) fun x20 =>
  pz_gB (pz_rR 11 2 l0) fun x21 =>
  pz_gB (pz_rR 11 1 l0) fun x22 =>
  pz_nn x18 <| pz_cB (X4_init n x18 x19 x20 x21 x22) fun _ =>
  pz_uB (pz_wF 11 6 l0 (va_rf x18)) <|
  pz_newR 4 10 fun x24 =>
  pz_uB (pz_wF 11 7 l0 (va_rf x24)) <|
  pz_new 3 2 [.null, .null] fun x25 =>
  pz_nn x25 <| pz_cB (X3_init n x25 12) fun _ =>
  pz_uB (pz_wF 11 8 l0 (va_rf x25)) <|
  X11_init_L141 n l0 0
/-- RowSolverModel.witnessAt (II)I -/
def X12_witnessAt (n : Nat) (l0 : Int32) (l1 : Int32) : pz_C Int32 :=
  pz_ret (109456 + (300 * ((2 * l0) + l1)))
/-- RowSolverModel.plainOf (J)I -/
def X12_plainOf_b78 (n : Nat) (l0 : Option Nat) (l3 : Int32) (l6 : Int32) (s0 : Option Nat) (s1 : Int32) (s2 : Int32) : pz_C Int32 :=
  pz_uB (pz_sI 0 s0 s1 s2) <|
  pz_uB (pz_wF 12 35 l0 (.int ((l3 + l6) + 1))) <|
  pz_ret l3
def X12_plainOf_L22_body (n : Nat) (l0 : Option Nat) (l1 : Int64) (l3 : Int32) (K22 : Int64 → Int32 → pz_C Int32) (l4 : Int64) (l6 : Int32) : pz_C Int32 :=
  pz_if ((lg_cmp l4 0) ≤ 0) (
    pz_gB (pz_rR 12 34 l0) fun x2 =>
    pz_if (0 ≤ (lg_cmp l1 0)) (X12_plainOf_b78 n l0 l3 l6 x2 l3 l6) <|
    X12_plainOf_b78 n l0 l3 l6 x2 l3 (-l6)) <|
  pz_let (l6 + 1) fun l6_3 =>
  pz_gB (pz_rR 12 34 l0) fun x4 =>
  pz_gB (pz_rmL l4 1000000000) fun x5 =>
  pz_uB (pz_sI 0 x4 (l3 + l6_3) (Int64.toInt32 x5)) <|
  pz_gB (pz_dvL l4 1000000000) fun x6 =>
  K22 x6 l6_3
def X12_plainOf_L22 (n : Nat) (l0 : Option Nat) (l1 : Int64) (l3 : Int32) (l4 : Int64) (l6 : Int32) : pz_C Int32 := pz_loop (fun (K : Int64 × Int32 → pz_C Int32) (s : Int64 × Int32) => X12_plainOf_L22_body n l0 l1 l3 (fun l4 l6 => K (l4, l6)) s.1 s.2) n (l4, l6)
def X12_plainOf_b17 (n : Nat) (l0 : Option Nat) (l1 : Int64) (l3 : Int32) (s0 : Int64) : pz_C Int32 :=
  X12_plainOf_L22 n l0 l1 l3 s0 0
def X12_plainOf (n : Nat) (l0 : Option Nat) (l1 : Int64) : pz_C Int32 :=
  pz_gB (pz_rI 12 35 l0) fun x1 =>
  pz_if (0 ≤ (lg_cmp l1 0)) (X12_plainOf_b17 n l0 l1 x1 l1) <|
  X12_plainOf_b17 n l0 l1 x1 (-l1)
/-- RowSolverModel.limbs (I)I -/
def X12_limbs_b25 (n : Nat) (s0 : Int32) : pz_C Int32 :=
  pz_ret s0
def X12_limbs (n : Nat) (l0 : Option Nat) (l1 : Int32) : pz_C Int32 :=
  pz_gB (pz_rR 12 34 l0) fun x1 =>
  pz_gB (pz_aI 0 x1 l1) fun x2 =>
  pz_if (0 ≤ x2) (
    pz_gB (pz_rR 12 34 l0) fun x3 =>
    pz_gB (pz_aI 0 x3 l1) fun x4 =>
    X12_limbs_b25 n x4) <|
  pz_gB (pz_rR 12 34 l0) fun x5 =>
  pz_gB (pz_aI 0 x5 l1) fun x6 =>
  X12_limbs_b25 n (-x6)
/-- RowSolverModel.copyTo (II)V -/
def X12_copyTo_L9_body (n : Nat) (l0 : Option Nat) (l1 : Int32) (l2 : Int32) (l3 : Int32) (K9 : Int32 → pz_C Unit) (l4 : Int32) : pz_C Unit :=
  pz_if (l3 < l4) (pz_ret ()) <|
  pz_gB (pz_rR 12 34 l0) fun x2 =>
  pz_gB (pz_rR 12 34 l0) fun x3 =>
  pz_gB (pz_aI 0 x3 (l1 + l4)) fun x4 =>
  pz_uB (pz_sI 0 x2 (l2 + l4) x4) <|
  pz_let (l4 + 1) fun l4_5 =>
  K9 l4_5
def X12_copyTo_L9 (n : Nat) (l0 : Option Nat) (l1 : Int32) (l2 : Int32) (l3 : Int32) (l4 : Int32) : pz_C Unit := pz_loop (fun (K : Int32 → pz_C Unit) (s : Int32) => X12_copyTo_L9_body n l0 l1 l2 l3 (fun l4 => K l4) s) n l4
def X12_copyTo (n : Nat) (l0 : Option Nat) (l1 : Int32) (l2 : Int32) : pz_C Unit :=
  pz_cV 12 l0 (X12_limbs n l0 l1) fun x1 =>
  X12_copyTo_L9 n l0 l1 l2 x1 0
/-- RowSolverModel.setWhole (IJ)V -/
def X12_setWhole (n : Nat) (l0 : Option Nat) (l1 : Int32) (l2 : Int64) : pz_C Unit :=
  pz_gB (pz_rI 12 35 l0) fun x1 =>
  pz_cV 12 l0 (X12_plainOf n l0 l2) fun x2 =>
  pz_cV 12 l0 (X12_copyTo n l0 x2 l1) fun _ =>
  pz_uB (pz_wF 12 35 l0 (.int x1)) <|
  pz_ret ()
/-- RowSolverModel.<init> ()V -/
def X12_init_L179_body (n : Nat) (l0 : Option Nat) (K179 : Int32 → pz_C Unit) (l1 : Int32) : pz_C Unit :=
  pz_if (10 ≤ l1) (pz_ret ()) <|
  pz_cB (X12_witnessAt n l1 0) fun x21 =>
  pz_cV 12 l0 (X12_setWhole n l0 x21 0) fun _ =>
  pz_cB (X12_witnessAt n l1 1) fun x23 =>
  pz_cV 12 l0 (X12_setWhole n l0 x23 1) fun _ =>
  pz_let (l1 + 1) fun l1_25 =>
  K179 l1_25
def X12_init_L179 (n : Nat) (l0 : Option Nat) (l1 : Int32) : pz_C Unit := pz_loop (fun (K : Int32 → pz_C Unit) (s : Int32) => X12_init_L179_body n l0 (fun l1 => K l1) s) n l1
def X12_init (n : Nat) (l0 : Option Nat) : pz_C Unit :=
  pz_nn l0 <|
  pz_newI 0 120 fun x1 =>
  pz_uB (pz_wF 12 2 l0 (va_rf x1)) <|
  pz_newI 0 12 fun x2 =>
  pz_uB (pz_wF 12 3 l0 (va_rf x2)) <|
  pz_newI 0 12 fun x3 =>
  pz_uB (pz_wF 12 4 l0 (va_rf x3)) <|
  pz_newI 0 10 fun x4 =>
  pz_uB (pz_wF 12 5 l0 (va_rf x4)) <|
  pz_newI 1 10 fun x5 =>
  pz_uB (pz_wF 12 6 l0 (va_rf x5)) <|
  pz_newI 1 20 fun x6 =>
  pz_uB (pz_wF 12 12 l0 (va_rf x6)) <|
  pz_newI 0 12 fun x7 =>
  pz_uB (pz_wF 12 13 l0 (va_rf x7)) <|
  pz_newI 0 10 fun x8 =>
  pz_uB (pz_wF 12 14 l0 (va_rf x8)) <|
  pz_newI 1 310 fun x9 =>
  pz_uB (pz_wF 12 16 l0 (va_rf x9)) <|
  pz_newI 1 310 fun x10 =>
  pz_uB (pz_wF 12 17 l0 (va_rf x10)) <|
  pz_newI 0 310 fun x11 =>
  pz_uB (pz_wF 12 18 l0 (va_rf x11)) <|
  pz_newI 0 310 fun x12 =>
  pz_uB (pz_wF 12 19 l0 (va_rf x12)) <|
  pz_newI 0 310 fun x13 =>
  pz_uB (pz_wF 12 20 l0 (va_rf x13)) <|
  pz_newI 0 310 fun x14 =>
  pz_uB (pz_wF 12 21 l0 (va_rf x14)) <|
  pz_newI 0 310 fun x15 =>
  pz_uB (pz_wF 12 22 l0 (va_rf x15)) <|
  pz_newI 0 25 fun x16 =>
  pz_uB (pz_wF 12 26 l0 (va_rf x16)) <|
  pz_newI 1 25 fun x17 =>
  pz_uB (pz_wF 12 27 l0 (va_rf x17)) <|
  pz_newI 1 20 fun x18 =>
  pz_uB (pz_wF 12 32 l0 (va_rf x18)) <|
  pz_newI 0 20 fun x19 =>
  pz_uB (pz_wF 12 33 l0 (va_rf x19)) <|
  pz_newI 0 527200 fun x20 =>
  pz_uB (pz_wF 12 34 l0 (va_rf x20)) <|
  pz_uB (pz_wF 12 35 l0 (.int 447200)) <|
  X12_init_L179 n l0 0
/-- RowSolver$Rows.renew (I)V -/
def X6_renew_L12_body (n : Nat) (l0 : Option Nat) (K12 : Int32 → pz_C Unit) (l2 : Int32) : pz_C Unit :=
  pz_if (10 ≤ l2) (pz_ret ()) <|
  pz_gB (pz_rR 6 3 l0) fun x1 =>
  pz_uB (pz_sZ 1 x1 l2 0) <|
  pz_gB (pz_rR 6 4 l0) fun x2 =>
  pz_uB (pz_sI 0 x2 l2 0) <|
  pz_let (l2 + 1) fun l2_3 =>
  K12 l2_3
def X6_renew_L12 (n : Nat) (l0 : Option Nat) (l2 : Int32) : pz_C Unit := pz_loop (fun (K : Int32 → pz_C Unit) (s : Int32) => X6_renew_L12_body n l0 (fun l2 => K l2) s) n l2
def X6_renew (n : Nat) (l0 : Option Nat) (l1 : Int32) : pz_C Unit :=
  pz_uB (pz_wF 6 5 l0 (.int l1)) <|
  pz_uB (pz_wF 6 6 l0 (.int 0)) <|
  X6_renew_L12 n l0 0
/-- RowSolver$Tree.clear ()V -/
def X10_clear (n : Nat) (l0 : Option Nat) : pz_C Unit :=
  pz_uB (pz_wF 10 10 l0 (.int 0)) <|
  pz_uB (pz_wF 10 9 l0 (.int 0)) <|
  pz_uB (pz_wF 10 11 l0 (.int (-2))) <|
  pz_ret ()
/-- RowSolver$Solving.forget ()V -/
def X7_forget (n : Nat) (l0 : Option Nat) : pz_C Unit :=
  pz_uB (pz_wF 7 4 l0 (.int 0)) <|
  pz_uB (pz_wF 7 5 l0 (.int 0)) <|
  pz_uB (pz_wF 7 6 l0 (.int 0)) <|
  pz_uB (pz_wF 7 7 l0 (.int 0)) <|
  pz_uB (pz_wF 7 8 l0 (.int 0)) <|
  pz_gB (pz_rR 7 2 l0) fun x1 =>
  pz_cV 10 x1 (X10_clear n x1) fun _ =>
  pz_ret ()
/-- RowSolver.variables (I)I -/
def X11_variables_b11 (n : Nat) : pz_C Int32 :=
  pz_ret (-1)
def X11_variables (n : Nat) (l0 : Option Nat) (l1 : Int32) : pz_C Int32 :=
  pz_if (l1 < 1) (X11_variables_b11 n) <|
  pz_if (l1 ≤ 10) (
    pz_gB (pz_rR 11 0 l0) fun x1 =>
    pz_cV 6 x1 (X6_renew n x1 l1) fun _ =>
    pz_gB (pz_rR 11 5 l0) fun x3 =>
    pz_cV 7 x3 (X7_forget n x3) fun _ =>
    pz_ret l1) <|
  X11_variables_b11 n
/-- RowSolverModel.forget ()V -/
def X12_forget (n : Nat) (l0 : Option Nat) : pz_C Unit :=
  pz_uB (pz_wF 12 7 l0 (.int 0)) <|
  pz_uB (pz_wF 12 8 l0 (.int 0)) <|
  pz_uB (pz_wF 12 9 l0 (.int 0)) <|
  pz_uB (pz_wF 12 10 l0 (.int 0)) <|
  pz_uB (pz_wF 12 11 l0 (.int 0)) <|
  pz_uB (pz_wF 12 15 l0 (.int 0)) <|
  pz_uB (pz_wF 12 23 l0 (.int 0)) <|
  pz_uB (pz_wF 12 25 l0 (.int 0)) <|
  pz_ret ()
/-- RowSolverModel.variables (I)I -/
def X12_variables_b11 (n : Nat) : pz_C Int32 :=
  pz_ret (-1)
def X12_variables_L25_body (n : Nat) (l0 : Option Nat) (l1 : Int32) (K25 : Int32 → pz_C Int32) (l2 : Int32) : pz_C Int32 :=
  pz_if (10 ≤ l2) (
    pz_cV 12 l0 (X12_forget n l0) fun _ =>
    pz_ret l1) <|
  pz_gB (pz_rR 12 6 l0) fun x2 =>
  pz_uB (pz_sZ 1 x2 l2 0) <|
  pz_gB (pz_rR 12 5 l0) fun x3 =>
  pz_uB (pz_sI 0 x3 l2 0) <|
  pz_let (l2 + 1) fun l2_4 =>
  K25 l2_4
def X12_variables_L25 (n : Nat) (l0 : Option Nat) (l1 : Int32) (l2 : Int32) : pz_C Int32 := pz_loop (fun (K : Int32 → pz_C Int32) (s : Int32) => X12_variables_L25_body n l0 l1 (fun l2 => K l2) s) n l2
def X12_variables (n : Nat) (l0 : Option Nat) (l1 : Int32) : pz_C Int32 :=
  pz_if (l1 < 1) (X12_variables_b11 n) <|
  pz_if (l1 ≤ 10) (
    pz_uB (pz_wF 12 0 l0 (.int l1)) <|
    pz_uB (pz_wF 12 1 l0 (.int 0)) <|
    X12_variables_L25 n l0 l1 0) <|
  X12_variables_b11 n
/-- RowSolver$Rows.hasVariable (I)Z -/
def X6_hasVariable_b17 (n : Nat) (s0 : Int32) : pz_C Int32 :=
  pz_zz s0 (pz_ret s0)
def X6_hasVariable_b16 (n : Nat) : pz_C Int32 :=
  X6_hasVariable_b17 n 0
def X6_hasVariable (n : Nat) (l0 : Option Nat) (l1 : Int32) : pz_C Int32 :=
  pz_if (l1 < 0) (X6_hasVariable_b16 n) <|
  pz_gB (pz_rI 6 5 l0) fun x1 =>
  pz_if (x1 ≤ l1) (X6_hasVariable_b16 n) <|
  X6_hasVariable_b17 n 1
/-- RowSolver.factor (II)I -/
def X11_factor_b23 (n : Nat) : pz_C Int32 :=
  pz_ret (-1)
def X11_factor (n : Nat) (l0 : Option Nat) (l1 : Int32) (l2 : Int32) : pz_C Int32 :=
  pz_gB (pz_rR 11 0 l0) fun x1 =>
  pz_cV 6 x1 (X6_hasVariable n x1 l1) fun x2 =>
  pz_if (x2 = 0) (X11_factor_b23 n) <|
  pz_if (l2 < (-1000000)) (X11_factor_b23 n) <|
  pz_if (l2 ≤ 1000000) (
    pz_gB (pz_rR 11 0 l0) fun x3 =>
    pz_gB (pz_rR 6 4 x3) fun x4 =>
    pz_uB (pz_sI 0 x4 l1 l2) <|
    pz_ret 0) <|
  X11_factor_b23 n
/-- RowSolverModel.isVariable (I)Z -/
def X12_isVariable_b17 (n : Nat) (s0 : Int32) : pz_C Int32 :=
  pz_zz s0 (pz_ret s0)
def X12_isVariable_b16 (n : Nat) : pz_C Int32 :=
  X12_isVariable_b17 n 0
def X12_isVariable (n : Nat) (l0 : Option Nat) (l1 : Int32) : pz_C Int32 :=
  pz_if (l1 < 0) (X12_isVariable_b16 n) <|
  pz_gB (pz_rI 12 0 l0) fun x1 =>
  pz_if (x1 ≤ l1) (X12_isVariable_b16 n) <|
  X12_isVariable_b17 n 1
/-- RowSolverModel.within (II)Z -/
def X12_within_b16 (n : Nat) (s0 : Int32) : pz_C Int32 :=
  pz_zz s0 (pz_ret s0)
def X12_within_b15 (n : Nat) : pz_C Int32 :=
  X12_within_b16 n 0
def X12_within (n : Nat) (l0 : Int32) (l1 : Int32) : pz_C Int32 :=
  pz_if (l0 < (-l1)) (X12_within_b15 n) <|
  pz_if (l1 < l0) (X12_within_b15 n) <|
  X12_within_b16 n 1
/-- RowSolverModel.factor (II)I -/
def X12_factor_b17 (n : Nat) : pz_C Int32 :=
  pz_ret (-1)
def X12_factor (n : Nat) (l0 : Option Nat) (l1 : Int32) (l2 : Int32) : pz_C Int32 :=
  pz_cV 12 l0 (X12_isVariable n l0 l1) fun x1 =>
  pz_if (x1 = 0) (X12_factor_b17 n) <|
  pz_cB (X12_within n l2 1000000) fun x2 =>
  pz_if (x2 = 0) (X12_factor_b17 n) <|
  pz_gB (pz_rR 12 5 l0) fun x3 =>
  pz_uB (pz_sI 0 x3 l1 l2) <|
  pz_ret 0
/-- RowSolver$Rows.endDraft (II)I -/
def X6_endDraft_L8_body (n : Nat) (l0 : Option Nat) (l1 : Int32) (l2 : Int32) (l3 : Int32) (K8 : Int32 → pz_C Int32) (l4 : Int32) : pz_C Int32 :=
  pz_if (10 ≤ l4) (
    pz_gB (pz_rR 6 1 l0) fun x2 =>
    pz_uB (pz_sI 0 x2 l3 l1) <|
    pz_gB (pz_rR 6 2 l0) fun x3 =>
    pz_uB (pz_sI 0 x3 l3 l2) <|
    pz_gB (pz_rI 6 6 l0) fun x4 =>
    pz_uB (pz_wF 6 6 l0 (.int (x4 + 1))) <|
    pz_ret l3) <|
  pz_gB (pz_rR 6 0 l0) fun x5 =>
  pz_gB (pz_aR 6 x5 l3) fun x6 =>
  pz_gB (pz_rR 6 4 l0) fun x7 =>
  pz_gB (pz_aI 0 x7 l4) fun x8 =>
  pz_uB (pz_sI 0 x6 l4 x8) <|
  pz_gB (pz_rR 6 4 l0) fun x9 =>
  pz_uB (pz_sI 0 x9 l4 0) <|
  pz_let (l4 + 1) fun l4_10 =>
  K8 l4_10
def X6_endDraft_L8 (n : Nat) (l0 : Option Nat) (l1 : Int32) (l2 : Int32) (l3 : Int32) (l4 : Int32) : pz_C Int32 := pz_loop (fun (K : Int32 → pz_C Int32) (s : Int32) => X6_endDraft_L8_body n l0 l1 l2 l3 (fun l4 => K l4) s) n l4
def X6_endDraft (n : Nat) (l0 : Option Nat) (l1 : Int32) (l2 : Int32) : pz_C Int32 :=
  pz_gB (pz_rI 6 6 l0) fun x1 =>
  X6_endDraft_L8 n l0 l1 l2 x1 0
/-- RowSolver.row (II)I -/
def X11_row_b22 (n : Nat) : pz_C Int32 :=
  pz_ret (-1)
def X11_row_b45 (n : Nat) : pz_C Int32 :=
  pz_ret (-1)
def X11_row (n : Nat) (l0 : Option Nat) (l1 : Int32) (l2 : Int32) : pz_C Int32 :=
  pz_gB (pz_rR 11 0 l0) fun x1 =>
  pz_gB (pz_rI 6 5 x1) fun x2 =>
  pz_if (x2 = 0) (X11_row_b22 n) <|
  pz_gB (pz_rR 11 0 l0) fun x3 =>
  pz_gB (pz_rI 6 6 x3) fun x4 =>
  pz_if (x4 < 12) (
    pz_if (l1 < 0) (X11_row_b45 n) <|
    pz_if (2 < l1) (X11_row_b45 n) <|
    pz_if (l2 < (-1000000)) (X11_row_b45 n) <|
    pz_if (l2 ≤ 1000000) (
      pz_gB (pz_rR 11 5 l0) fun x5 =>
      pz_cV 7 x5 (X7_forget n x5) fun _ =>
      pz_gB (pz_rR 11 0 l0) fun x7 =>
      pz_cV 6 x7 (X6_endDraft n x7 l1 l2) fun x8 =>
      pz_ret x8) <|
    X11_row_b45 n) <|
  X11_row_b22 n
/-- RowSolverModel.row (II)I -/
def X12_row_b34 (n : Nat) : pz_C Int32 :=
  pz_ret (-1)
def X12_row_L38_body (n : Nat) (l0 : Option Nat) (l1 : Int32) (l2 : Int32) (K38 : Int32 → pz_C Int32) (l3 : Int32) : pz_C Int32 :=
  pz_if (10 ≤ l3) (
    pz_gB (pz_rR 12 3 l0) fun x4 =>
    pz_gB (pz_rI 12 1 l0) fun x5 =>
    pz_uB (pz_sI 0 x4 x5 l1) <|
    pz_gB (pz_rR 12 4 l0) fun x6 =>
    pz_gB (pz_rI 12 1 l0) fun x7 =>
    pz_uB (pz_sI 0 x6 x7 l2) <|
    pz_gB (pz_rI 12 1 l0) fun x8 =>
    pz_uB (pz_wF 12 1 l0 (.int (x8 + 1))) <|
    pz_cV 12 l0 (X12_forget n l0) fun _ =>
    pz_gB (pz_rI 12 1 l0) fun x10 =>
    pz_ret (x10 - 1)) <|
  pz_gB (pz_rR 12 2 l0) fun x11 =>
  pz_gB (pz_rI 12 1 l0) fun x12 =>
  pz_gB (pz_rR 12 5 l0) fun x13 =>
  pz_gB (pz_aI 0 x13 l3) fun x14 =>
  pz_uB (pz_sI 0 x11 ((10 * x12) + l3) x14) <|
  pz_gB (pz_rR 12 5 l0) fun x15 =>
  pz_uB (pz_sI 0 x15 l3 0) <|
  pz_let (l3 + 1) fun l3_16 =>
  K38 l3_16
def X12_row_L38 (n : Nat) (l0 : Option Nat) (l1 : Int32) (l2 : Int32) (l3 : Int32) : pz_C Int32 := pz_loop (fun (K : Int32 → pz_C Int32) (s : Int32) => X12_row_L38_body n l0 l1 l2 (fun l3 => K l3) s) n l3
def X12_row (n : Nat) (l0 : Option Nat) (l1 : Int32) (l2 : Int32) : pz_C Int32 :=
  pz_gB (pz_rI 12 0 l0) fun x1 =>
  pz_if (x1 = 0) (X12_row_b34 n) <|
  pz_if (l1 < 0) (X12_row_b34 n) <|
  pz_if (2 < l1) (X12_row_b34 n) <|
  pz_cB (X12_within n l2 1000000) fun x2 =>
  pz_if (x2 = 0) (X12_row_b34 n) <|
  pz_gB (pz_rI 12 1 l0) fun x3 =>
  pz_if (x3 = 12) (X12_row_b34 n) <|
  X12_row_L38 n l0 l1 l2 0
/-- RowSolver.whole (IZ)I -/
def X11_whole_b30 (n : Nat) (l0 : Option Nat) (l1 : Int32) (l2 : Int32) (s0 : Int32) : pz_C Int32 :=
  pz_gB (pz_rR 11 0 l0) fun x6 =>
  pz_gB (pz_rR 6 3 x6) fun x7 =>
  pz_uB (pz_sZ 1 x7 l1 l2) <|
  pz_gB (pz_rR 11 5 l0) fun x8 =>
  pz_cV 7 x8 (X7_forget n x8) fun _ =>
  pz_ret s0
def X11_whole (n : Nat) (l0 : Option Nat) (l1 : Int32) (l2 : Int32) : pz_C Int32 :=
  pz_gB (pz_rR 11 0 l0) fun x1 =>
  pz_cV 6 x1 (X6_hasVariable n x1 l1) fun x2 =>
  pz_if (x2 = 0) (pz_ret (-1)) <|
  pz_gB (pz_rR 11 0 l0) fun x3 =>
  pz_gB (pz_rR 6 3 x3) fun x4 =>
  pz_gB (pz_aI 1 x4 l1) fun x5 =>
  pz_if (x5 = 0) (X11_whole_b30 n l0 l1 l2 0) <|
  X11_whole_b30 n l0 l1 l2 1
/-- RowSolverModel.whole (IZ)I -/
def X12_whole_b24 (n : Nat) (l0 : Option Nat) (l1 : Int32) (l2 : Int32) (s0 : Int32) : pz_C Int32 :=
  pz_gB (pz_rR 12 6 l0) fun x4 =>
  pz_uB (pz_sZ 1 x4 l1 l2) <|
  pz_cV 12 l0 (X12_forget n l0) fun _ =>
  pz_ret s0
def X12_whole (n : Nat) (l0 : Option Nat) (l1 : Int32) (l2 : Int32) : pz_C Int32 :=
  pz_cV 12 l0 (X12_isVariable n l0 l1) fun x1 =>
  pz_if (x1 = 0) (pz_ret (-1)) <|
  pz_gB (pz_rR 12 6 l0) fun x2 =>
  pz_gB (pz_aI 1 x2 l1) fun x3 =>
  pz_if (x3 = 0) (X12_whole_b24 n l0 l1 l2 0) <|
  X12_whole_b24 n l0 l1 l2 1
/-- RowSolver$Tableau.seatColumn (II)V -/
def X9_seatColumn (n : Nat) (l0 : Option Nat) (l1 : Int32) (l2 : Int32) : pz_C Unit :=
  pz_gB (pz_rR 9 6 l0) fun x1 =>
  pz_uB (pz_sI 0 x1 l1 l2) <|
  pz_gB (pz_rR 9 7 l0) fun x2 =>
  pz_uB (pz_sI 0 x2 l2 l1) <|
  pz_gB (pz_rR 9 8 l0) fun x3 =>
  pz_uB (pz_sZ 1 x3 l2 0) <|
  pz_ret ()
/-- RowSolver$Tableau.seatRow (II)V -/
def X9_seatRow (n : Nat) (l0 : Option Nat) (l1 : Int32) (l2 : Int32) : pz_C Unit :=
  pz_gB (pz_rR 9 5 l0) fun x1 =>
  pz_uB (pz_sI 0 x1 l1 l2) <|
  pz_gB (pz_rR 9 7 l0) fun x2 =>
  pz_uB (pz_sI 0 x2 l2 l1) <|
  pz_gB (pz_rR 9 8 l0) fun x3 =>
  pz_uB (pz_sZ 1 x3 l2 1) <|
  pz_ret ()
/-- RowSolver$Tableau.cell (II)LRowSolver$Big; -/
def X9_cell (n : Nat) (l0 : Option Nat) (l1 : Int32) (l2 : Int32) : pz_C (Option Nat) :=
  pz_gB (pz_rR 9 2 l0) fun x1 =>
  pz_gB (pz_aR 3 x1 ((l1 * 10) + l2)) fun x2 =>
  pz_ret x2
/-- RowSolver$Tableau.begin (LRowSolver$Rows;)V -/
def X9_begin_L86_body (n : Nat) (K55 : Int32 → pz_C Unit) (l0 : Option Nat) (l1 : Option Nat) (l2 : Int32) (K86 : Int32 → pz_C Unit) (l3 : Int32) : pz_C Unit :=
  pz_gB (pz_rI 9 14 l0) fun x12 =>
  pz_if (x12 ≤ l3) (
    pz_let (l2 + 1) fun l2_13 =>
    K55 l2_13) <|
  pz_cV 9 l0 (X9_cell n l0 l2 l3) fun x14 =>
  pz_gB (pz_rR 6 0 l1) fun x15 =>
  pz_gB (pz_aR 6 x15 l2) fun x16 =>
  pz_gB (pz_aI 0 x16 l3) fun x17 =>
  pz_cV 0 x14 (X0_setLong n x14 (Int32.toInt64 x17)) fun _ =>
  pz_let (l3 + 1) fun l3_19 =>
  K86 l3_19
def X9_begin_L86 (n : Nat) (K55 : Int32 → pz_C Unit) (l0 : Option Nat) (l1 : Option Nat) (l2 : Int32) (l3 : Int32) : pz_C Unit := pz_loop (fun (K : Int32 → pz_C Unit) (s : Int32) => X9_begin_L86_body n K55 l0 l1 l2 (fun l3 => K l3) s) n l3
def X9_begin_L55_body (n : Nat) (l0 : Option Nat) (l1 : Option Nat) (K55 : Int32 → pz_C Unit) (l2 : Int32) : pz_C Unit :=
  pz_gB (pz_rI 9 13 l0) fun x6 =>
  pz_if (x6 ≤ l2) (pz_ret ()) <|
  pz_gB (pz_rR 9 3 l0) fun x7 =>
  pz_gB (pz_aR 3 x7 l2) fun x8 =>
  pz_cV 0 x8 (X0_setLong n x8 0) fun _ =>
  pz_gB (pz_rI 9 14 l0) fun x10 =>
  pz_cV 9 l0 (X9_seatRow n l0 l2 (x10 + l2)) fun _ =>
  X9_begin_L86 n K55 l0 l1 l2 0
def X9_begin_L55 (n : Nat) (l0 : Option Nat) (l1 : Option Nat) (l2 : Int32) : pz_C Unit := pz_loop (fun (K : Int32 → pz_C Unit) (s : Int32) => X9_begin_L55_body n l0 l1 (fun l2 => K l2) s) n l2
def X9_begin_L26_body (n : Nat) (l0 : Option Nat) (l1 : Option Nat) (K26 : Int32 → pz_C Unit) (l2 : Int32) : pz_C Unit :=
  pz_gB (pz_rI 9 14 l0) fun x5 =>
  pz_if (x5 ≤ l2) (X9_begin_L55 n l0 l1 0) <|
  pz_gB (pz_rR 9 4 l0) fun x20 =>
  pz_uB (pz_sL 2 x20 l2 0) <|
  pz_cV 9 l0 (X9_seatColumn n l0 l2 l2) fun _ =>
  pz_let (l2 + 1) fun l2_22 =>
  K26 l2_22
def X9_begin_L26 (n : Nat) (l0 : Option Nat) (l1 : Option Nat) (l2 : Int32) : pz_C Unit := pz_loop (fun (K : Int32 → pz_C Unit) (s : Int32) => X9_begin_L26_body n l0 l1 (fun l2 => K l2) s) n l2
def X9_begin (n : Nat) (l0 : Option Nat) (l1 : Option Nat) : pz_C Unit :=
  pz_gB (pz_rI 6 6 l1) fun x1 =>
  pz_uB (pz_wF 9 13 l0 (.int x1)) <|
  pz_gB (pz_rI 6 5 l1) fun x2 =>
  pz_uB (pz_wF 9 14 l0 (.int x2)) <|
  pz_gB (pz_rR 9 9 l0) fun x3 =>
  pz_cV 0 x3 (X0_setLong n x3 1) fun _ =>
  X9_begin_L26 n l0 l1 0
/-- RowSolver$Tree.has (I)Z -/
def X10_has_b17 (n : Nat) (s0 : Int32) : pz_C Int32 :=
  pz_zz s0 (pz_ret s0)
def X10_has_b16 (n : Nat) : pz_C Int32 :=
  X10_has_b17 n 0
def X10_has (n : Nat) (l0 : Option Nat) (l1 : Int32) : pz_C Int32 :=
  pz_if (l1 < 0) (X10_has_b16 n) <|
  pz_gB (pz_rI 10 10 l0) fun x1 =>
  pz_if (x1 ≤ l1) (X10_has_b16 n) <|
  X10_has_b17 n 1
/-- RowSolver$Leaf.<init> ()V -/
def X5_init_L15_body (n : Nat) (l0 : Option Nat) (K15 : Int32 → pz_C Unit) (l1 : Int32) : pz_C Unit :=
  pz_gB (pz_rR 5 0 l0) fun x2 =>
  pz_gB (pz_len 4 x2) fun x3 =>
  pz_if (x3 ≤ l1) (pz_ret ()) <|
  pz_gB (pz_rR 5 0 l0) fun x4 =>
  pz_new 3 2 [.null, .null] fun x5 =>
  pz_nn x5 <| pz_cB (X3_init n x5 8) fun _ =>
  pz_uB (pz_sR 4 3 x4 l1 x5) <|
  pz_let (l1 + 1) fun l1_7 =>
  K15 l1_7
def X5_init_L15 (n : Nat) (l0 : Option Nat) (l1 : Int32) : pz_C Unit := pz_loop (fun (K : Int32 → pz_C Unit) (s : Int32) => X5_init_L15_body n l0 (fun l1 => K l1) s) n l1
def X5_init (n : Nat) (l0 : Option Nat) : pz_C Unit :=
  pz_nn l0 <|
  pz_newR 4 32 fun x1 =>
  pz_uB (pz_wF 5 0 l0 (va_rf x1)) <|
  X5_init_L15 n l0 0
/-- RowSolver$Fraction.setSmall (JJ)V -/
def X3_setSmall (n : Nat) (l0 : Option Nat) (l1 : Int64) (l3 : Int64) : pz_C Unit :=
  pz_gB (pz_rR 3 0 l0) fun x1 =>
  pz_cV 0 x1 (X0_setLong n x1 l1) fun _ =>
  pz_gB (pz_rR 3 1 l0) fun x3 =>
  pz_cV 0 x3 (X0_setLong n x3 l3) fun _ =>
  pz_ret ()
/-- RowSolver$Leaf.clear ()V -/
def X5_clear_L2_body (n : Nat) (l0 : Option Nat) (K2 : Int32 → pz_C Unit) (l1 : Int32) : pz_C Unit :=
  pz_gB (pz_rR 5 0 l0) fun x1 =>
  pz_gB (pz_len 4 x1) fun x2 =>
  pz_if (x2 ≤ l1) (pz_ret ()) <|
  pz_gB (pz_rR 5 0 l0) fun x3 =>
  pz_gB (pz_aR 4 x3 l1) fun x4 =>
  pz_cV 3 x4 (X3_setSmall n x4 0 1) fun _ =>
  pz_let (l1 + 1) fun l1_6 =>
  K2 l1_6
def X5_clear_L2 (n : Nat) (l0 : Option Nat) (l1 : Int32) : pz_C Unit := pz_loop (fun (K : Int32 → pz_C Unit) (s : Int32) => X5_clear_L2_body n l0 (fun l1 => K l1) s) n l1
def X5_clear (n : Nat) (l0 : Option Nat) : pz_C Unit :=
  X5_clear_L2 n l0 0
/-- RowSolver$Tree.addLeaf (I)V -/
def X10_addLeaf_b58 (n : Nat) : pz_C Unit :=
  pz_ret ()
def X10_addLeaf_b203 (n : Nat) : pz_C Unit :=
  pz_ret ()
def X10_addLeaf_b81 (n : Nat) (l0 : Option Nat) (l1 : Int32) (l2 : Int32) (l3 : Int32) : pz_C Unit :=
  pz_gB (pz_rR 10 8 l0) fun x9 =>
  pz_gB (pz_aR 5 x9 l3) fun x10 =>
  pz_cV 5 x10 (X5_clear n x10) fun _ =>
  pz_gB (pz_rI 10 10 l0) fun x12 =>
  pz_uB (pz_wF 10 11 l0 (.int x12)) <|
  pz_gB (pz_rI 10 10 l0) fun x13 =>
  pz_uB (pz_wF 10 10 l0 (.int (x13 + 1))) <|
  pz_gB (pz_rR 10 0 l0) fun x14 =>
  pz_gB (pz_rI 10 11 l0) fun x15 =>
  pz_uB (pz_sI 0 x14 x15 l1) <|
  pz_gB (pz_rR 10 1 l0) fun x16 =>
  pz_gB (pz_rI 10 11 l0) fun x17 =>
  pz_uB (pz_sI 0 x16 x17 (-2)) <|
  pz_gB (pz_rR 10 2 l0) fun x18 =>
  pz_gB (pz_rI 10 11 l0) fun x19 =>
  pz_uB (pz_sI 0 x18 x19 (-2)) <|
  pz_gB (pz_rR 10 6 l0) fun x20 =>
  pz_gB (pz_rI 10 11 l0) fun x21 =>
  pz_uB (pz_sZ 1 x20 x21 0) <|
  pz_gB (pz_rR 10 7 l0) fun x22 =>
  pz_gB (pz_rI 10 11 l0) fun x23 =>
  pz_uB (pz_sI 0 x22 x23 l3) <|
  pz_if (l2 = 0) (
    pz_gB (pz_rI 10 9 l0) fun x24 =>
    pz_uB (pz_wF 10 9 l0 (.int (x24 + 1))) <|
    pz_cV 10 l0 (X10_has n l0 l1) fun x25 =>
    pz_if (x25 = 0) (X10_addLeaf_b203 n) <|
    pz_gB (pz_rR 10 2 l0) fun x26 =>
    pz_gB (pz_rI 10 11 l0) fun x27 =>
    pz_uB (pz_sI 0 x26 l1 x27) <|
    X10_addLeaf_b203 n) <|
  pz_gB (pz_rR 10 1 l0) fun x28 =>
  pz_gB (pz_rI 10 11 l0) fun x29 =>
  pz_uB (pz_sI 0 x28 l1 x29) <|
  pz_ret ()
def X10_addLeaf_b40 (n : Nat) (l0 : Option Nat) (l1 : Int32) (l2 : Int32) (s0 : Int32) : pz_C Unit :=
  pz_gB (pz_rI 10 10 l0) fun x3 =>
  pz_if (301 ≤ x3) (X10_addLeaf_b58 n) <|
  pz_if (s0 < 151) (
    pz_gB (pz_rR 10 8 l0) fun x4 =>
    pz_gB (pz_aR 5 x4 s0) fun x5 =>
    pz_if (x5 = none) (
      pz_gB (pz_rR 10 8 l0) fun x6 =>
      pz_new 5 1 [.null] fun x7 =>
      pz_nn x7 <| pz_cB (X5_init n x7) fun _ =>
      pz_uB (pz_sR 5 5 x6 s0 x7) <|
      X10_addLeaf_b81 n l0 l1 l2 s0) <|
    X10_addLeaf_b81 n l0 l1 l2 s0) <|
  X10_addLeaf_b58 n
def X10_addLeaf_b22 (n : Nat) (l0 : Option Nat) (l1 : Int32) (s0 : Int32) : pz_C Unit :=
  pz_if (s0 = 0) (
    pz_gB (pz_rI 10 9 l0) fun x2 =>
    X10_addLeaf_b40 n l0 l1 s0 x2) <|
  pz_gB (pz_rR 10 7 l0) fun x30 =>
  pz_gB (pz_aI 0 x30 l1) fun x31 =>
  X10_addLeaf_b40 n l0 l1 s0 x31
def X10_addLeaf_b21 (n : Nat) (l0 : Option Nat) (l1 : Int32) : pz_C Unit :=
  X10_addLeaf_b22 n l0 l1 0
def X10_addLeaf (n : Nat) (l0 : Option Nat) (l1 : Int32) : pz_C Unit :=
  pz_cV 10 l0 (X10_has n l0 l1) fun x1 =>
  pz_if (x1 = 0) (X10_addLeaf_b21 n l0 l1) <|
  pz_gB (pz_rR 10 1 l0) fun x32 =>
  pz_gB (pz_aI 0 x32 l1) fun x33 =>
  pz_if (0 ≤ x33) (X10_addLeaf_b21 n l0 l1) <|
  X10_addLeaf_b22 n l0 l1 1
/-- RowSolver$Bounds.setRows (LRowSolver$Rows;)V -/
def X1_setRows_b57 (n : Nat) (K2 : Int32 → pz_C Unit) (l0 : Option Nat) (l1 : Option Nat) (l2 : Int32) (l3 : Int32) (s0 : Option Nat) (s1 : Int32) (s2 : Int32) : pz_C Unit :=
  pz_uB (pz_sZ 1 s0 s1 s2) <|
  pz_gB (pz_rR 1 2 l0) fun x10 =>
  pz_gB (pz_rR 6 2 l1) fun x11 =>
  pz_gB (pz_aI 0 x11 l2) fun x12 =>
  pz_uB (pz_sL 2 x10 l3 (Int32.toInt64 x12)) <|
  pz_gB (pz_rR 1 3 l0) fun x13 =>
  pz_gB (pz_rR 6 2 l1) fun x14 =>
  pz_gB (pz_aI 0 x14 l2) fun x15 =>
  pz_uB (pz_sL 2 x13 l3 (Int32.toInt64 x15)) <|
  pz_let (l2 + 1) fun l2_16 =>
  K2 l2_16
def X1_setRows_b37 (n : Nat) (K2 : Int32 → pz_C Unit) (l0 : Option Nat) (l1 : Option Nat) (l2 : Int32) (l3 : Int32) (s0 : Option Nat) (s1 : Int32) (s2 : Int32) : pz_C Unit :=
  pz_uB (pz_sZ 1 s0 s1 s2) <|
  pz_gB (pz_rR 1 1 l0) fun x7 =>
  pz_gB (pz_rR 6 1 l1) fun x8 =>
  pz_gB (pz_aI 0 x8 l2) fun x9 =>
  pz_if (x9 = 0) (X1_setRows_b57 n K2 l0 l1 l2 l3 x7 l3 0) <|
  X1_setRows_b57 n K2 l0 l1 l2 l3 x7 l3 1
def X1_setRows_L2_body (n : Nat) (l0 : Option Nat) (l1 : Option Nat) (K2 : Int32 → pz_C Unit) (l2 : Int32) : pz_C Unit :=
  pz_gB (pz_rI 6 6 l1) fun x1 =>
  pz_if (x1 ≤ l2) (pz_ret ()) <|
  pz_gB (pz_rI 6 5 l1) fun x2 =>
  pz_let (x2 + l2) fun l3_3 =>
  pz_gB (pz_rR 1 0 l0) fun x4 =>
  pz_gB (pz_rR 6 1 l1) fun x5 =>
  pz_gB (pz_aI 0 x5 l2) fun x6 =>
  pz_if (x6 = 1) (X1_setRows_b37 n K2 l0 l1 l2 l3_3 x4 l3_3 0) <|
  X1_setRows_b37 n K2 l0 l1 l2 l3_3 x4 l3_3 1
def X1_setRows_L2 (n : Nat) (l0 : Option Nat) (l1 : Option Nat) (l2 : Int32) : pz_C Unit := pz_loop (fun (K : Int32 → pz_C Unit) (s : Int32) => X1_setRows_L2_body n l0 l1 (fun l2 => K l2) s) n l2
def X1_setRows (n : Nat) (l0 : Option Nat) (l1 : Option Nat) : pz_C Unit :=
  X1_setRows_L2 n l0 l1 0
/-- RowSolver$Bounds.tightenUpper (IJ)V -/
def X1_tightenUpper_b28 (n : Nat) (l0 : Option Nat) (l1 : Int32) (s0 : Option Nat) (s1 : Int32) (s2 : Int64) : pz_C Unit :=
  pz_uB (pz_sL 2 s0 s1 s2) <|
  pz_gB (pz_rR 1 0 l0) fun x4 =>
  pz_uB (pz_sZ 1 x4 l1 1) <|
  pz_ret ()
def X1_tightenUpper (n : Nat) (l0 : Option Nat) (l1 : Int32) (l2 : Int64) : pz_C Unit :=
  pz_gB (pz_rR 1 2 l0) fun x1 =>
  pz_gB (pz_rR 1 0 l0) fun x2 =>
  pz_gB (pz_aI 1 x2 l1) fun x3 =>
  pz_if (x3 = 0) (X1_tightenUpper_b28 n l0 l1 x1 l1 l2) <|
  pz_gB (pz_rR 1 2 l0) fun x5 =>
  pz_gB (pz_aL 2 x5 l1) fun x6 =>
  X1_tightenUpper_b28 n l0 l1 x1 l1 (if l2 < x6 then l2 else x6)
/-- RowSolver$Bounds.tightenLower (IJ)V -/
def X1_tightenLower_b28 (n : Nat) (l0 : Option Nat) (l1 : Int32) (s0 : Option Nat) (s1 : Int32) (s2 : Int64) : pz_C Unit :=
  pz_uB (pz_sL 2 s0 s1 s2) <|
  pz_gB (pz_rR 1 1 l0) fun x4 =>
  pz_uB (pz_sZ 1 x4 l1 1) <|
  pz_ret ()
def X1_tightenLower (n : Nat) (l0 : Option Nat) (l1 : Int32) (l2 : Int64) : pz_C Unit :=
  pz_gB (pz_rR 1 3 l0) fun x1 =>
  pz_gB (pz_rR 1 1 l0) fun x2 =>
  pz_gB (pz_aI 1 x2 l1) fun x3 =>
  pz_if (x3 = 0) (X1_tightenLower_b28 n l0 l1 x1 l1 l2) <|
  pz_gB (pz_rR 1 3 l0) fun x5 =>
  pz_gB (pz_aL 2 x5 l1) fun x6 =>
  X1_tightenLower_b28 n l0 l1 x1 l1 (if l2 < x6 then x6 else l2)
/-- RowSolver$Bounds.setSplits (LRowSolver$Tree;II[J)V -/
def X1_setSplits_b132 (n : Nat) : pz_C Unit :=
  pz_ret ()
def X1_setSplits_b122 (n : Nat) (K37 : Int32 → Int32 → pz_C Unit) (l0 : Option Nat) (l1 : Option Nat) (l4 : Option Nat) (l6 : Int32) (l7 : Int32) : pz_C Unit :=
  pz_let (l6 + 1) fun l6_12 =>
  K37 l7 l6_12
def X1_setSplits_L37_body (n : Nat) (l0 : Option Nat) (l1 : Option Nat) (l4 : Option Nat) (K37 : Int32 → Int32 → pz_C Unit) (l5 : Int32) (l6 : Int32) : pz_C Unit :=
  pz_if (301 ≤ l6) (X1_setSplits_b132 n) <|
  pz_cV 10 l1 (X10_has n l1 l5) fun x1 =>
  pz_if (x1 = 0) (X1_setSplits_b132 n) <|
  pz_gB (pz_rR 10 0 l1) fun x2 =>
  pz_gB (pz_aI 0 x2 l5) fun x3 =>
  pz_if (x3 < 0) (X1_setSplits_b132 n) <|
  pz_gB (pz_rR 10 0 l1) fun x4 =>
  pz_gB (pz_aI 0 x4 l5) fun x5 =>
  pz_gB (pz_rR 10 1 l1) fun x6 =>
  pz_gB (pz_aI 0 x6 x5) fun x7 =>
  pz_if (x7 = l5) (
    pz_gB (pz_rR 10 3 l1) fun x8 =>
    pz_gB (pz_aI 0 x8 x5) fun x9 =>
    pz_gB (pz_aL 2 l4 x5) fun x10 =>
    pz_cV 1 l0 (X1_tightenUpper n l0 x9 x10) fun _ =>
    X1_setSplits_b122 n K37 l0 l1 l4 l6 x5) <|
  pz_gB (pz_rR 10 3 l1) fun x13 =>
  pz_gB (pz_aI 0 x13 x5) fun x14 =>
  pz_gB (pz_aL 2 l4 x5) fun x15 =>
  pz_cV 1 l0 (X1_tightenLower n l0 x14 (x15 + 1)) fun _ =>
  X1_setSplits_b122 n K37 l0 l1 l4 l6 x5
def X1_setSplits_L37 (n : Nat) (l0 : Option Nat) (l1 : Option Nat) (l4 : Option Nat) (l5 : Int32) (l6 : Int32) : pz_C Unit := pz_loop (fun (K : Int32 × Int32 → pz_C Unit) (s : Int32 × Int32) => X1_setSplits_L37_body n l0 l1 l4 (fun l5 l6 => K (l5, l6)) s.1 s.2) n (l5, l6)
def X1_setSplits_L3_body (n : Nat) (l0 : Option Nat) (l1 : Option Nat) (l2 : Int32) (l3 : Int32) (l4 : Option Nat) (K3 : Int32 → pz_C Unit) (l5 : Int32) : pz_C Unit :=
  pz_if (l2 ≤ l5) (X1_setSplits_L37 n l0 l1 l4 l3 0) <|
  pz_gB (pz_rR 1 0 l0) fun x17 =>
  pz_uB (pz_sZ 1 x17 l5 0) <|
  pz_gB (pz_rR 1 1 l0) fun x18 =>
  pz_uB (pz_sZ 1 x18 l5 0) <|
  pz_let (l5 + 1) fun l5_19 =>
  K3 l5_19
def X1_setSplits_L3 (n : Nat) (l0 : Option Nat) (l1 : Option Nat) (l2 : Int32) (l3 : Int32) (l4 : Option Nat) (l5 : Int32) : pz_C Unit := pz_loop (fun (K : Int32 → pz_C Unit) (s : Int32) => X1_setSplits_L3_body n l0 l1 l2 l3 l4 (fun l5 => K l5) s) n l5
def X1_setSplits (n : Nat) (l0 : Option Nat) (l1 : Option Nat) (l2 : Int32) (l3 : Int32) (l4 : Option Nat) : pz_C Unit :=
  X1_setSplits_L3 n l0 l1 l2 l3 l4 0
/-- RowSolver$Solving.setSplitBounds ()V -/
def X7_setSplitBounds (n : Nat) (l0 : Option Nat) : pz_C Unit :=
  pz_gB (pz_rR 7 3 l0) fun x1 =>
  pz_gB (pz_rR 7 2 l0) fun x2 =>
  pz_gB (pz_rR 7 0 l0) fun x3 =>
  pz_gB (pz_rI 6 5 x3) fun x4 =>
  pz_gB (pz_rR 7 2 l0) fun x5 =>
  pz_gB (pz_rI 10 11 x5) fun x6 =>
  pz_gB (pz_rR 7 2 l0) fun x7 =>
  pz_gB (pz_rR 10 4 x7) fun x8 =>
  pz_cV 1 x1 (X1_setSplits n x1 x2 x4 x6 x8) fun _ =>
  pz_ret ()
/-- RowSolver$Solving.begin ()V -/
def X7_begin (n : Nat) (l0 : Option Nat) : pz_C Unit :=
  pz_uB (pz_wF 7 4 l0 (.int 1)) <|
  pz_gB (pz_rR 7 1 l0) fun x1 =>
  pz_gB (pz_rR 7 0 l0) fun x2 =>
  pz_cV 9 x1 (X9_begin n x1 x2) fun _ =>
  pz_gB (pz_rR 7 2 l0) fun x4 =>
  pz_cV 10 x4 (X10_addLeaf n x4 (-2)) fun _ =>
  pz_gB (pz_rR 7 3 l0) fun x6 =>
  pz_gB (pz_rR 7 0 l0) fun x7 =>
  pz_cV 1 x6 (X1_setRows n x6 x7) fun _ =>
  pz_cV 7 l0 (X7_setSplitBounds n l0) fun _ =>
  pz_ret ()
/-- RowSolver$Tableau.places ()I -/
def X9_places (n : Nat) (l0 : Option Nat) : pz_C Int32 :=
  pz_gB (pz_rI 9 14 l0) fun x1 =>
  pz_gB (pz_rI 9 13 l0) fun x2 =>
  pz_ret (x1 + x2)
/-- RowSolver$Tableau.rowOf (I)I -/
def X9_rowOf_b20 (n : Nat) (s0 : Int32) : pz_C Int32 :=
  pz_ret s0
def X9_rowOf (n : Nat) (l0 : Option Nat) (l1 : Int32) : pz_C Int32 :=
  pz_gB (pz_rR 9 8 l0) fun x1 =>
  pz_gB (pz_aI 1 x1 l1) fun x2 =>
  pz_if (x2 = 0) (X9_rowOf_b20 n (-2)) <|
  pz_gB (pz_rR 9 7 l0) fun x3 =>
  pz_gB (pz_aI 0 x3 l1) fun x4 =>
  X9_rowOf_b20 n x4
/-- RowSolver$Sum.clear ()V -/
def X8_clear_L2_body (n : Nat) (l0 : Option Nat) (K2 : Int32 → pz_C Unit) (l1 : Int32) : pz_C Unit :=
  pz_gB (pz_rI 8 1 l0) fun x1 =>
  pz_if (x1 ≤ l1) (
    pz_uB (pz_wF 8 1 l0 (.int 0)) <|
    pz_ret ()) <|
  pz_gB (pz_rR 8 0 l0) fun x2 =>
  pz_uB (pz_sL 2 x2 l1 0) <|
  pz_let (l1 + 1) fun l1_3 =>
  K2 l1_3
def X8_clear_L2 (n : Nat) (l0 : Option Nat) (l1 : Int32) : pz_C Unit := pz_loop (fun (K : Int32 → pz_C Unit) (s : Int32) => X8_clear_L2_body n l0 (fun l1 => K l1) s) n l1
def X8_clear (n : Nat) (l0 : Option Nat) : pz_C Unit :=
  X8_clear_L2 n l0 0
/-- RowSolver$Sum.addShifted (LRowSolver$Big;JI)V -/
def X8_addShifted_b166 (n : Nat) : pz_C Unit :=
  pz_ret ()
def X8_addShifted_b151 (n : Nat) (l0 : Option Nat) (l7 : Int32) : pz_C Unit :=
  pz_gB (pz_rI 8 1 l0) fun x2 =>
  pz_if (l7 ≤ x2) (X8_addShifted_b166 n) <|
  pz_uB (pz_wF 8 1 l0 (.int l7)) <|
  X8_addShifted_b166 n
def X8_addShifted_L92_body (n : Nat) (l0 : Option Nat) (K92 : Int64 → Int32 → pz_C Unit) (l5 : Int64) (l7 : Int32) : pz_C Unit :=
  pz_if ((lg_cmp l5 0) = 0) (X8_addShifted_b151 n l0 l7) <|
  pz_gB (pz_rR 8 0 l0) fun x3 =>
  pz_gB (pz_len 2 x3) fun x4 =>
  pz_if (x4 ≤ l7) (X8_addShifted_b151 n l0 l7) <|
  pz_gB (pz_rR 8 0 l0) fun x5 =>
  pz_gB (pz_aL 2 x5 l7) fun x6 =>
  pz_let (x6 + l5) fun l8_7 =>
  pz_gB (pz_dvL l8_7 1000000000) fun x8 =>
  pz_gB (pz_rR 8 0 l0) fun x9 =>
  pz_uB (pz_sL 2 x9 l7 (l8_7 - (x8 * 1000000000))) <|
  pz_let (l7 + 1) fun l7_10 =>
  K92 x8 l7_10
def X8_addShifted_L92 (n : Nat) (l0 : Option Nat) (l5 : Int64) (l7 : Int32) : pz_C Unit := pz_loop (fun (K : Int64 × Int32 → pz_C Unit) (s : Int64 × Int32) => X8_addShifted_L92_body n l0 (fun l5 l7 => K (l5, l7)) s.1 s.2) n (l5, l7)
def X8_addShifted_L17_body (n : Nat) (l0 : Option Nat) (l1 : Option Nat) (l2 : Int64) (K17 : Int64 → Int32 → Int32 → pz_C Unit) (l5 : Int64) (l7 : Int32) (l8 : Int32) : pz_C Unit :=
  pz_gB (pz_rI 0 1 l1) fun x1 =>
  pz_if (x1 ≤ l8) (X8_addShifted_L92 n l0 l5 l7) <|
  pz_gB (pz_rR 8 0 l0) fun x11 =>
  pz_gB (pz_len 2 x11) fun x12 =>
  pz_if (x12 ≤ l7) (X8_addShifted_L92 n l0 l5 l7) <|
  pz_gB (pz_rR 8 0 l0) fun x13 =>
  pz_gB (pz_aL 2 x13 l7) fun x14 =>
  pz_gB (pz_rR 0 0 l1) fun x15 =>
  pz_gB (pz_aI 0 x15 l8) fun x16 =>
  pz_let ((x14 + (l2 * (Int32.toInt64 x16))) + l5) fun l9_17 =>
  pz_gB (pz_dvL l9_17 1000000000) fun x18 =>
  pz_gB (pz_rR 8 0 l0) fun x19 =>
  pz_uB (pz_sL 2 x19 l7 (l9_17 - (x18 * 1000000000))) <|
  pz_let (l7 + 1) fun l7_20 =>
  pz_let (l8 + 1) fun l8_21 =>
  K17 x18 l7_20 l8_21
def X8_addShifted_L17 (n : Nat) (l0 : Option Nat) (l1 : Option Nat) (l2 : Int64) (l5 : Int64) (l7 : Int32) (l8 : Int32) : pz_C Unit := pz_loop (fun (K : Int64 × Int32 × Int32 → pz_C Unit) (s : Int64 × Int32 × Int32) => X8_addShifted_L17_body n l0 l1 l2 (fun l5 l7 l8 => K (l5, l7, l8)) s.1 s.2.1 s.2.2) n (l5, l7, l8)
def X8_addShifted (n : Nat) (l0 : Option Nat) (l1 : Option Nat) (l2 : Int64) (l4 : Int32) : pz_C Unit :=
  pz_if ((lg_cmp l2 0) = 0) (pz_ret ()) <|
  X8_addShifted_L17 n l0 l1 l2 0 l4 0
/-- RowSolver$Sum.addTimes (LRowSolver$Big;J)V -/
def X8_addTimes_b52 (n : Nat) : pz_C Unit :=
  pz_ret ()
def X8_addTimes_L12_body (n : Nat) (l0 : Option Nat) (l1 : Option Nat) (K12 : Int64 → Int32 → pz_C Unit) (l4 : Int64) (l6 : Int32) : pz_C Unit :=
  pz_if (3 ≤ l6) (X8_addTimes_b52 n) <|
  pz_if ((lg_cmp l4 0) = 0) (X8_addTimes_b52 n) <|
  pz_gB (pz_rmL l4 1000000000) fun x3 =>
  pz_cV 8 l0 (X8_addShifted n l0 l1 x3 l6) fun _ =>
  pz_gB (pz_dvL l4 1000000000) fun x5 =>
  pz_let (l6 + 1) fun l6_6 =>
  K12 x5 l6_6
def X8_addTimes_L12 (n : Nat) (l0 : Option Nat) (l1 : Option Nat) (l4 : Int64) (l6 : Int32) : pz_C Unit := pz_loop (fun (K : Int64 × Int32 → pz_C Unit) (s : Int64 × Int32) => X8_addTimes_L12_body n l0 l1 (fun l4 l6 => K (l4, l6)) s.1 s.2) n (l4, l6)
def X8_addTimes (n : Nat) (l0 : Option Nat) (l1 : Option Nat) (l2 : Int64) : pz_C Unit :=
  pz_gB (pz_rI 0 2 l1) fun x1 =>
  pz_let (l2 * (Int32.toInt64 x1)) fun l4_2 =>
  X8_addTimes_L12 n l0 l1 l4_2 0
/-- RowSolver$Sum.signNow ()I -/
def X8_signNow_b38 (n : Nat) (s0 : Int32) : pz_C Int32 :=
  pz_ret s0
def X8_signNow_L7_body (n : Nat) (l0 : Option Nat) (K7 : Int32 → pz_C Int32) (l1 : Int32) : pz_C Int32 :=
  pz_if (l1 < 0) (pz_ret 0) <|
  pz_gB (pz_rR 8 0 l0) fun x3 =>
  pz_gB (pz_aL 2 x3 l1) fun x4 =>
  pz_if ((lg_cmp x4 0) = 0) (
    pz_let (l1 + (-1)) fun l1_5 =>
    K7 l1_5) <|
  pz_gB (pz_rR 8 0 l0) fun x6 =>
  pz_gB (pz_aL 2 x6 l1) fun x7 =>
  pz_if ((lg_cmp x7 0) ≤ 0) (X8_signNow_b38 n (-1)) <|
  X8_signNow_b38 n 1
def X8_signNow_L7 (n : Nat) (l0 : Option Nat) (l1 : Int32) : pz_C Int32 := pz_loop (fun (K : Int32 → pz_C Int32) (s : Int32) => X8_signNow_L7_body n l0 (fun l1 => K l1) s) n l1
def X8_signNow (n : Nat) (l0 : Option Nat) : pz_C Int32 :=
  pz_gB (pz_rI 8 1 l0) fun x1 =>
  pz_let (x1 - 1) fun l1_2 =>
  X8_signNow_L7 n l0 l1_2
/-- RowSolver$Tableau.compareAmount (IJ)I -/
def X9_compareAmount (n : Nat) (l0 : Option Nat) (l1 : Int32) (l2 : Int64) : pz_C Int32 :=
  pz_gB (pz_rR 9 0 l0) fun x1 =>
  pz_cV 8 x1 (X8_clear n x1) fun _ =>
  pz_gB (pz_rR 9 0 l0) fun x3 =>
  pz_gB (pz_rR 9 3 l0) fun x4 =>
  pz_gB (pz_aR 3 x4 l1) fun x5 =>
  pz_cV 8 x3 (X8_addTimes n x3 x5 1) fun _ =>
  pz_gB (pz_rR 9 0 l0) fun x7 =>
  pz_gB (pz_rR 9 9 l0) fun x8 =>
  pz_cV 8 x7 (X8_addTimes n x7 x8 (-l2)) fun _ =>
  pz_gB (pz_rR 9 0 l0) fun x10 =>
  pz_cV 8 x10 (X8_signNow n x10) fun x11 =>
  pz_ret x11
/-- RowSolver$Solving.sideBeyond (II)I -/
def X7_sideBeyond_b71 (n : Nat) (s0 : Int32) : pz_C Int32 :=
  pz_ret s0
def X7_sideBeyond_b70 (n : Nat) : pz_C Int32 :=
  X7_sideBeyond_b71 n 0
def X7_sideBeyond_b34 (n : Nat) (l0 : Option Nat) (l1 : Int32) (l2 : Int32) : pz_C Int32 :=
  pz_gB (pz_rR 7 3 l0) fun x4 =>
  pz_gB (pz_rR 1 0 x4) fun x5 =>
  pz_gB (pz_aI 1 x5 l1) fun x6 =>
  pz_if (x6 = 0) (X7_sideBeyond_b70 n) <|
  pz_gB (pz_rR 7 1 l0) fun x7 =>
  pz_gB (pz_rR 7 3 l0) fun x8 =>
  pz_gB (pz_rR 1 2 x8) fun x9 =>
  pz_gB (pz_aL 2 x9 l1) fun x10 =>
  pz_cV 9 x7 (X9_compareAmount n x7 l2 x10) fun x11 =>
  pz_if (x11 ≤ 0) (X7_sideBeyond_b70 n) <|
  X7_sideBeyond_b71 n 1
def X7_sideBeyond (n : Nat) (l0 : Option Nat) (l1 : Int32) (l2 : Int32) : pz_C Int32 :=
  pz_gB (pz_rR 7 3 l0) fun x1 =>
  pz_gB (pz_rR 1 1 x1) fun x2 =>
  pz_gB (pz_aI 1 x2 l1) fun x3 =>
  pz_if (x3 = 0) (X7_sideBeyond_b34 n l0 l1 l2) <|
  pz_gB (pz_rR 7 1 l0) fun x12 =>
  pz_gB (pz_rR 7 3 l0) fun x13 =>
  pz_gB (pz_rR 1 3 x13) fun x14 =>
  pz_gB (pz_aL 2 x14 l1) fun x15 =>
  pz_cV 9 x12 (X9_compareAmount n x12 l2 x15) fun x16 =>
  pz_if (0 ≤ x16) (X7_sideBeyond_b34 n l0 l1 l2) <|
  pz_ret (-1)
/-- RowSolver$Solving.firstBeyond ()I -/
def X7_firstBeyond_b37 (n : Nat) (K2 : Int32 → pz_C Int32) (l0 : Option Nat) (l1 : Int32) : pz_C Int32 :=
  pz_let (l1 + 1) fun l1_5 =>
  K2 l1_5
def X7_firstBeyond_L2_body (n : Nat) (l0 : Option Nat) (K2 : Int32 → pz_C Int32) (l1 : Int32) : pz_C Int32 :=
  pz_gB (pz_rR 7 1 l0) fun x1 =>
  pz_cV 9 x1 (X9_places n x1) fun x2 =>
  pz_if (x2 ≤ l1) (pz_ret (-2)) <|
  pz_gB (pz_rR 7 1 l0) fun x3 =>
  pz_cV 9 x3 (X9_rowOf n x3 l1) fun x4 =>
  pz_if (x4 < 0) (X7_firstBeyond_b37 n K2 l0 l1) <|
  pz_cV 7 l0 (X7_sideBeyond n l0 l1 x4) fun x6 =>
  pz_if (x6 = 0) (X7_firstBeyond_b37 n K2 l0 l1) <|
  pz_ret l1
def X7_firstBeyond_L2 (n : Nat) (l0 : Option Nat) (l1 : Int32) : pz_C Int32 := pz_loop (fun (K : Int32 → pz_C Int32) (s : Int32) => X7_firstBeyond_L2_body n l0 (fun l1 => K l1) s) n l1
def X7_firstBeyond (n : Nat) (l0 : Option Nat) : pz_C Int32 :=
  X7_firstBeyond_L2 n l0 0
/-- RowSolver$Big.isOne ()Z -/
def X0_isOne_b30 (n : Nat) (s0 : Int32) : pz_C Int32 :=
  pz_zz s0 (pz_ret s0)
def X0_isOne_b29 (n : Nat) : pz_C Int32 :=
  X0_isOne_b30 n 0
def X0_isOne (n : Nat) (l0 : Option Nat) : pz_C Int32 :=
  pz_gB (pz_rI 0 1 l0) fun x1 =>
  pz_if (x1 = 1) (
    pz_gB (pz_rR 0 0 l0) fun x2 =>
    pz_gB (pz_aI 0 x2 0) fun x3 =>
    pz_if (x3 = 1) (
      pz_gB (pz_rI 0 2 l0) fun x4 =>
      pz_if (x4 ≤ 0) (X0_isOne_b29 n) <|
      X0_isOne_b30 n 1) <|
    X0_isOne_b29 n) <|
  X0_isOne_b29 n
/-- RowSolver$Big.compareSize (LRowSolver$Big;)I -/
def X0_compareSize_b74 (n : Nat) (s0 : Int32) : pz_C Int32 :=
  pz_ret s0
def X0_compareSize_L35_body (n : Nat) (l0 : Option Nat) (l1 : Option Nat) (K35 : Int32 → pz_C Int32) (l2 : Int32) : pz_C Int32 :=
  pz_if (l2 < 0) (pz_ret 0) <|
  pz_gB (pz_rR 0 0 l0) fun x5 =>
  pz_gB (pz_aI 0 x5 l2) fun x6 =>
  pz_gB (pz_rR 0 0 l1) fun x7 =>
  pz_gB (pz_aI 0 x7 l2) fun x8 =>
  pz_if (x6 = x8) (
    pz_let (l2 + (-1)) fun l2_9 =>
    K35 l2_9) <|
  pz_gB (pz_rR 0 0 l0) fun x10 =>
  pz_gB (pz_aI 0 x10 l2) fun x11 =>
  pz_gB (pz_rR 0 0 l1) fun x12 =>
  pz_gB (pz_aI 0 x12 l2) fun x13 =>
  pz_if (x13 ≤ x11) (X0_compareSize_b74 n 1) <|
  X0_compareSize_b74 n (-1)
def X0_compareSize_L35 (n : Nat) (l0 : Option Nat) (l1 : Option Nat) (l2 : Int32) : pz_C Int32 := pz_loop (fun (K : Int32 → pz_C Int32) (s : Int32) => X0_compareSize_L35_body n l0 l1 (fun l2 => K l2) s) n l2
def X0_compareSize_b27 (n : Nat) (s0 : Int32) : pz_C Int32 :=
  pz_ret s0
def X0_compareSize (n : Nat) (l0 : Option Nat) (l1 : Option Nat) : pz_C Int32 :=
  pz_gB (pz_rI 0 1 l0) fun x1 =>
  pz_gB (pz_rI 0 1 l1) fun x2 =>
  pz_if (x1 = x2) (
    pz_gB (pz_rI 0 1 l0) fun x3 =>
    pz_let (x3 - 1) fun l2_4 =>
    X0_compareSize_L35 n l0 l1 l2_4) <|
  pz_gB (pz_rI 0 1 l0) fun x14 =>
  pz_gB (pz_rI 0 1 l1) fun x15 =>
  pz_if (x15 ≤ x14) (X0_compareSize_b27 n 1) <|
  X0_compareSize_b27 n (-1)
/-- RowSolver$Big.set (LRowSolver$Big;I)V -/
def X0_set_L18_body (n : Nat) (l0 : Option Nat) (l1 : Option Nat) (l2 : Int32) (K18 : Int32 → pz_C Unit) (l3 : Int32) : pz_C Unit :=
  pz_gB (pz_rI 0 1 l0) fun x4 =>
  pz_if (x4 ≤ l3) (
    pz_gB (pz_rI 0 2 l1) fun x5 =>
    pz_uB (pz_wF 0 2 l0 (.int (x5 * l2))) <|
    pz_ret ()) <|
  pz_gB (pz_rR 0 0 l0) fun x6 =>
  pz_gB (pz_rR 0 0 l1) fun x7 =>
  pz_gB (pz_aI 0 x7 l3) fun x8 =>
  pz_uB (pz_sI 0 x6 l3 x8) <|
  pz_let (l3 + 1) fun l3_9 =>
  K18 l3_9
def X0_set_L18 (n : Nat) (l0 : Option Nat) (l1 : Option Nat) (l2 : Int32) (l3 : Int32) : pz_C Unit := pz_loop (fun (K : Int32 → pz_C Unit) (s : Int32) => X0_set_L18_body n l0 l1 l2 (fun l3 => K l3) s) n l3
def X0_set (n : Nat) (l0 : Option Nat) (l1 : Option Nat) (l2 : Int32) : pz_C Unit :=
  pz_gB (pz_rI 0 1 l1) fun x1 =>
  pz_gB (pz_rR 0 0 l0) fun x2 =>
  pz_gB (pz_len 0 x2) fun x3 =>
  pz_uB (pz_wF 0 1 l0 (.int (if x3 < x1 then x3 else x1))) <|
  X0_set_L18 n l0 l1 l2 0
/-- RowSolver$Division.trim (LRowSolver$Big;I)V -/
def X2_trim_b46 (n : Nat) (s0 : Option Nat) (s1 : Int32) : pz_C Unit :=
  pz_uB (pz_wF 0 2 s0 (.int s1)) <|
  pz_ret ()
def X2_trim_b31 (n : Nat) (l0 : Option Nat) (l2 : Int32) : pz_C Unit :=
  pz_uB (pz_wF 0 1 l0 (.int l2)) <|
  pz_if (l2 = 0) (X2_trim_b46 n l0 0) <|
  X2_trim_b46 n l0 1
def X2_trim_L10_body (n : Nat) (l0 : Option Nat) (K10 : Int32 → pz_C Unit) (l2 : Int32) : pz_C Unit :=
  pz_if (l2 ≤ 0) (X2_trim_b31 n l0 l2) <|
  pz_gB (pz_rR 0 0 l0) fun x4 =>
  pz_gB (pz_aI 0 x4 (l2 - 1)) fun x5 =>
  pz_if (x5 = 0) (
    pz_let (l2 + (-1)) fun l2_6 =>
    K10 l2_6) <|
  X2_trim_b31 n l0 l2
def X2_trim_L10 (n : Nat) (l0 : Option Nat) (l2 : Int32) : pz_C Unit := pz_loop (fun (K : Int32 → pz_C Unit) (s : Int32) => X2_trim_L10_body n l0 (fun l2 => K l2) s) n l2
def X2_trim (n : Nat) (l0 : Option Nat) (l1 : Int32) : pz_C Unit :=
  pz_gB (pz_rR 0 0 l0) fun x1 =>
  pz_gB (pz_len 0 x1) fun x2 =>
  pz_let (if x2 < l1 then x2 else l1) fun l2_3 =>
  X2_trim_L10 n l0 l2_3
/-- RowSolver$Division.divideByLimb (LRowSolver$Big;J)V -/
def X2_divideByLimb_L29_body (n : Nat) (l0 : Option Nat) (l1 : Option Nat) (l2 : Int64) (K29 : Int64 → Int32 → pz_C Unit) (l4 : Int64) (l6 : Int32) : pz_C Unit :=
  pz_if (l6 < 0) (
    pz_gB (pz_rR 2 0 l0) fun x6 =>
    pz_gB (pz_rI 0 1 l1) fun x7 =>
    pz_cB (X2_trim n x6 x7) fun _ =>
    pz_gB (pz_rR 2 1 l0) fun x9 =>
    pz_cV 0 x9 (X0_setLong n x9 l4) fun _ =>
    pz_ret ()) <|
  pz_gB (pz_rR 0 0 l1) fun x11 =>
  pz_gB (pz_aI 0 x11 l6) fun x12 =>
  pz_let ((l4 * 1000000000) + (Int32.toInt64 x12)) fun l7_13 =>
  pz_gB (pz_dvL l7_13 l2) fun x14 =>
  pz_gB (pz_rR 2 0 l0) fun x15 =>
  pz_gB (pz_rR 0 0 x15) fun x16 =>
  pz_uB (pz_sI 0 x16 l6 (Int64.toInt32 x14)) <|
  pz_let (l7_13 - (x14 * l2)) fun l4_17 =>
  pz_let (l6 + (-1)) fun l6_18 =>
  K29 l4_17 l6_18
def X2_divideByLimb_L29 (n : Nat) (l0 : Option Nat) (l1 : Option Nat) (l2 : Int64) (l4 : Int64) (l6 : Int32) : pz_C Unit := pz_loop (fun (K : Int64 × Int32 → pz_C Unit) (s : Int64 × Int32) => X2_divideByLimb_L29_body n l0 l1 l2 (fun l4 l6 => K (l4, l6)) s.1 s.2) n (l4, l6)
def X2_divideByLimb (n : Nat) (l0 : Option Nat) (l1 : Option Nat) (l2 : Int64) : pz_C Unit :=
  pz_if (0 < (lg_cmp l2 0)) (
    pz_gB (pz_rI 0 1 l1) fun x1 =>
    pz_gB (pz_rR 2 0 l0) fun x2 =>
    pz_gB (pz_rR 0 0 x2) fun x3 =>
    pz_gB (pz_len 0 x3) fun x4 =>
    pz_let ((if x4 < x1 then x4 else x1) - 1) fun l6_5 =>
    X2_divideByLimb_L29 n l0 l1 l2 0 l6_5) <|
  pz_ret ()
/-- RowSolver$Division.scaleInto ([JLRowSolver$Big;J)V -/
def X2_scaleInto_b81 (n : Nat) : pz_C Unit :=
  pz_ret ()
def X2_scaleInto_b64 (n : Nat) (l0 : Option Nat) (l1 : Option Nat) (l4 : Int64) : pz_C Unit :=
  pz_gB (pz_rI 0 1 l1) fun x2 =>
  pz_gB (pz_len 2 l0) fun x3 =>
  pz_if (x3 ≤ x2) (X2_scaleInto_b81 n) <|
  pz_gB (pz_rI 0 1 l1) fun x4 =>
  pz_uB (pz_sL 2 l0 x4 l4) <|
  X2_scaleInto_b81 n
def X2_scaleInto_L6_body (n : Nat) (l0 : Option Nat) (l1 : Option Nat) (l2 : Int64) (K6 : Int64 → Int32 → pz_C Unit) (l4 : Int64) (l6 : Int32) : pz_C Unit :=
  pz_gB (pz_rI 0 1 l1) fun x1 =>
  pz_if (x1 ≤ l6) (X2_scaleInto_b64 n l0 l1 l4) <|
  pz_gB (pz_len 2 l0) fun x5 =>
  pz_if (x5 ≤ l6) (X2_scaleInto_b64 n l0 l1 l4) <|
  pz_gB (pz_rR 0 0 l1) fun x6 =>
  pz_gB (pz_aI 0 x6 l6) fun x7 =>
  pz_let (((Int32.toInt64 x7) * l2) + l4) fun l7_8 =>
  pz_gB (pz_dvL l7_8 1000000000) fun x9 =>
  pz_uB (pz_sL 2 l0 l6 (l7_8 - (x9 * 1000000000))) <|
  pz_let (l6 + 1) fun l6_10 =>
  K6 x9 l6_10
def X2_scaleInto_L6 (n : Nat) (l0 : Option Nat) (l1 : Option Nat) (l2 : Int64) (l4 : Int64) (l6 : Int32) : pz_C Unit := pz_loop (fun (K : Int64 × Int32 → pz_C Unit) (s : Int64 × Int32) => X2_scaleInto_L6_body n l0 l1 l2 (fun l4 l6 => K (l4, l6)) s.1 s.2) n (l4, l6)
def X2_scaleInto (n : Nat) (l0 : Option Nat) (l1 : Option Nat) (l2 : Int64) : pz_C Unit :=
  X2_scaleInto_L6 n l0 l1 l2 0 0
/-- RowSolver$Division.guessDigit (II)J -/
def X2_guessDigit_b137 (n : Nat) (l7 : Int64) : pz_C Int64 :=
  pz_ret l7
def X2_guessDigit_b119 (n : Nat) (K60 : Int64 → Int64 → Int32 → pz_C Int64) (l0 : Option Nat) (l1 : Int32) (l2 : Int32) (l3 : Int64) (l7 : Int64) (l9 : Int64) (l11 : Int32) : pz_C Int64 :=
  pz_let (l7 - 1) fun l7_10 =>
  pz_let (l9 + l3) fun l9_11 =>
  pz_let (l11 + 1) fun l11_12 =>
  K60 l7_10 l9_11 l11_12
def X2_guessDigit_L60_body (n : Nat) (l0 : Option Nat) (l1 : Int32) (l2 : Int32) (l3 : Int64) (K60 : Int64 → Int64 → Int32 → pz_C Int64) (l7 : Int64) (l9 : Int64) (l11 : Int32) : pz_C Int64 :=
  pz_if (2 ≤ l11) (X2_guessDigit_b137 n l7) <|
  pz_if (0 ≤ (lg_cmp l9 1000000000)) (X2_guessDigit_b137 n l7) <|
  pz_if (0 ≤ (lg_cmp l7 1000000000)) (X2_guessDigit_b119 n K60 l0 l1 l2 l3 l7 l9 l11) <|
  pz_gB (pz_rR 2 5 l0) fun x13 =>
  pz_gB (pz_aL 2 x13 (l2 - 2)) fun x14 =>
  pz_gB (pz_rR 2 4 l0) fun x15 =>
  pz_gB (pz_aL 2 x15 ((l1 + l2) - 2)) fun x16 =>
  pz_if (0 < (lg_cmp (l7 * x14) ((l9 * 1000000000) + x16))) (X2_guessDigit_b119 n K60 l0 l1 l2 l3 l7 l9 l11) <|
  X2_guessDigit_b137 n l7
def X2_guessDigit_L60 (n : Nat) (l0 : Option Nat) (l1 : Int32) (l2 : Int32) (l3 : Int64) (l7 : Int64) (l9 : Int64) (l11 : Int32) : pz_C Int64 := pz_loop (fun (K : Int64 × Int64 × Int32 → pz_C Int64) (s : Int64 × Int64 × Int32) => X2_guessDigit_L60_body n l0 l1 l2 l3 (fun l7 l9 l11 => K (l7, l9, l11)) s.1 s.2.1 s.2.2) n (l7, l9, l11)
def X2_guessDigit (n : Nat) (l0 : Option Nat) (l1 : Int32) (l2 : Int32) : pz_C Int64 :=
  pz_gB (pz_rR 2 5 l0) fun x1 =>
  pz_gB (pz_aL 2 x1 (l2 - 1)) fun x2 =>
  pz_if (0 < (lg_cmp x2 0)) (
    pz_gB (pz_rR 2 4 l0) fun x3 =>
    pz_gB (pz_aL 2 x3 (l1 + l2)) fun x4 =>
    pz_gB (pz_rR 2 4 l0) fun x5 =>
    pz_gB (pz_aL 2 x5 ((l1 + l2) - 1)) fun x6 =>
    pz_let ((x4 * 1000000000) + x6) fun l5_7 =>
    pz_gB (pz_dvL l5_7 x2) fun x8 =>
    pz_let (l5_7 - (x8 * x2)) fun l9_9 =>
    X2_guessDigit_L60 n l0 l1 l2 x2 x8 l9_9 0) <|
  pz_ret 0
/-- RowSolver$Division.takeAway (IIJ)J -/
def X2_takeAway_b159 (n : Nat) (K117 : Int64 → Int32 → pz_C Int64) (l0 : Option Nat) (l1 : Int32) (l2 : Int32) (l3 : Int64) (l9 : Int32) (l10 : Int64) (s0 : Int64) : pz_C Int64 :=
  pz_gB (pz_rR 2 4 l0) fun x12 =>
  pz_uB (pz_sL 2 x12 (l1 + l9) (l10 - (s0 * 1000000000))) <|
  pz_let (l9 + 1) fun l9_13 =>
  K117 s0 l9_13
def X2_takeAway_L117_body (n : Nat) (l0 : Option Nat) (l1 : Int32) (l2 : Int32) (l3 : Int64) (K117 : Int64 → Int32 → pz_C Int64) (l7 : Int64) (l9 : Int32) : pz_C Int64 :=
  pz_if (l2 ≤ l9) (
    pz_gB (pz_rR 2 4 l0) fun x5 =>
    pz_gB (pz_aL 2 x5 (l1 + l2)) fun x6 =>
    pz_uB (pz_sL 2 x5 (l1 + l2) (x6 + l7)) <|
    pz_ret (l3 - 1)) <|
  pz_gB (pz_rR 2 4 l0) fun x7 =>
  pz_gB (pz_aL 2 x7 (l1 + l9)) fun x8 =>
  pz_gB (pz_rR 2 5 l0) fun x9 =>
  pz_gB (pz_aL 2 x9 l9) fun x10 =>
  pz_let ((x8 + x10) + l7) fun l10_11 =>
  pz_if ((lg_cmp l10_11 1000000000) < 0) (X2_takeAway_b159 n K117 l0 l1 l2 l3 l9 l10_11 0) <|
  X2_takeAway_b159 n K117 l0 l1 l2 l3 l9 l10_11 1
def X2_takeAway_L117 (n : Nat) (l0 : Option Nat) (l1 : Int32) (l2 : Int32) (l3 : Int64) (l7 : Int64) (l9 : Int32) : pz_C Int64 := pz_loop (fun (K : Int64 × Int32 → pz_C Int64) (s : Int64 × Int32) => X2_takeAway_L117_body n l0 l1 l2 l3 (fun l7 l9 => K (l7, l9)) s.1 s.2) n (l7, l9)
def X2_takeAway_b57 (n : Nat) (K6 : Int64 → Int32 → pz_C Int64) (l0 : Option Nat) (l1 : Int32) (l2 : Int32) (l3 : Int64) (l7 : Int32) (l8 : Int64) (s0 : Int64) : pz_C Int64 :=
  pz_gB (pz_rR 2 4 l0) fun x19 =>
  pz_uB (pz_sL 2 x19 (l1 + l7) (l8 + (s0 * 1000000000))) <|
  pz_let (l7 + 1) fun l7_20 =>
  K6 s0 l7_20
def X2_takeAway_L6_body (n : Nat) (l0 : Option Nat) (l1 : Int32) (l2 : Int32) (l3 : Int64) (K6 : Int64 → Int32 → pz_C Int64) (l5 : Int64) (l7 : Int32) : pz_C Int64 :=
  pz_if (l2 ≤ l7) (
    pz_gB (pz_rR 2 4 l0) fun x1 =>
    pz_gB (pz_aL 2 x1 (l1 + l2)) fun x2 =>
    pz_uB (pz_sL 2 x1 (l1 + l2) (x2 - l5)) <|
    pz_gB (pz_rR 2 4 l0) fun x3 =>
    pz_gB (pz_aL 2 x3 (l1 + l2)) fun x4 =>
    pz_if ((lg_cmp x4 0) < 0) (X2_takeAway_L117 n l0 l1 l2 l3 0 0) <|
    pz_ret l3) <|
  pz_gB (pz_rR 2 4 l0) fun x14 =>
  pz_gB (pz_aL 2 x14 (l1 + l7)) fun x15 =>
  pz_gB (pz_rR 2 5 l0) fun x16 =>
  pz_gB (pz_aL 2 x16 l7) fun x17 =>
  pz_let ((x15 - (l3 * x17)) - l5) fun l8_18 =>
  pz_if (0 ≤ (lg_cmp l8_18 0)) (X2_takeAway_b57 n K6 l0 l1 l2 l3 l7 l8_18 0) <|
  pz_gB (pz_dvL (999999999 - l8_18) 1000000000) fun x21 =>
  X2_takeAway_b57 n K6 l0 l1 l2 l3 l7 l8_18 x21
def X2_takeAway_L6 (n : Nat) (l0 : Option Nat) (l1 : Int32) (l2 : Int32) (l3 : Int64) (l5 : Int64) (l7 : Int32) : pz_C Int64 := pz_loop (fun (K : Int64 × Int32 → pz_C Int64) (s : Int64 × Int32) => X2_takeAway_L6_body n l0 l1 l2 l3 (fun l5 l7 => K (l5, l7)) s.1 s.2) n (l5, l7)
def X2_takeAway (n : Nat) (l0 : Option Nat) (l1 : Int32) (l2 : Int32) (l3 : Int64) : pz_C Int64 :=
  X2_takeAway_L6 n l0 l1 l2 l3 0 0
/-- RowSolver$Division.divideByLimbs (LRowSolver$Big;LRowSolver$Big;)V -/
def X2_divideByLimbs_b166 (n : Nat) (l0 : Option Nat) (l3 : Int32) : pz_C Unit :=
  pz_gB (pz_rR 2 1 l0) fun x14 =>
  pz_cB (X2_trim n x14 l3) fun _ =>
  pz_ret ()
def X2_divideByLimbs_L109_body (n : Nat) (l0 : Option Nat) (l3 : Int32) (l5 : Int64) (K109 : Int64 → Int32 → pz_C Unit) (l7 : Int64) (l9 : Int32) : pz_C Unit :=
  pz_if (l9 < 0) (X2_divideByLimbs_b166 n l0 l3) <|
  pz_if ((lg_cmp l5 0) ≤ 0) (X2_divideByLimbs_b166 n l0 l3) <|
  pz_gB (pz_rR 2 4 l0) fun x16 =>
  pz_gB (pz_aL 2 x16 l9) fun x17 =>
  pz_let ((l7 * 1000000000) + x17) fun l10_18 =>
  pz_gB (pz_rR 2 1 l0) fun x19 =>
  pz_gB (pz_rR 0 0 x19) fun x20 =>
  pz_gB (pz_dvL l10_18 l5) fun x21 =>
  pz_uB (pz_sI 0 x20 l9 (Int64.toInt32 x21)) <|
  pz_gB (pz_rmL l10_18 l5) fun x22 =>
  pz_let (l9 + (-1)) fun l9_23 =>
  K109 x22 l9_23
def X2_divideByLimbs_L109 (n : Nat) (l0 : Option Nat) (l3 : Int32) (l5 : Int64) (l7 : Int64) (l9 : Int32) : pz_C Unit := pz_loop (fun (K : Int64 × Int32 → pz_C Unit) (s : Int64 × Int32) => X2_divideByLimbs_L109_body n l0 l3 l5 (fun l7 l9 => K (l7, l9)) s.1 s.2) n (l7, l9)
def X2_divideByLimbs_L54_body (n : Nat) (l0 : Option Nat) (l3 : Int32) (l4 : Int32) (l5 : Int64) (K54 : Int32 → pz_C Unit) (l7 : Int32) : pz_C Unit :=
  pz_if (l7 < 0) (
    pz_gB (pz_rR 2 0 l0) fun x11 =>
    pz_cB (X2_trim n x11 (l4 + 1)) fun _ =>
    pz_let (l3 - 1) fun l9_13 =>
    X2_divideByLimbs_L109 n l0 l3 l5 0 l9_13) <|
  pz_gB (pz_rR 2 0 l0) fun x24 =>
  pz_gB (pz_rR 0 0 x24) fun x25 =>
  pz_cV 2 l0 (X2_guessDigit n l0 l7 l3) fun x26 =>
  pz_cV 2 l0 (X2_takeAway n l0 l7 l3 x26) fun x27 =>
  pz_uB (pz_sI 0 x25 l7 (Int64.toInt32 x27)) <|
  pz_let (l7 + (-1)) fun l7_28 =>
  K54 l7_28
def X2_divideByLimbs_L54 (n : Nat) (l0 : Option Nat) (l3 : Int32) (l4 : Int32) (l5 : Int64) (l7 : Int32) : pz_C Unit := pz_loop (fun (K : Int32 → pz_C Unit) (s : Int32) => X2_divideByLimbs_L54_body n l0 l3 l4 l5 (fun l7 => K l7) s) n l7
def X2_divideByLimbs (n : Nat) (l0 : Option Nat) (l1 : Option Nat) (l2 : Option Nat) : pz_C Unit :=
  pz_gB (pz_rI 0 1 l2) fun x1 =>
  pz_gB (pz_rI 0 1 l1) fun x2 =>
  pz_let (x2 - x1) fun l4_3 =>
  pz_gB (pz_rR 0 0 l2) fun x4 =>
  pz_gB (pz_aI 0 x4 (x1 - 1)) fun x5 =>
  pz_gB (pz_dvL 1000000000 ((Int32.toInt64 x5) + 1)) fun x6 =>
  pz_gB (pz_rR 2 4 l0) fun x7 =>
  pz_cB (X2_scaleInto n x7 l1 x6) fun _ =>
  pz_gB (pz_rR 2 5 l0) fun x9 =>
  pz_cB (X2_scaleInto n x9 l2 x6) fun _ =>
  X2_divideByLimbs_L54 n l0 x1 l4_3 x6 l4_3
/-- RowSolver$Division.divide (LRowSolver$Big;LRowSolver$Big;)V -/
def X2_divide_b75 (n : Nat) : pz_C Unit :=
  pz_ret ()
def X2_divide_b31 (n : Nat) (l0 : Option Nat) (l1 : Option Nat) : pz_C Unit :=
  pz_gB (pz_rR 2 1 l0) fun x6 =>
  pz_gB (pz_rI 0 2 l1) fun x7 =>
  pz_cV 0 x6 (X0_set n x6 l1 x7) fun _ =>
  X2_divide_b75 n
def X2_divide (n : Nat) (l0 : Option Nat) (l1 : Option Nat) (l2 : Option Nat) : pz_C Unit :=
  pz_gB (pz_rR 2 0 l0) fun x1 =>
  pz_cV 0 x1 (X0_setLong n x1 0) fun _ =>
  pz_gB (pz_rR 2 1 l0) fun x3 =>
  pz_cV 0 x3 (X0_setLong n x3 0) fun _ =>
  pz_gB (pz_rI 0 1 l2) fun x5 =>
  pz_if (x5 = 0) (X2_divide_b31 n l0 l1) <|
  pz_cV 0 l1 (X0_compareSize n l1 l2) fun x9 =>
  pz_if (0 ≤ x9) (
    pz_gB (pz_rI 0 1 l2) fun x10 =>
    pz_if (x10 = 1) (
      pz_gB (pz_rR 0 0 l2) fun x11 =>
      pz_gB (pz_aI 0 x11 0) fun x12 =>
      pz_cV 2 l0 (X2_divideByLimb n l0 l1 (Int32.toInt64 x12)) fun _ =>
      X2_divide_b75 n) <|
    pz_cV 2 l0 (X2_divideByLimbs n l0 l1 l2) fun _ =>
    X2_divide_b75 n) <|
  X2_divide_b31 n l0 l1
/-- RowSolver$Tableau.isAmountWhole (I)Z -/
def X9_isAmountWhole_b47 (n : Nat) (s0 : Int32) : pz_C Int32 :=
  pz_zz s0 (pz_ret s0)
def X9_isAmountWhole (n : Nat) (l0 : Option Nat) (l1 : Int32) : pz_C Int32 :=
  pz_gB (pz_rR 9 9 l0) fun x1 =>
  pz_cV 0 x1 (X0_isOne n x1) fun x2 =>
  pz_if (x2 = 0) (
    pz_gB (pz_rR 9 1 l0) fun x3 =>
    pz_gB (pz_rR 9 3 l0) fun x4 =>
    pz_gB (pz_aR 3 x4 l1) fun x5 =>
    pz_gB (pz_rR 9 9 l0) fun x6 =>
    pz_cV 2 x3 (X2_divide n x3 x5 x6) fun _ =>
    pz_gB (pz_rR 9 1 l0) fun x8 =>
    pz_gB (pz_rR 2 1 x8) fun x9 =>
    pz_gB (pz_rI 0 1 x9) fun x10 =>
    pz_if (x10 = 0) (X9_isAmountWhole_b47 n 1) <|
    X9_isAmountWhole_b47 n 0) <|
  pz_zz 1 (pz_ret 1)
/-- RowSolver$Solving.firstNotWhole ()I -/
def X7_firstNotWhole_b51 (n : Nat) (K2 : Int32 → pz_C Int32) (l0 : Option Nat) (l1 : Int32) : pz_C Int32 :=
  pz_let (l1 + 1) fun l1_8 =>
  K2 l1_8
def X7_firstNotWhole_L2_body (n : Nat) (l0 : Option Nat) (K2 : Int32 → pz_C Int32) (l1 : Int32) : pz_C Int32 :=
  pz_gB (pz_rR 7 0 l0) fun x1 =>
  pz_gB (pz_rI 6 5 x1) fun x2 =>
  pz_if (x2 ≤ l1) (pz_ret (-2)) <|
  pz_gB (pz_rR 7 1 l0) fun x3 =>
  pz_cV 9 x3 (X9_rowOf n x3 l1) fun x4 =>
  pz_gB (pz_rR 7 0 l0) fun x5 =>
  pz_gB (pz_rR 6 3 x5) fun x6 =>
  pz_gB (pz_aI 1 x6 l1) fun x7 =>
  pz_if (x7 = 0) (X7_firstNotWhole_b51 n K2 l0 l1) <|
  pz_if (x4 < 0) (X7_firstNotWhole_b51 n K2 l0 l1) <|
  pz_gB (pz_rR 7 1 l0) fun x9 =>
  pz_cV 9 x9 (X9_isAmountWhole n x9 x4) fun x10 =>
  pz_if (x10 = 0) (pz_ret l1) <|
  X7_firstNotWhole_b51 n K2 l0 l1
def X7_firstNotWhole_L2 (n : Nat) (l0 : Option Nat) (l1 : Int32) : pz_C Int32 := pz_loop (fun (K : Int32 → pz_C Int32) (s : Int32) => X7_firstNotWhole_L2_body n l0 (fun l1 => K l1) s) n l1
def X7_firstNotWhole (n : Nat) (l0 : Option Nat) : pz_C Int32 :=
  X7_firstNotWhole_L2 n l0 0
/-- RowSolver$Big.limbAt (I)I -/
def X0_limbAt_b22 (n : Nat) (s0 : Int32) : pz_C Int32 :=
  pz_ret s0
def X0_limbAt_b21 (n : Nat) : pz_C Int32 :=
  X0_limbAt_b22 n 0
def X0_limbAt (n : Nat) (l0 : Option Nat) (l1 : Int32) : pz_C Int32 :=
  pz_if (l1 < 0) (X0_limbAt_b21 n) <|
  pz_gB (pz_rI 0 1 l0) fun x1 =>
  pz_if (x1 ≤ l1) (X0_limbAt_b21 n) <|
  pz_gB (pz_rR 0 0 l0) fun x2 =>
  pz_gB (pz_aI 0 x2 l1) fun x3 =>
  X0_limbAt_b22 n x3
/-- RowSolver$Big.lowPair ()J -/
def X0_lowPair (n : Nat) (l0 : Option Nat) : pz_C Int64 :=
  pz_cV 0 l0 (X0_limbAt n l0 1) fun x1 =>
  pz_cV 0 l0 (X0_limbAt n l0 0) fun x2 =>
  pz_ret (((Int32.toInt64 x1) * 1000000000) + (Int32.toInt64 x2))
/-- RowSolver$Tableau.floorOfAmount (I)J -/
def X9_floorOfAmount_b42 (n : Nat) : pz_C Int64 :=
  pz_ret 4000000000000000000
def X9_floorOfAmount_b82 (n : Nat) (s0 : Int64) : pz_C Int64 :=
  pz_ret s0
def X9_floorOfAmount (n : Nat) (l0 : Option Nat) (l1 : Int32) : pz_C Int64 :=
  pz_gB (pz_rR 9 1 l0) fun x1 =>
  pz_gB (pz_rR 9 3 l0) fun x2 =>
  pz_gB (pz_aR 3 x2 l1) fun x3 =>
  pz_gB (pz_rR 9 9 l0) fun x4 =>
  pz_cV 2 x1 (X2_divide n x1 x3 x4) fun _ =>
  pz_gB (pz_rR 9 1 l0) fun x6 =>
  pz_gB (pz_rR 2 0 x6) fun x7 =>
  pz_gB (pz_rI 0 1 x7) fun x8 =>
  pz_if (3 < x8) (X9_floorOfAmount_b42 n) <|
  pz_cV 0 x7 (X0_limbAt n x7 2) fun x9 =>
  pz_if (x9 ≤ 1) (
    pz_cV 0 x7 (X0_limbAt n x7 2) fun x10 =>
    pz_cV 0 x7 (X0_lowPair n x7) fun x11 =>
    pz_let (((Int32.toInt64 x10) * 1000000000000000000) + x11) fun l3_12 =>
    pz_gB (pz_rR 9 3 l0) fun x13 =>
    pz_gB (pz_aR 3 x13 l1) fun x14 =>
    pz_gB (pz_rI 0 2 x14) fun x15 =>
    pz_if (0 ≤ x15) (X9_floorOfAmount_b82 n l3_12) <|
    X9_floorOfAmount_b82 n ((-l3_12) - 1)) <|
  X9_floorOfAmount_b42 n
/-- RowSolver$Tree.splitsAbove (I)I -/
def X10_splitsAbove_b46 (n : Nat) (l2 : Int32) : pz_C Int32 :=
  pz_ret l2
def X10_splitsAbove_L22_body (n : Nat) (l0 : Option Nat) (K22 : Int32 → Int32 → pz_C Int32) (l2 : Int32) (l3 : Int32) : pz_C Int32 :=
  pz_if (l3 < 0) (X10_splitsAbove_b46 n l2) <|
  pz_if (301 ≤ l2) (X10_splitsAbove_b46 n l2) <|
  pz_let (l2 + 1) fun l2_2 =>
  pz_gB (pz_rR 10 0 l0) fun x3 =>
  pz_gB (pz_aI 0 x3 l3) fun x4 =>
  K22 l2_2 x4
def X10_splitsAbove_L22 (n : Nat) (l0 : Option Nat) (l2 : Int32) (l3 : Int32) : pz_C Int32 := pz_loop (fun (K : Int32 × Int32 → pz_C Int32) (s : Int32 × Int32) => X10_splitsAbove_L22_body n l0 (fun l2 l3 => K (l2, l3)) s.1 s.2) n (l2, l3)
def X10_splitsAbove_b21 (n : Nat) (l0 : Option Nat) (l2 : Int32) (s0 : Int32) : pz_C Int32 :=
  X10_splitsAbove_L22 n l0 l2 s0
def X10_splitsAbove (n : Nat) (l0 : Option Nat) (l1 : Int32) : pz_C Int32 :=
  pz_cV 10 l0 (X10_has n l0 l1) fun x1 =>
  pz_if (x1 = 0) (X10_splitsAbove_b21 n l0 0 (-2)) <|
  pz_gB (pz_rR 10 0 l0) fun x5 =>
  pz_gB (pz_aI 0 x5 l1) fun x6 =>
  X10_splitsAbove_b21 n l0 0 x6
/-- RowSolver$Tree.setSplitAt (IIJ)V -/
def X10_setSplitAt_b29 (n : Nat) : pz_C Unit :=
  pz_ret ()
def X10_setSplitAt (n : Nat) (l0 : Option Nat) (l1 : Int32) (l2 : Int32) (l3 : Int64) : pz_C Unit :=
  pz_cV 10 l0 (X10_has n l0 l1) fun x1 =>
  pz_if (x1 = 0) (X10_setSplitAt_b29 n) <|
  pz_gB (pz_rR 10 3 l0) fun x2 =>
  pz_uB (pz_sI 0 x2 l1 l2) <|
  pz_gB (pz_rR 10 4 l0) fun x3 =>
  pz_uB (pz_sL 2 x3 l1 l3) <|
  pz_gB (pz_rR 10 5 l0) fun x4 =>
  pz_uB (pz_sL 2 x4 l1 l3) <|
  X10_setSplitAt_b29 n
/-- RowSolver$Solving.split (I)V -/
def X7_split_b73 (n : Nat) (l0 : Option Nat) : pz_C Unit :=
  pz_uB (pz_wF 7 4 l0 (.int 4)) <|
  pz_ret ()
def X7_split_b37 (n : Nat) (l0 : Option Nat) (l1 : Int32) (l2 : Int64) (s0 : Int32) : pz_C Unit :=
  pz_if (s0 = 0) (
    pz_gB (pz_rI 7 8 l0) fun x5 =>
    pz_if (150 ≤ x5) (X7_split_b73 n l0) <|
    pz_gB (pz_rR 7 2 l0) fun x6 =>
    pz_gB (pz_rR 7 2 l0) fun x7 =>
    pz_gB (pz_rI 10 11 x7) fun x8 =>
    pz_cV 10 x6 (X10_splitsAbove n x6 x8) fun x9 =>
    pz_if (x9 < 24) (
      pz_gB (pz_rI 7 8 l0) fun x10 =>
      pz_uB (pz_wF 7 8 l0 (.int (x10 + 1))) <|
      pz_gB (pz_rR 7 2 l0) fun x11 =>
      pz_gB (pz_rR 7 2 l0) fun x12 =>
      pz_gB (pz_rI 10 11 x12) fun x13 =>
      pz_cV 10 x11 (X10_setSplitAt n x11 x13 l1 l2) fun _ =>
      pz_gB (pz_rR 7 2 l0) fun x15 =>
      pz_gB (pz_rR 7 2 l0) fun x16 =>
      pz_gB (pz_rI 10 11 x16) fun x17 =>
      pz_cV 10 x15 (X10_addLeaf n x15 x17) fun _ =>
      pz_cV 7 l0 (X7_setSplitBounds n l0) fun _ =>
      pz_ret ()) <|
    X7_split_b73 n l0) <|
  X7_split_b73 n l0
def X7_split_b32 (n : Nat) (l0 : Option Nat) (l1 : Int32) (l2 : Int64) : pz_C Unit :=
  X7_split_b37 n l0 l1 l2 1
def X7_split (n : Nat) (l0 : Option Nat) (l1 : Int32) : pz_C Unit :=
  pz_gB (pz_rR 7 1 l0) fun x1 =>
  pz_gB (pz_rR 7 1 l0) fun x2 =>
  pz_cV 9 x2 (X9_rowOf n x2 l1) fun x3 =>
  pz_cV 9 x1 (X9_floorOfAmount n x1 x3) fun x4 =>
  pz_if (0 < (lg_cmp x4 1000000000000000000)) (X7_split_b32 n l0 l1 x4) <|
  pz_if (0 ≤ (lg_cmp x4 (-1000000000000000000))) (X7_split_b37 n l0 l1 x4 0) <|
  X7_split_b32 n l0 l1 x4
/-- RowSolver$Tableau.columnOf (I)I -/
def X9_columnOf_b20 (n : Nat) (s0 : Int32) : pz_C Int32 :=
  pz_ret s0
def X9_columnOf (n : Nat) (l0 : Option Nat) (l1 : Int32) : pz_C Int32 :=
  pz_gB (pz_rR 9 8 l0) fun x1 =>
  pz_gB (pz_aI 1 x1 l1) fun x2 =>
  pz_if (x2 = 0) (
    pz_gB (pz_rR 9 7 l0) fun x3 =>
    pz_gB (pz_aI 0 x3 l1) fun x4 =>
    X9_columnOf_b20 n x4) <|
  X9_columnOf_b20 n (-2)
/-- RowSolver$Solving.enteringColumn (II)I -/
def X7_enteringColumn_b136 (n : Nat) (K2 : Int32 → pz_C Int32) (l0 : Option Nat) (l1 : Int32) (l2 : Int32) (l3 : Int32) : pz_C Int32 :=
  pz_let (l3 + 1) fun l3_5 =>
  K2 l3_5
def X7_enteringColumn_b133 (n : Nat) (l4 : Int32) : pz_C Int32 :=
  pz_ret l4
def X7_enteringColumn_b93 (n : Nat) (K2 : Int32 → pz_C Int32) (l0 : Option Nat) (l1 : Int32) (l2 : Int32) (l3 : Int32) (l4 : Int32) (l5 : Int32) : pz_C Int32 :=
  pz_if (0 ≤ l5) (X7_enteringColumn_b136 n K2 l0 l1 l2 l3) <|
  pz_gB (pz_rR 7 3 l0) fun x6 =>
  pz_gB (pz_rR 1 1 x6) fun x7 =>
  pz_gB (pz_aI 1 x7 l3) fun x8 =>
  pz_if (x8 = 0) (X7_enteringColumn_b133 n l4) <|
  pz_gB (pz_rR 7 1 l0) fun x9 =>
  pz_gB (pz_rR 9 4 x9) fun x10 =>
  pz_gB (pz_aL 2 x10 l4) fun x11 =>
  pz_gB (pz_rR 7 3 l0) fun x12 =>
  pz_gB (pz_rR 1 3 x12) fun x13 =>
  pz_gB (pz_aL 2 x13 l3) fun x14 =>
  pz_if ((lg_cmp x11 x14) ≤ 0) (X7_enteringColumn_b136 n K2 l0 l1 l2 l3) <|
  X7_enteringColumn_b133 n l4
def X7_enteringColumn_b90 (n : Nat) (l4 : Int32) : pz_C Int32 :=
  pz_ret l4
def X7_enteringColumn_b48 (n : Nat) (K2 : Int32 → pz_C Int32) (l0 : Option Nat) (l1 : Int32) (l2 : Int32) (l3 : Int32) (l4 : Int32) (s0 : Int32) : pz_C Int32 :=
  pz_if (s0 ≤ 0) (X7_enteringColumn_b93 n K2 l0 l1 l2 l3 l4 s0) <|
  pz_gB (pz_rR 7 3 l0) fun x15 =>
  pz_gB (pz_rR 1 0 x15) fun x16 =>
  pz_gB (pz_aI 1 x16 l3) fun x17 =>
  pz_if (x17 = 0) (X7_enteringColumn_b90 n l4) <|
  pz_gB (pz_rR 7 1 l0) fun x18 =>
  pz_gB (pz_rR 9 4 x18) fun x19 =>
  pz_gB (pz_aL 2 x19 l4) fun x20 =>
  pz_gB (pz_rR 7 3 l0) fun x21 =>
  pz_gB (pz_rR 1 2 x21) fun x22 =>
  pz_gB (pz_aL 2 x22 l3) fun x23 =>
  pz_if (0 ≤ (lg_cmp x20 x23)) (X7_enteringColumn_b93 n K2 l0 l1 l2 l3 l4 s0) <|
  X7_enteringColumn_b90 n l4
def X7_enteringColumn_L2_body (n : Nat) (l0 : Option Nat) (l1 : Int32) (l2 : Int32) (K2 : Int32 → pz_C Int32) (l3 : Int32) : pz_C Int32 :=
  pz_gB (pz_rR 7 1 l0) fun x1 =>
  pz_cV 9 x1 (X9_places n x1) fun x2 =>
  pz_if (x2 ≤ l3) (pz_ret (-2)) <|
  pz_gB (pz_rR 7 1 l0) fun x3 =>
  pz_cV 9 x3 (X9_columnOf n x3 l3) fun x4 =>
  pz_if (x4 < 0) (X7_enteringColumn_b48 n K2 l0 l1 l2 l3 x4 0) <|
  pz_gB (pz_rR 7 1 l0) fun x24 =>
  pz_cV 9 x24 (X9_cell n x24 l1 x4) fun x25 =>
  pz_gB (pz_rI 0 2 x25) fun x26 =>
  X7_enteringColumn_b48 n K2 l0 l1 l2 l3 x4 ((-l2) * x26)
def X7_enteringColumn_L2 (n : Nat) (l0 : Option Nat) (l1 : Int32) (l2 : Int32) (l3 : Int32) : pz_C Int32 := pz_loop (fun (K : Int32 → pz_C Int32) (s : Int32) => X7_enteringColumn_L2_body n l0 l1 l2 (fun l3 => K l3) s) n l3
def X7_enteringColumn (n : Nat) (l0 : Option Nat) (l1 : Int32) (l2 : Int32) : pz_C Int32 :=
  X7_enteringColumn_L2 n l0 l1 l2 0
/-- RowSolver$Sum.store (LRowSolver$Big;)V -/
def X8_store_b115 (n : Nat) (s0 : Option Nat) (s1 : Int32) : pz_C Unit :=
  pz_uB (pz_wF 0 2 s0 (.int s1)) <|
  pz_ret ()
def X8_store_b98 (n : Nat) (l1 : Option Nat) (l2 : Int32) (l5 : Int32) : pz_C Unit :=
  pz_uB (pz_wF 0 1 l1 (.int l5)) <|
  pz_if (l5 = 0) (X8_store_b115 n l1 0) <|
  X8_store_b115 n l1 l2
def X8_store_b92 (n : Nat) (K13 : Int64 → Int32 → Int32 → pz_C Unit) (l0 : Option Nat) (l1 : Option Nat) (l2 : Int32) (l3 : Int64) (l5 : Int32) (l6 : Int32) : pz_C Unit :=
  pz_let (l6 + 1) fun l6_10 =>
  K13 l3 l5 l6_10
def X8_store_b58 (n : Nat) (K13 : Int64 → Int32 → Int32 → pz_C Unit) (l0 : Option Nat) (l1 : Option Nat) (l2 : Int32) (l5 : Int32) (l6 : Int32) (l7 : Int64) (s0 : Int64) : pz_C Unit :=
  pz_let (l7 + (s0 * 1000000000)) fun l7_8 =>
  pz_gB (pz_rR 0 0 l1) fun x9 =>
  pz_uB (pz_sI 0 x9 l6 (Int64.toInt32 l7_8)) <|
  pz_if ((lg_cmp l7_8 0) = 0) (X8_store_b92 n K13 l0 l1 l2 s0 l5 l6) <|
  pz_let (l6 + 1) fun l5_11 =>
  X8_store_b92 n K13 l0 l1 l2 s0 l5_11 l6
def X8_store_L13_body (n : Nat) (l0 : Option Nat) (l1 : Option Nat) (l2 : Int32) (K13 : Int64 → Int32 → Int32 → pz_C Unit) (l3 : Int64) (l5 : Int32) (l6 : Int32) : pz_C Unit :=
  pz_gB (pz_rI 8 1 l0) fun x2 =>
  pz_if (x2 ≤ l6) (X8_store_b98 n l1 l2 l5) <|
  pz_gB (pz_rR 0 0 l1) fun x3 =>
  pz_gB (pz_len 0 x3) fun x4 =>
  pz_if (x4 ≤ l6) (X8_store_b98 n l1 l2 l5) <|
  pz_gB (pz_rR 8 0 l0) fun x5 =>
  pz_gB (pz_aL 2 x5 l6) fun x6 =>
  pz_let (((Int32.toInt64 l2) * x6) - l3) fun l7_7 =>
  pz_if (0 ≤ (lg_cmp l7_7 0)) (X8_store_b58 n K13 l0 l1 l2 l5 l6 l7_7 0) <|
  X8_store_b58 n K13 l0 l1 l2 l5 l6 l7_7 1
def X8_store_L13 (n : Nat) (l0 : Option Nat) (l1 : Option Nat) (l2 : Int32) (l3 : Int64) (l5 : Int32) (l6 : Int32) : pz_C Unit := pz_loop (fun (K : Int64 × Int32 × Int32 → pz_C Unit) (s : Int64 × Int32 × Int32) => X8_store_L13_body n l0 l1 l2 (fun l3 l5 l6 => K (l3, l5, l6)) s.1 s.2.1 s.2.2) n (l3, l5, l6)
def X8_store (n : Nat) (l0 : Option Nat) (l1 : Option Nat) : pz_C Unit :=
  pz_cV 8 l0 (X8_signNow n l0) fun x1 =>
  X8_store_L13 n l0 l1 x1 0 0 0
/-- RowSolver$Big.small ()J -/
def X0_small_b24 (n : Nat) (s0 : Int64) : pz_C Int64 :=
  pz_ret s0
def X0_small (n : Nat) (l0 : Option Nat) : pz_C Int64 :=
  pz_gB (pz_rI 0 1 l0) fun x1 =>
  pz_if (x1 = 0) (X0_small_b24 n 0) <|
  pz_gB (pz_rI 0 2 l0) fun x2 =>
  pz_gB (pz_rR 0 0 l0) fun x3 =>
  pz_gB (pz_aI 0 x3 0) fun x4 =>
  X0_small_b24 n ((Int32.toInt64 x2) * (Int32.toInt64 x4))
/-- RowSolver$Big.isSmall ()Z -/
def X0_isSmall_b13 (n : Nat) (s0 : Int32) : pz_C Int32 :=
  pz_zz s0 (pz_ret s0)
def X0_isSmall (n : Nat) (l0 : Option Nat) : pz_C Int32 :=
  pz_gB (pz_rI 0 1 l0) fun x1 =>
  pz_if (1 < x1) (X0_isSmall_b13 n 0) <|
  X0_isSmall_b13 n 1
/-- RowSolver$Sum.addProduct (LRowSolver$Big;LRowSolver$Big;I)V -/
def X8_addProduct_L25_body (n : Nat) (l0 : Option Nat) (l1 : Option Nat) (l2 : Option Nat) (l4 : Int64) (K25 : Int32 → pz_C Unit) (l6 : Int32) : pz_C Unit :=
  pz_gB (pz_rI 0 1 l2) fun x4 =>
  pz_if (x4 ≤ l6) (pz_ret ()) <|
  pz_gB (pz_rR 0 0 l2) fun x5 =>
  pz_gB (pz_aI 0 x5 l6) fun x6 =>
  pz_cV 8 l0 (X8_addShifted n l0 l1 (l4 * (Int32.toInt64 x6)) l6) fun _ =>
  pz_let (l6 + 1) fun l6_8 =>
  K25 l6_8
def X8_addProduct_L25 (n : Nat) (l0 : Option Nat) (l1 : Option Nat) (l2 : Option Nat) (l4 : Int64) (l6 : Int32) : pz_C Unit := pz_loop (fun (K : Int32 → pz_C Unit) (s : Int32) => X8_addProduct_L25_body n l0 l1 l2 l4 (fun l6 => K l6) s) n l6
def X8_addProduct (n : Nat) (l0 : Option Nat) (l1 : Option Nat) (l2 : Option Nat) (l3 : Int32) : pz_C Unit :=
  pz_gB (pz_rI 0 2 l1) fun x1 =>
  pz_gB (pz_rI 0 2 l2) fun x2 =>
  pz_let (Int32.toInt64 ((l3 * x1) * x2)) fun l4_3 =>
  pz_if ((lg_cmp l4_3 0) = 0) (pz_ret ()) <|
  X8_addProduct_L25 n l0 l1 l2 l4_3 0
/-- RowSolver$Tableau.cross (LRowSolver$Big;LRowSolver$Big;LRowSolver$Big;LRowSolver$Big;)V -/
def X9_cross_b22 (n : Nat) : pz_C Unit :=
  pz_ret ()
def X9_cross_b116 (n : Nat) (l0 : Option Nat) (l1 : Option Nat) (l2 : Option Nat) (l3 : Option Nat) (l4 : Option Nat) (l5 : Int32) : pz_C Unit :=
  pz_gB (pz_rR 9 0 l0) fun x8 =>
  pz_cV 8 x8 (X8_clear n x8) fun _ =>
  pz_gB (pz_rR 9 0 l0) fun x10 =>
  pz_cV 8 x10 (X8_addProduct n x10 l1 l2 l5) fun _ =>
  pz_gB (pz_rR 9 0 l0) fun x12 =>
  pz_cV 8 x12 (X8_addProduct n x12 l3 l4 (-l5)) fun _ =>
  pz_gB (pz_rR 9 9 l0) fun x14 =>
  pz_cV 0 x14 (X0_isOne n x14) fun x15 =>
  pz_if (x15 = 0) (
    pz_gB (pz_rR 9 0 l0) fun x16 =>
    pz_gB (pz_rR 9 12 l0) fun x17 =>
    pz_cV 8 x16 (X8_store n x16 x17) fun _ =>
    pz_gB (pz_rR 9 1 l0) fun x19 =>
    pz_gB (pz_rR 9 12 l0) fun x20 =>
    pz_gB (pz_rR 9 9 l0) fun x21 =>
    pz_cV 2 x19 (X2_divide n x19 x20 x21) fun _ =>
    pz_gB (pz_rR 9 1 l0) fun x23 =>
    pz_gB (pz_rR 2 0 x23) fun x24 =>
    pz_gB (pz_rR 9 12 l0) fun x25 =>
    pz_gB (pz_rI 0 2 x25) fun x26 =>
    pz_cV 0 l1 (X0_set n l1 x24 x26) fun _ =>
    pz_ret ()) <|
  pz_gB (pz_rR 9 0 l0) fun x28 =>
  pz_cV 8 x28 (X8_store n x28 l1) fun _ =>
  pz_ret ()
def X9_cross_b23 (n : Nat) (l0 : Option Nat) (l1 : Option Nat) (l2 : Option Nat) (l3 : Option Nat) (l4 : Option Nat) : pz_C Unit :=
  pz_gB (pz_rI 0 2 l2) fun x4 =>
  pz_gB (pz_rR 9 9 l0) fun x5 =>
  pz_cV 0 x5 (X0_small n x5) fun x6 =>
  pz_cV 0 l1 (X0_isSmall n l1) fun x7 =>
  pz_if (x7 = 0) (X9_cross_b116 n l0 l1 l2 l3 l4 x4) <|
  pz_cV 0 l2 (X0_isSmall n l2) fun x30 =>
  pz_if (x30 = 0) (X9_cross_b116 n l0 l1 l2 l3 l4 x4) <|
  pz_cV 0 l3 (X0_isSmall n l3) fun x31 =>
  pz_if (x31 = 0) (X9_cross_b116 n l0 l1 l2 l3 l4 x4) <|
  pz_cV 0 l4 (X0_isSmall n l4) fun x32 =>
  pz_if (x32 = 0) (X9_cross_b116 n l0 l1 l2 l3 l4 x4) <|
  pz_gB (pz_rR 9 9 l0) fun x33 =>
  pz_cV 0 x33 (X0_isSmall n x33) fun x34 =>
  pz_if (x34 = 0) (X9_cross_b116 n l0 l1 l2 l3 l4 x4) <|
  pz_if ((lg_cmp x6 0) ≤ 0) (X9_cross_b116 n l0 l1 l2 l3 l4 x4) <|
  pz_cV 0 l1 (X0_small n l1) fun x35 =>
  pz_cV 0 l2 (X0_small n l2) fun x36 =>
  pz_cV 0 l3 (X0_small n l3) fun x37 =>
  pz_cV 0 l4 (X0_small n l4) fun x38 =>
  pz_gB (pz_dvL ((Int32.toInt64 x4) * ((x35 * x36) - (x37 * x38))) x6) fun x39 =>
  pz_cV 0 l1 (X0_setLong n l1 x39) fun _ =>
  pz_ret ()
def X9_cross (n : Nat) (l0 : Option Nat) (l1 : Option Nat) (l2 : Option Nat) (l3 : Option Nat) (l4 : Option Nat) : pz_C Unit :=
  pz_gB (pz_rI 0 2 l1) fun x1 =>
  pz_if (x1 = 0) (
    pz_gB (pz_rI 0 2 l3) fun x2 =>
    pz_if (x2 = 0) (X9_cross_b22 n) <|
    pz_gB (pz_rI 0 2 l4) fun x3 =>
    pz_if (x3 = 0) (X9_cross_b22 n) <|
    X9_cross_b23 n l0 l1 l2 l3 l4) <|
  X9_cross_b23 n l0 l1 l2 l3 l4
/-- RowSolver$Tableau.turnRow (II)V -/
def X9_turnRow_b102 (n : Nat) (K69 : Int32 → pz_C Unit) (l0 : Option Nat) (l1 : Int32) (l2 : Int32) (l3 : Option Nat) (l4 : Int32) (l5 : Int32) : pz_C Unit :=
  pz_let (l5 + 1) fun l5_24 =>
  K69 l5_24
def X9_turnRow_L69_body (n : Nat) (l0 : Option Nat) (l1 : Int32) (l2 : Int32) (l3 : Option Nat) (l4 : Int32) (K69 : Int32 → pz_C Unit) (l5 : Int32) : pz_C Unit :=
  pz_gB (pz_rI 9 14 l0) fun x16 =>
  pz_if (x16 ≤ l5) (
    pz_gB (pz_rR 9 11 l0) fun x17 =>
    pz_gB (pz_rR 9 9 l0) fun x18 =>
    pz_cV 0 x17 (X0_set n x17 x18 l4) fun _ =>
    pz_gB (pz_rR 9 9 l0) fun x20 =>
    pz_cV 0 x20 (X0_set n x20 l3 l4) fun _ =>
    pz_gB (pz_rR 9 11 l0) fun x22 =>
    pz_cV 0 l3 (X0_set n l3 x22 1) fun _ =>
    pz_ret ()) <|
  pz_if (l5 = l2) (X9_turnRow_b102 n K69 l0 l1 l2 l3 l4 l5) <|
  pz_cV 9 l0 (X9_cell n l0 l1 l5) fun x25 =>
  pz_gB (pz_rI 0 2 x25) fun x26 =>
  pz_uB (pz_wF 0 2 x25 (.int (x26 * (-l4)))) <|
  X9_turnRow_b102 n K69 l0 l1 l2 l3 l4 l5
def X9_turnRow_L69 (n : Nat) (l0 : Option Nat) (l1 : Int32) (l2 : Int32) (l3 : Option Nat) (l4 : Int32) (l5 : Int32) : pz_C Unit := pz_loop (fun (K : Int32 → pz_C Unit) (s : Int32) => X9_turnRow_L69_body n l0 l1 l2 l3 l4 (fun l5 => K l5) s) n l5
def X9_turnRow (n : Nat) (l0 : Option Nat) (l1 : Int32) (l2 : Int32) : pz_C Unit :=
  pz_cV 9 l0 (X9_cell n l0 l1 l2) fun x1 =>
  pz_gB (pz_rI 0 2 x1) fun x2 =>
  pz_gB (pz_rR 9 0 l0) fun x3 =>
  pz_cV 8 x3 (X8_clear n x3) fun _ =>
  pz_gB (pz_rR 9 0 l0) fun x5 =>
  pz_gB (pz_rR 9 4 l0) fun x6 =>
  pz_gB (pz_aL 2 x6 l2) fun x7 =>
  pz_cV 8 x5 (X8_addTimes n x5 x1 ((Int32.toInt64 x2) * x7)) fun _ =>
  pz_gB (pz_rR 9 0 l0) fun x9 =>
  pz_gB (pz_rR 9 10 l0) fun x10 =>
  pz_cV 8 x9 (X8_addTimes n x9 x10 (Int32.toInt64 (-x2))) fun _ =>
  pz_gB (pz_rR 9 0 l0) fun x12 =>
  pz_gB (pz_rR 9 3 l0) fun x13 =>
  pz_gB (pz_aR 3 x13 l1) fun x14 =>
  pz_cV 8 x12 (X8_store n x12 x14) fun _ =>
  X9_turnRow_L69 n l0 l1 l2 x1 x2 0
/-- RowSolver$Tableau.exchange (IIJ)V -/
def X9_exchange_b137 (n : Nat) (K29 : Int32 → pz_C Unit) (l0 : Option Nat) (l1 : Int32) (l2 : Int32) (l3 : Int64) (l5 : Option Nat) (l6 : Int32) : pz_C Unit :=
  pz_let (l6 + 1) fun l6_15 =>
  K29 l6_15
def X9_exchange_b97 (n : Nat) (K29 : Int32 → pz_C Unit) (K59 : Int32 → pz_C Unit) (l0 : Option Nat) (l1 : Int32) (l2 : Int32) (l3 : Int64) (l5 : Option Nat) (l6 : Int32) (l7 : Option Nat) (l8 : Int32) : pz_C Unit :=
  pz_let (l8 + 1) fun l8_24 =>
  K59 l8_24
def X9_exchange_L59_body (n : Nat) (K29 : Int32 → pz_C Unit) (l0 : Option Nat) (l1 : Int32) (l2 : Int32) (l3 : Int64) (l5 : Option Nat) (l6 : Int32) (l7 : Option Nat) (K59 : Int32 → pz_C Unit) (l8 : Int32) : pz_C Unit :=
  pz_gB (pz_rI 9 14 l0) fun x17 =>
  pz_if (x17 ≤ l8) (
    pz_gB (pz_rR 9 3 l0) fun x18 =>
    pz_gB (pz_aR 3 x18 l6) fun x19 =>
    pz_gB (pz_rR 9 10 l0) fun x20 =>
    pz_cV 9 l0 (X9_cross n l0 x19 l5 l7 x20) fun _ =>
    pz_gB (pz_rI 0 2 l7) fun x22 =>
    pz_gB (pz_rI 0 2 l5) fun x23 =>
    pz_uB (pz_wF 0 2 l7 (.int (x22 * x23))) <|
    X9_exchange_b137 n K29 l0 l1 l2 l3 l5 l6) <|
  pz_if (l8 = l2) (X9_exchange_b97 n K29 K59 l0 l1 l2 l3 l5 l6 l7 l8) <|
  pz_cV 9 l0 (X9_cell n l0 l6 l8) fun x25 =>
  pz_cV 9 l0 (X9_cell n l0 l1 l8) fun x26 =>
  pz_cV 9 l0 (X9_cross n l0 x25 l5 l7 x26) fun _ =>
  X9_exchange_b97 n K29 K59 l0 l1 l2 l3 l5 l6 l7 l8
def X9_exchange_L59 (n : Nat) (K29 : Int32 → pz_C Unit) (l0 : Option Nat) (l1 : Int32) (l2 : Int32) (l3 : Int64) (l5 : Option Nat) (l6 : Int32) (l7 : Option Nat) (l8 : Int32) : pz_C Unit := pz_loop (fun (K : Int32 → pz_C Unit) (s : Int32) => X9_exchange_L59_body n K29 l0 l1 l2 l3 l5 l6 l7 (fun l8 => K l8) s) n l8
def X9_exchange_L29_body (n : Nat) (l0 : Option Nat) (l1 : Int32) (l2 : Int32) (l3 : Int64) (l5 : Option Nat) (K29 : Int32 → pz_C Unit) (l6 : Int32) : pz_C Unit :=
  pz_gB (pz_rI 9 13 l0) fun x6 =>
  pz_if (x6 ≤ l6) (
    pz_cV 9 l0 (X9_turnRow n l0 l1 l2) fun _ =>
    pz_gB (pz_rR 9 4 l0) fun x8 =>
    pz_uB (pz_sL 2 x8 l2 l3) <|
    pz_gB (pz_rR 9 5 l0) fun x9 =>
    pz_gB (pz_aI 0 x9 l1) fun x10 =>
    pz_gB (pz_rR 9 6 l0) fun x11 =>
    pz_gB (pz_aI 0 x11 l2) fun x12 =>
    pz_cV 9 l0 (X9_seatRow n l0 l1 x12) fun _ =>
    pz_cV 9 l0 (X9_seatColumn n l0 l2 x10) fun _ =>
    pz_ret ()) <|
  pz_if (l6 = l1) (X9_exchange_b137 n K29 l0 l1 l2 l3 l5 l6) <|
  pz_cV 9 l0 (X9_cell n l0 l6 l2) fun x16 =>
  X9_exchange_L59 n K29 l0 l1 l2 l3 l5 l6 x16 0
def X9_exchange_L29 (n : Nat) (l0 : Option Nat) (l1 : Int32) (l2 : Int32) (l3 : Int64) (l5 : Option Nat) (l6 : Int32) : pz_C Unit := pz_loop (fun (K : Int32 → pz_C Unit) (s : Int32) => X9_exchange_L29_body n l0 l1 l2 l3 l5 (fun l6 => K l6) s) n l6
def X9_exchange (n : Nat) (l0 : Option Nat) (l1 : Int32) (l2 : Int32) (l3 : Int64) : pz_C Unit :=
  pz_cV 9 l0 (X9_cell n l0 l1 l2) fun x1 =>
  pz_cV 9 l0 (X9_compareAmount n l0 l1 l3) fun x2 =>
  pz_gB (pz_rR 9 0 l0) fun x3 =>
  pz_gB (pz_rR 9 10 l0) fun x4 =>
  pz_cV 8 x3 (X8_store n x3 x4) fun _ =>
  X9_exchange_L29 n l0 l1 l2 l3 x1 0
/-- RowSolver$Tree.isSplit (I)Z -/
def X10_isSplit_b14 (n : Nat) (s0 : Int32) : pz_C Int32 :=
  pz_zz s0 (pz_ret s0)
def X10_isSplit (n : Nat) (l0 : Option Nat) (l1 : Int32) : pz_C Int32 :=
  pz_gB (pz_rR 10 1 l0) fun x1 =>
  pz_gB (pz_aI 0 x1 l1) fun x2 =>
  pz_if (x2 < 0) (X10_isSplit_b14 n 0) <|
  X10_isSplit_b14 n 1
/-- RowSolver$Tree.leafOf (I)LRowSolver$Leaf; -/
def X10_leafOf_b31 (n : Nat) (s0 : Option Nat) : pz_C (Option Nat) :=
  pz_ret s0
def X10_leafOf_b30 (n : Nat) : pz_C (Option Nat) :=
  X10_leafOf_b31 n none
def X10_leafOf (n : Nat) (l0 : Option Nat) (l1 : Int32) : pz_C (Option Nat) :=
  pz_cV 10 l0 (X10_has n l0 l1) fun x1 =>
  pz_if (x1 = 0) (X10_leafOf_b30 n) <|
  pz_cV 10 l0 (X10_isSplit n l0 l1) fun x2 =>
  pz_if (x2 = 0) (
    pz_gB (pz_rR 10 8 l0) fun x3 =>
    pz_gB (pz_rR 10 7 l0) fun x4 =>
    pz_gB (pz_aI 0 x4 l1) fun x5 =>
    pz_gB (pz_aR 5 x3 x5) fun x6 =>
    X10_leafOf_b31 n x6) <|
  X10_leafOf_b30 n
/-- RowSolver$Leaf.ofPlace (III)LRowSolver$Fraction; -/
def X5_ofPlace_b39 (n : Nat) (s0 : Option Nat) : pz_C (Option Nat) :=
  pz_ret s0
def X5_ofPlace (n : Nat) (l0 : Option Nat) (l1 : Int32) (l2 : Int32) (l3 : Int32) : pz_C (Option Nat) :=
  pz_if (l1 < l2) (
    pz_if (l3 ≤ 0) (
      pz_gB (pz_rR 5 0 l0) fun x1 =>
      pz_gB (pz_aR 4 x1 (22 + l1)) fun x2 =>
      X5_ofPlace_b39 n x2) <|
    pz_gB (pz_rR 5 0 l0) fun x3 =>
    pz_gB (pz_aR 4 x3 (12 + l1)) fun x4 =>
    X5_ofPlace_b39 n x4) <|
  pz_gB (pz_rR 5 0 l0) fun x5 =>
  pz_gB (pz_aR 4 x5 (l1 - l2)) fun x6 =>
  pz_ret x6
/-- RowSolver$Fraction.setQuotient (LRowSolver$Big;LRowSolver$Big;I)V -/
def X3_setQuotient (n : Nat) (l0 : Option Nat) (l1 : Option Nat) (l2 : Option Nat) (l3 : Int32) : pz_C Unit :=
  pz_gB (pz_rR 3 0 l0) fun x1 =>
  pz_cV 0 x1 (X0_set n x1 l1 l3) fun _ =>
  pz_gB (pz_rR 3 1 l0) fun x3 =>
  pz_cV 0 x3 (X0_set n x3 l2 1) fun _ =>
  pz_ret ()
/-- RowSolver$Solving.closeLeaf (II)V -/
def X7_closeLeaf_b152 (n : Nat) (K77 : Int32 → pz_C Unit) (l0 : Option Nat) (l1 : Int32) (l2 : Int32) (l3 : Option Nat) (l4 : Option Nat) (l5 : Int32) : pz_C Unit :=
  pz_let (l5 + 1) fun l5_24 =>
  K77 l5_24
def X7_closeLeaf_L77_body (n : Nat) (l0 : Option Nat) (l1 : Int32) (l2 : Int32) (l3 : Option Nat) (l4 : Option Nat) (K77 : Int32 → pz_C Unit) (l5 : Int32) : pz_C Unit :=
  pz_gB (pz_rR 7 0 l0) fun x18 =>
  pz_gB (pz_rI 6 5 x18) fun x19 =>
  pz_if (x19 ≤ l5) (pz_ret ()) <|
  pz_gB (pz_rR 7 1 l0) fun x20 =>
  pz_cV 9 x20 (X9_cell n x20 l1 l5) fun x21 =>
  pz_gB (pz_rI 0 2 x21) fun x22 =>
  pz_let ((-l2) * x22) fun l7_23 =>
  pz_if (l7_23 = 0) (X7_closeLeaf_b152 n K77 l0 l1 l2 l3 l4 l5) <|
  pz_gB (pz_rR 7 1 l0) fun x25 =>
  pz_gB (pz_rR 9 6 x25) fun x26 =>
  pz_gB (pz_aI 0 x26 l5) fun x27 =>
  pz_gB (pz_rR 7 0 l0) fun x28 =>
  pz_gB (pz_rI 6 5 x28) fun x29 =>
  pz_cV 5 l3 (X5_ofPlace n l3 x27 x29 l7_23) fun x30 =>
  pz_cV 3 x30 (X3_setQuotient n x30 x21 l4 (-l2)) fun _ =>
  X7_closeLeaf_b152 n K77 l0 l1 l2 l3 l4 l5
def X7_closeLeaf_L77 (n : Nat) (l0 : Option Nat) (l1 : Int32) (l2 : Int32) (l3 : Option Nat) (l4 : Option Nat) (l5 : Int32) : pz_C Unit := pz_loop (fun (K : Int32 → pz_C Unit) (s : Int32) => X7_closeLeaf_L77_body n l0 l1 l2 l3 l4 (fun l5 => K l5) s) n l5
def X7_closeLeaf (n : Nat) (l0 : Option Nat) (l1 : Int32) (l2 : Int32) : pz_C Unit :=
  pz_gB (pz_rR 7 2 l0) fun x1 =>
  pz_gB (pz_rR 7 2 l0) fun x2 =>
  pz_gB (pz_rI 10 11 x2) fun x3 =>
  pz_cV 10 x1 (X10_leafOf n x1 x3) fun x4 =>
  pz_if (x4 = none) (pz_ret ()) <|
  pz_gB (pz_rR 7 2 l0) fun x5 =>
  pz_gB (pz_rR 10 6 x5) fun x6 =>
  pz_gB (pz_rR 7 2 l0) fun x7 =>
  pz_gB (pz_rI 10 11 x7) fun x8 =>
  pz_uB (pz_sZ 1 x6 x8 1) <|
  pz_gB (pz_rR 7 1 l0) fun x9 =>
  pz_gB (pz_rR 9 9 x9) fun x10 =>
  pz_gB (pz_rR 7 1 l0) fun x11 =>
  pz_gB (pz_rR 9 5 x11) fun x12 =>
  pz_gB (pz_aI 0 x12 l1) fun x13 =>
  pz_gB (pz_rR 7 0 l0) fun x14 =>
  pz_gB (pz_rI 6 5 x14) fun x15 =>
  pz_cV 5 x4 (X5_ofPlace n x4 x13 x15 l2) fun x16 =>
  pz_cV 3 x16 (X3_setQuotient n x16 x10 x10 l2) fun _ =>
  X7_closeLeaf_L77 n l0 l1 l2 x4 x10 0
/-- RowSolver$Tree.lastWaiting ()I -/
def X10_lastWaiting_b61 (n : Nat) (l1 : Int32) : pz_C Int32 :=
  pz_ret l1
def X10_lastWaiting_L28_body (n : Nat) (l0 : Option Nat) (K28 : Int32 → Int32 → pz_C Int32) (l1 : Int32) (l2 : Int32) : pz_C Int32 :=
  pz_if (301 ≤ l2) (X10_lastWaiting_b61 n l1) <|
  pz_if (l1 < 0) (X10_lastWaiting_b61 n l1) <|
  pz_gB (pz_rR 10 2 l0) fun x3 =>
  pz_gB (pz_aI 0 x3 l1) fun x4 =>
  pz_if (x4 < 0) (X10_lastWaiting_b61 n l1) <|
  pz_gB (pz_rR 10 0 l0) fun x5 =>
  pz_gB (pz_aI 0 x5 l1) fun x6 =>
  pz_let (l2 + 1) fun l2_7 =>
  K28 x6 l2_7
def X10_lastWaiting_L28 (n : Nat) (l0 : Option Nat) (l1 : Int32) (l2 : Int32) : pz_C Int32 := pz_loop (fun (K : Int32 × Int32 → pz_C Int32) (s : Int32 × Int32) => X10_lastWaiting_L28_body n l0 (fun l1 l2 => K (l1, l2)) s.1 s.2) n (l1, l2)
def X10_lastWaiting_b25 (n : Nat) (l0 : Option Nat) (s0 : Int32) : pz_C Int32 :=
  X10_lastWaiting_L28 n l0 s0 0
def X10_lastWaiting (n : Nat) (l0 : Option Nat) : pz_C Int32 :=
  pz_gB (pz_rI 10 11 l0) fun x1 =>
  pz_cV 10 l0 (X10_has n l0 x1) fun x2 =>
  pz_if (x2 = 0) (X10_lastWaiting_b25 n l0 (-2)) <|
  pz_gB (pz_rR 10 0 l0) fun x8 =>
  pz_gB (pz_rI 10 11 l0) fun x9 =>
  pz_gB (pz_aI 0 x8 x9) fun x10 =>
  X10_lastWaiting_b25 n l0 x10
/-- RowSolver$Tableau.move (IJ)V -/
def X9_move_L13_body (n : Nat) (l0 : Option Nat) (l1 : Int32) (l2 : Int64) (l4 : Int64) (K13 : Int32 → pz_C Unit) (l6 : Int32) : pz_C Unit :=
  pz_gB (pz_rI 9 13 l0) fun x4 =>
  pz_if (x4 ≤ l6) (
    pz_gB (pz_rR 9 4 l0) fun x5 =>
    pz_uB (pz_sL 2 x5 l1 l2) <|
    pz_ret ()) <|
  pz_gB (pz_rR 9 0 l0) fun x6 =>
  pz_cV 8 x6 (X8_clear n x6) fun _ =>
  pz_gB (pz_rR 9 0 l0) fun x8 =>
  pz_gB (pz_rR 9 3 l0) fun x9 =>
  pz_gB (pz_aR 3 x9 l6) fun x10 =>
  pz_cV 8 x8 (X8_addTimes n x8 x10 1) fun _ =>
  pz_gB (pz_rR 9 0 l0) fun x12 =>
  pz_cV 9 l0 (X9_cell n l0 l6 l1) fun x13 =>
  pz_cV 8 x12 (X8_addTimes n x12 x13 l4) fun _ =>
  pz_gB (pz_rR 9 0 l0) fun x15 =>
  pz_gB (pz_rR 9 3 l0) fun x16 =>
  pz_gB (pz_aR 3 x16 l6) fun x17 =>
  pz_cV 8 x15 (X8_store n x15 x17) fun _ =>
  pz_let (l6 + 1) fun l6_19 =>
  K13 l6_19
def X9_move_L13 (n : Nat) (l0 : Option Nat) (l1 : Int32) (l2 : Int64) (l4 : Int64) (l6 : Int32) : pz_C Unit := pz_loop (fun (K : Int32 → pz_C Unit) (s : Int32) => X9_move_L13_body n l0 l1 l2 l4 (fun l6 => K l6) s) n l6
def X9_move (n : Nat) (l0 : Option Nat) (l1 : Int32) (l2 : Int64) : pz_C Unit :=
  pz_gB (pz_rR 9 4 l0) fun x1 =>
  pz_gB (pz_aL 2 x1 l1) fun x2 =>
  pz_let (l2 - x2) fun l4_3 =>
  X9_move_L13 n l0 l1 l2 l4_3 0
/-- RowSolver$Solving.goBack ()V -/
def X7_goBack_b101 (n : Nat) : pz_C Unit :=
  pz_ret ()
def X7_goBack (n : Nat) (l0 : Option Nat) : pz_C Unit :=
  pz_gB (pz_rR 7 2 l0) fun x1 =>
  pz_cV 10 x1 (X10_lastWaiting n x1) fun x2 =>
  pz_if (0 ≤ x2) (
    pz_gB (pz_rR 7 2 l0) fun x3 =>
    pz_cV 10 x3 (X10_addLeaf n x3 x2) fun _ =>
    pz_cV 7 l0 (X7_setSplitBounds n l0) fun _ =>
    pz_gB (pz_rR 7 2 l0) fun x6 =>
    pz_gB (pz_rR 10 3 x6) fun x7 =>
    pz_gB (pz_aI 0 x7 x2) fun x8 =>
    pz_gB (pz_rR 7 1 l0) fun x9 =>
    pz_cV 9 x9 (X9_columnOf n x9 x8) fun x10 =>
    pz_if (x10 < 0) (X7_goBack_b101 n) <|
    pz_gB (pz_rR 7 1 l0) fun x11 =>
    pz_gB (pz_rR 9 4 x11) fun x12 =>
    pz_gB (pz_aL 2 x12 x10) fun x13 =>
    pz_gB (pz_rR 7 3 l0) fun x14 =>
    pz_gB (pz_rR 1 3 x14) fun x15 =>
    pz_gB (pz_aL 2 x15 x8) fun x16 =>
    pz_if (0 ≤ (lg_cmp x13 x16)) (X7_goBack_b101 n) <|
    pz_gB (pz_rR 7 1 l0) fun x17 =>
    pz_gB (pz_rR 7 3 l0) fun x18 =>
    pz_gB (pz_rR 1 3 x18) fun x19 =>
    pz_gB (pz_aL 2 x19 x8) fun x20 =>
    pz_cV 9 x17 (X9_move n x17 x10 x20) fun _ =>
    X7_goBack_b101 n) <|
  pz_uB (pz_wF 7 4 l0 (.int 3)) <|
  pz_gB (pz_rR 7 2 l0) fun x22 =>
  pz_uB (pz_wF 10 11 x22 (.int (-2))) <|
  pz_ret ()
/-- RowSolver$Solving.doStep ()V -/
def X7_doStep_b113 (n : Nat) (s0 : Option Nat) (s1 : Int32) (s2 : Int32) (s3 : Int64) : pz_C Unit :=
  pz_cV 9 s0 (X9_exchange n s0 s1 s2 s3) fun _ =>
  pz_ret ()
def X7_doStep_b41 (n : Nat) : pz_C Unit :=
  pz_ret ()
def X7_doStep (n : Nat) (l0 : Option Nat) : pz_C Unit :=
  pz_gB (pz_rI 7 5 l0) fun x1 =>
  pz_uB (pz_wF 7 5 l0 (.int (x1 + 1))) <|
  pz_cV 7 l0 (X7_firstBeyond n l0) fun x2 =>
  pz_if (0 ≤ x2) (
    pz_gB (pz_rR 7 1 l0) fun x3 =>
    pz_cV 9 x3 (X9_rowOf n x3 x2) fun x4 =>
    pz_cV 7 l0 (X7_sideBeyond n l0 x2 x4) fun x5 =>
    pz_cV 7 l0 (X7_enteringColumn n l0 x4 x5) fun x6 =>
    pz_if (x6 < 0) (
      pz_gB (pz_rI 7 7 l0) fun x7 =>
      pz_uB (pz_wF 7 7 l0 (.int (x7 + 1))) <|
      pz_cV 7 l0 (X7_closeLeaf n l0 x4 x5) fun _ =>
      pz_cV 7 l0 (X7_goBack n l0) fun _ =>
      pz_ret ()) <|
    pz_gB (pz_rI 7 6 l0) fun x10 =>
    pz_uB (pz_wF 7 6 l0 (.int (x10 + 1))) <|
    pz_gB (pz_rR 7 1 l0) fun x11 =>
    pz_if (0 ≤ x5) (
      pz_gB (pz_rR 7 3 l0) fun x12 =>
      pz_gB (pz_rR 1 2 x12) fun x13 =>
      pz_gB (pz_aL 2 x13 x2) fun x14 =>
      X7_doStep_b113 n x11 x4 x6 x14) <|
    pz_gB (pz_rR 7 3 l0) fun x16 =>
    pz_gB (pz_rR 1 3 x16) fun x17 =>
    pz_gB (pz_aL 2 x17 x2) fun x18 =>
    X7_doStep_b113 n x11 x4 x6 x18) <|
  pz_cV 7 l0 (X7_firstNotWhole n l0) fun x19 =>
  pz_if (x19 < 0) (
    pz_uB (pz_wF 7 4 l0 (.int 2)) <|
    X7_doStep_b41 n) <|
  pz_cV 7 l0 (X7_split n l0 x19) fun _ =>
  X7_doStep_b41 n
/-- RowSolver.solve (I)I -/
def X11_solve_b22 (n : Nat) : pz_C Int32 :=
  pz_ret (-1)
def X11_solve_b72 (n : Nat) (l2 : Int32) : pz_C Int32 :=
  pz_ret l2
def X11_solve_L43_body (n : Nat) (l0 : Option Nat) (l1 : Int32) (K43 : Int32 → pz_C Int32) (l2 : Int32) : pz_C Int32 :=
  pz_if (l1 ≤ l2) (X11_solve_b72 n l2) <|
  pz_gB (pz_rR 11 5 l0) fun x7 =>
  pz_gB (pz_rI 7 4 x7) fun x8 =>
  pz_if (x8 = 1) (
    pz_gB (pz_rR 11 5 l0) fun x9 =>
    pz_cV 7 x9 (X7_doStep n x9) fun _ =>
    pz_let (l2 + 1) fun l2_11 =>
    K43 l2_11) <|
  X11_solve_b72 n l2
def X11_solve_L43 (n : Nat) (l0 : Option Nat) (l1 : Int32) (l2 : Int32) : pz_C Int32 := pz_loop (fun (K : Int32 → pz_C Int32) (s : Int32) => X11_solve_L43_body n l0 l1 (fun l2 => K l2) s) n l2
def X11_solve_b41 (n : Nat) (l0 : Option Nat) (l1 : Int32) : pz_C Int32 :=
  X11_solve_L43 n l0 l1 0
def X11_solve (n : Nat) (l0 : Option Nat) (l1 : Int32) : pz_C Int32 :=
  pz_gB (pz_rR 11 0 l0) fun x1 =>
  pz_gB (pz_rI 6 5 x1) fun x2 =>
  pz_if (x2 = 0) (X11_solve_b22 n) <|
  pz_if (l1 < 1) (X11_solve_b22 n) <|
  pz_if (l1 ≤ 20000) (
    pz_gB (pz_rR 11 5 l0) fun x3 =>
    pz_gB (pz_rI 7 4 x3) fun x4 =>
    pz_if (x4 = 0) (
      pz_gB (pz_rR 11 5 l0) fun x5 =>
      pz_cV 7 x5 (X7_begin n x5) fun _ =>
      X11_solve_b41 n l0 l1) <|
    X11_solve_b41 n l0 l1) <|
  X11_solve_b22 n
/-- RowSolverModel.valueAt (I)I -/
def X12_valueAt (n : Nat) (l0 : Int32) : pz_C Int32 :=
  pz_ret (3856 + (300 * l0))
/-- RowSolverModel.factorAt (II)I -/
def X12_factorAt (n : Nat) (l0 : Int32) (l1 : Int32) : pz_C Int32 :=
  pz_ret (16 + (16 * ((10 * l0) + l1)))
/-- RowSolverModel.multiplierAt (III)I -/
def X12_multiplierAt (n : Nat) (l0 : Int32) (l1 : Int32) (l2 : Int32) : pz_C Int32 :=
  pz_ret (116056 + (16 * ((2 * ((32 * l0) + l1)) + l2)))
/-- RowSolverModel.newNode (I)I -/
def X12_newNode_L78_body (n : Nat) (l0 : Option Nat) (l2 : Int32) (K78 : Int32 → pz_C Int32) (l3 : Int32) : pz_C Int32 :=
  pz_if (32 ≤ l3) (pz_ret l2) <|
  pz_gB (pz_rR 12 22 l0) fun x12 =>
  pz_gB (pz_aI 0 x12 l2) fun x13 =>
  pz_cB (X12_multiplierAt n x13 l3 0) fun x14 =>
  pz_cV 12 l0 (X12_setWhole n l0 x14 0) fun _ =>
  pz_gB (pz_rR 12 22 l0) fun x16 =>
  pz_gB (pz_aI 0 x16 l2) fun x17 =>
  pz_cB (X12_multiplierAt n x17 l3 1) fun x18 =>
  pz_cV 12 l0 (X12_setWhole n l0 x18 1) fun _ =>
  pz_let (l3 + 1) fun l3_20 =>
  K78 l3_20
def X12_newNode_L78 (n : Nat) (l0 : Option Nat) (l2 : Int32) (l3 : Int32) : pz_C Int32 := pz_loop (fun (K : Int32 → pz_C Int32) (s : Int32) => X12_newNode_L78_body n l0 l2 (fun l3 => K l3) s) n l3
def X12_newNode (n : Nat) (l0 : Option Nat) (l1 : Int32) : pz_C Int32 :=
  pz_gB (pz_rI 12 15 l0) fun x1 =>
  pz_gB (pz_rI 12 15 l0) fun x2 =>
  pz_uB (pz_wF 12 15 l0 (.int (x2 + 1))) <|
  pz_gB (pz_rR 12 16 l0) fun x3 =>
  pz_uB (pz_sZ 1 x3 x1 0) <|
  pz_gB (pz_rR 12 17 l0) fun x4 =>
  pz_uB (pz_sZ 1 x4 x1 0) <|
  pz_gB (pz_rR 12 19 l0) fun x5 =>
  pz_uB (pz_sI 0 x5 x1 (-2)) <|
  pz_gB (pz_rR 12 20 l0) fun x6 =>
  pz_uB (pz_sI 0 x6 x1 (-2)) <|
  pz_gB (pz_rR 12 21 l0) fun x7 =>
  pz_uB (pz_sI 0 x7 x1 l1) <|
  pz_gB (pz_rR 12 22 l0) fun x8 =>
  pz_gB (pz_rI 12 23 l0) fun x9 =>
  pz_gB (pz_rmI x9 152) fun x10 =>
  pz_uB (pz_sI 0 x8 x1 x10) <|
  pz_gB (pz_rI 12 23 l0) fun x11 =>
  pz_uB (pz_wF 12 23 l0 (.int (x11 + 1))) <|
  X12_newNode_L78 n l0 x1 0
/-- RowSolverModel.begin ()V -/
def X12_begin_L87_body (n : Nat) (K65 : Int32 → pz_C Unit) (l0 : Option Nat) (l1 : Int32) (K87 : Int32 → pz_C Unit) (l2 : Int32) : pz_C Unit :=
  pz_gB (pz_rI 12 0 l0) fun x7 =>
  pz_if (x7 ≤ l2) (
    pz_let (l1 + 1) fun l1_8 =>
    K65 l1_8) <|
  pz_cB (X12_factorAt n l1 l2) fun x9 =>
  pz_gB (pz_rR 12 2 l0) fun x10 =>
  pz_gB (pz_aI 0 x10 ((10 * l1) + l2)) fun x11 =>
  pz_cV 12 l0 (X12_setWhole n l0 x9 (Int32.toInt64 x11)) fun _ =>
  pz_let (l2 + 1) fun l2_13 =>
  K87 l2_13
def X12_begin_L87 (n : Nat) (K65 : Int32 → pz_C Unit) (l0 : Option Nat) (l1 : Int32) (l2 : Int32) : pz_C Unit := pz_loop (fun (K : Int32 → pz_C Unit) (s : Int32) => X12_begin_L87_body n K65 l0 l1 (fun l2 => K l2) s) n l2
def X12_begin_L65_body (n : Nat) (l0 : Option Nat) (K65 : Int32 → pz_C Unit) (l1 : Int32) : pz_C Unit :=
  pz_gB (pz_rI 12 1 l0) fun x3 =>
  pz_if (x3 ≤ l1) (
    pz_cV 12 l0 (X12_newNode n l0 (-2)) fun x4 =>
    pz_uB (pz_wF 12 24 l0 (.int x4)) <|
    pz_ret ()) <|
  pz_gB (pz_rR 12 13 l0) fun x5 =>
  pz_gB (pz_rI 12 0 l0) fun x6 =>
  pz_uB (pz_sI 0 x5 l1 (x6 + l1)) <|
  X12_begin_L87 n K65 l0 l1 0
def X12_begin_L65 (n : Nat) (l0 : Option Nat) (l1 : Int32) : pz_C Unit := pz_loop (fun (K : Int32 → pz_C Unit) (s : Int32) => X12_begin_L65_body n l0 (fun l1 => K l1) s) n l1
def X12_begin_L7_body (n : Nat) (l0 : Option Nat) (K7 : Int32 → pz_C Unit) (l1 : Int32) : pz_C Unit :=
  pz_gB (pz_rI 12 0 l0) fun x1 =>
  pz_if (x1 ≤ l1) (
    pz_cV 12 l0 (X12_setWhole n l0 0 1) fun _ =>
    X12_begin_L65 n l0 0) <|
  pz_gB (pz_rR 12 14 l0) fun x14 =>
  pz_uB (pz_sI 0 x14 l1 l1) <|
  pz_cB (X12_valueAt n l1) fun x15 =>
  pz_cV 12 l0 (X12_setWhole n l0 x15 0) fun _ =>
  pz_gB (pz_rR 12 12 l0) fun x17 =>
  pz_uB (pz_sZ 1 x17 (2 * l1) 0) <|
  pz_gB (pz_rR 12 12 l0) fun x18 =>
  pz_uB (pz_sZ 1 x18 ((2 * l1) + 1) 0) <|
  pz_let (l1 + 1) fun l1_19 =>
  K7 l1_19
def X12_begin_L7 (n : Nat) (l0 : Option Nat) (l1 : Int32) : pz_C Unit := pz_loop (fun (K : Int32 → pz_C Unit) (s : Int32) => X12_begin_L7_body n l0 (fun l1 => K l1) s) n l1
def X12_begin (n : Nat) (l0 : Option Nat) : pz_C Unit :=
  pz_uB (pz_wF 12 7 l0 (.int 1)) <|
  X12_begin_L7 n l0 0
/-- RowSolverModel.rowOf (I)I -/
def X12_rowOf_L2_body (n : Nat) (l0 : Option Nat) (l1 : Int32) (K2 : Int32 → pz_C Int32) (l2 : Int32) : pz_C Int32 :=
  pz_gB (pz_rI 12 1 l0) fun x1 =>
  pz_if (x1 ≤ l2) (pz_ret (-1)) <|
  pz_gB (pz_rR 12 13 l0) fun x2 =>
  pz_gB (pz_aI 0 x2 l2) fun x3 =>
  pz_if (x3 = l1) (pz_ret l2) <|
  pz_let (l2 + 1) fun l2_4 =>
  K2 l2_4
def X12_rowOf_L2 (n : Nat) (l0 : Option Nat) (l1 : Int32) (l2 : Int32) : pz_C Int32 := pz_loop (fun (K : Int32 → pz_C Int32) (s : Int32) => X12_rowOf_L2_body n l0 l1 (fun l2 => K l2) s) n l2
def X12_rowOf (n : Nat) (l0 : Option Nat) (l1 : Int32) : pz_C Int32 :=
  X12_rowOf_L2 n l0 l1 0
/-- RowSolverModel.hasBound (II)Z -/
def X12_hasBound_b46 (n : Nat) (s0 : Int32) : pz_C Int32 :=
  pz_zz s0 (pz_ret s0)
def X12_hasBound_b41 (n : Nat) : pz_C Int32 :=
  X12_hasBound_b46 n 1
def X12_hasBound (n : Nat) (l0 : Option Nat) (l1 : Int32) (l2 : Int32) : pz_C Int32 :=
  pz_gB (pz_rI 12 0 l0) fun x1 =>
  pz_if (x1 ≤ l1) (
    pz_gB (pz_rR 12 3 l0) fun x2 =>
    pz_gB (pz_rI 12 0 l0) fun x3 =>
    pz_gB (pz_aI 0 x2 (l1 - x3)) fun x4 =>
    pz_if (x4 = 2) (X12_hasBound_b41 n) <|
    pz_if (x4 = l2) (X12_hasBound_b41 n) <|
    X12_hasBound_b46 n 0) <|
  pz_gB (pz_rR 12 12 l0) fun x5 =>
  pz_gB (pz_aI 1 x5 ((2 * l1) + l2)) fun x6 =>
  pz_zz x6 (pz_ret x6)
/-- RowSolverModel.sgn (I)I -/
def X12_sgn_b27 (n : Nat) (s0 : Int32) : pz_C Int32 :=
  pz_ret s0
def X12_sgn (n : Nat) (l0 : Option Nat) (l1 : Int32) : pz_C Int32 :=
  pz_gB (pz_rR 12 34 l0) fun x1 =>
  pz_gB (pz_aI 0 x1 l1) fun x2 =>
  pz_if (x2 ≤ 0) (
    pz_gB (pz_rR 12 34 l0) fun x3 =>
    pz_gB (pz_aI 0 x3 l1) fun x4 =>
    pz_if (0 ≤ x4) (X12_sgn_b27 n 0) <|
    X12_sgn_b27 n (-1)) <|
  X12_sgn_b27 n 1
/-- RowSolverModel.by (II)I -/
def X12_by_b226 (n : Nat) (l0 : Option Nat) (l3 : Int32) (l6 : Int32) (s0 : Option Nat) (s1 : Int32) (s2 : Int32) : pz_C Int32 :=
  pz_uB (pz_sI 0 s0 s1 s2) <|
  pz_uB (pz_wF 12 35 l0 (.int ((l3 + l6) + 1))) <|
  pz_ret l3
def X12_by_b199 (n : Nat) (l0 : Option Nat) (l1 : Int32) (l2 : Int32) (l3 : Int32) (l6 : Int32) : pz_C Int32 :=
  pz_gB (pz_rR 12 34 l0) fun x5 =>
  pz_cV 12 l0 (X12_sgn n l0 l1) fun x6 =>
  pz_cV 12 l0 (X12_sgn n l0 l2) fun x7 =>
  pz_if (0 ≤ (x6 * x7)) (X12_by_b226 n l0 l3 l6 x5 l3 l6) <|
  X12_by_b226 n l0 l3 l6 x5 l3 (-l6)
def X12_by_L176_body (n : Nat) (l0 : Option Nat) (l1 : Int32) (l2 : Int32) (l3 : Int32) (K176 : Int32 → pz_C Int32) (l6 : Int32) : pz_C Int32 :=
  pz_if (l6 ≤ 0) (X12_by_b199 n l0 l1 l2 l3 l6) <|
  pz_gB (pz_rR 12 34 l0) fun x8 =>
  pz_gB (pz_aI 0 x8 (l3 + l6)) fun x9 =>
  pz_if (x9 = 0) (
    pz_let (l6 + (-1)) fun l6_10 =>
    K176 l6_10) <|
  X12_by_b199 n l0 l1 l2 l3 l6
def X12_by_L176 (n : Nat) (l0 : Option Nat) (l1 : Int32) (l2 : Int32) (l3 : Int32) (l6 : Int32) : pz_C Int32 := pz_loop (fun (K : Int32 → pz_C Int32) (s : Int32) => X12_by_L176_body n l0 l1 l2 l3 (fun l6 => K l6) s) n l6
def X12_by_L64_body (n : Nat) (K51 : Int32 → pz_C Int32) (l0 : Option Nat) (l1 : Int32) (l2 : Int32) (l3 : Int32) (l4 : Int32) (l5 : Int32) (l6 : Int32) (K64 : Int64 → Int32 → pz_C Int32) (l7 : Int64) (l9 : Int32) : pz_C Int32 :=
  pz_if (l5 < l9) (
    pz_gB (pz_rR 12 34 l0) fun x11 =>
    pz_uB (pz_sI 0 x11 ((l3 + l6) + l5) (Int64.toInt32 l7)) <|
    pz_let (l6 + 1) fun l6_12 =>
    K51 l6_12) <|
  pz_gB (pz_rR 12 34 l0) fun x13 =>
  pz_gB (pz_aI 0 x13 (l1 + l6)) fun x14 =>
  pz_gB (pz_rR 12 34 l0) fun x15 =>
  pz_gB (pz_aI 0 x15 (l2 + l9)) fun x16 =>
  pz_gB (pz_rR 12 34 l0) fun x17 =>
  pz_gB (pz_aI 0 x17 (((l3 + l6) + l9) - 1)) fun x18 =>
  pz_let ((((Int32.toInt64 x14) * (Int32.toInt64 x16)) + (Int32.toInt64 x18)) + l7) fun l10_19 =>
  pz_gB (pz_dvL l10_19 1000000000) fun x20 =>
  pz_gB (pz_rR 12 34 l0) fun x21 =>
  pz_gB (pz_rmL l10_19 1000000000) fun x22 =>
  pz_uB (pz_sI 0 x21 (((l3 + l6) + l9) - 1) (Int64.toInt32 x22)) <|
  pz_let (l9 + 1) fun l9_23 =>
  K64 x20 l9_23
def X12_by_L64 (n : Nat) (K51 : Int32 → pz_C Int32) (l0 : Option Nat) (l1 : Int32) (l2 : Int32) (l3 : Int32) (l4 : Int32) (l5 : Int32) (l6 : Int32) (l7 : Int64) (l9 : Int32) : pz_C Int32 := pz_loop (fun (K : Int64 × Int32 → pz_C Int32) (s : Int64 × Int32) => X12_by_L64_body n K51 l0 l1 l2 l3 l4 l5 l6 (fun l7 l9 => K (l7, l9)) s.1 s.2) n (l7, l9)
def X12_by_L51_body (n : Nat) (l0 : Option Nat) (l1 : Int32) (l2 : Int32) (l3 : Int32) (l4 : Int32) (l5 : Int32) (K51 : Int32 → pz_C Int32) (l6 : Int32) : pz_C Int32 :=
  pz_if (l4 < l6) (
    pz_let (l4 + l5) fun l6_4 =>
    X12_by_L176 n l0 l1 l2 l3 l6_4) <|
  X12_by_L64 n K51 l0 l1 l2 l3 l4 l5 l6 0 1
def X12_by_L51 (n : Nat) (l0 : Option Nat) (l1 : Int32) (l2 : Int32) (l3 : Int32) (l4 : Int32) (l5 : Int32) (l6 : Int32) : pz_C Int32 := pz_loop (fun (K : Int32 → pz_C Int32) (s : Int32) => X12_by_L51_body n l0 l1 l2 l3 l4 l5 (fun l6 => K l6) s) n l6
def X12_by_L22_body (n : Nat) (l0 : Option Nat) (l1 : Int32) (l2 : Int32) (l3 : Int32) (l4 : Int32) (l5 : Int32) (K22 : Int32 → pz_C Int32) (l6 : Int32) : pz_C Int32 :=
  pz_if ((l4 + l5) < l6) (X12_by_L51 n l0 l1 l2 l3 l4 l5 1) <|
  pz_gB (pz_rR 12 34 l0) fun x24 =>
  pz_uB (pz_sI 0 x24 (l3 + l6) 0) <|
  pz_let (l6 + 1) fun l6_25 =>
  K22 l6_25
def X12_by_L22 (n : Nat) (l0 : Option Nat) (l1 : Int32) (l2 : Int32) (l3 : Int32) (l4 : Int32) (l5 : Int32) (l6 : Int32) : pz_C Int32 := pz_loop (fun (K : Int32 → pz_C Int32) (s : Int32) => X12_by_L22_body n l0 l1 l2 l3 l4 l5 (fun l6 => K l6) s) n l6
def X12_by (n : Nat) (l0 : Option Nat) (l1 : Int32) (l2 : Int32) : pz_C Int32 :=
  pz_gB (pz_rI 12 35 l0) fun x1 =>
  pz_cV 12 l0 (X12_limbs n l0 l1) fun x2 =>
  pz_cV 12 l0 (X12_limbs n l0 l2) fun x3 =>
  X12_by_L22 n l0 l1 l2 x1 x2 x3 0
/-- RowSolverModel.again (I)I -/
def X12_again (n : Nat) (l0 : Option Nat) (l1 : Int32) : pz_C Int32 :=
  pz_gB (pz_rI 12 35 l0) fun x1 =>
  pz_cV 12 l0 (X12_copyTo n l0 l1 x1) fun _ =>
  pz_cV 12 l0 (X12_limbs n l0 x1) fun x3 =>
  pz_uB (pz_wF 12 35 l0 (.int ((x1 + x3) + 1))) <|
  pz_ret x1
/-- RowSolverModel.joined (IIZZ)I -/
def X12_joined_b215 (n : Nat) (l0 : Option Nat) (l5 : Int32) (l11 : Int32) (s0 : Option Nat) (s1 : Int32) (s2 : Int32) : pz_C Int32 :=
  pz_uB (pz_sI 0 s0 s1 s2) <|
  pz_uB (pz_wF 12 35 l0 (.int ((l5 + l11) + 1))) <|
  pz_ret l5
def X12_joined_b188 (n : Nat) (K45 : Int64 → Int32 → Int32 → pz_C Int32) (l0 : Option Nat) (l1 : Int32) (l2 : Int32) (l3 : Int32) (l4 : Int32) (l5 : Int32) (l6 : Int32) (l7 : Int32) (l8 : Int32) (l9 : Int64) (l12 : Int32) (s0 : Int32) : pz_C Int32 :=
  pz_let (l12 + 1) fun l12_11 =>
  K45 l9 s0 l12_11
def X12_joined_b146 (n : Nat) (K45 : Int64 → Int32 → Int32 → pz_C Int32) (l0 : Option Nat) (l1 : Int32) (l2 : Int32) (l3 : Int32) (l4 : Int32) (l5 : Int32) (l6 : Int32) (l7 : Int32) (l8 : Int32) (l11 : Int32) (l12 : Int32) (l13 : Int64) (s0 : Int64) : pz_C Int32 :=
  pz_gB (pz_rR 12 34 l0) fun x8 =>
  pz_uB (pz_sI 0 x8 (l5 + l12) (Int64.toInt32 (l13 - (s0 * 1000000000)))) <|
  pz_gB (pz_rR 12 34 l0) fun x9 =>
  pz_gB (pz_aI 0 x9 (l5 + l12)) fun x10 =>
  pz_if (x10 = 0) (X12_joined_b188 n K45 l0 l1 l2 l3 l4 l5 l6 l7 l8 s0 l12 l11) <|
  X12_joined_b188 n K45 l0 l1 l2 l3 l4 l5 l6 l7 l8 s0 l12 l12
def X12_joined_b115 (n : Nat) (K45 : Int64 → Int32 → Int32 → pz_C Int32) (l0 : Option Nat) (l1 : Int32) (l2 : Int32) (l3 : Int32) (l4 : Int32) (l5 : Int32) (l6 : Int32) (l7 : Int32) (l8 : Int32) (l11 : Int32) (l12 : Int32) (s0 : Int64) (s1 : Int32) : pz_C Int32 :=
  pz_let (s0 + (Int32.toInt64 s1)) fun l13_7 =>
  pz_if (0 ≤ (lg_cmp l13_7 0)) (
    pz_if ((lg_cmp l13_7 1000000000) < 0) (X12_joined_b146 n K45 l0 l1 l2 l3 l4 l5 l6 l7 l8 l11 l12 l13_7 0) <|
    X12_joined_b146 n K45 l0 l1 l2 l3 l4 l5 l6 l7 l8 l11 l12 l13_7 1) <|
  X12_joined_b146 n K45 l0 l1 l2 l3 l4 l5 l6 l7 l8 l11 l12 l13_7 (-1)
def X12_joined_b76 (n : Nat) (K45 : Int64 → Int32 → Int32 → pz_C Int32) (l0 : Option Nat) (l1 : Int32) (l2 : Int32) (l3 : Int32) (l4 : Int32) (l5 : Int32) (l6 : Int32) (l7 : Int32) (l8 : Int32) (l11 : Int32) (l12 : Int32) (s0 : Int64) (s1 : Int32) : pz_C Int32 :=
  pz_if (l12 ≤ l7) (
    pz_if (l3 = 0) (
      pz_gB (pz_rR 12 34 l0) fun x5 =>
      pz_gB (pz_aI 0 x5 (l2 + l12)) fun x6 =>
      X12_joined_b115 n K45 l0 l1 l2 l3 l4 l5 l6 l7 l8 l11 l12 (s0 + (Int32.toInt64 s1)) (-x6)) <|
    pz_gB (pz_rR 12 34 l0) fun x12 =>
    pz_gB (pz_aI 0 x12 (l2 + l12)) fun x13 =>
    X12_joined_b115 n K45 l0 l1 l2 l3 l4 l5 l6 l7 l8 l11 l12 (s0 + (Int32.toInt64 s1)) x13) <|
  X12_joined_b115 n K45 l0 l1 l2 l3 l4 l5 l6 l7 l8 l11 l12 (s0 + (Int32.toInt64 s1)) 0
def X12_joined_L45_body (n : Nat) (l0 : Option Nat) (l1 : Int32) (l2 : Int32) (l3 : Int32) (l4 : Int32) (l5 : Int32) (l6 : Int32) (l7 : Int32) (l8 : Int32) (K45 : Int64 → Int32 → Int32 → pz_C Int32) (l9 : Int64) (l11 : Int32) (l12 : Int32) : pz_C Int32 :=
  pz_if ((l8 + 1) < l12) (
    pz_gB (pz_rR 12 34 l0) fun x4 =>
    pz_if (l4 = 0) (X12_joined_b215 n l0 l5 l11 x4 l5 l11) <|
    X12_joined_b215 n l0 l5 l11 x4 l5 (-l11)) <|
  pz_if (l6 < l12) (X12_joined_b76 n K45 l0 l1 l2 l3 l4 l5 l6 l7 l8 l11 l12 l9 0) <|
  pz_gB (pz_rR 12 34 l0) fun x14 =>
  pz_gB (pz_aI 0 x14 (l1 + l12)) fun x15 =>
  X12_joined_b76 n K45 l0 l1 l2 l3 l4 l5 l6 l7 l8 l11 l12 l9 x15
def X12_joined_L45 (n : Nat) (l0 : Option Nat) (l1 : Int32) (l2 : Int32) (l3 : Int32) (l4 : Int32) (l5 : Int32) (l6 : Int32) (l7 : Int32) (l8 : Int32) (l9 : Int64) (l11 : Int32) (l12 : Int32) : pz_C Int32 := pz_loop (fun (K : Int64 × Int32 × Int32 → pz_C Int32) (s : Int64 × Int32 × Int32) => X12_joined_L45_body n l0 l1 l2 l3 l4 l5 l6 l7 l8 (fun l9 l11 l12 => K (l9, l11, l12)) s.1 s.2.1 s.2.2) n (l9, l11, l12)
def X12_joined_b34 (n : Nat) (l0 : Option Nat) (l1 : Int32) (l2 : Int32) (l3 : Int32) (l4 : Int32) (l5 : Int32) (l6 : Int32) (l7 : Int32) (s0 : Int32) : pz_C Int32 :=
  X12_joined_L45 n l0 l1 l2 l3 l4 l5 l6 l7 s0 0 0 1
def X12_joined (n : Nat) (l0 : Option Nat) (l1 : Int32) (l2 : Int32) (l3 : Int32) (l4 : Int32) : pz_C Int32 :=
  pz_gB (pz_rI 12 35 l0) fun x1 =>
  pz_cV 12 l0 (X12_limbs n l0 l1) fun x2 =>
  pz_cV 12 l0 (X12_limbs n l0 l2) fun x3 =>
  pz_if (x2 ≤ x3) (X12_joined_b34 n l0 l1 l2 l3 l4 x1 x2 x3 x3) <|
  X12_joined_b34 n l0 l1 l2 l3 l4 x1 x2 x3 x2
/-- RowSolverModel.weigh (II)I -/
def X12_weigh_b101 (n : Nat) (s0 : Int32) : pz_C Int32 :=
  pz_ret s0
def X12_weigh_b66 (n : Nat) (l0 : Option Nat) (l1 : Int32) (l2 : Int32) (l5 : Int32) : pz_C Int32 :=
  pz_if (l5 = 0) (X12_weigh_b101 n 0) <|
  pz_gB (pz_rR 12 34 l0) fun x3 =>
  pz_gB (pz_aI 0 x3 (l1 + l5)) fun x4 =>
  pz_gB (pz_rR 12 34 l0) fun x5 =>
  pz_gB (pz_aI 0 x5 (l2 + l5)) fun x6 =>
  pz_if (x6 ≤ x4) (X12_weigh_b101 n 1) <|
  X12_weigh_b101 n (-1)
def X12_weigh_L34_body (n : Nat) (l0 : Option Nat) (l1 : Int32) (l2 : Int32) (K34 : Int32 → pz_C Int32) (l5 : Int32) : pz_C Int32 :=
  pz_if (l5 ≤ 0) (X12_weigh_b66 n l0 l1 l2 l5) <|
  pz_gB (pz_rR 12 34 l0) fun x7 =>
  pz_gB (pz_aI 0 x7 (l1 + l5)) fun x8 =>
  pz_gB (pz_rR 12 34 l0) fun x9 =>
  pz_gB (pz_aI 0 x9 (l2 + l5)) fun x10 =>
  pz_if (x8 = x10) (
    pz_let (l5 + (-1)) fun l5_11 =>
    K34 l5_11) <|
  X12_weigh_b66 n l0 l1 l2 l5
def X12_weigh_L34 (n : Nat) (l0 : Option Nat) (l1 : Int32) (l2 : Int32) (l5 : Int32) : pz_C Int32 := pz_loop (fun (K : Int32 → pz_C Int32) (s : Int32) => X12_weigh_L34_body n l0 l1 l2 (fun l5 => K l5) s) n l5
def X12_weigh_b30 (n : Nat) (s0 : Int32) : pz_C Int32 :=
  pz_ret s0
def X12_weigh (n : Nat) (l0 : Option Nat) (l1 : Int32) (l2 : Int32) : pz_C Int32 :=
  pz_cV 12 l0 (X12_limbs n l0 l1) fun x1 =>
  pz_cV 12 l0 (X12_limbs n l0 l2) fun x2 =>
  pz_if (x1 = x2) (X12_weigh_L34 n l0 l1 l2 x1) <|
  pz_if (x2 ≤ x1) (X12_weigh_b30 n 1) <|
  X12_weigh_b30 n (-1)
/-- RowSolverModel.plus (II)I -/
def X12_plus_b32 (n : Nat) (s0 : Option Nat) (s1 : Int32) : pz_C Int32 :=
  pz_cV 12 s0 (X12_again n s0 s1) fun x3 =>
  pz_ret x3
def X12_plus_b22 (n : Nat) (l0 : Option Nat) (l1 : Int32) (l2 : Int32) (l3 : Int32) : pz_C Int32 :=
  pz_if (l3 = 0) (X12_plus_b32 n l0 l2) <|
  X12_plus_b32 n l0 l1
def X12_plus_b55 (n : Nat) (s0 : Option Nat) (s1 : Int32) (s2 : Int32) (s3 : Int32) (s4 : Int32) : pz_C Int32 :=
  pz_cV 12 s0 (X12_joined n s0 s1 s2 s3 s4) fun x4 =>
  pz_ret x4
def X12_plus_b104 (n : Nat) (s0 : Int32) : pz_C Int32 :=
  pz_ret s0
def X12_plus_b101 (n : Nat) (s0 : Option Nat) (s1 : Int32) (s2 : Int32) (s3 : Int32) (s4 : Int32) : pz_C Int32 :=
  pz_cV 12 s0 (X12_joined n s0 s1 s2 s3 s4) fun x6 =>
  X12_plus_b104 n x6
def X12_plus_b81 (n : Nat) (s0 : Option Nat) (s1 : Int32) (s2 : Int32) (s3 : Int32) (s4 : Int32) : pz_C Int32 :=
  pz_cV 12 s0 (X12_joined n s0 s1 s2 s3 s4) fun x7 =>
  X12_plus_b104 n x7
def X12_plus (n : Nat) (l0 : Option Nat) (l1 : Int32) (l2 : Int32) : pz_C Int32 :=
  pz_cV 12 l0 (X12_sgn n l0 l1) fun x1 =>
  pz_cV 12 l0 (X12_sgn n l0 l2) fun x2 =>
  pz_if (x1 = 0) (X12_plus_b22 n l0 l1 l2 x1) <|
  pz_if (x2 = 0) (X12_plus_b22 n l0 l1 l2 x1) <|
  pz_if (x1 = x2) (
    pz_if (0 ≤ x1) (X12_plus_b55 n l0 l1 l2 1 0) <|
    X12_plus_b55 n l0 l1 l2 1 1) <|
  pz_cV 12 l0 (X12_weigh n l0 l1 l2) fun x5 =>
  pz_if (x5 < 0) (
    pz_if (0 ≤ x2) (X12_plus_b101 n l0 l2 l1 0 0) <|
    X12_plus_b101 n l0 l2 l1 0 1) <|
  pz_if (0 ≤ x1) (X12_plus_b81 n l0 l1 l2 0 0) <|
  X12_plus_b81 n l0 l1 l2 0 1
/-- RowSolverModel.keep (II)I -/
def X12_keep (n : Nat) (l0 : Option Nat) (l1 : Int32) (l2 : Int32) : pz_C Int32 :=
  pz_cV 12 l0 (X12_copyTo n l0 l2 l1) fun _ =>
  pz_cV 12 l0 (X12_limbs n l0 l1) fun x2 =>
  pz_uB (pz_wF 12 35 l0 (.int ((l1 + x2) + 1))) <|
  pz_ret l1
/-- RowSolverModel.sumOf (I)I -/
def X12_sumOf_L14_body (n : Nat) (l0 : Option Nat) (l1 : Int32) (l2 : Int32) (K14 : Int32 → Int32 → pz_C Int32) (l3 : Int32) (l4 : Int32) : pz_C Int32 :=
  pz_gB (pz_rI 12 0 l0) fun x3 =>
  pz_if (x3 ≤ l4) (pz_ret l3) <|
  pz_cB (X12_factorAt n l1 l4) fun x4 =>
  pz_gB (pz_rR 12 14 l0) fun x5 =>
  pz_gB (pz_aI 0 x5 l4) fun x6 =>
  pz_cB (X12_valueAt n x6) fun x7 =>
  pz_cV 12 l0 (X12_by n l0 x4 x7) fun x8 =>
  pz_cV 12 l0 (X12_plus n l0 l3 x8) fun x9 =>
  pz_cV 12 l0 (X12_keep n l0 l2 x9) fun x10 =>
  pz_let (l4 + 1) fun l4_11 =>
  K14 x10 l4_11
def X12_sumOf_L14 (n : Nat) (l0 : Option Nat) (l1 : Int32) (l2 : Int32) (l3 : Int32) (l4 : Int32) : pz_C Int32 := pz_loop (fun (K : Int32 × Int32 → pz_C Int32) (s : Int32 × Int32) => X12_sumOf_L14_body n l0 l1 l2 (fun l3 l4 => K (l3, l4)) s.1 s.2) n (l3, l4)
def X12_sumOf (n : Nat) (l0 : Option Nat) (l1 : Int32) : pz_C Int32 :=
  pz_gB (pz_rI 12 35 l0) fun x1 =>
  pz_cV 12 l0 (X12_plainOf n l0 0) fun x2 =>
  X12_sumOf_L14 n l0 l1 x1 x2 0
/-- RowSolverModel.boundAt (II)I -/
def X12_boundAt (n : Nat) (l0 : Int32) (l1 : Int32) : pz_C Int32 :=
  pz_ret (10456 + (300 * ((2 * l0) + l1)))
/-- RowSolverModel.bound (II)I -/
def X12_bound_b32 (n : Nat) (s0 : Int32) : pz_C Int32 :=
  pz_ret s0
def X12_bound (n : Nat) (l0 : Option Nat) (l1 : Int32) (l2 : Int32) : pz_C Int32 :=
  pz_gB (pz_rI 12 0 l0) fun x1 =>
  pz_if (x1 ≤ l1) (
    pz_gB (pz_rR 12 4 l0) fun x2 =>
    pz_gB (pz_rI 12 0 l0) fun x3 =>
    pz_gB (pz_aI 0 x2 (l1 - x3)) fun x4 =>
    pz_cV 12 l0 (X12_plainOf n l0 (Int32.toInt64 x4)) fun x5 =>
    X12_bound_b32 n x5) <|
  pz_cB (X12_boundAt n l1 l2) fun x6 =>
  X12_bound_b32 n x6
/-- RowSolverModel.compare (II)I -/
def X12_compare_b53 (n : Nat) (s0 : Int32) : pz_C Int32 :=
  pz_ret s0
def X12_compare (n : Nat) (l0 : Option Nat) (l1 : Int32) (l2 : Int32) : pz_C Int32 :=
  pz_cV 12 l0 (X12_sgn n l0 l1) fun x1 =>
  pz_cV 12 l0 (X12_sgn n l0 l2) fun x2 =>
  pz_if (x1 = x2) (
    pz_if (0 ≤ x1) (
      pz_cV 12 l0 (X12_weigh n l0 l1 l2) fun x3 =>
      X12_compare_b53 n x3) <|
    pz_cV 12 l0 (X12_weigh n l0 l1 l2) fun x4 =>
    X12_compare_b53 n (-x4)) <|
  pz_if (x2 ≤ x1) (X12_compare_b53 n 1) <|
  X12_compare_b53 n (-1)
/-- RowSolverModel.againstBound (II)I -/
def X12_againstBound (n : Nat) (l0 : Option Nat) (l1 : Int32) (l2 : Int32) : pz_C Int32 :=
  pz_gB (pz_rI 12 35 l0) fun x1 =>
  pz_cV 12 l0 (X12_sumOf n l0 l1) fun x2 =>
  pz_gB (pz_rR 12 13 l0) fun x3 =>
  pz_gB (pz_aI 0 x3 l1) fun x4 =>
  pz_cV 12 l0 (X12_bound n l0 x4 l2) fun x5 =>
  pz_cV 12 l0 (X12_by n l0 x5 0) fun x6 =>
  pz_cV 12 l0 (X12_compare n l0 x2 x6) fun x7 =>
  pz_uB (pz_wF 12 35 l0 (.int x1)) <|
  pz_ret x7
/-- RowSolverModel.wrongRow ()I -/
def X12_wrongRow_b76 (n : Nat) (K2 : Int32 → pz_C Int32) (l0 : Option Nat) (l1 : Int32) : pz_C Int32 :=
  pz_let (l1 + 1) fun l1_4 =>
  K2 l1_4
def X12_wrongRow_b51 (n : Nat) (K2 : Int32 → pz_C Int32) (l0 : Option Nat) (l1 : Int32) (l2 : Int32) : pz_C Int32 :=
  pz_cV 12 l0 (X12_hasBound n l0 l1 0) fun x6 =>
  pz_if (x6 = 0) (X12_wrongRow_b76 n K2 l0 l1) <|
  pz_cV 12 l0 (X12_againstBound n l0 l2 0) fun x7 =>
  pz_if (x7 ≤ 0) (X12_wrongRow_b76 n K2 l0 l1) <|
  pz_uB (pz_wF 12 29 l0 (.int 0)) <|
  pz_ret l2
def X12_wrongRow_L2_body (n : Nat) (l0 : Option Nat) (K2 : Int32 → pz_C Int32) (l1 : Int32) : pz_C Int32 :=
  pz_gB (pz_rI 12 0 l0) fun x1 =>
  pz_gB (pz_rI 12 1 l0) fun x2 =>
  pz_if ((x1 + x2) ≤ l1) (pz_ret (-1)) <|
  pz_cV 12 l0 (X12_rowOf n l0 l1) fun x3 =>
  pz_if (x3 = (-1)) (X12_wrongRow_b76 n K2 l0 l1) <|
  pz_cV 12 l0 (X12_hasBound n l0 l1 1) fun x5 =>
  pz_if (x5 = 0) (X12_wrongRow_b51 n K2 l0 l1 x3) <|
  pz_cV 12 l0 (X12_againstBound n l0 x3 1) fun x8 =>
  pz_if (0 ≤ x8) (X12_wrongRow_b51 n K2 l0 l1 x3) <|
  pz_uB (pz_wF 12 29 l0 (.int 1)) <|
  pz_ret x3
def X12_wrongRow_L2 (n : Nat) (l0 : Option Nat) (l1 : Int32) : pz_C Int32 := pz_loop (fun (K : Int32 → pz_C Int32) (s : Int32) => X12_wrongRow_L2_body n l0 (fun l1 => K l1) s) n l1
def X12_wrongRow (n : Nat) (l0 : Option Nat) : pz_C Int32 :=
  X12_wrongRow_L2 n l0 0
/-- RowSolverModel.columnAt (I)I -/
def X12_columnAt_L2_body (n : Nat) (l0 : Option Nat) (l1 : Int32) (K2 : Int32 → pz_C Int32) (l2 : Int32) : pz_C Int32 :=
  pz_gB (pz_rI 12 0 l0) fun x1 =>
  pz_if (x1 ≤ l2) (pz_ret (-1)) <|
  pz_gB (pz_rR 12 14 l0) fun x2 =>
  pz_gB (pz_aI 0 x2 l2) fun x3 =>
  pz_if (x3 = l1) (pz_ret l2) <|
  pz_let (l2 + 1) fun l2_4 =>
  K2 l2_4
def X12_columnAt_L2 (n : Nat) (l0 : Option Nat) (l1 : Int32) (l2 : Int32) : pz_C Int32 := pz_loop (fun (K : Int32 → pz_C Int32) (s : Int32) => X12_columnAt_L2_body n l0 l1 (fun l2 => K l2) s) n l2
def X12_columnAt (n : Nat) (l0 : Option Nat) (l1 : Int32) : pz_C Int32 :=
  X12_columnAt_L2 n l0 l1 0
/-- RowSolverModel.columnFor (I)I -/
def X12_columnFor_b126 (n : Nat) (K2 : Int32 → pz_C Int32) (l0 : Option Nat) (l1 : Int32) (l2 : Int32) : pz_C Int32 :=
  pz_let (l2 + 1) fun l2_4 =>
  K2 l2_4
def X12_columnFor_b111 (n : Nat) (K2 : Int32 → pz_C Int32) (l0 : Option Nat) (l1 : Int32) (l2 : Int32) (l3 : Int32) (l6 : Int32) (s0 : Int32) : pz_C Int32 :=
  pz_uB (pz_wF 12 35 l0 (.int l6)) <|
  pz_if (s0 = 0) (X12_columnFor_b126 n K2 l0 l1 l2) <|
  pz_ret l3
def X12_columnFor_b110 (n : Nat) (K2 : Int32 → pz_C Int32) (l0 : Option Nat) (l1 : Int32) (l2 : Int32) (l3 : Int32) (l6 : Int32) : pz_C Int32 :=
  X12_columnFor_b111 n K2 l0 l1 l2 l3 l6 0
def X12_columnFor_b106 (n : Nat) (K2 : Int32 → pz_C Int32) (l0 : Option Nat) (l1 : Int32) (l2 : Int32) (l3 : Int32) (l6 : Int32) : pz_C Int32 :=
  X12_columnFor_b111 n K2 l0 l1 l2 l3 l6 1
def X12_columnFor_b65 (n : Nat) (K2 : Int32 → pz_C Int32) (l0 : Option Nat) (l1 : Int32) (l2 : Int32) (l3 : Int32) (l4 : Int32) (s0 : Int32) : pz_C Int32 :=
  pz_gB (pz_rI 12 35 l0) fun x8 =>
  pz_if (l4 = 0) (X12_columnFor_b110 n K2 l0 l1 l2 l3 x8) <|
  pz_cV 12 l0 (X12_hasBound n l0 l2 s0) fun x9 =>
  pz_if (x9 = 0) (X12_columnFor_b106 n K2 l0 l1 l2 l3 x8) <|
  pz_cB (X12_valueAt n l2) fun x10 =>
  pz_cV 12 l0 (X12_bound n l0 l2 s0) fun x11 =>
  pz_cV 12 l0 (X12_compare n l0 x10 x11) fun x12 =>
  pz_if (x12 = 0) (X12_columnFor_b110 n K2 l0 l1 l2 l3 x8) <|
  X12_columnFor_b106 n K2 l0 l1 l2 l3 x8
def X12_columnFor_b53 (n : Nat) (K2 : Int32 → pz_C Int32) (l0 : Option Nat) (l1 : Int32) (l2 : Int32) (l3 : Int32) (s0 : Int32) : pz_C Int32 :=
  pz_if (s0 ≤ 0) (X12_columnFor_b65 n K2 l0 l1 l2 l3 s0 1) <|
  X12_columnFor_b65 n K2 l0 l1 l2 l3 s0 0
def X12_columnFor_L2_body (n : Nat) (l0 : Option Nat) (l1 : Int32) (K2 : Int32 → pz_C Int32) (l2 : Int32) : pz_C Int32 :=
  pz_gB (pz_rI 12 0 l0) fun x1 =>
  pz_gB (pz_rI 12 1 l0) fun x2 =>
  pz_if ((x1 + x2) ≤ l2) (pz_ret (-1)) <|
  pz_cV 12 l0 (X12_columnAt n l0 l2) fun x3 =>
  pz_if (x3 = (-1)) (X12_columnFor_b126 n K2 l0 l1 l2) <|
  pz_cB (X12_factorAt n l1 x3) fun x5 =>
  pz_cV 12 l0 (X12_sgn n l0 x5) fun x6 =>
  pz_gB (pz_rI 12 29 l0) fun x7 =>
  pz_if (x7 = 1) (X12_columnFor_b53 n K2 l0 l1 l2 x3 x6) <|
  X12_columnFor_b53 n K2 l0 l1 l2 x3 (-x6)
def X12_columnFor_L2 (n : Nat) (l0 : Option Nat) (l1 : Int32) (l2 : Int32) : pz_C Int32 := pz_loop (fun (K : Int32 → pz_C Int32) (s : Int32) => X12_columnFor_L2_body n l0 l1 (fun l2 => K l2) s) n l2
def X12_columnFor (n : Nat) (l0 : Option Nat) (l1 : Int32) : pz_C Int32 :=
  X12_columnFor_L2 n l0 l1 0
/-- RowSolverModel.less (I)I -/
def X12_less (n : Nat) (l0 : Option Nat) (l1 : Int32) : pz_C Int32 :=
  pz_cV 12 l0 (X12_again n l0 l1) fun x1 =>
  pz_gB (pz_rR 12 34 l0) fun x2 =>
  pz_gB (pz_rR 12 34 l0) fun x3 =>
  pz_gB (pz_aI 0 x3 x1) fun x4 =>
  pz_uB (pz_sI 0 x2 x1 (-x4)) <|
  pz_ret x1
/-- RowSolverModel.minus (II)I -/
def X12_minus (n : Nat) (l0 : Option Nat) (l1 : Int32) (l2 : Int32) : pz_C Int32 :=
  pz_gB (pz_rI 12 35 l0) fun x1 =>
  pz_cV 12 l0 (X12_less n l0 l2) fun x2 =>
  pz_cV 12 l0 (X12_plus n l0 l1 x2) fun x3 =>
  pz_cV 12 l0 (X12_keep n l0 x1 x3) fun x4 =>
  pz_ret x4
/-- RowSolverModel.fitsSo (IIIIJ)Z -/
def X12_fitsSo_b116 (n : Nat) (s0 : Int32) : pz_C Int32 :=
  pz_zz s0 (pz_ret s0)
def X12_fitsSo_b85 (n : Nat) (K6 : Int64 → Int32 → pz_C Int32) (l0 : Option Nat) (l1 : Int32) (l2 : Int32) (l3 : Int32) (l4 : Int32) (l5 : Int64) (l9 : Int32) (l10 : Int64) (s0 : Int64) : pz_C Int32 :=
  pz_gB (pz_dvL (s0 - l10) 1000000000) fun x5 =>
  pz_let (l9 + 1) fun l9_6 =>
  K6 x5 l9_6
def X12_fitsSo_b56 (n : Nat) (K6 : Int64 → Int32 → pz_C Int32) (l0 : Option Nat) (l1 : Int32) (l2 : Int32) (l3 : Int32) (l4 : Int32) (l5 : Int64) (l9 : Int32) (s0 : Int64) (s1 : Int64) : pz_C Int32 :=
  pz_let (s0 - s1) fun l10_3 =>
  pz_gB (pz_rmL l10_3 1000000000) fun x4 =>
  pz_if (0 ≤ (lg_cmp x4 0)) (X12_fitsSo_b85 n K6 l0 l1 l2 l3 l4 l5 l9 l10_3 x4) <|
  X12_fitsSo_b85 n K6 l0 l1 l2 l3 l4 l5 l9 l10_3 (x4 + 1000000000)
def X12_fitsSo_L6_body (n : Nat) (l0 : Option Nat) (l1 : Int32) (l2 : Int32) (l3 : Int32) (l4 : Int32) (l5 : Int64) (K6 : Int64 → Int32 → pz_C Int32) (l7 : Int64) (l9 : Int32) : pz_C Int32 :=
  pz_if ((l4 + 1) < l9) (
    pz_if ((lg_cmp l7 0) = 0) (X12_fitsSo_b116 n 1) <|
    X12_fitsSo_b116 n 0) <|
  pz_gB (pz_rR 12 34 l0) fun x1 =>
  pz_gB (pz_aI 0 x1 (((l1 + l2) + l9) - 1)) fun x2 =>
  pz_if (l4 < l9) (X12_fitsSo_b56 n K6 l0 l1 l2 l3 l4 l5 l9 ((Int32.toInt64 x2) - l7) 0) <|
  pz_gB (pz_rR 12 34 l0) fun x7 =>
  pz_gB (pz_aI 0 x7 (l3 + l9)) fun x8 =>
  X12_fitsSo_b56 n K6 l0 l1 l2 l3 l4 l5 l9 ((Int32.toInt64 x2) - l7) (l5 * (Int32.toInt64 x8))
def X12_fitsSo_L6 (n : Nat) (l0 : Option Nat) (l1 : Int32) (l2 : Int32) (l3 : Int32) (l4 : Int32) (l5 : Int64) (l7 : Int64) (l9 : Int32) : pz_C Int32 := pz_loop (fun (K : Int64 × Int32 → pz_C Int32) (s : Int64 × Int32) => X12_fitsSo_L6_body n l0 l1 l2 l3 l4 l5 (fun l7 l9 => K (l7, l9)) s.1 s.2) n (l7, l9)
def X12_fitsSo (n : Nat) (l0 : Option Nat) (l1 : Int32) (l2 : Int32) (l3 : Int32) (l4 : Int32) (l5 : Int64) : pz_C Int32 :=
  X12_fitsSo_L6 n l0 l1 l2 l3 l4 l5 0 1
/-- RowSolverModel.digit (IIII)I -/
def X12_digit_b239 (n : Nat) (K160 : Int64 → Int32 → pz_C Int32) (l0 : Option Nat) (l1 : Int32) (l2 : Int32) (l3 : Int32) (l4 : Int32) (l11 : Int64) (l17 : Int32) (l18 : Int64) (s0 : Int64) : pz_C Int32 :=
  pz_gB (pz_dvL (s0 - l18) 1000000000) fun x16 =>
  pz_gB (pz_rR 12 34 l0) fun x17 =>
  pz_uB (pz_sI 0 x17 (((l1 + l2) + l17) - 1) (Int64.toInt32 s0)) <|
  pz_let (l17 + 1) fun l17_18 =>
  K160 x16 l17_18
def X12_digit_b210 (n : Nat) (K160 : Int64 → Int32 → pz_C Int32) (l0 : Option Nat) (l1 : Int32) (l2 : Int32) (l3 : Int32) (l4 : Int32) (l11 : Int64) (l17 : Int32) (s0 : Int64) (s1 : Int64) : pz_C Int32 :=
  pz_let (s0 - s1) fun l18_14 =>
  pz_gB (pz_rmL l18_14 1000000000) fun x15 =>
  pz_if (0 ≤ (lg_cmp x15 0)) (X12_digit_b239 n K160 l0 l1 l2 l3 l4 l11 l17 l18_14 x15) <|
  X12_digit_b239 n K160 l0 l1 l2 l3 l4 l11 l17 l18_14 (x15 + 1000000000)
def X12_digit_L160_body (n : Nat) (l0 : Option Nat) (l1 : Int32) (l2 : Int32) (l3 : Int32) (l4 : Int32) (l11 : Int64) (K160 : Int64 → Int32 → pz_C Int32) (l15 : Int64) (l17 : Int32) : pz_C Int32 :=
  pz_if ((l4 + 1) < l17) (pz_ret (Int64.toInt32 l11)) <|
  pz_gB (pz_rR 12 34 l0) fun x12 =>
  pz_gB (pz_aI 0 x12 (((l1 + l2) + l17) - 1)) fun x13 =>
  pz_if (l4 < l17) (X12_digit_b210 n K160 l0 l1 l2 l3 l4 l11 l17 ((Int32.toInt64 x13) - l15) 0) <|
  pz_gB (pz_rR 12 34 l0) fun x19 =>
  pz_gB (pz_aI 0 x19 (l3 + l17)) fun x20 =>
  X12_digit_b210 n K160 l0 l1 l2 l3 l4 l11 l17 ((Int32.toInt64 x13) - l15) (l11 * (Int32.toInt64 x20))
def X12_digit_L160 (n : Nat) (l0 : Option Nat) (l1 : Int32) (l2 : Int32) (l3 : Int32) (l4 : Int32) (l11 : Int64) (l15 : Int64) (l17 : Int32) : pz_C Int32 := pz_loop (fun (K : Int64 × Int32 → pz_C Int32) (s : Int64 × Int32) => X12_digit_L160_body n l0 l1 l2 l3 l4 l11 (fun l15 l17 => K (l15, l17)) s.1 s.2) n (l15, l17)
def X12_digit_b151 (n : Nat) (K103 : Int64 → Int64 → pz_C Int32) (l0 : Option Nat) (l1 : Int32) (l2 : Int32) (l3 : Int32) (l4 : Int32) (l11 : Int64) (l13 : Int64) : pz_C Int32 :=
  K103 l11 l13
def X12_digit_L103_body (n : Nat) (l0 : Option Nat) (l1 : Int32) (l2 : Int32) (l3 : Int32) (l4 : Int32) (K103 : Int64 → Int64 → pz_C Int32) (l11 : Int64) (l13 : Int64) : pz_C Int32 :=
  pz_if (0 ≤ (lg_cmp l11 l13)) (X12_digit_L160 n l0 l1 l2 l3 l4 l11 0 1) <|
  pz_gB (pz_dvL ((l11 + l13) + 1) 2) fun x21 =>
  pz_cV 12 l0 (X12_fitsSo n l0 l1 l2 l3 l4 x21) fun x22 =>
  pz_if (x22 = 0) (
    pz_let (x21 - 1) fun l13_23 =>
    X12_digit_b151 n K103 l0 l1 l2 l3 l4 l11 l13_23) <|
  X12_digit_b151 n K103 l0 l1 l2 l3 l4 x21 l13
def X12_digit_L103 (n : Nat) (l0 : Option Nat) (l1 : Int32) (l2 : Int32) (l3 : Int32) (l4 : Int32) (l11 : Int64) (l13 : Int64) : pz_C Int32 := pz_loop (fun (K : Int64 × Int64 → pz_C Int32) (s : Int64 × Int64) => X12_digit_L103_body n l0 l1 l2 l3 l4 (fun l11 l13 => K (l11, l13)) s.1 s.2) n (l11, l13)
def X12_digit_b101 (n : Nat) (l0 : Option Nat) (l1 : Int32) (l2 : Int32) (l3 : Int32) (l4 : Int32) (l11 : Int64) (s0 : Int64) : pz_C Int32 :=
  X12_digit_L103 n l0 l1 l2 l3 l4 l11 s0
def X12_digit_b82 (n : Nat) (l0 : Option Nat) (l1 : Int32) (l2 : Int32) (l3 : Int32) (l4 : Int32) (l7 : Int64) (s0 : Int64) : pz_C Int32 :=
  pz_if ((lg_cmp l7 999999999) ≤ 0) (X12_digit_b101 n l0 l1 l2 l3 l4 s0 l7) <|
  X12_digit_b101 n l0 l1 l2 l3 l4 s0 999999999
def X12_digit (n : Nat) (l0 : Option Nat) (l1 : Int32) (l2 : Int32) (l3 : Int32) (l4 : Int32) : pz_C Int32 :=
  pz_gB (pz_rR 12 34 l0) fun x1 =>
  pz_gB (pz_aI 0 x1 ((l1 + l2) + l4)) fun x2 =>
  pz_gB (pz_rR 12 34 l0) fun x3 =>
  pz_gB (pz_aI 0 x3 (((l1 + l2) + l4) - 1)) fun x4 =>
  pz_let (((Int32.toInt64 x2) * 1000000000) + (Int32.toInt64 x4)) fun l5_5 =>
  pz_gB (pz_rR 12 34 l0) fun x6 =>
  pz_gB (pz_aI 0 x6 (l3 + l4)) fun x7 =>
  pz_gB (pz_dvL l5_5 (Int32.toInt64 x7)) fun x8 =>
  pz_gB (pz_rR 12 34 l0) fun x9 =>
  pz_gB (pz_aI 0 x9 (l3 + l4)) fun x10 =>
  pz_gB (pz_dvL l5_5 ((Int32.toInt64 x10) + 1)) fun x11 =>
  pz_if ((lg_cmp x11 999999999) ≤ 0) (X12_digit_b82 n l0 l1 l2 l3 l4 x8 x11) <|
  X12_digit_b82 n l0 l1 l2 l3 l4 x8 999999999
/-- RowSolverModel.divide (II)I -/
def X12_divide_b252 (n : Nat) (l0 : Option Nat) (l6 : Int32) (l8 : Int32) (l10 : Int32) : pz_C Int32 :=
  pz_gB (pz_rR 12 34 l0) fun x8 =>
  pz_uB (pz_sI 0 x8 l8 l10) <|
  pz_uB (pz_wF 12 36 l0 (.int l6)) <|
  pz_ret l8
def X12_divide_L228_body (n : Nat) (l0 : Option Nat) (l6 : Int32) (l8 : Int32) (K228 : Int32 → pz_C Int32) (l10 : Int32) : pz_C Int32 :=
  pz_if (l10 ≤ 0) (X12_divide_b252 n l0 l6 l8 l10) <|
  pz_gB (pz_rR 12 34 l0) fun x9 =>
  pz_gB (pz_aI 0 x9 (l8 + l10)) fun x10 =>
  pz_if (x10 = 0) (
    pz_let (l10 + (-1)) fun l10_11 =>
    K228 l10_11) <|
  X12_divide_b252 n l0 l6 l8 l10
def X12_divide_L228 (n : Nat) (l0 : Option Nat) (l6 : Int32) (l8 : Int32) (l10 : Int32) : pz_C Int32 := pz_loop (fun (K : Int32 → pz_C Int32) (s : Int32) => X12_divide_L228_body n l0 l6 l8 (fun l10 => K l10) s) n l10
def X12_divide_b215 (n : Nat) (l0 : Option Nat) (l4 : Int32) (l6 : Int32) (l8 : Int32) (l9 : Int32) : pz_C Int32 :=
  pz_gB (pz_rR 12 34 l0) fun x7 =>
  pz_uB (pz_sI 0 x7 l6 l9) <|
  X12_divide_L228 n l0 l6 l8 l4
def X12_divide_L191_body (n : Nat) (l0 : Option Nat) (l4 : Int32) (l6 : Int32) (l8 : Int32) (K191 : Int32 → pz_C Int32) (l9 : Int32) : pz_C Int32 :=
  pz_if (l9 ≤ 0) (X12_divide_b215 n l0 l4 l6 l8 l9) <|
  pz_gB (pz_rR 12 34 l0) fun x12 =>
  pz_gB (pz_aI 0 x12 (l6 + l9)) fun x13 =>
  pz_if (x13 = 0) (
    pz_let (l9 + (-1)) fun l9_14 =>
    K191 l9_14) <|
  X12_divide_b215 n l0 l4 l6 l8 l9
def X12_divide_L191 (n : Nat) (l0 : Option Nat) (l4 : Int32) (l6 : Int32) (l8 : Int32) (l9 : Int32) : pz_C Int32 := pz_loop (fun (K : Int32 → pz_C Int32) (s : Int32) => X12_divide_L191_body n l0 l4 l6 l8 (fun l9 => K l9) s) n l9
def X12_divide_L155_body (n : Nat) (l0 : Option Nat) (l2 : Int32) (l4 : Int32) (l5 : Int32) (l6 : Int32) (l7 : Int32) (l8 : Int32) (K155 : Int32 → pz_C Int32) (l9 : Int32) : pz_C Int32 :=
  pz_if (l9 ≤ 0) (X12_divide_L191 n l0 l4 l6 l8 l7) <|
  pz_gB (pz_rR 12 34 l0) fun x15 =>
  pz_cV 12 l0 (X12_digit n l0 l8 l9 l2 l5) fun x16 =>
  pz_uB (pz_sI 0 x15 (l6 + l9) x16) <|
  pz_let (l9 + (-1)) fun l9_17 =>
  K155 l9_17
def X12_divide_L155 (n : Nat) (l0 : Option Nat) (l2 : Int32) (l4 : Int32) (l5 : Int32) (l6 : Int32) (l7 : Int32) (l8 : Int32) (l9 : Int32) : pz_C Int32 := pz_loop (fun (K : Int32 → pz_C Int32) (s : Int32) => X12_divide_L155_body n l0 l2 l4 l5 l6 l7 l8 (fun l9 => K l9) s) n l9
def X12_divide_L95_body (n : Nat) (l0 : Option Nat) (l1 : Int32) (l2 : Int32) (l4 : Int32) (l5 : Int32) (l6 : Int32) (l7 : Int32) (l8 : Int32) (K95 : Int32 → pz_C Int32) (l9 : Int32) : pz_C Int32 :=
  pz_if (l4 < l9) (
    pz_gB (pz_rR 12 34 l0) fun x6 =>
    pz_uB (pz_sI 0 x6 ((l8 + l4) + 1) 0) <|
    pz_uB (pz_wF 12 35 l0 (.int ((l8 + l4) + 2))) <|
    X12_divide_L155 n l0 l2 l4 l5 l6 l7 l8 l7) <|
  pz_gB (pz_rR 12 34 l0) fun x18 =>
  pz_gB (pz_rR 12 34 l0) fun x19 =>
  pz_gB (pz_aI 0 x19 (l1 + l9)) fun x20 =>
  pz_uB (pz_sI 0 x18 (l8 + l9) x20) <|
  pz_let (l9 + 1) fun l9_21 =>
  K95 l9_21
def X12_divide_L95 (n : Nat) (l0 : Option Nat) (l1 : Int32) (l2 : Int32) (l4 : Int32) (l5 : Int32) (l6 : Int32) (l7 : Int32) (l8 : Int32) (l9 : Int32) : pz_C Int32 := pz_loop (fun (K : Int32 → pz_C Int32) (s : Int32) => X12_divide_L95_body n l0 l1 l2 l4 l5 l6 l7 l8 (fun l9 => K l9) s) n l9
def X12_divide_L51_body (n : Nat) (l0 : Option Nat) (l1 : Int32) (l2 : Int32) (l4 : Int32) (l5 : Int32) (l6 : Int32) (l7 : Int32) (K51 : Int32 → pz_C Int32) (l8 : Int32) : pz_C Int32 :=
  pz_if (l7 < l8) (
    pz_uB (pz_wF 12 35 l0 (.int ((l6 + l7) + 1))) <|
    pz_gB (pz_rI 12 35 l0) fun x5 =>
    X12_divide_L95 n l0 l1 l2 l4 l5 l6 l7 x5 1) <|
  pz_gB (pz_rR 12 34 l0) fun x22 =>
  pz_uB (pz_sI 0 x22 (l6 + l8) 0) <|
  pz_let (l8 + 1) fun l8_23 =>
  K51 l8_23
def X12_divide_L51 (n : Nat) (l0 : Option Nat) (l1 : Int32) (l2 : Int32) (l4 : Int32) (l5 : Int32) (l6 : Int32) (l7 : Int32) (l8 : Int32) : pz_C Int32 := pz_loop (fun (K : Int32 → pz_C Int32) (s : Int32) => X12_divide_L51_body n l0 l1 l2 l4 l5 l6 l7 (fun l8 => K l8) s) n l8
def X12_divide_b46 (n : Nat) (l0 : Option Nat) (l1 : Int32) (l2 : Int32) (l4 : Int32) (l5 : Int32) (l6 : Int32) (s0 : Int32) : pz_C Int32 :=
  X12_divide_L51 n l0 l1 l2 l4 l5 l6 s0 0
def X12_divide (n : Nat) (l0 : Option Nat) (l1 : Int32) (l2 : Int32) : pz_C Int32 :=
  pz_gB (pz_rI 12 35 l0) fun x1 =>
  pz_cV 12 l0 (X12_limbs n l0 l1) fun x2 =>
  pz_cV 12 l0 (X12_limbs n l0 l2) fun x3 =>
  pz_gB (pz_rI 12 35 l0) fun x4 =>
  pz_if (((x2 - x3) + 1) ≤ 0) (X12_divide_b46 n l0 l1 l2 x2 x3 x4 0) <|
  X12_divide_b46 n l0 l1 l2 x2 x3 x4 ((x2 - x3) + 1)
/-- RowSolverModel.over (II)I -/
def X12_over_b110 (n : Nat) (l0 : Option Nat) (l3 : Int32) (l5 : Int32) : pz_C Int32 :=
  pz_cV 12 l0 (X12_keep n l0 l3 l5) fun x11 =>
  pz_ret x11
def X12_over_b86 (n : Nat) (l0 : Option Nat) (l3 : Int32) (l5 : Int32) (l6 : Int32) (l7 : Int32) (s0 : Option Nat) (s1 : Int32) (s2 : Int32) : pz_C Int32 :=
  pz_uB (pz_sI 0 s0 s1 s2) <|
  pz_if (l6 = 0) (X12_over_b110 n l0 l3 l5) <|
  pz_if (l7 = 0) (X12_over_b110 n l0 l3 l5) <|
  pz_cV 12 l0 (X12_plainOf n l0 1) fun x12 =>
  pz_cV 12 l0 (X12_minus n l0 l5 x12) fun x13 =>
  X12_over_b110 n l0 l3 x13
def X12_over_b55 (n : Nat) (l0 : Option Nat) (l3 : Int32) (l5 : Int32) (l6 : Int32) (s0 : Int32) : pz_C Int32 :=
  pz_gB (pz_rR 12 34 l0) fun x8 =>
  pz_if (l6 = 0) (
    pz_gB (pz_rR 12 34 l0) fun x9 =>
    pz_gB (pz_aI 0 x9 l5) fun x10 =>
    X12_over_b86 n l0 l3 l5 l6 s0 x8 l5 x10) <|
  pz_gB (pz_rR 12 34 l0) fun x14 =>
  pz_gB (pz_aI 0 x14 l5) fun x15 =>
  X12_over_b86 n l0 l3 l5 l6 s0 x8 l5 (-x15)
def X12_over_b38 (n : Nat) (l0 : Option Nat) (l3 : Int32) (l4 : Int32) (l5 : Int32) (s0 : Int32) : pz_C Int32 :=
  pz_gB (pz_rR 12 34 l0) fun x6 =>
  pz_gB (pz_aI 0 x6 l4) fun x7 =>
  pz_if (x7 = 0) (X12_over_b55 n l0 l3 l5 s0 0) <|
  X12_over_b55 n l0 l3 l5 s0 1
def X12_over (n : Nat) (l0 : Option Nat) (l1 : Int32) (l2 : Int32) : pz_C Int32 :=
  pz_gB (pz_rI 12 35 l0) fun x1 =>
  pz_cV 12 l0 (X12_divide n l0 l1 l2) fun x2 =>
  pz_gB (pz_rI 12 36 l0) fun x3 =>
  pz_cV 12 l0 (X12_sgn n l0 l1) fun x4 =>
  pz_cV 12 l0 (X12_sgn n l0 l2) fun x5 =>
  pz_if (0 ≤ (x4 * x5)) (X12_over_b38 n l0 x1 x2 x3 0) <|
  X12_over_b38 n l0 x1 x2 x3 1
/-- RowSolverModel.exchange (II)V -/
def X12_exchange_b354 (n : Nat) (l0 : Option Nat) (l1 : Int32) (l2 : Int32) (l3 : Int32) (l4 : Int32) (l5 : Int32) (s0 : Option Nat) (s1 : Int32) : pz_C Unit :=
  pz_cV 12 s0 (X12_copyTo n s0 s1 0) fun _ =>
  pz_uB (pz_wF 12 35 l0 (.int l5)) <|
  pz_gB (pz_rR 12 13 l0) fun x20 =>
  pz_uB (pz_sI 0 x20 l1 l4) <|
  pz_gB (pz_rR 12 14 l0) fun x21 =>
  pz_uB (pz_sI 0 x21 l2 l3) <|
  pz_ret ()
def X12_exchange_b329 (n : Nat) (l0 : Option Nat) (l1 : Int32) (l2 : Int32) (l3 : Int32) (l4 : Int32) (l5 : Int32) (l6 : Int32) (l7 : Int32) (s0 : Option Nat) (s1 : Int32) : pz_C Unit :=
  pz_cB (X12_factorAt n l1 l2) fun x17 =>
  pz_cV 12 s0 (X12_copyTo n s0 s1 x17) fun _ =>
  pz_if (l7 = 0) (X12_exchange_b354 n l0 l1 l2 l3 l4 l5 l0 l6) <|
  pz_cV 12 l0 (X12_less n l0 l6) fun x22 =>
  X12_exchange_b354 n l0 l1 l2 l3 l4 l5 l0 x22
def X12_exchange_b306 (n : Nat) (K253 : Int32 → pz_C Unit) (l0 : Option Nat) (l1 : Int32) (l2 : Int32) (l3 : Int32) (l4 : Int32) (l5 : Int32) (l6 : Int32) (l7 : Int32) (l8 : Int32) (l9 : Int32) : pz_C Unit :=
  pz_let (l9 + 1) fun l9_24 =>
  K253 l9_24
def X12_exchange_b297 (n : Nat) (K253 : Int32 → pz_C Unit) (l0 : Option Nat) (l1 : Int32) (l2 : Int32) (l3 : Int32) (l4 : Int32) (l5 : Int32) (l6 : Int32) (l7 : Int32) (l8 : Int32) (l9 : Int32) (s0 : Option Nat) (s1 : Int32) : pz_C Unit :=
  pz_cB (X12_factorAt n l1 l9) fun x27 =>
  pz_cV 12 s0 (X12_copyTo n s0 s1 x27) fun _ =>
  X12_exchange_b306 n K253 l0 l1 l2 l3 l4 l5 l6 l7 l8 l9
def X12_exchange_L253_body (n : Nat) (l0 : Option Nat) (l1 : Int32) (l2 : Int32) (l3 : Int32) (l4 : Int32) (l5 : Int32) (l6 : Int32) (l7 : Int32) (l8 : Int32) (K253 : Int32 → pz_C Unit) (l9 : Int32) : pz_C Unit :=
  pz_gB (pz_rI 12 0 l0) fun x16 =>
  pz_if (x16 ≤ l9) (
    pz_if (l7 = 0) (X12_exchange_b329 n l0 l1 l2 l3 l4 l5 l6 l7 l0 l8) <|
    pz_cV 12 l0 (X12_less n l0 l8) fun x23 =>
    X12_exchange_b329 n l0 l1 l2 l3 l4 l5 l6 l7 l0 x23) <|
  pz_if (l9 = l2) (X12_exchange_b306 n K253 l0 l1 l2 l3 l4 l5 l6 l7 l8 l9) <|
  pz_if (l7 = 0) (
    pz_cB (X12_factorAt n l1 l9) fun x25 =>
    pz_cV 12 l0 (X12_less n l0 x25) fun x26 =>
    X12_exchange_b297 n K253 l0 l1 l2 l3 l4 l5 l6 l7 l8 l9 l0 x26) <|
  pz_cB (X12_factorAt n l1 l9) fun x29 =>
  pz_cV 12 l0 (X12_again n l0 x29) fun x30 =>
  X12_exchange_b297 n K253 l0 l1 l2 l3 l4 l5 l6 l7 l8 l9 l0 x30
def X12_exchange_L253 (n : Nat) (l0 : Option Nat) (l1 : Int32) (l2 : Int32) (l3 : Int32) (l4 : Int32) (l5 : Int32) (l6 : Int32) (l7 : Int32) (l8 : Int32) (l9 : Int32) : pz_C Unit := pz_loop (fun (K : Int32 → pz_C Unit) (s : Int32) => X12_exchange_L253_body n l0 l1 l2 l3 l4 l5 l6 l7 l8 (fun l9 => K l9) s) n l9
def X12_exchange_b244 (n : Nat) (K91 : Int32 → pz_C Unit) (l0 : Option Nat) (l1 : Int32) (l2 : Int32) (l3 : Int32) (l4 : Int32) (l5 : Int32) (l6 : Int32) (l7 : Int32) (l8 : Int32) (l9 : Int32) : pz_C Unit :=
  pz_let (l9 + 1) fun l9_31 =>
  K91 l9_31
def X12_exchange_b235 (n : Nat) (K91 : Int32 → pz_C Unit) (l0 : Option Nat) (l1 : Int32) (l2 : Int32) (l3 : Int32) (l4 : Int32) (l5 : Int32) (l6 : Int32) (l7 : Int32) (l8 : Int32) (l9 : Int32) (s0 : Option Nat) (s1 : Int32) : pz_C Unit :=
  pz_cB (X12_factorAt n l9 l2) fun x35 =>
  pz_cV 12 s0 (X12_copyTo n s0 s1 x35) fun _ =>
  X12_exchange_b244 n K91 l0 l1 l2 l3 l4 l5 l6 l7 l8 l9
def X12_exchange_b212 (n : Nat) (K91 : Int32 → pz_C Unit) (K121 : Int32 → pz_C Unit) (l0 : Option Nat) (l1 : Int32) (l2 : Int32) (l3 : Int32) (l4 : Int32) (l5 : Int32) (l6 : Int32) (l7 : Int32) (l8 : Int32) (l9 : Int32) (l10 : Int32) (l11 : Int32) : pz_C Unit :=
  pz_let (l11 + 1) fun l11_38 =>
  K121 l11_38
def X12_exchange_b196 (n : Nat) (K91 : Int32 → pz_C Unit) (K121 : Int32 → pz_C Unit) (l0 : Option Nat) (l1 : Int32) (l2 : Int32) (l3 : Int32) (l4 : Int32) (l5 : Int32) (l6 : Int32) (l7 : Int32) (l8 : Int32) (l9 : Int32) (l10 : Int32) (l11 : Int32) (l12 : Int32) (s0 : Option Nat) (s1 : Int32) : pz_C Unit :=
  pz_cB (X12_factorAt n l9 l11) fun x46 =>
  pz_cV 12 s0 (X12_copyTo n s0 s1 x46) fun _ =>
  pz_uB (pz_wF 12 35 l0 (.int l12)) <|
  X12_exchange_b212 n K91 K121 l0 l1 l2 l3 l4 l5 l6 l7 l8 l9 l10 l11
def X12_exchange_L121_body (n : Nat) (K91 : Int32 → pz_C Unit) (l0 : Option Nat) (l1 : Int32) (l2 : Int32) (l3 : Int32) (l4 : Int32) (l5 : Int32) (l6 : Int32) (l7 : Int32) (l8 : Int32) (l9 : Int32) (l10 : Int32) (K121 : Int32 → pz_C Unit) (l11 : Int32) : pz_C Unit :=
  pz_gB (pz_rI 12 0 l0) fun x34 =>
  pz_if (x34 ≤ l11) (
    pz_if (l7 = 0) (X12_exchange_b235 n K91 l0 l1 l2 l3 l4 l5 l6 l7 l8 l9 l0 l10) <|
    pz_cV 12 l0 (X12_less n l0 l10) fun x37 =>
    X12_exchange_b235 n K91 l0 l1 l2 l3 l4 l5 l6 l7 l8 l9 l0 x37) <|
  pz_if (l11 = l2) (X12_exchange_b212 n K91 K121 l0 l1 l2 l3 l4 l5 l6 l7 l8 l9 l10 l11) <|
  pz_gB (pz_rI 12 35 l0) fun x39 =>
  pz_cB (X12_factorAt n l9 l11) fun x40 =>
  pz_cV 12 l0 (X12_by n l0 x40 l6) fun x41 =>
  pz_cB (X12_factorAt n l1 l11) fun x42 =>
  pz_cV 12 l0 (X12_by n l0 l10 x42) fun x43 =>
  pz_cV 12 l0 (X12_minus n l0 x41 x43) fun x44 =>
  pz_cV 12 l0 (X12_over n l0 x44 l8) fun x45 =>
  pz_if (l7 = 0) (X12_exchange_b196 n K91 K121 l0 l1 l2 l3 l4 l5 l6 l7 l8 l9 l10 l11 x39 l0 x45) <|
  pz_cV 12 l0 (X12_less n l0 x45) fun x48 =>
  X12_exchange_b196 n K91 K121 l0 l1 l2 l3 l4 l5 l6 l7 l8 l9 l10 l11 x39 l0 x48
def X12_exchange_L121 (n : Nat) (K91 : Int32 → pz_C Unit) (l0 : Option Nat) (l1 : Int32) (l2 : Int32) (l3 : Int32) (l4 : Int32) (l5 : Int32) (l6 : Int32) (l7 : Int32) (l8 : Int32) (l9 : Int32) (l10 : Int32) (l11 : Int32) : pz_C Unit := pz_loop (fun (K : Int32 → pz_C Unit) (s : Int32) => X12_exchange_L121_body n K91 l0 l1 l2 l3 l4 l5 l6 l7 l8 l9 l10 (fun l11 => K l11) s) n l11
def X12_exchange_L91_body (n : Nat) (l0 : Option Nat) (l1 : Int32) (l2 : Int32) (l3 : Int32) (l4 : Int32) (l5 : Int32) (l6 : Int32) (l7 : Int32) (l8 : Int32) (K91 : Int32 → pz_C Unit) (l9 : Int32) : pz_C Unit :=
  pz_gB (pz_rI 12 1 l0) fun x15 =>
  pz_if (x15 ≤ l9) (X12_exchange_L253 n l0 l1 l2 l3 l4 l5 l6 l7 l8 0) <|
  pz_if (l9 = l1) (X12_exchange_b244 n K91 l0 l1 l2 l3 l4 l5 l6 l7 l8 l9) <|
  pz_cB (X12_factorAt n l9 l2) fun x32 =>
  pz_cV 12 l0 (X12_again n l0 x32) fun x33 =>
  X12_exchange_L121 n K91 l0 l1 l2 l3 l4 l5 l6 l7 l8 l9 x33 0
def X12_exchange_L91 (n : Nat) (l0 : Option Nat) (l1 : Int32) (l2 : Int32) (l3 : Int32) (l4 : Int32) (l5 : Int32) (l6 : Int32) (l7 : Int32) (l8 : Int32) (l9 : Int32) : pz_C Unit := pz_loop (fun (K : Int32 → pz_C Unit) (s : Int32) => X12_exchange_L91_body n l0 l1 l2 l3 l4 l5 l6 l7 l8 (fun l9 => K l9) s) n l9
def X12_exchange_b79 (n : Nat) (l0 : Option Nat) (l1 : Int32) (l2 : Int32) (l3 : Int32) (l4 : Int32) (l5 : Int32) (l6 : Int32) (s0 : Int32) : pz_C Unit :=
  pz_cV 12 l0 (X12_again n l0 0) fun x14 =>
  X12_exchange_L91 n l0 l1 l2 l3 l4 l5 l6 s0 x14 0
def X12_exchange (n : Nat) (l0 : Option Nat) (l1 : Int32) (l2 : Int32) : pz_C Unit :=
  pz_gB (pz_rI 12 9 l0) fun x1 =>
  pz_uB (pz_wF 12 9 l0 (.int (x1 + 1))) <|
  pz_gB (pz_rR 12 13 l0) fun x2 =>
  pz_gB (pz_aI 0 x2 l1) fun x3 =>
  pz_gB (pz_rR 12 14 l0) fun x4 =>
  pz_gB (pz_aI 0 x4 l2) fun x5 =>
  pz_gB (pz_rI 12 35 l0) fun x6 =>
  pz_gB (pz_rI 12 29 l0) fun x7 =>
  pz_cV 12 l0 (X12_bound n l0 x3 x7) fun x8 =>
  pz_cB (X12_valueAt n x3) fun x9 =>
  pz_cV 12 l0 (X12_copyTo n l0 x8 x9) fun _ =>
  pz_uB (pz_wF 12 35 l0 (.int x6)) <|
  pz_cB (X12_factorAt n l1 l2) fun x11 =>
  pz_cV 12 l0 (X12_again n l0 x11) fun x12 =>
  pz_cV 12 l0 (X12_sgn n l0 x12) fun x13 =>
  pz_if (0 ≤ x13) (X12_exchange_b79 n l0 l1 l2 x3 x5 x6 x12 0) <|
  X12_exchange_b79 n l0 l1 l2 x3 x5 x6 x12 1
/-- RowSolverModel.multiplierOf (II)I -/
def X12_multiplierOf_b32 (n : Nat) (s0 : Int32) : pz_C Int32 :=
  pz_ret s0
def X12_multiplierOf (n : Nat) (l0 : Option Nat) (l1 : Int32) (l2 : Int32) : pz_C Int32 :=
  pz_gB (pz_rI 12 0 l0) fun x1 =>
  pz_if (l1 < x1) (
    pz_if (l2 = 0) (X12_multiplierOf_b32 n (12 + l1)) <|
    X12_multiplierOf_b32 n (22 + l1)) <|
  pz_gB (pz_rI 12 0 l0) fun x2 =>
  X12_multiplierOf_b32 n (l1 - x2)
/-- RowSolverModel.gcd (II)I -/
def X12_gcd_L45_body (n : Nat) (l0 : Option Nat) (l3 : Int32) (K45 : Int32 → Int32 → pz_C Int32) (l4 : Int32) (l5 : Int32) : pz_C Int32 :=
  pz_gB (pz_rR 12 34 l0) fun x8 =>
  pz_gB (pz_aI 0 x8 l5) fun x9 =>
  pz_if (x9 = 0) (
    pz_cV 12 l0 (X12_keep n l0 l3 l4) fun x10 =>
    pz_ret x10) <|
  pz_cV 12 l0 (X12_divide n l0 l4 l5) fun x11 =>
  pz_cV 12 l0 (X12_again n l0 l5) fun x12 =>
  pz_cV 12 l0 (X12_again n l0 x11) fun x13 =>
  pz_cV 12 l0 (X12_copyTo n l0 x12 l3) fun _ =>
  pz_cV 12 l0 (X12_limbs n l0 l3) fun x15 =>
  pz_let ((l3 + x15) + 1) fun l9_16 =>
  pz_cV 12 l0 (X12_copyTo n l0 x13 l9_16) fun _ =>
  pz_cV 12 l0 (X12_limbs n l0 l9_16) fun x18 =>
  pz_uB (pz_wF 12 35 l0 (.int ((l9_16 + x18) + 1))) <|
  K45 l3 l9_16
def X12_gcd_L45 (n : Nat) (l0 : Option Nat) (l3 : Int32) (l4 : Int32) (l5 : Int32) : pz_C Int32 := pz_loop (fun (K : Int32 × Int32 → pz_C Int32) (s : Int32 × Int32) => X12_gcd_L45_body n l0 l3 (fun l4 l5 => K (l4, l5)) s.1 s.2) n (l4, l5)
def X12_gcd (n : Nat) (l0 : Option Nat) (l1 : Int32) (l2 : Int32) : pz_C Int32 :=
  pz_gB (pz_rI 12 35 l0) fun x1 =>
  pz_cV 12 l0 (X12_again n l0 l1) fun x2 =>
  pz_gB (pz_rR 12 34 l0) fun x3 =>
  pz_cV 12 l0 (X12_limbs n l0 x2) fun x4 =>
  pz_uB (pz_sI 0 x3 x2 x4) <|
  pz_cV 12 l0 (X12_again n l0 l2) fun x5 =>
  pz_gB (pz_rR 12 34 l0) fun x6 =>
  pz_cV 12 l0 (X12_limbs n l0 x5) fun x7 =>
  pz_uB (pz_sI 0 x6 x5 x7) <|
  X12_gcd_L45 n l0 x1 x2 x5
/-- RowSolverModel.multiply (III)V -/
def X12_multiply (n : Nat) (l0 : Option Nat) (l1 : Int32) (l2 : Int32) (l3 : Int32) : pz_C Unit :=
  pz_gB (pz_rI 12 35 l0) fun x1 =>
  pz_cV 12 l0 (X12_gcd n l0 l2 l3) fun x2 =>
  pz_cV 12 l0 (X12_over n l0 l2 x2) fun x3 =>
  pz_gB (pz_rR 12 22 l0) fun x4 =>
  pz_gB (pz_rI 12 24 l0) fun x5 =>
  pz_gB (pz_aI 0 x4 x5) fun x6 =>
  pz_cB (X12_multiplierAt n x6 l1 0) fun x7 =>
  pz_cV 12 l0 (X12_copyTo n l0 x3 x7) fun _ =>
  pz_cV 12 l0 (X12_over n l0 l3 x2) fun x9 =>
  pz_gB (pz_rR 12 22 l0) fun x10 =>
  pz_gB (pz_rI 12 24 l0) fun x11 =>
  pz_gB (pz_aI 0 x10 x11) fun x12 =>
  pz_cB (X12_multiplierAt n x12 l1 1) fun x13 =>
  pz_cV 12 l0 (X12_copyTo n l0 x9 x13) fun _ =>
  pz_uB (pz_wF 12 35 l0 (.int x1)) <|
  pz_ret ()
/-- RowSolverModel.foundAt (I)I -/
def X12_foundAt (n : Nat) (l0 : Int32) : pz_C Int32 :=
  pz_ret (440000 + (300 * l0))
/-- RowSolverModel.takeBounds ()V -/
def X12_takeBounds_b172 (n : Nat) (K23 : Int32 → pz_C Unit) (l0 : Option Nat) (l1 : Int32) (l4 : Int32) : pz_C Unit :=
  pz_uB (pz_wF 12 35 l0 (.int l4)) <|
  pz_let (l1 + 1) fun l1_12 =>
  K23 l1_12
def X12_takeBounds_b143 (n : Nat) (K23 : Int32 → pz_C Unit) (l0 : Option Nat) (l1 : Int32) (l2 : Int32) (l3 : Int32) (l4 : Int32) (l5 : Int32) (s0 : Int32) : pz_C Unit :=
  pz_if (s0 = 0) (X12_takeBounds_b172 n K23 l0 l1 l4) <|
  pz_cB (X12_boundAt n l2 l3) fun x13 =>
  pz_cV 12 l0 (X12_copyTo n l0 l5 x13) fun _ =>
  pz_gB (pz_rR 12 12 l0) fun x15 =>
  pz_uB (pz_sZ 1 x15 ((2 * l2) + l3) 1) <|
  X12_takeBounds_b172 n K23 l0 l1 l4
def X12_takeBounds_b138 (n : Nat) (K23 : Int32 → pz_C Unit) (l0 : Option Nat) (l1 : Int32) (l2 : Int32) (l3 : Int32) (l4 : Int32) (l5 : Int32) : pz_C Unit :=
  X12_takeBounds_b143 n K23 l0 l1 l2 l3 l4 l5 1
def X12_takeBounds_b142 (n : Nat) (K23 : Int32 → pz_C Unit) (l0 : Option Nat) (l1 : Int32) (l2 : Int32) (l3 : Int32) (l4 : Int32) (l5 : Int32) : pz_C Unit :=
  X12_takeBounds_b143 n K23 l0 l1 l2 l3 l4 l5 0
def X12_takeBounds_b88 (n : Nat) (K23 : Int32 → pz_C Unit) (l0 : Option Nat) (l1 : Int32) (l2 : Int32) (l3 : Int32) (l4 : Int32) (s0 : Int32) : pz_C Unit :=
  pz_gB (pz_rR 12 12 l0) fun x10 =>
  pz_gB (pz_aI 1 x10 ((2 * l2) + l3)) fun x11 =>
  pz_if (x11 = 0) (X12_takeBounds_b138 n K23 l0 l1 l2 l3 l4 s0) <|
  pz_if (l3 = 0) (
    pz_cB (X12_boundAt n l2 0) fun x16 =>
    pz_cV 12 l0 (X12_compare n l0 s0 x16) fun x17 =>
    pz_if (0 ≤ x17) (X12_takeBounds_b142 n K23 l0 l1 l2 l3 l4 s0) <|
    X12_takeBounds_b138 n K23 l0 l1 l2 l3 l4 s0) <|
  pz_cB (X12_boundAt n l2 1) fun x18 =>
  pz_cV 12 l0 (X12_compare n l0 s0 x18) fun x19 =>
  pz_if (x19 ≤ 0) (X12_takeBounds_b142 n K23 l0 l1 l2 l3 l4 s0) <|
  X12_takeBounds_b138 n K23 l0 l1 l2 l3 l4 s0
def X12_takeBounds_b57 (n : Nat) (K23 : Int32 → pz_C Unit) (l0 : Option Nat) (l1 : Int32) (l2 : Int32) (s0 : Int32) : pz_C Unit :=
  pz_gB (pz_rI 12 35 l0) fun x8 =>
  pz_if (s0 = 0) (
    pz_cB (X12_foundAt n l1) fun x9 =>
    X12_takeBounds_b88 n K23 l0 l1 l2 s0 x8 x9) <|
  pz_cB (X12_foundAt n l1) fun x20 =>
  pz_cV 12 l0 (X12_plainOf n l0 1) fun x21 =>
  pz_cV 12 l0 (X12_plus n l0 x20 x21) fun x22 =>
  X12_takeBounds_b88 n K23 l0 l1 l2 s0 x8 x22
def X12_takeBounds_L23_body (n : Nat) (l0 : Option Nat) (K23 : Int32 → pz_C Unit) (l1 : Int32) : pz_C Unit :=
  pz_gB (pz_rI 12 25 l0) fun x1 =>
  pz_if (x1 ≤ l1) (pz_ret ()) <|
  pz_gB (pz_rR 12 18 l0) fun x2 =>
  pz_gB (pz_rR 12 26 l0) fun x3 =>
  pz_gB (pz_aI 0 x3 l1) fun x4 =>
  pz_gB (pz_aI 0 x2 x4) fun x5 =>
  pz_gB (pz_rR 12 27 l0) fun x6 =>
  pz_gB (pz_aI 1 x6 l1) fun x7 =>
  pz_if (x7 = 0) (X12_takeBounds_b57 n K23 l0 l1 x5 0) <|
  X12_takeBounds_b57 n K23 l0 l1 x5 1
def X12_takeBounds_L23 (n : Nat) (l0 : Option Nat) (l1 : Int32) : pz_C Unit := pz_loop (fun (K : Int32 → pz_C Unit) (s : Int32) => X12_takeBounds_L23_body n l0 (fun l1 => K l1) s) n l1
def X12_takeBounds_L2_body (n : Nat) (l0 : Option Nat) (K2 : Int32 → pz_C Unit) (l1 : Int32) : pz_C Unit :=
  pz_if (20 ≤ l1) (X12_takeBounds_L23 n l0 0) <|
  pz_gB (pz_rR 12 12 l0) fun x23 =>
  pz_uB (pz_sZ 1 x23 l1 0) <|
  pz_let (l1 + 1) fun l1_24 =>
  K2 l1_24
def X12_takeBounds_L2 (n : Nat) (l0 : Option Nat) (l1 : Int32) : pz_C Unit := pz_loop (fun (K : Int32 → pz_C Unit) (s : Int32) => X12_takeBounds_L2_body n l0 (fun l1 => K l1) s) n l1
def X12_takeBounds (n : Nat) (l0 : Option Nat) : pz_C Unit :=
  X12_takeBounds_L2 n l0 0
/-- RowSolverModel.conflict (I)V -/
def X12_conflict_b310 (n : Nat) : pz_C Unit :=
  pz_ret ()
def X12_conflict_b196 (n : Nat) (l0 : Option Nat) (l3 : Int32) : pz_C Unit :=
  pz_if (0 ≤ l3) (
    pz_uB (pz_wF 12 25 l0 (.int (l3 + 1))) <|
    pz_gB (pz_rR 12 27 l0) fun x16 =>
    pz_uB (pz_sZ 1 x16 l3 1) <|
    pz_cV 12 l0 (X12_takeBounds n l0) fun _ =>
    pz_gB (pz_rR 12 26 l0) fun x18 =>
    pz_gB (pz_aI 0 x18 l3) fun x19 =>
    pz_cV 12 l0 (X12_newNode n l0 x19) fun x20 =>
    pz_uB (pz_wF 12 24 l0 (.int x20)) <|
    pz_gB (pz_rR 12 20 l0) fun x21 =>
    pz_gB (pz_rI 12 24 l0) fun x22 =>
    pz_uB (pz_sI 0 x21 x19 x22) <|
    pz_gB (pz_rR 12 18 l0) fun x23 =>
    pz_gB (pz_aI 0 x23 x19) fun x24 =>
    pz_cV 12 l0 (X12_columnAt n l0 x24) fun x25 =>
    pz_if (x25 = (-1)) (X12_conflict_b310 n) <|
    pz_cB (X12_valueAt n x24) fun x26 =>
    pz_cB (X12_boundAt n x24 1) fun x27 =>
    pz_cV 12 l0 (X12_compare n l0 x26 x27) fun x28 =>
    pz_if (0 ≤ x28) (X12_conflict_b310 n) <|
    pz_cB (X12_boundAt n x24 1) fun x29 =>
    pz_cB (X12_valueAt n x24) fun x30 =>
    pz_cV 12 l0 (X12_copyTo n l0 x29 x30) fun _ =>
    X12_conflict_b310 n) <|
  pz_uB (pz_wF 12 25 l0 (.int 0)) <|
  pz_uB (pz_wF 12 7 l0 (.int 3)) <|
  pz_ret ()
def X12_conflict_L177_body (n : Nat) (l0 : Option Nat) (K177 : Int32 → pz_C Unit) (l3 : Int32) : pz_C Unit :=
  pz_if (l3 < 0) (X12_conflict_b196 n l0 l3) <|
  pz_gB (pz_rR 12 27 l0) fun x32 =>
  pz_gB (pz_aI 1 x32 l3) fun x33 =>
  pz_if (x33 = 0) (X12_conflict_b196 n l0 l3) <|
  pz_let (l3 + (-1)) fun l3_34 =>
  K177 l3_34
def X12_conflict_L177 (n : Nat) (l0 : Option Nat) (l3 : Int32) : pz_C Unit := pz_loop (fun (K : Int32 → pz_C Unit) (s : Int32) => X12_conflict_L177_body n l0 (fun l3 => K l3) s) n l3
def X12_conflict_b149 (n : Nat) (K59 : Int32 → pz_C Unit) (l0 : Option Nat) (l1 : Int32) (l2 : Int32) (l3 : Int32) : pz_C Unit :=
  pz_let (l3 + 1) fun l3_38 =>
  K59 l3_38
def X12_conflict_b145 (n : Nat) (K59 : Int32 → pz_C Unit) (l0 : Option Nat) (l1 : Int32) (l2 : Int32) (l3 : Int32) (s0 : Option Nat) (s1 : Int32) (s2 : Int32) : pz_C Unit :=
  pz_cV 12 s0 (X12_multiply n s0 s1 s2 0) fun _ =>
  X12_conflict_b149 n K59 l0 l1 l2 l3
def X12_conflict_b123 (n : Nat) (K59 : Int32 → pz_C Unit) (l0 : Option Nat) (l1 : Int32) (l2 : Int32) (l3 : Int32) (l4 : Int32) (s0 : Option Nat) (s1 : Option Nat) (s2 : Int32) (s3 : Int32) : pz_C Unit :=
  pz_cV 12 s1 (X12_multiplierOf n s1 s2 s3) fun x41 =>
  pz_gB (pz_rI 12 29 l0) fun x42 =>
  pz_if (x42 = 1) (X12_conflict_b145 n K59 l0 l1 l2 l3 s0 x41 l4) <|
  pz_cV 12 l0 (X12_less n l0 l4) fun x44 =>
  X12_conflict_b145 n K59 l0 l1 l2 l3 s0 x41 x44
def X12_conflict_b98 (n : Nat) (K59 : Int32 → pz_C Unit) (l0 : Option Nat) (l1 : Int32) (l2 : Int32) (l3 : Int32) (l4 : Int32) (s0 : Int32) : pz_C Unit :=
  pz_if (s0 = 0) (X12_conflict_b149 n K59 l0 l1 l2 l3) <|
  pz_gB (pz_rR 12 14 l0) fun x39 =>
  pz_gB (pz_aI 0 x39 l3) fun x40 =>
  pz_if (s0 ≤ 0) (X12_conflict_b123 n K59 l0 l1 l2 l3 l4 l0 l0 x40 1) <|
  X12_conflict_b123 n K59 l0 l1 l2 l3 l4 l0 l0 x40 0
def X12_conflict_L59_body (n : Nat) (l0 : Option Nat) (l1 : Int32) (l2 : Int32) (K59 : Int32 → pz_C Unit) (l3 : Int32) : pz_C Unit :=
  pz_gB (pz_rI 12 0 l0) fun x11 =>
  pz_if (x11 ≤ l3) (
    pz_uB (pz_wF 12 35 l0 (.int l2)) <|
    pz_gB (pz_rR 12 17 l0) fun x12 =>
    pz_gB (pz_rI 12 24 l0) fun x13 =>
    pz_uB (pz_sZ 1 x12 x13 1) <|
    pz_gB (pz_rI 12 25 l0) fun x14 =>
    pz_let (x14 - 1) fun l3_15 =>
    X12_conflict_L177 n l0 l3_15) <|
  pz_cB (X12_factorAt n l1 l3) fun x35 =>
  pz_gB (pz_rI 12 29 l0) fun x36 =>
  pz_if (x36 = 1) (
    pz_cV 12 l0 (X12_sgn n l0 x35) fun x37 =>
    X12_conflict_b98 n K59 l0 l1 l2 l3 x35 x37) <|
  pz_cV 12 l0 (X12_sgn n l0 x35) fun x45 =>
  X12_conflict_b98 n K59 l0 l1 l2 l3 x35 (-x45)
def X12_conflict_L59 (n : Nat) (l0 : Option Nat) (l1 : Int32) (l2 : Int32) (l3 : Int32) : pz_C Unit := pz_loop (fun (K : Int32 → pz_C Unit) (s : Int32) => X12_conflict_L59_body n l0 l1 l2 (fun l3 => K l3) s) n l3
def X12_conflict_b46 (n : Nat) (l0 : Option Nat) (l1 : Int32) (l2 : Int32) (s0 : Option Nat) (s1 : Int32) (s2 : Option Nat) (s3 : Int64) : pz_C Unit :=
  pz_cV 12 s2 (X12_plainOf n s2 s3) fun x8 =>
  pz_cV 12 l0 (X12_plainOf n l0 1) fun x9 =>
  pz_cV 12 s0 (X12_multiply n s0 s1 x8 x9) fun _ =>
  X12_conflict_L59 n l0 l1 l2 0
def X12_conflict (n : Nat) (l0 : Option Nat) (l1 : Int32) : pz_C Unit :=
  pz_gB (pz_rI 12 10 l0) fun x1 =>
  pz_uB (pz_wF 12 10 l0 (.int (x1 + 1))) <|
  pz_gB (pz_rI 12 35 l0) fun x2 =>
  pz_gB (pz_rR 12 13 l0) fun x3 =>
  pz_gB (pz_aI 0 x3 l1) fun x4 =>
  pz_gB (pz_rI 12 29 l0) fun x5 =>
  pz_cV 12 l0 (X12_multiplierOf n l0 x4 x5) fun x6 =>
  pz_gB (pz_rI 12 29 l0) fun x7 =>
  pz_if (x7 = 1) (X12_conflict_b46 n l0 l1 x2 l0 x6 l0 (-1)) <|
  X12_conflict_b46 n l0 l1 x2 l0 x6 l0 1
/-- RowSolverModel.splitAt (I)I -/
def X12_splitAt (n : Nat) (l0 : Int32) : pz_C Int32 :=
  pz_ret (16456 + (300 * l0))
/-- RowSolverModel.brokenVariable ()I -/
def X12_brokenVariable_b108 (n : Nat) (K2 : Int32 → pz_C Int32) (l0 : Option Nat) (l1 : Int32) : pz_C Int32 :=
  pz_let (l1 + 1) fun l1_4 =>
  K2 l1_4
def X12_brokenVariable_b96 (n : Nat) (K2 : Int32 → pz_C Int32) (l0 : Option Nat) (l1 : Int32) (l3 : Int32) (l6 : Int32) : pz_C Int32 :=
  pz_uB (pz_wF 12 35 l0 (.int l3)) <|
  pz_if (l6 = 0) (X12_brokenVariable_b108 n K2 l0 l1) <|
  pz_ret l1
def X12_brokenVariable_b76 (n : Nat) (K2 : Int32 → pz_C Int32) (l0 : Option Nat) (l1 : Int32) (l3 : Int32) (l5 : Int32) (s0 : Int32) : pz_C Int32 :=
  pz_if (s0 = 0) (X12_brokenVariable_b96 n K2 l0 l1 l3 s0) <|
  pz_gB (pz_rI 12 24 l0) fun x10 =>
  pz_cB (X12_splitAt n x10) fun x11 =>
  pz_cV 12 l0 (X12_copyTo n l0 l5 x11) fun _ =>
  X12_brokenVariable_b96 n K2 l0 l1 l3 s0
def X12_brokenVariable_b28 (n : Nat) (K2 : Int32 → pz_C Int32) (l0 : Option Nat) (l1 : Int32) (s0 : Int32) : pz_C Int32 :=
  pz_if (s0 = (-1)) (X12_brokenVariable_b108 n K2 l0 l1) <|
  pz_gB (pz_rI 12 35 l0) fun x5 =>
  pz_cV 12 l0 (X12_sumOf n l0 s0) fun x6 =>
  pz_cV 12 l0 (X12_over n l0 x6 0) fun x7 =>
  pz_cV 12 l0 (X12_by n l0 x7 0) fun x8 =>
  pz_cV 12 l0 (X12_compare n l0 x8 x6) fun x9 =>
  pz_if (x9 = 0) (X12_brokenVariable_b76 n K2 l0 l1 x5 x7 0) <|
  X12_brokenVariable_b76 n K2 l0 l1 x5 x7 1
def X12_brokenVariable_L2_body (n : Nat) (l0 : Option Nat) (K2 : Int32 → pz_C Int32) (l1 : Int32) : pz_C Int32 :=
  pz_gB (pz_rI 12 0 l0) fun x1 =>
  pz_if (x1 ≤ l1) (pz_ret (-1)) <|
  pz_gB (pz_rR 12 6 l0) fun x2 =>
  pz_gB (pz_aI 1 x2 l1) fun x3 =>
  pz_if (x3 = 0) (X12_brokenVariable_b28 n K2 l0 l1 (-1)) <|
  pz_cV 12 l0 (X12_rowOf n l0 l1) fun x13 =>
  X12_brokenVariable_b28 n K2 l0 l1 x13
def X12_brokenVariable_L2 (n : Nat) (l0 : Option Nat) (l1 : Int32) : pz_C Int32 := pz_loop (fun (K : Int32 → pz_C Int32) (s : Int32) => X12_brokenVariable_L2_body n l0 (fun l1 => K l1) s) n l1
def X12_brokenVariable (n : Nat) (l0 : Option Nat) : pz_C Int32 :=
  X12_brokenVariable_L2 n l0 0
/-- RowSolverModel.split (I)V -/
def X12_split_b83 (n : Nat) (l0 : Option Nat) : pz_C Unit :=
  pz_uB (pz_wF 12 7 l0 (.int 4)) <|
  pz_ret ()
def X12_split_b52 (n : Nat) (l0 : Option Nat) (l1 : Int32) (l2 : Int32) (s0 : Int32) : pz_C Unit :=
  pz_uB (pz_wF 12 35 l0 (.int l2)) <|
  pz_gB (pz_rI 12 25 l0) fun x6 =>
  pz_if (x6 = 24) (X12_split_b83 n l0) <|
  pz_gB (pz_rI 12 11 l0) fun x7 =>
  pz_if (x7 = 150) (X12_split_b83 n l0) <|
  pz_if (s0 = 0) (
    pz_gB (pz_rI 12 11 l0) fun x8 =>
    pz_uB (pz_wF 12 11 l0 (.int (x8 + 1))) <|
    pz_gB (pz_rI 12 24 l0) fun x9 =>
    pz_gB (pz_rR 12 16 l0) fun x10 =>
    pz_uB (pz_sZ 1 x10 x9 1) <|
    pz_gB (pz_rR 12 18 l0) fun x11 =>
    pz_uB (pz_sI 0 x11 x9 l1) <|
    pz_gB (pz_rI 12 23 l0) fun x12 =>
    pz_uB (pz_wF 12 23 l0 (.int (x12 - 1))) <|
    pz_gB (pz_rR 12 26 l0) fun x13 =>
    pz_gB (pz_rI 12 25 l0) fun x14 =>
    pz_uB (pz_sI 0 x13 x14 x9) <|
    pz_cB (X12_splitAt n x9) fun x15 =>
    pz_gB (pz_rI 12 25 l0) fun x16 =>
    pz_cB (X12_foundAt n x16) fun x17 =>
    pz_cV 12 l0 (X12_copyTo n l0 x15 x17) fun _ =>
    pz_gB (pz_rR 12 27 l0) fun x19 =>
    pz_gB (pz_rI 12 25 l0) fun x20 =>
    pz_uB (pz_sZ 1 x19 x20 0) <|
    pz_gB (pz_rI 12 25 l0) fun x21 =>
    pz_uB (pz_wF 12 25 l0 (.int (x21 + 1))) <|
    pz_cV 12 l0 (X12_newNode n l0 x9) fun x22 =>
    pz_uB (pz_wF 12 24 l0 (.int x22)) <|
    pz_gB (pz_rR 12 19 l0) fun x23 =>
    pz_gB (pz_rI 12 24 l0) fun x24 =>
    pz_uB (pz_sI 0 x23 x9 x24) <|
    pz_cV 12 l0 (X12_takeBounds n l0) fun _ =>
    pz_ret ()) <|
  X12_split_b83 n l0
def X12_split_b47 (n : Nat) (l0 : Option Nat) (l1 : Int32) (l2 : Int32) : pz_C Unit :=
  X12_split_b52 n l0 l1 l2 1
def X12_split (n : Nat) (l0 : Option Nat) (l1 : Int32) : pz_C Unit :=
  pz_gB (pz_rI 12 35 l0) fun x1 =>
  pz_cV 12 l0 (X12_plainOf n l0 1000000000000000000) fun x2 =>
  pz_gB (pz_rI 12 24 l0) fun x3 =>
  pz_cB (X12_splitAt n x3) fun x4 =>
  pz_cV 12 l0 (X12_compare n l0 x4 x2) fun x5 =>
  pz_if (0 < x5) (X12_split_b47 n l0 l1 x1) <|
  pz_gB (pz_rI 12 24 l0) fun x26 =>
  pz_cB (X12_splitAt n x26) fun x27 =>
  pz_cV 12 l0 (X12_less n l0 x2) fun x28 =>
  pz_cV 12 l0 (X12_compare n l0 x27 x28) fun x29 =>
  pz_if (0 ≤ x29) (X12_split_b52 n l0 l1 x1 0) <|
  X12_split_b47 n l0 l1 x1
/-- RowSolverModel.step ()V -/
def X12_step_b69 (n : Nat) : pz_C Unit :=
  pz_ret ()
def X12_step_b45 (n : Nat) : pz_C Unit :=
  pz_ret ()
def X12_step (n : Nat) (l0 : Option Nat) : pz_C Unit :=
  pz_gB (pz_rI 12 8 l0) fun x1 =>
  pz_uB (pz_wF 12 8 l0 (.int (x1 + 1))) <|
  pz_cV 12 l0 (X12_wrongRow n l0) fun x2 =>
  pz_if (x2 = (-1)) (
    pz_cV 12 l0 (X12_brokenVariable n l0) fun x3 =>
    pz_if (x3 = (-1)) (
      pz_uB (pz_wF 12 7 l0 (.int 2)) <|
      X12_step_b69 n) <|
    pz_cV 12 l0 (X12_split n l0 x3) fun _ =>
    X12_step_b69 n) <|
  pz_cV 12 l0 (X12_columnFor n l0 x2) fun x5 =>
  pz_if (x5 = (-1)) (
    pz_cV 12 l0 (X12_conflict n l0 x2) fun _ =>
    X12_step_b45 n) <|
  pz_cV 12 l0 (X12_exchange n l0 x2 x5) fun _ =>
  X12_step_b45 n
/-- RowSolverModel.solve (I)I -/
def X12_solve_b19 (n : Nat) : pz_C Int32 :=
  pz_ret (-1)
def X12_solve_b57 (n : Nat) (l2 : Int32) : pz_C Int32 :=
  pz_ret l2
def X12_solve_L34_body (n : Nat) (l0 : Option Nat) (l1 : Int32) (K34 : Int32 → pz_C Int32) (l2 : Int32) : pz_C Int32 :=
  pz_if (l1 ≤ l2) (X12_solve_b57 n l2) <|
  pz_gB (pz_rI 12 7 l0) fun x4 =>
  pz_if (x4 = 1) (
    pz_cV 12 l0 (X12_step n l0) fun _ =>
    pz_let (l2 + 1) fun l2_6 =>
    K34 l2_6) <|
  X12_solve_b57 n l2
def X12_solve_L34 (n : Nat) (l0 : Option Nat) (l1 : Int32) (l2 : Int32) : pz_C Int32 := pz_loop (fun (K : Int32 → pz_C Int32) (s : Int32) => X12_solve_L34_body n l0 l1 (fun l2 => K l2) s) n l2
def X12_solve_b32 (n : Nat) (l0 : Option Nat) (l1 : Int32) : pz_C Int32 :=
  X12_solve_L34 n l0 l1 0
def X12_solve (n : Nat) (l0 : Option Nat) (l1 : Int32) : pz_C Int32 :=
  pz_gB (pz_rI 12 0 l0) fun x1 =>
  pz_if (x1 = 0) (X12_solve_b19 n) <|
  pz_if (l1 < 1) (X12_solve_b19 n) <|
  pz_if (l1 ≤ 20000) (
    pz_gB (pz_rI 12 7 l0) fun x2 =>
    pz_if (x2 = 0) (
      pz_cV 12 l0 (X12_begin n l0) fun _ =>
      X12_solve_b32 n l0 l1) <|
    X12_solve_b32 n l0 l1) <|
  X12_solve_b19 n
/-- RowSolver.state (I)I -/
def X11_state (n : Nat) (l0 : Option Nat) (l1 : Int32) : pz_C Int32 :=
  pz_tsw 0 [
      pz_gB (pz_rR 11 5 l0) fun x1 =>
      pz_gB (pz_rI 7 4 x1) fun x2 =>
      pz_ret x2,
      pz_gB (pz_rR 11 5 l0) fun x3 =>
      pz_gB (pz_rI 7 5 x3) fun x4 =>
      pz_ret x4,
      pz_gB (pz_rR 11 5 l0) fun x5 =>
      pz_gB (pz_rI 7 6 x5) fun x6 =>
      pz_ret x6,
      pz_gB (pz_rR 11 5 l0) fun x7 =>
      pz_gB (pz_rI 7 7 x7) fun x8 =>
      pz_ret x8,
      pz_gB (pz_rR 11 5 l0) fun x9 =>
      pz_gB (pz_rI 7 8 x9) fun x10 =>
      pz_ret x10,
      pz_gB (pz_rR 11 4 l0) fun x11 =>
      pz_gB (pz_rR 11 4 l0) fun x12 =>
      pz_gB (pz_rI 10 11 x12) fun x13 =>
      pz_cV 10 x11 (X10_splitsAbove n x11 x13) fun x14 =>
      pz_ret x14,
      pz_gB (pz_rR 11 0 l0) fun x15 =>
      pz_gB (pz_rI 6 6 x15) fun x16 =>
      pz_ret x16,
      pz_gB (pz_rR 11 0 l0) fun x17 =>
      pz_gB (pz_rI 6 5 x17) fun x18 =>
      pz_ret x18,
      pz_gB (pz_rR 11 4 l0) fun x19 =>
      pz_gB (pz_rI 10 10 x19) fun x20 =>
      pz_ret x20]
    (pz_ret (-1)) l1
/-- RowSolverModel.state (I)I -/
def X12_state (n : Nat) (l0 : Option Nat) (l1 : Int32) : pz_C Int32 :=
  pz_tsw 0 [
      pz_gB (pz_rI 12 7 l0) fun x1 =>
      pz_ret x1,
      pz_gB (pz_rI 12 8 l0) fun x2 =>
      pz_ret x2,
      pz_gB (pz_rI 12 9 l0) fun x3 =>
      pz_ret x3,
      pz_gB (pz_rI 12 10 l0) fun x4 =>
      pz_ret x4,
      pz_gB (pz_rI 12 11 l0) fun x5 =>
      pz_ret x5,
      pz_gB (pz_rI 12 25 l0) fun x6 =>
      pz_ret x6,
      pz_gB (pz_rI 12 1 l0) fun x7 =>
      pz_ret x7,
      pz_gB (pz_rI 12 0 l0) fun x8 =>
      pz_ret x8,
      pz_gB (pz_rI 12 15 l0) fun x9 =>
      pz_ret x9]
    (pz_ret (-1)) l1
/-- RowSolver.hasPlace (I)Z -/
def X11_hasPlace_b38 (n : Nat) (s0 : Int32) : pz_C Int32 :=
  pz_zz s0 (pz_ret s0)
def X11_hasPlace_b37 (n : Nat) : pz_C Int32 :=
  X11_hasPlace_b38 n 0
def X11_hasPlace (n : Nat) (l0 : Option Nat) (l1 : Int32) : pz_C Int32 :=
  pz_gB (pz_rR 11 5 l0) fun x1 =>
  pz_gB (pz_rI 7 4 x1) fun x2 =>
  pz_if (x2 = 0) (X11_hasPlace_b37 n) <|
  pz_if (l1 < 0) (X11_hasPlace_b37 n) <|
  pz_gB (pz_rR 11 0 l0) fun x3 =>
  pz_gB (pz_rI 6 5 x3) fun x4 =>
  pz_gB (pz_rR 11 0 l0) fun x5 =>
  pz_gB (pz_rI 6 6 x5) fun x6 =>
  pz_if ((x4 + x6) ≤ l1) (X11_hasPlace_b37 n) <|
  X11_hasPlace_b38 n 1
/-- RowSolver.basic (I)I -/
def X11_basic_b26 (n : Nat) (s0 : Int32) : pz_C Int32 :=
  pz_ret s0
def X11_basic (n : Nat) (l0 : Option Nat) (l1 : Int32) : pz_C Int32 :=
  pz_cV 11 l0 (X11_hasPlace n l0 l1) fun x1 =>
  pz_if (x1 = 0) (pz_ret (-1)) <|
  pz_gB (pz_rR 11 3 l0) fun x2 =>
  pz_cV 9 x2 (X9_rowOf n x2 l1) fun x3 =>
  pz_if (x3 < 0) (X11_basic_b26 n 0) <|
  X11_basic_b26 n 1
/-- RowSolverModel.isPlace (I)Z -/
def X12_isPlace_b29 (n : Nat) (s0 : Int32) : pz_C Int32 :=
  pz_zz s0 (pz_ret s0)
def X12_isPlace_b28 (n : Nat) : pz_C Int32 :=
  X12_isPlace_b29 n 0
def X12_isPlace (n : Nat) (l0 : Option Nat) (l1 : Int32) : pz_C Int32 :=
  pz_gB (pz_rI 12 7 l0) fun x1 =>
  pz_if (x1 ≤ 0) (X12_isPlace_b28 n) <|
  pz_if (l1 < 0) (X12_isPlace_b28 n) <|
  pz_gB (pz_rI 12 0 l0) fun x2 =>
  pz_gB (pz_rI 12 1 l0) fun x3 =>
  pz_if ((x2 + x3) ≤ l1) (X12_isPlace_b28 n) <|
  X12_isPlace_b29 n 1
/-- RowSolverModel.basic (I)I -/
def X12_basic_b26 (n : Nat) (s0 : Int32) : pz_C Int32 :=
  pz_ret s0
def X12_basic (n : Nat) (l0 : Option Nat) (l1 : Int32) : pz_C Int32 :=
  pz_cV 12 l0 (X12_isPlace n l0 l1) fun x1 =>
  pz_if (x1 = 0) (X12_basic_b26 n (-1)) <|
  pz_cV 12 l0 (X12_rowOf n l0 l1) fun x2 =>
  pz_if (x2 = (-1)) (X12_basic_b26 n 0) <|
  X12_basic_b26 n 1
/-- RowSolver$Tableau.copyValue (ILRowSolver$Fraction;)V -/
def X9_copyValue_b44 (n : Nat) : pz_C Unit :=
  pz_ret ()
def X9_copyValue (n : Nat) (l0 : Option Nat) (l1 : Int32) (l2 : Option Nat) : pz_C Unit :=
  pz_cV 9 l0 (X9_rowOf n l0 l1) fun x1 =>
  pz_if (x1 < 0) (
    pz_gB (pz_rR 9 4 l0) fun x2 =>
    pz_gB (pz_rR 9 7 l0) fun x3 =>
    pz_gB (pz_aI 0 x3 l1) fun x4 =>
    pz_gB (pz_aL 2 x2 x4) fun x5 =>
    pz_cV 3 l2 (X3_setSmall n l2 x5 1) fun _ =>
    X9_copyValue_b44 n) <|
  pz_gB (pz_rR 9 3 l0) fun x7 =>
  pz_gB (pz_aR 3 x7 x1) fun x8 =>
  pz_gB (pz_rR 9 9 l0) fun x9 =>
  pz_cV 3 l2 (X3_setQuotient n l2 x8 x9 1) fun _ =>
  X9_copyValue_b44 n
/-- RowSolver$Division.smallDivisor (JJ)J -/
def X2_smallDivisor_b44 (n : Nat) (l4 : Int64) : pz_C Int64 :=
  pz_ret l4
def X2_smallDivisor_L9_body (n : Nat) (K9 : Int64 → Int64 → Int32 → pz_C Int64) (l4 : Int64) (l6 : Int64) (l8 : Int32) : pz_C Int64 :=
  pz_if (1000000 ≤ l8) (X2_smallDivisor_b44 n l4) <|
  pz_if ((lg_cmp l6 0) = 0) (X2_smallDivisor_b44 n l4) <|
  pz_gB (pz_rmL l4 l6) fun x1 =>
  pz_let (l8 + 1) fun l8_2 =>
  K9 l6 x1 l8_2
def X2_smallDivisor_L9 (n : Nat) (l4 : Int64) (l6 : Int64) (l8 : Int32) : pz_C Int64 := pz_loop (fun (K : Int64 × Int64 × Int32 → pz_C Int64) (s : Int64 × Int64 × Int32) => X2_smallDivisor_L9_body n (fun l4 l6 l8 => K (l4, l6, l8)) s.1 s.2.1 s.2.2) n (l4, l6, l8)
def X2_smallDivisor (n : Nat) (l0 : Int64) (l2 : Int64) : pz_C Int64 :=
  X2_smallDivisor_L9 n l0 l2 0
/-- RowSolver$Division.commonDivisor (LRowSolver$Big;LRowSolver$Big;)LRowSolver$Big; -/
def X2_commonDivisor_b112 (n : Nat) (l3 : Option Nat) : pz_C (Option Nat) :=
  pz_ret l3
def X2_commonDivisor_b80 (n : Nat) (K30 : Option Nat → Option Nat → Int32 → pz_C (Option Nat)) (l0 : Option Nat) (l3 : Option Nat) (l4 : Option Nat) (l5 : Int32) : pz_C (Option Nat) :=
  pz_cV 2 l0 (X2_divide n l0 l3 l4) fun _ =>
  pz_gB (pz_rR 2 1 l0) fun x9 =>
  pz_cV 0 l3 (X0_set n l3 x9 1) fun _ =>
  pz_let (l5 + 1) fun l5_11 =>
  K30 l4 l3 l5_11
def X2_commonDivisor_L30_body (n : Nat) (l0 : Option Nat) (K30 : Option Nat → Option Nat → Int32 → pz_C (Option Nat)) (l3 : Option Nat) (l4 : Option Nat) (l5 : Int32) : pz_C (Option Nat) :=
  pz_if (1000000 ≤ l5) (X2_commonDivisor_b112 n l3) <|
  pz_gB (pz_rI 0 1 l4) fun x6 =>
  pz_if (x6 ≤ 0) (X2_commonDivisor_b112 n l3) <|
  pz_gB (pz_rI 0 1 l3) fun x7 =>
  pz_if (2 < x7) (X2_commonDivisor_b80 n K30 l0 l3 l4 l5) <|
  pz_gB (pz_rI 0 1 l4) fun x12 =>
  pz_if (2 < x12) (X2_commonDivisor_b80 n K30 l0 l3 l4 l5) <|
  pz_cV 0 l3 (X0_lowPair n l3) fun x13 =>
  pz_cV 0 l4 (X0_lowPair n l4) fun x14 =>
  pz_cB (X2_smallDivisor n x13 x14) fun x15 =>
  pz_cV 0 l3 (X0_setLong n l3 x15) fun _ =>
  pz_ret l3
def X2_commonDivisor_L30 (n : Nat) (l0 : Option Nat) (l3 : Option Nat) (l4 : Option Nat) (l5 : Int32) : pz_C (Option Nat) := pz_loop (fun (K : Option Nat × Option Nat × Int32 → pz_C (Option Nat)) (s : Option Nat × Option Nat × Int32) => X2_commonDivisor_L30_body n l0 (fun l3 l4 l5 => K (l3, l4, l5)) s.1 s.2.1 s.2.2) n (l3, l4, l5)
def X2_commonDivisor (n : Nat) (l0 : Option Nat) (l1 : Option Nat) (l2 : Option Nat) : pz_C (Option Nat) :=
  pz_gB (pz_rR 2 2 l0) fun x1 =>
  pz_gB (pz_rR 2 3 l0) fun x2 =>
  pz_gB (pz_rI 0 2 l1) fun x3 =>
  pz_cV 0 x1 (X0_set n x1 l1 x3) fun _ =>
  pz_cV 0 x2 (X0_set n x2 l2 1) fun _ =>
  X2_commonDivisor_L30 n l0 x1 x2 0
/-- RowSolver$Division.reduce (LRowSolver$Fraction;)V -/
def X2_reduce (n : Nat) (l0 : Option Nat) (l1 : Option Nat) : pz_C Unit :=
  pz_gB (pz_rR 3 0 l1) fun x1 =>
  pz_gB (pz_rI 0 2 x1) fun x2 =>
  pz_if (x2 = 0) (
    pz_gB (pz_rR 3 1 l1) fun x3 =>
    pz_cV 0 x3 (X0_setLong n x3 1) fun _ =>
    pz_ret ()) <|
  pz_gB (pz_rR 3 1 l1) fun x5 =>
  pz_cV 0 x5 (X0_isOne n x5) fun x6 =>
  pz_if (x6 = 0) (
    pz_gB (pz_rR 3 0 l1) fun x7 =>
    pz_gB (pz_rR 3 1 l1) fun x8 =>
    pz_cV 2 l0 (X2_commonDivisor n l0 x7 x8) fun x9 =>
    pz_cV 0 x9 (X0_isOne n x9) fun x10 =>
    pz_if (x10 = 0) (
      pz_gB (pz_rR 2 2 l0) fun x11 =>
      pz_cV 0 x11 (X0_set n x11 x9 1) fun _ =>
      pz_gB (pz_rR 3 0 l1) fun x13 =>
      pz_gB (pz_rR 2 2 l0) fun x14 =>
      pz_cV 2 l0 (X2_divide n l0 x13 x14) fun _ =>
      pz_gB (pz_rR 3 0 l1) fun x16 =>
      pz_gB (pz_rR 2 0 l0) fun x17 =>
      pz_gB (pz_rR 3 0 l1) fun x18 =>
      pz_gB (pz_rI 0 2 x18) fun x19 =>
      pz_cV 0 x16 (X0_set n x16 x17 x19) fun _ =>
      pz_gB (pz_rR 3 1 l1) fun x21 =>
      pz_gB (pz_rR 2 2 l0) fun x22 =>
      pz_cV 2 l0 (X2_divide n l0 x21 x22) fun _ =>
      pz_gB (pz_rR 3 1 l1) fun x24 =>
      pz_gB (pz_rR 2 0 l0) fun x25 =>
      pz_cV 0 x24 (X0_set n x24 x25 1) fun _ =>
      pz_ret ()) <|
    pz_ret ()) <|
  pz_ret ()
/-- RowSolver.takeToHand ()I -/
def X11_takeToHand (n : Nat) (l0 : Option Nat) : pz_C Int32 :=
  pz_gB (pz_rR 11 1 l0) fun x1 =>
  pz_gB (pz_rR 11 8 l0) fun x2 =>
  pz_cV 2 x1 (X2_reduce n x1 x2) fun _ =>
  pz_zz 1 <|
  pz_uB (pz_wF 11 9 l0 (.int 1)) <|
  pz_gB (pz_rR 11 8 l0) fun x5 =>
  pz_gB (pz_rR 3 0 x5) fun x6 =>
  pz_gB (pz_rI 0 2 x6) fun x7 =>
  pz_ret x7
/-- RowSolver.value (I)I -/
def X11_value (n : Nat) (l0 : Option Nat) (l1 : Int32) : pz_C Int32 :=
  pz_cV 11 l0 (X11_hasPlace n l0 l1) fun x1 =>
  pz_if (x1 = 0) (pz_ret (-4)) <|
  pz_gB (pz_rR 11 3 l0) fun x2 =>
  pz_gB (pz_rR 11 8 l0) fun x3 =>
  pz_cV 9 x2 (X9_copyValue n x2 l1 x3) fun _ =>
  pz_cV 11 l0 (X11_takeToHand n l0) fun x5 =>
  pz_ret x5
/-- RowSolverModel.hand (II)I -/
def X12_hand (n : Nat) (l0 : Option Nat) (l1 : Int32) (l2 : Int32) : pz_C Int32 :=
  pz_gB (pz_rI 12 35 l0) fun x1 =>
  pz_cV 12 l0 (X12_gcd n l0 l1 l2) fun x2 =>
  pz_cV 12 l0 (X12_over n l0 l1 x2) fun x3 =>
  pz_cV 12 l0 (X12_copyTo n l0 x3 115456) fun _ =>
  pz_cV 12 l0 (X12_over n l0 l2 x2) fun x5 =>
  pz_cV 12 l0 (X12_copyTo n l0 x5 115756) fun _ =>
  pz_uB (pz_wF 12 35 l0 (.int x1)) <|
  pz_zz 1 <|
  pz_uB (pz_wF 12 28 l0 (.int 1)) <|
  pz_cV 12 l0 (X12_sgn n l0 115456) fun x8 =>
  pz_ret x8
/-- RowSolverModel.value (I)I -/
def X12_value_b53 (n : Nat) (l0 : Option Nat) (l2 : Int32) (s0 : Int32) : pz_C Int32 :=
  pz_uB (pz_wF 12 35 l0 (.int l2)) <|
  pz_ret s0
def X12_value (n : Nat) (l0 : Option Nat) (l1 : Int32) : pz_C Int32 :=
  pz_cV 12 l0 (X12_isPlace n l0 l1) fun x1 =>
  pz_if (x1 = 0) (pz_ret (-4)) <|
  pz_gB (pz_rI 12 35 l0) fun x2 =>
  pz_cV 12 l0 (X12_rowOf n l0 l1) fun x3 =>
  pz_if (x3 = (-1)) (
    pz_cB (X12_valueAt n l1) fun x4 =>
    pz_cV 12 l0 (X12_plainOf n l0 1) fun x5 =>
    pz_cV 12 l0 (X12_hand n l0 x4 x5) fun x6 =>
    X12_value_b53 n l0 x2 x6) <|
  pz_cV 12 l0 (X12_sumOf n l0 x3) fun x7 =>
  pz_cV 12 l0 (X12_hand n l0 x7 0) fun x8 =>
  X12_value_b53 n l0 x2 x8
/-- RowSolver.told (II)I -/
def X11_told_b16 (n : Nat) : pz_C Int32 :=
  pz_ret (-4)
def X11_told_b47 (n : Nat) : pz_C Int32 :=
  pz_ret (-4)
def X11_told (n : Nat) (l0 : Option Nat) (l1 : Int32) (l2 : Int32) : pz_C Int32 :=
  pz_cV 11 l0 (X11_hasPlace n l0 l1) fun x1 =>
  pz_if (x1 = 0) (X11_told_b16 n) <|
  pz_cV 11 l0 (X11_hasPlace n l0 l2) fun x2 =>
  pz_if (x2 = 0) (X11_told_b16 n) <|
  pz_gB (pz_rR 11 3 l0) fun x3 =>
  pz_cV 9 x3 (X9_rowOf n x3 l1) fun x4 =>
  pz_gB (pz_rR 11 3 l0) fun x5 =>
  pz_cV 9 x5 (X9_columnOf n x5 l2) fun x6 =>
  pz_if (x4 < 0) (X11_told_b47 n) <|
  pz_if (0 ≤ x6) (
    pz_gB (pz_rR 11 8 l0) fun x7 =>
    pz_gB (pz_rR 11 3 l0) fun x8 =>
    pz_cV 9 x8 (X9_cell n x8 x4 x6) fun x9 =>
    pz_gB (pz_rR 11 3 l0) fun x10 =>
    pz_gB (pz_rR 9 9 x10) fun x11 =>
    pz_cV 3 x7 (X3_setQuotient n x7 x9 x11 1) fun _ =>
    pz_cV 11 l0 (X11_takeToHand n l0) fun x13 =>
    pz_ret x13) <|
  X11_told_b47 n
/-- RowSolverModel.told (II)I -/
def X12_told_b34 (n : Nat) : pz_C Int32 :=
  pz_ret (-4)
def X12_told (n : Nat) (l0 : Option Nat) (l1 : Int32) (l2 : Int32) : pz_C Int32 :=
  pz_cV 12 l0 (X12_isPlace n l0 l1) fun x1 =>
  pz_if (x1 = 0) (X12_told_b34 n) <|
  pz_cV 12 l0 (X12_isPlace n l0 l2) fun x2 =>
  pz_if (x2 = 0) (X12_told_b34 n) <|
  pz_cV 12 l0 (X12_rowOf n l0 l1) fun x3 =>
  pz_if (x3 = (-1)) (X12_told_b34 n) <|
  pz_cV 12 l0 (X12_columnAt n l0 l2) fun x4 =>
  pz_if (x4 = (-1)) (X12_told_b34 n) <|
  pz_cV 12 l0 (X12_rowOf n l0 l1) fun x5 =>
  pz_cV 12 l0 (X12_columnAt n l0 l2) fun x6 =>
  pz_cB (X12_factorAt n x5 x6) fun x7 =>
  pz_cV 12 l0 (X12_hand n l0 x7 0) fun x8 =>
  pz_ret x8
/-- RowSolver.digits (II)I -/
def X11_digits_b20 (n : Nat) : pz_C Int32 :=
  pz_ret (-1)
def X11_digits_b51 (n : Nat) (s0 : Int32) : pz_C Int32 :=
  pz_ret s0
def X11_digits (n : Nat) (l0 : Option Nat) (l1 : Int32) (l2 : Int32) : pz_C Int32 :=
  pz_if (l1 < 0) (X11_digits_b20 n) <|
  pz_if (1 < l1) (X11_digits_b20 n) <|
  pz_if (l2 < 0) (X11_digits_b20 n) <|
  pz_gB (pz_rI 11 9 l0) fun x1 =>
  pz_if (x1 = 0) (X11_digits_b20 n) <|
  pz_if (l1 = 0) (
    pz_gB (pz_rR 11 8 l0) fun x2 =>
    pz_gB (pz_rR 3 0 x2) fun x3 =>
    pz_cV 0 x3 (X0_limbAt n x3 l2) fun x4 =>
    X11_digits_b51 n x4) <|
  pz_gB (pz_rR 11 8 l0) fun x5 =>
  pz_gB (pz_rR 3 1 x5) fun x6 =>
  pz_cV 0 x6 (X0_limbAt n x6 l2) fun x7 =>
  X11_digits_b51 n x7
/-- RowSolverModel.digits (II)I -/
def X12_digits_b20 (n : Nat) : pz_C Int32 :=
  pz_ret (-1)
def X12_digits_b55 (n : Nat) (s0 : Int32) : pz_C Int32 :=
  pz_ret s0
def X12_digits (n : Nat) (l0 : Option Nat) (l1 : Int32) (l2 : Int32) : pz_C Int32 :=
  pz_if (l1 < 0) (X12_digits_b20 n) <|
  pz_if (1 < l1) (X12_digits_b20 n) <|
  pz_if (l2 < 0) (X12_digits_b20 n) <|
  pz_gB (pz_rI 12 28 l0) fun x1 =>
  pz_if (x1 = 0) (X12_digits_b20 n) <|
  pz_let (115456 + (300 * l1)) fun l3_2 =>
  pz_cV 12 l0 (X12_limbs n l0 l3_2) fun x3 =>
  pz_if (x3 ≤ l2) (X12_digits_b55 n 0) <|
  pz_gB (pz_rR 12 34 l0) fun x4 =>
  pz_gB (pz_aI 0 x4 ((l3_2 + l2) + 1)) fun x5 =>
  X12_digits_b55 n x5
/-- RowSolver.witness ()I -/
def X11_witness_b55 (n : Nat) : pz_C Int32 :=
  pz_ret 0
def X11_witness_L15_body (n : Nat) (l0 : Option Nat) (K15 : Int32 → pz_C Int32) (l1 : Int32) : pz_C Int32 :=
  pz_gB (pz_rR 11 0 l0) fun x3 =>
  pz_gB (pz_rI 6 5 x3) fun x4 =>
  pz_if (x4 ≤ l1) (X11_witness_b55 n) <|
  pz_gB (pz_rR 11 7 l0) fun x5 =>
  pz_gB (pz_len 4 x5) fun x6 =>
  pz_if (x6 ≤ l1) (X11_witness_b55 n) <|
  pz_gB (pz_rR 11 3 l0) fun x7 =>
  pz_gB (pz_rR 11 7 l0) fun x8 =>
  pz_gB (pz_aR 4 x8 l1) fun x9 =>
  pz_cV 9 x7 (X9_copyValue n x7 l1 x9) fun _ =>
  pz_let (l1 + 1) fun l1_11 =>
  K15 l1_11
def X11_witness_L15 (n : Nat) (l0 : Option Nat) (l1 : Int32) : pz_C Int32 := pz_loop (fun (K : Int32 → pz_C Int32) (s : Int32) => X11_witness_L15_body n l0 (fun l1 => K l1) s) n l1
def X11_witness (n : Nat) (l0 : Option Nat) : pz_C Int32 :=
  pz_gB (pz_rR 11 5 l0) fun x1 =>
  pz_gB (pz_rI 7 4 x1) fun x2 =>
  pz_if (x2 = 2) (X11_witness_L15 n l0 0) <|
  pz_ret (-1)
/-- RowSolverModel.witness ()I -/
def X12_witness_b72 (n : Nat) (K12 : Int32 → pz_C Int32) (l0 : Option Nat) (l1 : Int32) (l2 : Int32) (l4 : Int32) (s0 : Int32) : pz_C Int32 :=
  pz_cV 12 l0 (X12_gcd n l0 l4 s0) fun x8 =>
  pz_cV 12 l0 (X12_over n l0 l4 x8) fun x9 =>
  pz_cB (X12_witnessAt n l1 0) fun x10 =>
  pz_cV 12 l0 (X12_copyTo n l0 x9 x10) fun _ =>
  pz_cV 12 l0 (X12_over n l0 s0 x8) fun x12 =>
  pz_cB (X12_witnessAt n l1 1) fun x13 =>
  pz_cV 12 l0 (X12_copyTo n l0 x12 x13) fun _ =>
  pz_uB (pz_wF 12 35 l0 (.int l2)) <|
  pz_let (l1 + 1) fun l1_15 =>
  K12 l1_15
def X12_witness_b52 (n : Nat) (K12 : Int32 → pz_C Int32) (l0 : Option Nat) (l1 : Int32) (l2 : Int32) (l3 : Int32) (s0 : Int32) : pz_C Int32 :=
  pz_if (l3 = (-1)) (
    pz_cV 12 l0 (X12_plainOf n l0 1) fun x7 =>
    X12_witness_b72 n K12 l0 l1 l2 s0 x7) <|
  pz_cV 12 l0 (X12_again n l0 0) fun x16 =>
  X12_witness_b72 n K12 l0 l1 l2 s0 x16
def X12_witness_L12_body (n : Nat) (l0 : Option Nat) (K12 : Int32 → pz_C Int32) (l1 : Int32) : pz_C Int32 :=
  pz_gB (pz_rI 12 0 l0) fun x2 =>
  pz_if (x2 ≤ l1) (pz_ret 0) <|
  pz_gB (pz_rI 12 35 l0) fun x3 =>
  pz_cV 12 l0 (X12_rowOf n l0 l1) fun x4 =>
  pz_if (x4 = (-1)) (
    pz_cB (X12_valueAt n l1) fun x5 =>
    pz_cV 12 l0 (X12_again n l0 x5) fun x6 =>
    X12_witness_b52 n K12 l0 l1 x3 x4 x6) <|
  pz_cV 12 l0 (X12_sumOf n l0 x4) fun x17 =>
  X12_witness_b52 n K12 l0 l1 x3 x4 x17
def X12_witness_L12 (n : Nat) (l0 : Option Nat) (l1 : Int32) : pz_C Int32 := pz_loop (fun (K : Int32 → pz_C Int32) (s : Int32) => X12_witness_L12_body n l0 (fun l1 => K l1) s) n l1
def X12_witness (n : Nat) (l0 : Option Nat) : pz_C Int32 :=
  pz_gB (pz_rI 12 7 l0) fun x1 =>
  pz_if (x1 = 2) (X12_witness_L12 n l0 0) <|
  pz_ret (-1)
/-- RowSolver.isGiven (II)Z -/
def X11_isGiven_b28 (n : Nat) (s0 : Int32) : pz_C Int32 :=
  pz_zz s0 (pz_ret s0)
def X11_isGiven_b27 (n : Nat) : pz_C Int32 :=
  X11_isGiven_b28 n 0
def X11_isGiven (n : Nat) (l0 : Int32) (l1 : Int32) : pz_C Int32 :=
  pz_if (l0 < (-1000000000)) (X11_isGiven_b27 n) <|
  pz_if (1000000000 < l0) (X11_isGiven_b27 n) <|
  pz_if (l1 < 1) (X11_isGiven_b27 n) <|
  pz_if (1000000000 < l1) (X11_isGiven_b27 n) <|
  X11_isGiven_b28 n 1
/-- RowSolver.setWitness (III)I -/
def X11_setWitness_b28 (n : Nat) : pz_C Int32 :=
  pz_ret (-1)
def X11_setWitness (n : Nat) (l0 : Option Nat) (l1 : Int32) (l2 : Int32) (l3 : Int32) : pz_C Int32 :=
  pz_gB (pz_rR 11 0 l0) fun x1 =>
  pz_cV 6 x1 (X6_hasVariable n x1 l1) fun x2 =>
  pz_if (x2 = 0) (X11_setWitness_b28 n) <|
  pz_gB (pz_rR 11 7 l0) fun x3 =>
  pz_gB (pz_len 4 x3) fun x4 =>
  pz_if (x4 ≤ l1) (X11_setWitness_b28 n) <|
  pz_cB (X11_isGiven n l2 l3) fun x5 =>
  pz_if (x5 = 0) (X11_setWitness_b28 n) <|
  pz_gB (pz_rR 11 7 l0) fun x6 =>
  pz_gB (pz_aR 4 x6 l1) fun x7 =>
  pz_cV 3 x7 (X3_setSmall n x7 (Int32.toInt64 l2) (Int32.toInt64 l3)) fun _ =>
  pz_ret 0
/-- RowSolverModel.isFraction (II)Z -/
def X12_isFraction_b27 (n : Nat) (s0 : Int32) : pz_C Int32 :=
  pz_zz s0 (pz_ret s0)
def X12_isFraction_b26 (n : Nat) : pz_C Int32 :=
  X12_isFraction_b27 n 0
def X12_isFraction (n : Nat) (l0 : Int32) (l1 : Int32) : pz_C Int32 :=
  pz_if (l1 < 1) (X12_isFraction_b26 n) <|
  pz_if (1000000000 < l1) (X12_isFraction_b26 n) <|
  pz_cB (X12_within n l0 1000000000) fun x1 =>
  pz_if (x1 = 0) (X12_isFraction_b26 n) <|
  X12_isFraction_b27 n 1
/-- RowSolverModel.setWitness (III)I -/
def X12_setWitness_b16 (n : Nat) : pz_C Int32 :=
  pz_ret (-1)
def X12_setWitness (n : Nat) (l0 : Option Nat) (l1 : Int32) (l2 : Int32) (l3 : Int32) : pz_C Int32 :=
  pz_cV 12 l0 (X12_isVariable n l0 l1) fun x1 =>
  pz_if (x1 = 0) (X12_setWitness_b16 n) <|
  pz_cB (X12_isFraction n l2 l3) fun x2 =>
  pz_if (x2 = 0) (X12_setWitness_b16 n) <|
  pz_cB (X12_witnessAt n l1 0) fun x3 =>
  pz_cV 12 l0 (X12_setWhole n l0 x3 (Int32.toInt64 l2)) fun _ =>
  pz_cB (X12_witnessAt n l1 1) fun x5 =>
  pz_cV 12 l0 (X12_setWhole n l0 x5 (Int32.toInt64 l3)) fun _ =>
  pz_ret 0
/-- RowSolver$Judge.clearWeights ()V -/
def X4_clearWeights_L2_body (n : Nat) (l0 : Option Nat) (K2 : Int32 → pz_C Unit) (l1 : Int32) : pz_C Unit :=
  pz_gB (pz_rR 4 6 l0) fun x1 =>
  pz_gB (pz_len 2 x1) fun x2 =>
  pz_if (x2 ≤ l1) (pz_ret ()) <|
  pz_gB (pz_rR 4 6 l0) fun x3 =>
  pz_uB (pz_sL 2 x3 l1 0) <|
  pz_let (l1 + 1) fun l1_4 =>
  K2 l1_4
def X4_clearWeights_L2 (n : Nat) (l0 : Option Nat) (l1 : Int32) : pz_C Unit := pz_loop (fun (K : Int32 → pz_C Unit) (s : Int32) => X4_clearWeights_L2_body n l0 (fun l1 => K l1) s) n l1
def X4_clearWeights (n : Nat) (l0 : Option Nat) : pz_C Unit :=
  X4_clearWeights_L2 n l0 0
/-- RowSolver$Judge.addPart (LRowSolver$Fraction;J)V -/
def X4_addPart (n : Nat) (l0 : Option Nat) (l1 : Option Nat) (l2 : Int64) : pz_C Unit :=
  pz_gB (pz_rR 3 1 l1) fun x1 =>
  pz_gB (pz_rR 4 7 l0) fun x2 =>
  pz_cV 0 x1 (X0_compareSize n x1 x2) fun x3 =>
  pz_if (x3 = 0) (
    pz_gB (pz_rR 4 2 l0) fun x4 =>
    pz_gB (pz_rR 3 0 l1) fun x5 =>
    pz_cV 8 x4 (X8_addTimes n x4 x5 l2) fun _ =>
    pz_ret ()) <|
  pz_gB (pz_rR 4 2 l0) fun x7 =>
  pz_gB (pz_rR 4 8 l0) fun x8 =>
  pz_cV 8 x7 (X8_store n x7 x8) fun _ =>
  pz_gB (pz_rR 4 2 l0) fun x10 =>
  pz_cV 8 x10 (X8_clear n x10) fun _ =>
  pz_gB (pz_rR 4 2 l0) fun x12 =>
  pz_gB (pz_rR 4 8 l0) fun x13 =>
  pz_gB (pz_rR 3 1 l1) fun x14 =>
  pz_cV 8 x12 (X8_addProduct n x12 x13 x14 1) fun _ =>
  pz_gB (pz_rR 4 4 l0) fun x16 =>
  pz_cV 8 x16 (X8_clear n x16) fun _ =>
  pz_gB (pz_rR 4 4 l0) fun x18 =>
  pz_gB (pz_rR 3 0 l1) fun x19 =>
  pz_gB (pz_rR 4 7 l0) fun x20 =>
  pz_cV 8 x18 (X8_addProduct n x18 x19 x20 1) fun _ =>
  pz_gB (pz_rR 4 4 l0) fun x22 =>
  pz_gB (pz_rR 4 8 l0) fun x23 =>
  pz_cV 8 x22 (X8_store n x22 x23) fun _ =>
  pz_gB (pz_rR 4 2 l0) fun x25 =>
  pz_gB (pz_rR 4 8 l0) fun x26 =>
  pz_cV 8 x25 (X8_addTimes n x25 x26 l2) fun _ =>
  pz_gB (pz_rR 4 4 l0) fun x28 =>
  pz_cV 8 x28 (X8_clear n x28) fun _ =>
  pz_gB (pz_rR 4 4 l0) fun x30 =>
  pz_gB (pz_rR 4 7 l0) fun x31 =>
  pz_gB (pz_rR 3 1 l1) fun x32 =>
  pz_cV 8 x30 (X8_addProduct n x30 x31 x32 1) fun _ =>
  pz_gB (pz_rR 4 4 l0) fun x34 =>
  pz_gB (pz_rR 4 7 l0) fun x35 =>
  pz_cV 8 x34 (X8_store n x34 x35) fun _ =>
  pz_ret ()
/-- RowSolver$Judge.compareTotal ([LRowSolver$Fraction;J)I -/
def X4_compareTotal_b83 (n : Nat) (l0 : Option Nat) (l2 : Int64) : pz_C Int32 :=
  pz_gB (pz_rR 4 2 l0) fun x6 =>
  pz_gB (pz_rR 4 7 l0) fun x7 =>
  pz_cV 8 x6 (X8_addTimes n x6 x7 (-l2)) fun _ =>
  pz_gB (pz_rR 4 2 l0) fun x9 =>
  pz_cV 8 x9 (X8_signNow n x9) fun x10 =>
  pz_ret x10
def X4_compareTotal_b77 (n : Nat) (K18 : Int32 → pz_C Int32) (l0 : Option Nat) (l1 : Option Nat) (l2 : Int64) (l4 : Int32) : pz_C Int32 :=
  pz_let (l4 + 1) fun l4_16 =>
  K18 l4_16
def X4_compareTotal_L18_body (n : Nat) (l0 : Option Nat) (l1 : Option Nat) (l2 : Int64) (K18 : Int32 → pz_C Int32) (l4 : Int32) : pz_C Int32 :=
  pz_gB (pz_len 4 l1) fun x5 =>
  pz_if (x5 ≤ l4) (X4_compareTotal_b83 n l0 l2) <|
  pz_gB (pz_rR 4 6 l0) fun x11 =>
  pz_gB (pz_len 2 x11) fun x12 =>
  pz_if (x12 ≤ l4) (X4_compareTotal_b83 n l0 l2) <|
  pz_gB (pz_aR 4 l1 l4) fun x13 =>
  pz_gB (pz_rR 4 6 l0) fun x14 =>
  pz_gB (pz_aL 2 x14 l4) fun x15 =>
  pz_if ((lg_cmp x15 0) = 0) (X4_compareTotal_b77 n K18 l0 l1 l2 l4) <|
  pz_gB (pz_rR 3 0 x13) fun x17 =>
  pz_gB (pz_rI 0 2 x17) fun x18 =>
  pz_if (x18 = 0) (X4_compareTotal_b77 n K18 l0 l1 l2 l4) <|
  pz_gB (pz_rR 4 6 l0) fun x19 =>
  pz_gB (pz_aL 2 x19 l4) fun x20 =>
  pz_cV 4 l0 (X4_addPart n l0 x13 x20) fun _ =>
  X4_compareTotal_b77 n K18 l0 l1 l2 l4
def X4_compareTotal_L18 (n : Nat) (l0 : Option Nat) (l1 : Option Nat) (l2 : Int64) (l4 : Int32) : pz_C Int32 := pz_loop (fun (K : Int32 → pz_C Int32) (s : Int32) => X4_compareTotal_L18_body n l0 l1 l2 (fun l4 => K l4) s) n l4
def X4_compareTotal (n : Nat) (l0 : Option Nat) (l1 : Option Nat) (l2 : Int64) : pz_C Int32 :=
  pz_gB (pz_rR 4 2 l0) fun x1 =>
  pz_cV 8 x1 (X8_clear n x1) fun _ =>
  pz_gB (pz_rR 4 7 l0) fun x3 =>
  pz_cV 0 x3 (X0_setLong n x3 1) fun _ =>
  X4_compareTotal_L18 n l0 l1 l2 0
/-- RowSolver$Judge.firstBrokenRow ([LRowSolver$Fraction;)I -/
def X4_firstBrokenRow_b105 (n : Nat) (K2 : Int32 → pz_C Int32) (l0 : Option Nat) (l1 : Option Nat) (l2 : Int32) : pz_C Int32 :=
  pz_let (l2 + 1) fun l2_10 =>
  K2 l2_10
def X4_firstBrokenRow_b103 (n : Nat) (l2 : Int32) : pz_C Int32 :=
  pz_ret l2
def X4_firstBrokenRow_b87 (n : Nat) (K2 : Int32 → pz_C Int32) (l0 : Option Nat) (l1 : Option Nat) (l2 : Int32) (l3 : Int32) : pz_C Int32 :=
  pz_if (0 ≤ l3) (X4_firstBrokenRow_b105 n K2 l0 l1 l2) <|
  pz_gB (pz_rR 4 0 l0) fun x11 =>
  pz_gB (pz_rR 6 1 x11) fun x12 =>
  pz_gB (pz_aI 0 x12 l2) fun x13 =>
  pz_if (x13 = 0) (X4_firstBrokenRow_b105 n K2 l0 l1 l2) <|
  X4_firstBrokenRow_b103 n l2
def X4_firstBrokenRow_L19_body (n : Nat) (K2 : Int32 → pz_C Int32) (l0 : Option Nat) (l1 : Option Nat) (l2 : Int32) (K19 : Int32 → pz_C Int32) (l3 : Int32) : pz_C Int32 :=
  pz_gB (pz_rR 4 0 l0) fun x4 =>
  pz_gB (pz_rI 6 5 x4) fun x5 =>
  pz_if (x5 ≤ l3) (
    pz_gB (pz_rR 4 0 l0) fun x6 =>
    pz_gB (pz_rR 6 2 x6) fun x7 =>
    pz_gB (pz_aI 0 x7 l2) fun x8 =>
    pz_cV 4 l0 (X4_compareTotal n l0 l1 (Int32.toInt64 x8)) fun x9 =>
    pz_if (x9 ≤ 0) (X4_firstBrokenRow_b87 n K2 l0 l1 l2 x9) <|
    pz_gB (pz_rR 4 0 l0) fun x14 =>
    pz_gB (pz_rR 6 1 x14) fun x15 =>
    pz_gB (pz_aI 0 x15 l2) fun x16 =>
    pz_if (x16 = 1) (X4_firstBrokenRow_b87 n K2 l0 l1 l2 x9) <|
    X4_firstBrokenRow_b103 n l2) <|
  pz_gB (pz_rR 4 6 l0) fun x17 =>
  pz_gB (pz_rR 4 0 l0) fun x18 =>
  pz_gB (pz_rR 6 0 x18) fun x19 =>
  pz_gB (pz_aR 6 x19 l2) fun x20 =>
  pz_gB (pz_aI 0 x20 l3) fun x21 =>
  pz_uB (pz_sL 2 x17 l3 (Int32.toInt64 x21)) <|
  pz_let (l3 + 1) fun l3_22 =>
  K19 l3_22
def X4_firstBrokenRow_L19 (n : Nat) (K2 : Int32 → pz_C Int32) (l0 : Option Nat) (l1 : Option Nat) (l2 : Int32) (l3 : Int32) : pz_C Int32 := pz_loop (fun (K : Int32 → pz_C Int32) (s : Int32) => X4_firstBrokenRow_L19_body n K2 l0 l1 l2 (fun l3 => K l3) s) n l3
def X4_firstBrokenRow_L2_body (n : Nat) (l0 : Option Nat) (l1 : Option Nat) (K2 : Int32 → pz_C Int32) (l2 : Int32) : pz_C Int32 :=
  pz_gB (pz_rR 4 0 l0) fun x1 =>
  pz_gB (pz_rI 6 6 x1) fun x2 =>
  pz_if (x2 ≤ l2) (pz_ret (-2)) <|
  pz_cV 4 l0 (X4_clearWeights n l0) fun _ =>
  X4_firstBrokenRow_L19 n K2 l0 l1 l2 0
def X4_firstBrokenRow_L2 (n : Nat) (l0 : Option Nat) (l1 : Option Nat) (l2 : Int32) : pz_C Int32 := pz_loop (fun (K : Int32 → pz_C Int32) (s : Int32) => X4_firstBrokenRow_L2_body n l0 l1 (fun l2 => K l2) s) n l2
def X4_firstBrokenRow (n : Nat) (l0 : Option Nat) (l1 : Option Nat) : pz_C Int32 :=
  X4_firstBrokenRow_L2 n l0 l1 0
/-- RowSolver$Judge.firstBrokenVariable ([LRowSolver$Fraction;)I -/
def X4_firstBrokenVariable_b71 (n : Nat) : pz_C Int32 :=
  pz_ret (-2)
def X4_firstBrokenVariable_b65 (n : Nat) (K2 : Int32 → pz_C Int32) (l0 : Option Nat) (l1 : Option Nat) (l2 : Int32) : pz_C Int32 :=
  pz_let (l2 + 1) fun l2_7 =>
  K2 l2_7
def X4_firstBrokenVariable_L2_body (n : Nat) (l0 : Option Nat) (l1 : Option Nat) (K2 : Int32 → pz_C Int32) (l2 : Int32) : pz_C Int32 :=
  pz_gB (pz_rR 4 0 l0) fun x1 =>
  pz_gB (pz_rI 6 5 x1) fun x2 =>
  pz_if (x2 ≤ l2) (X4_firstBrokenVariable_b71 n) <|
  pz_gB (pz_len 4 l1) fun x3 =>
  pz_if (x3 ≤ l2) (X4_firstBrokenVariable_b71 n) <|
  pz_gB (pz_rR 4 0 l0) fun x4 =>
  pz_gB (pz_rR 6 3 x4) fun x5 =>
  pz_gB (pz_aI 1 x5 l2) fun x6 =>
  pz_if (x6 = 0) (X4_firstBrokenVariable_b65 n K2 l0 l1 l2) <|
  pz_gB (pz_rR 4 3 l0) fun x8 =>
  pz_gB (pz_aR 4 l1 l2) fun x9 =>
  pz_gB (pz_rR 3 0 x9) fun x10 =>
  pz_gB (pz_aR 4 l1 l2) fun x11 =>
  pz_gB (pz_rR 3 1 x11) fun x12 =>
  pz_cV 2 x8 (X2_divide n x8 x10 x12) fun _ =>
  pz_gB (pz_rR 4 3 l0) fun x14 =>
  pz_gB (pz_rR 2 1 x14) fun x15 =>
  pz_gB (pz_rI 0 1 x15) fun x16 =>
  pz_if (x16 ≤ 0) (X4_firstBrokenVariable_b65 n K2 l0 l1 l2) <|
  pz_ret l2
def X4_firstBrokenVariable_L2 (n : Nat) (l0 : Option Nat) (l1 : Option Nat) (l2 : Int32) : pz_C Int32 := pz_loop (fun (K : Int32 → pz_C Int32) (s : Int32) => X4_firstBrokenVariable_L2_body n l0 l1 (fun l2 => K l2) s) n l2
def X4_firstBrokenVariable (n : Nat) (l0 : Option Nat) (l1 : Option Nat) : pz_C Int32 :=
  X4_firstBrokenVariable_L2 n l0 l1 0
/-- RowSolver.judgeWitness ()I -/
def X11_judgeWitness_b56 (n : Nat) (s0 : Int32) : pz_C Int32 :=
  pz_ret s0
def X11_judgeWitness (n : Nat) (l0 : Option Nat) : pz_C Int32 :=
  pz_gB (pz_rR 11 0 l0) fun x1 =>
  pz_gB (pz_rI 6 5 x1) fun x2 =>
  pz_if (x2 = 0) (pz_ret (-1)) <|
  pz_gB (pz_rR 11 6 l0) fun x3 =>
  pz_gB (pz_rR 11 7 l0) fun x4 =>
  pz_cV 4 x3 (X4_firstBrokenRow n x3 x4) fun x5 =>
  pz_if (x5 < 0) (
    pz_gB (pz_rR 11 6 l0) fun x6 =>
    pz_gB (pz_rR 11 7 l0) fun x7 =>
    pz_cV 4 x6 (X4_firstBrokenVariable n x6 x7) fun x8 =>
    pz_if (x8 < 0) (X11_judgeWitness_b56 n 0) <|
    X11_judgeWitness_b56 n (100 + x8)) <|
  pz_ret (1 + x5)
/-- RowSolverModel.beginSum ()V -/
def X12_beginSum (n : Nat) (l0 : Option Nat) : pz_C Unit :=
  pz_cV 12 l0 (X12_plainOf n l0 0) fun x1 =>
  pz_uB (pz_wF 12 30 l0 (.int x1)) <|
  pz_cV 12 l0 (X12_plainOf n l0 1) fun x2 =>
  pz_uB (pz_wF 12 31 l0 (.int x2)) <|
  pz_ret ()
/-- RowSolverModel.addTo (III)V -/
def X12_addTo (n : Nat) (l0 : Option Nat) (l1 : Int32) (l2 : Int32) (l3 : Int32) : pz_C Unit :=
  pz_gB (pz_rI 12 30 l0) fun x1 =>
  pz_cV 12 l0 (X12_by n l0 x1 l3) fun x2 =>
  pz_cV 12 l0 (X12_by n l0 l1 l2) fun x3 =>
  pz_gB (pz_rI 12 31 l0) fun x4 =>
  pz_cV 12 l0 (X12_by n l0 x3 x4) fun x5 =>
  pz_cV 12 l0 (X12_plus n l0 x2 x5) fun x6 =>
  pz_gB (pz_rI 12 31 l0) fun x7 =>
  pz_cV 12 l0 (X12_by n l0 x7 l3) fun x8 =>
  pz_cV 12 l0 (X12_gcd n l0 x6 x8) fun x9 =>
  pz_cV 12 l0 (X12_over n l0 x6 x9) fun x10 =>
  pz_uB (pz_wF 12 30 l0 (.int x10)) <|
  pz_cV 12 l0 (X12_over n l0 x8 x9) fun x11 =>
  pz_uB (pz_wF 12 31 l0 (.int x11)) <|
  pz_ret ()
/-- RowSolverModel.holds (I)Z -/
def X12_holds_b140 (n : Nat) (s0 : Int32) : pz_C Int32 :=
  pz_zz s0 (pz_ret s0)
def X12_holds_L11_body (n : Nat) (l0 : Option Nat) (l1 : Int32) (l2 : Int32) (K11 : Int32 → pz_C Int32) (l3 : Int32) : pz_C Int32 :=
  pz_gB (pz_rI 12 0 l0) fun x3 =>
  pz_if (x3 ≤ l3) (
    pz_gB (pz_rI 12 30 l0) fun x4 =>
    pz_gB (pz_rR 12 4 l0) fun x5 =>
    pz_gB (pz_aI 0 x5 l1) fun x6 =>
    pz_cV 12 l0 (X12_plainOf n l0 (Int32.toInt64 x6)) fun x7 =>
    pz_gB (pz_rI 12 31 l0) fun x8 =>
    pz_cV 12 l0 (X12_by n l0 x7 x8) fun x9 =>
    pz_cV 12 l0 (X12_compare n l0 x4 x9) fun x10 =>
    pz_uB (pz_wF 12 35 l0 (.int l2)) <|
    pz_gB (pz_rR 12 3 l0) fun x11 =>
    pz_gB (pz_aI 0 x11 l1) fun x12 =>
    pz_if (x12 = 0) (
      pz_if (0 < x10) (X12_holds_b140 n 0) <|
      X12_holds_b140 n 1) <|
    pz_gB (pz_rR 12 3 l0) fun x13 =>
    pz_gB (pz_aI 0 x13 l1) fun x14 =>
    pz_if (x14 = 1) (
      pz_if (x10 < 0) (X12_holds_b140 n 0) <|
      X12_holds_b140 n 1) <|
    pz_if (x10 = 0) (X12_holds_b140 n 1) <|
    X12_holds_b140 n 0) <|
  pz_gB (pz_rR 12 2 l0) fun x15 =>
  pz_gB (pz_aI 0 x15 ((10 * l1) + l3)) fun x16 =>
  pz_cV 12 l0 (X12_plainOf n l0 (Int32.toInt64 x16)) fun x17 =>
  pz_cB (X12_witnessAt n l3 0) fun x18 =>
  pz_cB (X12_witnessAt n l3 1) fun x19 =>
  pz_cV 12 l0 (X12_addTo n l0 x17 x18 x19) fun _ =>
  pz_let (l3 + 1) fun l3_21 =>
  K11 l3_21
def X12_holds_L11 (n : Nat) (l0 : Option Nat) (l1 : Int32) (l2 : Int32) (l3 : Int32) : pz_C Int32 := pz_loop (fun (K : Int32 → pz_C Int32) (s : Int32) => X12_holds_L11_body n l0 l1 l2 (fun l3 => K l3) s) n l3
def X12_holds (n : Nat) (l0 : Option Nat) (l1 : Int32) : pz_C Int32 :=
  pz_gB (pz_rI 12 35 l0) fun x1 =>
  pz_cV 12 l0 (X12_beginSum n l0) fun _ =>
  X12_holds_L11 n l0 l1 x1 0
/-- RowSolverModel.judgeWitness ()I -/
def X12_judgeWitness_b117 (n : Nat) (K39 : Int32 → pz_C Int32) (l0 : Option Nat) (l1 : Int32) : pz_C Int32 :=
  pz_let (l1 + 1) fun l1_12 =>
  K39 l1_12
def X12_judgeWitness_b91 (n : Nat) (K39 : Int32 → pz_C Int32) (l0 : Option Nat) (l1 : Int32) (l2 : Int32) (s0 : Int32) : pz_C Int32 :=
  pz_uB (pz_wF 12 35 l0 (.int l2)) <|
  pz_gB (pz_rR 12 6 l0) fun x10 =>
  pz_gB (pz_aI 1 x10 l1) fun x11 =>
  pz_if (x11 = 0) (X12_judgeWitness_b117 n K39 l0 l1) <|
  pz_if (s0 = 0) (pz_ret (100 + l1)) <|
  X12_judgeWitness_b117 n K39 l0 l1
def X12_judgeWitness_L39_body (n : Nat) (l0 : Option Nat) (K39 : Int32 → pz_C Int32) (l1 : Int32) : pz_C Int32 :=
  pz_gB (pz_rI 12 0 l0) fun x3 =>
  pz_if (x3 ≤ l1) (pz_ret 0) <|
  pz_gB (pz_rI 12 35 l0) fun x4 =>
  pz_cB (X12_witnessAt n l1 0) fun x5 =>
  pz_cB (X12_witnessAt n l1 1) fun x6 =>
  pz_cV 12 l0 (X12_over n l0 x5 x6) fun x7 =>
  pz_cV 12 l0 (X12_by n l0 x7 x6) fun x8 =>
  pz_cV 12 l0 (X12_compare n l0 x8 x5) fun x9 =>
  pz_if (x9 = 0) (X12_judgeWitness_b91 n K39 l0 l1 x4 1) <|
  X12_judgeWitness_b91 n K39 l0 l1 x4 0
def X12_judgeWitness_L39 (n : Nat) (l0 : Option Nat) (l1 : Int32) : pz_C Int32 := pz_loop (fun (K : Int32 → pz_C Int32) (s : Int32) => X12_judgeWitness_L39_body n l0 (fun l1 => K l1) s) n l1
def X12_judgeWitness_L11_body (n : Nat) (l0 : Option Nat) (K11 : Int32 → pz_C Int32) (l1 : Int32) : pz_C Int32 :=
  pz_gB (pz_rI 12 1 l0) fun x2 =>
  pz_if (x2 ≤ l1) (X12_judgeWitness_L39 n l0 0) <|
  pz_cV 12 l0 (X12_holds n l0 l1) fun x13 =>
  pz_if (x13 = 0) (pz_ret (1 + l1)) <|
  pz_let (l1 + 1) fun l1_14 =>
  K11 l1_14
def X12_judgeWitness_L11 (n : Nat) (l0 : Option Nat) (l1 : Int32) : pz_C Int32 := pz_loop (fun (K : Int32 → pz_C Int32) (s : Int32) => X12_judgeWitness_L11_body n l0 (fun l1 => K l1) s) n l1
def X12_judgeWitness (n : Nat) (l0 : Option Nat) : pz_C Int32 :=
  pz_gB (pz_rI 12 0 l0) fun x1 =>
  pz_if (x1 = 0) (pz_ret (-1)) <|
  X12_judgeWitness_L11 n l0 0
/-- RowSolver.node (II)I -/
def X11_node_b89 (n : Nat) (s0 : Int32) : pz_C Int32 :=
  pz_ret s0
def X11_node_b108 (n : Nat) (s0 : Int32) : pz_C Int32 :=
  pz_ret s0
def X11_node_b140 (n : Nat) (s0 : Int32) : pz_C Int32 :=
  pz_ret s0
def X11_node_b159 (n : Nat) (s0 : Int32) : pz_C Int32 :=
  pz_ret s0
def X11_node_b178 (n : Nat) (s0 : Int32) : pz_C Int32 :=
  pz_ret s0
def X11_node (n : Nat) (l0 : Option Nat) (l1 : Int32) (l2 : Int32) : pz_C Int32 :=
  pz_gB (pz_rR 11 4 l0) fun x1 =>
  pz_cV 10 x1 (X10_has n x1 l1) fun x2 =>
  pz_if (x2 = 0) (pz_ret (-2100000000)) <|
  pz_gB (pz_rR 11 4 l0) fun x3 =>
  pz_cV 10 x3 (X10_isSplit n x3 l1) fun x4 =>
  pz_tsw 0 [
      pz_if (x4 = 0) (
        pz_gB (pz_rR 11 4 l0) fun x5 =>
        pz_gB (pz_rR 10 6 x5) fun x6 =>
        pz_gB (pz_aI 1 x6 l1) fun x7 =>
        pz_if (x7 = 0) (X11_node_b89 n 2) <|
        X11_node_b89 n 1) <|
      X11_node_b89 n 0,
      pz_if (x4 = 0) (X11_node_b108 n (-2)) <|
      pz_gB (pz_rR 11 4 l0) fun x8 =>
      pz_gB (pz_rR 10 3 x8) fun x9 =>
      pz_gB (pz_aI 0 x9 l1) fun x10 =>
      X11_node_b108 n x10,
      pz_if (x4 = 0) (X11_node_b140 n (-2)) <|
      pz_gB (pz_rR 11 4 l0) fun x11 =>
      pz_gB (pz_rR 10 5 x11) fun x12 =>
      pz_gB (pz_aL 2 x12 l1) fun x13 =>
      X11_node_b140 n (Int64.toInt32 (if (if x13 < 2000000000 then x13 else 2000000000) < (-2000000000) then (-2000000000) else (if x13 < 2000000000 then x13 else 2000000000))),
      pz_if (x4 = 0) (X11_node_b159 n (-2)) <|
      pz_gB (pz_rR 11 4 l0) fun x14 =>
      pz_gB (pz_rR 10 1 x14) fun x15 =>
      pz_gB (pz_aI 0 x15 l1) fun x16 =>
      X11_node_b159 n x16,
      pz_if (x4 = 0) (X11_node_b178 n (-2)) <|
      pz_gB (pz_rR 11 4 l0) fun x17 =>
      pz_gB (pz_rR 10 2 x17) fun x18 =>
      pz_gB (pz_aI 0 x18 l1) fun x19 =>
      X11_node_b178 n x19,
      pz_gB (pz_rR 11 4 l0) fun x20 =>
      pz_gB (pz_rR 10 0 x20) fun x21 =>
      pz_gB (pz_aI 0 x21 l1) fun x22 =>
      pz_ret x22]
    (pz_ret (-2100000000)) l2
/-- RowSolverModel.isNode (I)Z -/
def X12_isNode_b17 (n : Nat) (s0 : Int32) : pz_C Int32 :=
  pz_zz s0 (pz_ret s0)
def X12_isNode_b16 (n : Nat) : pz_C Int32 :=
  X12_isNode_b17 n 0
def X12_isNode (n : Nat) (l0 : Option Nat) (l1 : Int32) : pz_C Int32 :=
  pz_if (l1 < 0) (X12_isNode_b16 n) <|
  pz_gB (pz_rI 12 15 l0) fun x1 =>
  pz_if (x1 ≤ l1) (X12_isNode_b16 n) <|
  X12_isNode_b17 n 1
/-- RowSolverModel.cut (I)I -/
def X12_cut_b48 (n : Nat) (s0 : Int32) : pz_C Int32 :=
  pz_ret s0
def X12_cut_b30 (n : Nat) (l0 : Option Nat) (l1 : Int32) : pz_C Int32 :=
  pz_gB (pz_rR 12 34 l0) fun x2 =>
  pz_gB (pz_aI 0 x2 l1) fun x3 =>
  pz_if (0 ≤ x3) (X12_cut_b48 n 2000000000) <|
  X12_cut_b48 n (-2000000000)
def X12_cut_b117 (n : Nat) (s0 : Int64) : pz_C Int32 :=
  pz_ret (Int64.toInt32 s0)
def X12_cut_b101 (n : Nat) (l0 : Option Nat) (l1 : Int32) (s0 : Int64) : pz_C Int32 :=
  pz_gB (pz_rR 12 34 l0) fun x8 =>
  pz_gB (pz_aI 0 x8 l1) fun x9 =>
  pz_if (0 ≤ x9) (X12_cut_b117 n s0) <|
  X12_cut_b117 n (-s0)
def X12_cut_L58_body (n : Nat) (l0 : Option Nat) (l1 : Int32) (K58 : Int64 → Int32 → pz_C Int32) (l2 : Int64) (l4 : Int32) : pz_C Int32 :=
  pz_if (l4 ≤ 0) (
    pz_if ((lg_cmp l2 2000000000) ≤ 0) (X12_cut_b101 n l0 l1 l2) <|
    X12_cut_b101 n l0 l1 2000000000) <|
  pz_gB (pz_rR 12 34 l0) fun x10 =>
  pz_gB (pz_aI 0 x10 (l1 + l4)) fun x11 =>
  pz_let ((l2 * 1000000000) + (Int32.toInt64 x11)) fun l2_12 =>
  pz_let (l4 + (-1)) fun l4_13 =>
  K58 l2_12 l4_13
def X12_cut_L58 (n : Nat) (l0 : Option Nat) (l1 : Int32) (l2 : Int64) (l4 : Int32) : pz_C Int32 := pz_loop (fun (K : Int64 × Int32 → pz_C Int32) (s : Int64 × Int32) => X12_cut_L58_body n l0 l1 (fun l2 l4 => K (l2, l4)) s.1 s.2) n (l2, l4)
def X12_cut_b49 (n : Nat) (l0 : Option Nat) (l1 : Int32) : pz_C Int32 :=
  pz_cV 12 l0 (X12_limbs n l0 l1) fun x7 =>
  X12_cut_L58 n l0 l1 0 x7
def X12_cut (n : Nat) (l0 : Option Nat) (l1 : Int32) : pz_C Int32 :=
  pz_cV 12 l0 (X12_limbs n l0 l1) fun x1 =>
  pz_if (2 < x1) (X12_cut_b30 n l0 l1) <|
  pz_cV 12 l0 (X12_limbs n l0 l1) fun x4 =>
  pz_if (x4 = 2) (
    pz_gB (pz_rR 12 34 l0) fun x5 =>
    pz_gB (pz_aI 0 x5 (l1 + 2)) fun x6 =>
    pz_if (x6 ≤ 2) (X12_cut_b49 n l0 l1) <|
    X12_cut_b30 n l0 l1) <|
  X12_cut_b49 n l0 l1
/-- RowSolverModel.node (II)I -/
def X12_node_b17 (n : Nat) : pz_C Int32 :=
  pz_ret (-2100000000)
def X12_node_b52 (n : Nat) (s0 : Int32) : pz_C Int32 :=
  pz_ret s0
def X12_node_b129 (n : Nat) (s0 : Int32) : pz_C Int32 :=
  pz_ret s0
def X12_node (n : Nat) (l0 : Option Nat) (l1 : Int32) (l2 : Int32) : pz_C Int32 :=
  pz_cV 12 l0 (X12_isNode n l0 l1) fun x1 =>
  pz_if (x1 = 0) (X12_node_b17 n) <|
  pz_if (l2 < 0) (X12_node_b17 n) <|
  pz_if (l2 ≤ 5) (
    pz_if (l2 = 0) (
      pz_gB (pz_rR 12 16 l0) fun x2 =>
      pz_gB (pz_aI 1 x2 l1) fun x3 =>
      pz_if (x3 = 0) (
        pz_gB (pz_rR 12 17 l0) fun x4 =>
        pz_gB (pz_aI 1 x4 l1) fun x5 =>
        pz_if (x5 = 0) (X12_node_b52 n 2) <|
        X12_node_b52 n 1) <|
      X12_node_b52 n 0) <|
    pz_if (l2 = 5) (
      pz_gB (pz_rR 12 21 l0) fun x6 =>
      pz_gB (pz_aI 0 x6 l1) fun x7 =>
      pz_ret x7) <|
    pz_gB (pz_rR 12 16 l0) fun x8 =>
    pz_gB (pz_aI 1 x8 l1) fun x9 =>
    pz_if (x9 = 0) (X12_node_b129 n (-2)) <|
    pz_if (l2 = 1) (
      pz_gB (pz_rR 12 18 l0) fun x10 =>
      pz_gB (pz_aI 0 x10 l1) fun x11 =>
      X12_node_b129 n x11) <|
    pz_if (l2 = 2) (
      pz_cB (X12_splitAt n l1) fun x12 =>
      pz_cV 12 l0 (X12_cut n l0 x12) fun x13 =>
      X12_node_b129 n x13) <|
    pz_if (l2 = 3) (
      pz_gB (pz_rR 12 19 l0) fun x14 =>
      pz_gB (pz_aI 0 x14 l1) fun x15 =>
      X12_node_b129 n x15) <|
    pz_gB (pz_rR 12 20 l0) fun x16 =>
    pz_gB (pz_aI 0 x16 l1) fun x17 =>
    X12_node_b129 n x17) <|
  X12_node_b17 n
/-- RowSolver$Rows.hasRow (I)Z -/
def X6_hasRow_b17 (n : Nat) (s0 : Int32) : pz_C Int32 :=
  pz_zz s0 (pz_ret s0)
def X6_hasRow_b16 (n : Nat) : pz_C Int32 :=
  X6_hasRow_b17 n 0
def X6_hasRow (n : Nat) (l0 : Option Nat) (l1 : Int32) : pz_C Int32 :=
  pz_if (l1 < 0) (X6_hasRow_b16 n) <|
  pz_gB (pz_rI 6 6 l0) fun x1 =>
  pz_if (x1 ≤ l1) (X6_hasRow_b16 n) <|
  X6_hasRow_b17 n 1
/-- RowSolver.multiplierAt (III)LRowSolver$Fraction; -/
def X11_multiplierAt_b43 (n : Nat) (s0 : Option Nat) : pz_C (Option Nat) :=
  pz_ret s0
def X11_multiplierAt_b92 (n : Nat) (s0 : Option Nat) : pz_C (Option Nat) :=
  pz_ret s0
def X11_multiplierAt (n : Nat) (l0 : Option Nat) (l1 : Int32) (l2 : Int32) (l3 : Int32) : pz_C (Option Nat) :=
  pz_gB (pz_rR 11 4 l0) fun x1 =>
  pz_cV 10 x1 (X10_leafOf n x1 l1) fun x2 =>
  pz_if (x2 = none) (pz_ret none) <|
  pz_if (l2 = 0) (
    pz_gB (pz_rR 11 0 l0) fun x3 =>
    pz_cV 6 x3 (X6_hasRow n x3 l3) fun x4 =>
    pz_if (x4 = 0) (X11_multiplierAt_b43 n none) <|
    pz_gB (pz_rR 5 0 x2) fun x5 =>
    pz_gB (pz_aR 4 x5 l3) fun x6 =>
    X11_multiplierAt_b43 n x6) <|
  pz_gB (pz_rR 11 0 l0) fun x7 =>
  pz_cV 6 x7 (X6_hasVariable n x7 l3) fun x8 =>
  pz_if (x8 = 0) (pz_ret none) <|
  pz_if (l2 = 1) (
    pz_gB (pz_rR 5 0 x2) fun x9 =>
    pz_gB (pz_aR 4 x9 (12 + l3)) fun x10 =>
    pz_ret x10) <|
  pz_if (l2 = 2) (
    pz_gB (pz_rR 5 0 x2) fun x11 =>
    pz_gB (pz_aR 4 x11 (22 + l3)) fun x12 =>
    X11_multiplierAt_b92 n x12) <|
  X11_multiplierAt_b92 n none
/-- RowSolver.multiplier (III)I -/
def X11_multiplier (n : Nat) (l0 : Option Nat) (l1 : Int32) (l2 : Int32) (l3 : Int32) : pz_C Int32 :=
  pz_cV 11 l0 (X11_multiplierAt n l0 l1 l2 l3) fun x1 =>
  pz_if (x1 = none) (pz_ret (-4)) <|
  pz_gB (pz_rR 11 8 l0) fun x2 =>
  pz_gB (pz_rR 3 0 x1) fun x3 =>
  pz_gB (pz_rR 3 1 x1) fun x4 =>
  pz_cV 3 x2 (X3_setQuotient n x2 x3 x4 1) fun _ =>
  pz_cV 11 l0 (X11_takeToHand n l0) fun x6 =>
  pz_ret x6
/-- RowSolverModel.numberOf (III)I -/
def X12_numberOf_b61 (n : Nat) : pz_C Int32 :=
  pz_ret (-1)
def X12_numberOf_b87 (n : Nat) (s0 : Int32) : pz_C Int32 :=
  pz_ret s0
def X12_numberOf_b58 (n : Nat) (l2 : Int32) (l3 : Int32) (s0 : Int32) (s1 : Int32) : pz_C Int32 :=
  pz_if (s0 < s1) (
    pz_if (l2 = 0) (X12_numberOf_b87 n l3) <|
    pz_if (l2 = 1) (X12_numberOf_b87 n (12 + l3)) <|
    X12_numberOf_b87 n (22 + l3)) <|
  X12_numberOf_b61 n
def X12_numberOf_b25 (n : Nat) (l0 : Option Nat) (l2 : Int32) (l3 : Int32) (s0 : Option Nat) (s1 : Int32) : pz_C Int32 :=
  pz_gB (pz_aI 1 s0 s1) fun x4 =>
  pz_if (x4 = 0) (
    pz_if (l2 < 0) (X12_numberOf_b61 n) <|
    pz_if (2 < l2) (X12_numberOf_b61 n) <|
    pz_if (l3 < 0) (X12_numberOf_b61 n) <|
    pz_if (l2 = 0) (
      pz_gB (pz_rI 12 1 l0) fun x5 =>
      X12_numberOf_b58 n l2 l3 l3 x5) <|
    pz_gB (pz_rI 12 0 l0) fun x6 =>
    X12_numberOf_b58 n l2 l3 l3 x6) <|
  X12_numberOf_b61 n
def X12_numberOf (n : Nat) (l0 : Option Nat) (l1 : Int32) (l2 : Int32) (l3 : Int32) : pz_C Int32 :=
  pz_cV 12 l0 (X12_isNode n l0 l1) fun x1 =>
  pz_if (x1 = 0) (X12_numberOf_b61 n) <|
  pz_gB (pz_rR 12 16 l0) fun x2 =>
  pz_cV 12 l0 (X12_isNode n l0 l1) fun x3 =>
  pz_if (x3 = 0) (X12_numberOf_b25 n l0 l2 l3 x2 0) <|
  X12_numberOf_b25 n l0 l2 l3 x2 l1
/-- RowSolverModel.multiplier (III)I -/
def X12_multiplier_b48 (n : Nat) (s0 : Int32) : pz_C Int32 :=
  pz_ret s0
def X12_multiplier (n : Nat) (l0 : Option Nat) (l1 : Int32) (l2 : Int32) (l3 : Int32) : pz_C Int32 :=
  pz_cV 12 l0 (X12_numberOf n l0 l1 l2 l3) fun x1 =>
  pz_if (x1 = (-1)) (X12_multiplier_b48 n (-4)) <|
  pz_gB (pz_rR 12 22 l0) fun x2 =>
  pz_gB (pz_aI 0 x2 l1) fun x3 =>
  pz_cB (X12_multiplierAt n x3 x1 0) fun x4 =>
  pz_gB (pz_rR 12 22 l0) fun x5 =>
  pz_gB (pz_aI 0 x5 l1) fun x6 =>
  pz_cB (X12_multiplierAt n x6 x1 1) fun x7 =>
  pz_cV 12 l0 (X12_hand n l0 x4 x7) fun x8 =>
  X12_multiplier_b48 n x8
/-- RowSolver.setMultiplier (IIIII)I -/
def X11_setMultiplier_b24 (n : Nat) : pz_C Int32 :=
  pz_ret (-1)
def X11_setMultiplier (n : Nat) (l0 : Option Nat) (l1 : Int32) (l2 : Int32) (l3 : Int32) (l4 : Int32) (l5 : Int32) : pz_C Int32 :=
  pz_cV 11 l0 (X11_multiplierAt n l0 l1 l2 l3) fun x1 =>
  pz_if (x1 = none) (X11_setMultiplier_b24 n) <|
  pz_cB (X11_isGiven n l4 l5) fun x2 =>
  pz_if (x2 = 0) (X11_setMultiplier_b24 n) <|
  pz_cV 3 x1 (X3_setSmall n x1 (Int32.toInt64 l4) (Int32.toInt64 l5)) fun _ =>
  pz_ret 0
/-- RowSolverModel.setMultiplier (IIIII)I -/
def X12_setMultiplier_b25 (n : Nat) : pz_C Int32 :=
  pz_ret (-1)
def X12_setMultiplier (n : Nat) (l0 : Option Nat) (l1 : Int32) (l2 : Int32) (l3 : Int32) (l4 : Int32) (l5 : Int32) : pz_C Int32 :=
  pz_cV 12 l0 (X12_numberOf n l0 l1 l2 l3) fun x1 =>
  pz_if (x1 = (-1)) (X12_setMultiplier_b25 n) <|
  pz_cB (X12_isFraction n l4 l5) fun x2 =>
  pz_if (x2 = 0) (X12_setMultiplier_b25 n) <|
  pz_gB (pz_rR 12 22 l0) fun x3 =>
  pz_gB (pz_aI 0 x3 l1) fun x4 =>
  pz_cB (X12_multiplierAt n x4 x1 0) fun x5 =>
  pz_cV 12 l0 (X12_setWhole n l0 x5 (Int32.toInt64 l4)) fun _ =>
  pz_gB (pz_rR 12 22 l0) fun x7 =>
  pz_gB (pz_aI 0 x7 l1) fun x8 =>
  pz_cB (X12_multiplierAt n x8 x1 1) fun x9 =>
  pz_cV 12 l0 (X12_setWhole n l0 x9 (Int32.toInt64 l5)) fun _ =>
  pz_ret 0
/-- RowSolver.setSplit (II)I -/
def X11_setSplit_b34 (n : Nat) : pz_C Int32 :=
  pz_ret (-1)
def X11_setSplit (n : Nat) (l0 : Option Nat) (l1 : Int32) (l2 : Int32) : pz_C Int32 :=
  pz_gB (pz_rR 11 4 l0) fun x1 =>
  pz_cV 10 x1 (X10_has n x1 l1) fun x2 =>
  pz_if (x2 = 0) (X11_setSplit_b34 n) <|
  pz_gB (pz_rR 11 4 l0) fun x3 =>
  pz_cV 10 x3 (X10_isSplit n x3 l1) fun x4 =>
  pz_if (x4 = 0) (X11_setSplit_b34 n) <|
  pz_if (l2 < (-1000000000)) (X11_setSplit_b34 n) <|
  pz_if (l2 ≤ 1000000000) (
    pz_gB (pz_rR 11 4 l0) fun x5 =>
    pz_gB (pz_rR 10 5 x5) fun x6 =>
    pz_uB (pz_sL 2 x6 l1 (Int32.toInt64 l2)) <|
    pz_ret 0) <|
  X11_setSplit_b34 n
/-- RowSolverModel.setSplit (II)I -/
def X12_setSplit_b39 (n : Nat) : pz_C Int32 :=
  pz_ret (-1)
def X12_setSplit_b25 (n : Nat) (l0 : Option Nat) (l1 : Int32) (l2 : Int32) (s0 : Option Nat) (s1 : Int32) : pz_C Int32 :=
  pz_gB (pz_aI 1 s0 s1) fun x4 =>
  pz_if (x4 = 0) (X12_setSplit_b39 n) <|
  pz_cB (X12_within n l2 1000000000) fun x5 =>
  pz_if (x5 = 0) (X12_setSplit_b39 n) <|
  pz_cB (X12_splitAt n l1) fun x6 =>
  pz_cV 12 l0 (X12_setWhole n l0 x6 (Int32.toInt64 l2)) fun _ =>
  pz_ret 0
def X12_setSplit (n : Nat) (l0 : Option Nat) (l1 : Int32) (l2 : Int32) : pz_C Int32 :=
  pz_cV 12 l0 (X12_isNode n l0 l1) fun x1 =>
  pz_if (x1 = 0) (X12_setSplit_b39 n) <|
  pz_gB (pz_rR 12 16 l0) fun x2 =>
  pz_cV 12 l0 (X12_isNode n l0 l1) fun x3 =>
  pz_if (x3 = 0) (X12_setSplit_b25 n l0 l1 l2 x2 0) <|
  X12_setSplit_b25 n l0 l1 l2 x2 l1
/-- RowSolver$Judge.haveRightSigns (LRowSolver$Leaf;)Z -/
def X4_haveRightSigns_b155 (n : Nat) : pz_C Int32 :=
  pz_zz 0 (pz_ret 0)
def X4_haveRightSigns_b157 (n : Nat) (K69 : Int32 → pz_C Int32) (l0 : Option Nat) (l1 : Option Nat) (l2 : Int32) : pz_C Int32 :=
  pz_let (l2 + 1) fun l2_13 =>
  K69 l2_13
def X4_haveRightSigns_b133 (n : Nat) (K69 : Int32 → pz_C Int32) (l0 : Option Nat) (l1 : Option Nat) (l2 : Int32) (l4 : Int32) : pz_C Int32 :=
  pz_if (0 < l4) (X4_haveRightSigns_b155 n) <|
  pz_if (0 ≤ l4) (X4_haveRightSigns_b157 n K69 l0 l1 l2) <|
  pz_gB (pz_rR 4 5 l0) fun x14 =>
  pz_gB (pz_rR 1 1 x14) fun x15 =>
  pz_gB (pz_aI 1 x15 l2) fun x16 =>
  pz_if (x16 = 0) (X4_haveRightSigns_b155 n) <|
  X4_haveRightSigns_b157 n K69 l0 l1 l2
def X4_haveRightSigns_L69_body (n : Nat) (l0 : Option Nat) (l1 : Option Nat) (K69 : Int32 → pz_C Int32) (l2 : Int32) : pz_C Int32 :=
  pz_gB (pz_rR 4 0 l0) fun x3 =>
  pz_gB (pz_rI 6 5 x3) fun x4 =>
  pz_if (x4 ≤ l2) (pz_zz 1 (pz_ret 1)) <|
  pz_gB (pz_rR 5 0 l1) fun x5 =>
  pz_gB (pz_aR 4 x5 (12 + l2)) fun x6 =>
  pz_gB (pz_rR 3 0 x6) fun x7 =>
  pz_gB (pz_rI 0 2 x7) fun x8 =>
  pz_gB (pz_rR 5 0 l1) fun x9 =>
  pz_gB (pz_aR 4 x9 (22 + l2)) fun x10 =>
  pz_gB (pz_rR 3 0 x10) fun x11 =>
  pz_gB (pz_rI 0 2 x11) fun x12 =>
  pz_if (x8 < 0) (X4_haveRightSigns_b155 n) <|
  pz_if (x8 ≤ 0) (X4_haveRightSigns_b133 n K69 l0 l1 l2 x12) <|
  pz_gB (pz_rR 4 5 l0) fun x17 =>
  pz_gB (pz_rR 1 0 x17) fun x18 =>
  pz_gB (pz_aI 1 x18 l2) fun x19 =>
  pz_if (x19 = 0) (X4_haveRightSigns_b155 n) <|
  X4_haveRightSigns_b133 n K69 l0 l1 l2 x12
def X4_haveRightSigns_L69 (n : Nat) (l0 : Option Nat) (l1 : Option Nat) (l2 : Int32) : pz_C Int32 := pz_loop (fun (K : Int32 → pz_C Int32) (s : Int32) => X4_haveRightSigns_L69_body n l0 l1 (fun l2 => K l2) s) n l2
def X4_haveRightSigns_b61 (n : Nat) (K2 : Int32 → pz_C Int32) (l0 : Option Nat) (l1 : Option Nat) (l2 : Int32) : pz_C Int32 :=
  pz_let (l2 + 1) fun l2_24 =>
  K2 l2_24
def X4_haveRightSigns_b59 (n : Nat) : pz_C Int32 :=
  pz_zz 0 (pz_ret 0)
def X4_haveRightSigns_b42 (n : Nat) (K2 : Int32 → pz_C Int32) (l0 : Option Nat) (l1 : Option Nat) (l2 : Int32) (l3 : Int32) : pz_C Int32 :=
  pz_if (l3 ≤ 0) (X4_haveRightSigns_b61 n K2 l0 l1 l2) <|
  pz_gB (pz_rR 4 0 l0) fun x25 =>
  pz_gB (pz_rR 6 1 x25) fun x26 =>
  pz_gB (pz_aI 0 x26 l2) fun x27 =>
  pz_if (x27 = 1) (X4_haveRightSigns_b59 n) <|
  X4_haveRightSigns_b61 n K2 l0 l1 l2
def X4_haveRightSigns_L2_body (n : Nat) (l0 : Option Nat) (l1 : Option Nat) (K2 : Int32 → pz_C Int32) (l2 : Int32) : pz_C Int32 :=
  pz_gB (pz_rR 4 0 l0) fun x1 =>
  pz_gB (pz_rI 6 6 x1) fun x2 =>
  pz_if (x2 ≤ l2) (X4_haveRightSigns_L69 n l0 l1 0) <|
  pz_gB (pz_rR 5 0 l1) fun x20 =>
  pz_gB (pz_aR 4 x20 l2) fun x21 =>
  pz_gB (pz_rR 3 0 x21) fun x22 =>
  pz_gB (pz_rI 0 2 x22) fun x23 =>
  pz_if (0 ≤ x23) (X4_haveRightSigns_b42 n K2 l0 l1 l2 x23) <|
  pz_gB (pz_rR 4 0 l0) fun x28 =>
  pz_gB (pz_rR 6 1 x28) fun x29 =>
  pz_gB (pz_aI 0 x29 l2) fun x30 =>
  pz_if (x30 = 0) (X4_haveRightSigns_b59 n) <|
  X4_haveRightSigns_b42 n K2 l0 l1 l2 x23
def X4_haveRightSigns_L2 (n : Nat) (l0 : Option Nat) (l1 : Option Nat) (l2 : Int32) : pz_C Int32 := pz_loop (fun (K : Int32 → pz_C Int32) (s : Int32) => X4_haveRightSigns_L2_body n l0 l1 (fun l2 => K l2) s) n l2
def X4_haveRightSigns (n : Nat) (l0 : Option Nat) (l1 : Option Nat) : pz_C Int32 :=
  X4_haveRightSigns_L2 n l0 l1 0
/-- RowSolver$Judge.cancelsVariables (LRowSolver$Leaf;)Z -/
def X4_cancelsVariables_L19_body (n : Nat) (K2 : Int32 → pz_C Int32) (l0 : Option Nat) (l1 : Option Nat) (l2 : Int32) (K19 : Int32 → pz_C Int32) (l3 : Int32) : pz_C Int32 :=
  pz_gB (pz_rR 4 0 l0) fun x4 =>
  pz_gB (pz_rI 6 6 x4) fun x5 =>
  pz_if (x5 ≤ l3) (
    pz_gB (pz_rR 4 6 l0) fun x6 =>
    pz_uB (pz_sL 2 x6 (12 + l2) 1) <|
    pz_gB (pz_rR 4 6 l0) fun x7 =>
    pz_uB (pz_sL 2 x7 (22 + l2) 1) <|
    pz_gB (pz_rR 5 0 l1) fun x8 =>
    pz_cV 4 l0 (X4_compareTotal n l0 x8 0) fun x9 =>
    pz_if (x9 = 0) (
      pz_let (l2 + 1) fun l2_10 =>
      K2 l2_10) <|
    pz_zz 0 (pz_ret 0)) <|
  pz_gB (pz_rR 4 6 l0) fun x11 =>
  pz_gB (pz_rR 4 0 l0) fun x12 =>
  pz_gB (pz_rR 6 0 x12) fun x13 =>
  pz_gB (pz_aR 6 x13 l3) fun x14 =>
  pz_gB (pz_aI 0 x14 l2) fun x15 =>
  pz_uB (pz_sL 2 x11 l3 (Int32.toInt64 x15)) <|
  pz_let (l3 + 1) fun l3_16 =>
  K19 l3_16
def X4_cancelsVariables_L19 (n : Nat) (K2 : Int32 → pz_C Int32) (l0 : Option Nat) (l1 : Option Nat) (l2 : Int32) (l3 : Int32) : pz_C Int32 := pz_loop (fun (K : Int32 → pz_C Int32) (s : Int32) => X4_cancelsVariables_L19_body n K2 l0 l1 l2 (fun l3 => K l3) s) n l3
def X4_cancelsVariables_L2_body (n : Nat) (l0 : Option Nat) (l1 : Option Nat) (K2 : Int32 → pz_C Int32) (l2 : Int32) : pz_C Int32 :=
  pz_gB (pz_rR 4 0 l0) fun x1 =>
  pz_gB (pz_rI 6 5 x1) fun x2 =>
  pz_if (x2 ≤ l2) (pz_zz 1 (pz_ret 1)) <|
  pz_cV 4 l0 (X4_clearWeights n l0) fun _ =>
  X4_cancelsVariables_L19 n K2 l0 l1 l2 0
def X4_cancelsVariables_L2 (n : Nat) (l0 : Option Nat) (l1 : Option Nat) (l2 : Int32) : pz_C Int32 := pz_loop (fun (K : Int32 → pz_C Int32) (s : Int32) => X4_cancelsVariables_L2_body n l0 l1 (fun l2 => K l2) s) n l2
def X4_cancelsVariables (n : Nat) (l0 : Option Nat) (l1 : Option Nat) : pz_C Int32 :=
  X4_cancelsVariables_L2 n l0 l1 0
/-- RowSolver$Judge.isBelowZero (LRowSolver$Leaf;)Z -/
def X4_isBelowZero_b143 (n : Nat) (s0 : Int32) : pz_C Int32 :=
  pz_zz s0 (pz_ret s0)
def X4_isBelowZero_b119 (n : Nat) (K41 : Int32 → pz_C Int32) (l0 : Option Nat) (l1 : Option Nat) (l2 : Int32) (s0 : Option Nat) (s1 : Int32) (s2 : Int64) : pz_C Int32 :=
  pz_uB (pz_sL 2 s0 s1 s2) <|
  pz_let (l2 + 1) fun l2_16 =>
  K41 l2_16
def X4_isBelowZero_b85 (n : Nat) (K41 : Int32 → pz_C Int32) (l0 : Option Nat) (l1 : Option Nat) (l2 : Int32) (s0 : Option Nat) (s1 : Int32) (s2 : Int64) : pz_C Int32 :=
  pz_uB (pz_sL 2 s0 s1 s2) <|
  pz_gB (pz_rR 4 6 l0) fun x12 =>
  pz_gB (pz_rR 4 5 l0) fun x13 =>
  pz_gB (pz_rR 1 1 x13) fun x14 =>
  pz_gB (pz_aI 1 x14 l2) fun x15 =>
  pz_if (x15 = 0) (X4_isBelowZero_b119 n K41 l0 l1 l2 x12 (22 + l2) 0) <|
  pz_gB (pz_rR 4 5 l0) fun x17 =>
  pz_gB (pz_rR 1 3 x17) fun x18 =>
  pz_gB (pz_aL 2 x18 l2) fun x19 =>
  X4_isBelowZero_b119 n K41 l0 l1 l2 x12 (22 + l2) x19
def X4_isBelowZero_L41_body (n : Nat) (l0 : Option Nat) (l1 : Option Nat) (K41 : Int32 → pz_C Int32) (l2 : Int32) : pz_C Int32 :=
  pz_gB (pz_rR 4 0 l0) fun x4 =>
  pz_gB (pz_rI 6 5 x4) fun x5 =>
  pz_if (x5 ≤ l2) (
    pz_gB (pz_rR 5 0 l1) fun x6 =>
    pz_cV 4 l0 (X4_compareTotal n l0 x6 0) fun x7 =>
    pz_if (0 ≤ x7) (X4_isBelowZero_b143 n 0) <|
    X4_isBelowZero_b143 n 1) <|
  pz_gB (pz_rR 4 6 l0) fun x8 =>
  pz_gB (pz_rR 4 5 l0) fun x9 =>
  pz_gB (pz_rR 1 0 x9) fun x10 =>
  pz_gB (pz_aI 1 x10 l2) fun x11 =>
  pz_if (x11 = 0) (X4_isBelowZero_b85 n K41 l0 l1 l2 x8 (12 + l2) 0) <|
  pz_gB (pz_rR 4 5 l0) fun x20 =>
  pz_gB (pz_rR 1 2 x20) fun x21 =>
  pz_gB (pz_aL 2 x21 l2) fun x22 =>
  X4_isBelowZero_b85 n K41 l0 l1 l2 x8 (12 + l2) x22
def X4_isBelowZero_L41 (n : Nat) (l0 : Option Nat) (l1 : Option Nat) (l2 : Int32) : pz_C Int32 := pz_loop (fun (K : Int32 → pz_C Int32) (s : Int32) => X4_isBelowZero_L41_body n l0 l1 (fun l2 => K l2) s) n l2
def X4_isBelowZero_L6_body (n : Nat) (l0 : Option Nat) (l1 : Option Nat) (K6 : Int32 → pz_C Int32) (l2 : Int32) : pz_C Int32 :=
  pz_gB (pz_rR 4 0 l0) fun x2 =>
  pz_gB (pz_rI 6 6 x2) fun x3 =>
  pz_if (x3 ≤ l2) (X4_isBelowZero_L41 n l0 l1 0) <|
  pz_gB (pz_rR 4 6 l0) fun x23 =>
  pz_gB (pz_rR 4 0 l0) fun x24 =>
  pz_gB (pz_rR 6 2 x24) fun x25 =>
  pz_gB (pz_aI 0 x25 l2) fun x26 =>
  pz_uB (pz_sL 2 x23 l2 (Int32.toInt64 x26)) <|
  pz_let (l2 + 1) fun l2_27 =>
  K6 l2_27
def X4_isBelowZero_L6 (n : Nat) (l0 : Option Nat) (l1 : Option Nat) (l2 : Int32) : pz_C Int32 := pz_loop (fun (K : Int32 → pz_C Int32) (s : Int32) => X4_isBelowZero_L6_body n l0 l1 (fun l2 => K l2) s) n l2
def X4_isBelowZero (n : Nat) (l0 : Option Nat) (l1 : Option Nat) : pz_C Int32 :=
  pz_cV 4 l0 (X4_clearWeights n l0) fun _ =>
  X4_isBelowZero_L6 n l0 l1 0
/-- RowSolver$Judge.isGood (I)Z -/
def X4_isGood_b119 (n : Nat) (s0 : Int32) : pz_C Int32 :=
  pz_zz s0 (pz_ret s0)
def X4_isGood_b118 (n : Nat) : pz_C Int32 :=
  X4_isGood_b119 n 0
def X4_isGood_b48 (n : Nat) (s0 : Int32) : pz_C Int32 :=
  pz_zz s0 (pz_ret s0)
def X4_isGood_b47 (n : Nat) : pz_C Int32 :=
  X4_isGood_b48 n 0
def X4_isGood (n : Nat) (l0 : Option Nat) (l1 : Int32) : pz_C Int32 :=
  pz_gB (pz_rR 4 1 l0) fun x1 =>
  pz_cV 10 x1 (X10_isSplit n x1 l1) fun x2 =>
  pz_if (x2 = 0) (
    pz_gB (pz_rR 4 1 l0) fun x3 =>
    pz_cV 10 x3 (X10_leafOf n x3 l1) fun x4 =>
    pz_if (x4 = none) (pz_zz 0 (pz_ret 0)) <|
    pz_gB (pz_rR 4 5 l0) fun x5 =>
    pz_gB (pz_rR 4 1 l0) fun x6 =>
    pz_gB (pz_rR 4 0 l0) fun x7 =>
    pz_gB (pz_rI 6 5 x7) fun x8 =>
    pz_gB (pz_rR 4 1 l0) fun x9 =>
    pz_gB (pz_rR 10 5 x9) fun x10 =>
    pz_cV 1 x5 (X1_setSplits n x5 x6 x8 l1 x10) fun _ =>
    pz_cV 4 l0 (X4_haveRightSigns n l0 x4) fun x12 =>
    pz_if (x12 = 0) (X4_isGood_b118 n) <|
    pz_cV 4 l0 (X4_cancelsVariables n l0 x4) fun x13 =>
    pz_if (x13 = 0) (X4_isGood_b118 n) <|
    pz_cV 4 l0 (X4_isBelowZero n l0 x4) fun x14 =>
    pz_if (x14 = 0) (X4_isGood_b118 n) <|
    X4_isGood_b119 n 1) <|
  pz_gB (pz_rR 4 0 l0) fun x15 =>
  pz_gB (pz_rR 6 3 x15) fun x16 =>
  pz_gB (pz_rR 4 1 l0) fun x17 =>
  pz_gB (pz_rR 10 3 x17) fun x18 =>
  pz_gB (pz_aI 0 x18 l1) fun x19 =>
  pz_gB (pz_aI 1 x16 x19) fun x20 =>
  pz_if (x20 = 0) (X4_isGood_b47 n) <|
  pz_gB (pz_rR 4 1 l0) fun x21 =>
  pz_gB (pz_rR 10 2 x21) fun x22 =>
  pz_gB (pz_aI 0 x22 l1) fun x23 =>
  pz_if (x23 < 0) (X4_isGood_b47 n) <|
  X4_isGood_b48 n 1
/-- RowSolver.judgeTree ()I -/
def X11_judgeTree_L14_body (n : Nat) (l0 : Option Nat) (K14 : Int32 → pz_C Int32) (l1 : Int32) : pz_C Int32 :=
  pz_gB (pz_rR 11 4 l0) fun x3 =>
  pz_gB (pz_rI 10 10 x3) fun x4 =>
  pz_if (x4 ≤ l1) (pz_ret 0) <|
  pz_gB (pz_rR 11 6 l0) fun x5 =>
  pz_cV 4 x5 (X4_isGood n x5 l1) fun x6 =>
  pz_if (x6 = 0) (pz_ret (1 + l1)) <|
  pz_let (l1 + 1) fun l1_7 =>
  K14 l1_7
def X11_judgeTree_L14 (n : Nat) (l0 : Option Nat) (l1 : Int32) : pz_C Int32 := pz_loop (fun (K : Int32 → pz_C Int32) (s : Int32) => X11_judgeTree_L14_body n l0 (fun l1 => K l1) s) n l1
def X11_judgeTree (n : Nat) (l0 : Option Nat) : pz_C Int32 :=
  pz_gB (pz_rR 11 4 l0) fun x1 =>
  pz_gB (pz_rI 10 10 x1) fun x2 =>
  pz_if (x2 = 0) (pz_ret (-1)) <|
  X11_judgeTree_L14 n l0 0
/-- RowSolverModel.lookAround (I)V -/
def X12_lookAround_b160 (n : Nat) (K30 : Int32 → Int32 → pz_C Unit) (l0 : Option Nat) (l3 : Int32) : pz_C Unit :=
  pz_gB (pz_rR 12 21 l0) fun x13 =>
  pz_gB (pz_aI 0 x13 l3) fun x14 =>
  K30 l3 x14
def X12_lookAround_b143 (n : Nat) (K30 : Int32 → Int32 → pz_C Unit) (l0 : Option Nat) (l3 : Int32) (l5 : Int32) (l6 : Int32) : pz_C Unit :=
  pz_gB (pz_rR 12 32 l0) fun x11 =>
  pz_uB (pz_sZ 1 x11 l5 1) <|
  pz_gB (pz_rR 12 33 l0) fun x12 =>
  pz_uB (pz_sI 0 x12 l5 l6) <|
  X12_lookAround_b160 n K30 l0 l3
def X12_lookAround_b91 (n : Nat) (K30 : Int32 → Int32 → pz_C Unit) (l0 : Option Nat) (l3 : Int32) (l4 : Int32) (l5 : Int32) (s0 : Int32) : pz_C Unit :=
  pz_gB (pz_rR 12 32 l0) fun x9 =>
  pz_gB (pz_aI 1 x9 l5) fun x10 =>
  pz_if (x10 = 0) (X12_lookAround_b143 n K30 l0 l3 l5 s0) <|
  pz_if (l4 = 0) (
    pz_gB (pz_rR 12 33 l0) fun x15 =>
    pz_gB (pz_aI 0 x15 l5) fun x16 =>
    pz_cV 12 l0 (X12_compare n l0 s0 x16) fun x17 =>
    pz_if (0 ≤ x17) (X12_lookAround_b160 n K30 l0 l3) <|
    X12_lookAround_b143 n K30 l0 l3 l5 s0) <|
  pz_gB (pz_rR 12 33 l0) fun x18 =>
  pz_gB (pz_aI 0 x18 l5) fun x19 =>
  pz_cV 12 l0 (X12_compare n l0 s0 x19) fun x20 =>
  pz_if (x20 ≤ 0) (X12_lookAround_b160 n K30 l0 l3) <|
  X12_lookAround_b143 n K30 l0 l3 l5 s0
def X12_lookAround_b51 (n : Nat) (K30 : Int32 → Int32 → pz_C Unit) (l0 : Option Nat) (l3 : Int32) (s0 : Int32) : pz_C Unit :=
  pz_gB (pz_rR 12 18 l0) fun x5 =>
  pz_gB (pz_aI 0 x5 l3) fun x6 =>
  pz_let ((2 * x6) + s0) fun l5_7 =>
  pz_if (s0 = 0) (
    pz_cB (X12_splitAt n l3) fun x8 =>
    X12_lookAround_b91 n K30 l0 l3 s0 l5_7 x8) <|
  pz_cB (X12_splitAt n l3) fun x21 =>
  pz_cV 12 l0 (X12_plainOf n l0 1) fun x22 =>
  pz_cV 12 l0 (X12_plus n l0 x21 x22) fun x23 =>
  X12_lookAround_b91 n K30 l0 l3 s0 l5_7 x23
def X12_lookAround_L30_body (n : Nat) (l0 : Option Nat) (K30 : Int32 → Int32 → pz_C Unit) (l2 : Int32) (l3 : Int32) : pz_C Unit :=
  pz_if (l3 = (-2)) (pz_ret ()) <|
  pz_gB (pz_rR 12 19 l0) fun x3 =>
  pz_gB (pz_aI 0 x3 l3) fun x4 =>
  pz_if (x4 = l2) (X12_lookAround_b51 n K30 l0 l3 0) <|
  X12_lookAround_b51 n K30 l0 l3 1
def X12_lookAround_L30 (n : Nat) (l0 : Option Nat) (l2 : Int32) (l3 : Int32) : pz_C Unit := pz_loop (fun (K : Int32 × Int32 → pz_C Unit) (s : Int32 × Int32) => X12_lookAround_L30_body n l0 (fun l2 l3 => K (l2, l3)) s.1 s.2) n (l2, l3)
def X12_lookAround_L2_body (n : Nat) (l0 : Option Nat) (l1 : Int32) (K2 : Int32 → pz_C Unit) (l2 : Int32) : pz_C Unit :=
  pz_if (20 ≤ l2) (
    pz_gB (pz_rR 12 21 l0) fun x1 =>
    pz_gB (pz_aI 0 x1 l1) fun x2 =>
    X12_lookAround_L30 n l0 l1 x2) <|
  pz_gB (pz_rR 12 32 l0) fun x24 =>
  pz_uB (pz_sZ 1 x24 l2 0) <|
  pz_let (l2 + 1) fun l2_25 =>
  K2 l2_25
def X12_lookAround_L2 (n : Nat) (l0 : Option Nat) (l1 : Int32) (l2 : Int32) : pz_C Unit := pz_loop (fun (K : Int32 → pz_C Unit) (s : Int32) => X12_lookAround_L2_body n l0 l1 (fun l2 => K l2) s) n l2
def X12_lookAround (n : Nat) (l0 : Option Nat) (l1 : Int32) : pz_C Unit :=
  X12_lookAround_L2 n l0 l1 0
/-- RowSolverModel.signOf (II)I -/
def X12_signOf (n : Nat) (l0 : Option Nat) (l1 : Int32) (l2 : Int32) : pz_C Int32 :=
  pz_gB (pz_rR 12 22 l0) fun x1 =>
  pz_gB (pz_aI 0 x1 l1) fun x2 =>
  pz_cB (X12_multiplierAt n x2 l2 0) fun x3 =>
  pz_cV 12 l0 (X12_sgn n l0 x3) fun x4 =>
  pz_ret x4
/-- RowSolverModel.add (III)V -/
def X12_add (n : Nat) (l0 : Option Nat) (l1 : Int32) (l2 : Int32) (l3 : Int32) : pz_C Unit :=
  pz_gB (pz_rR 12 22 l0) fun x1 =>
  pz_gB (pz_aI 0 x1 l1) fun x2 =>
  pz_cB (X12_multiplierAt n x2 l2 0) fun x3 =>
  pz_gB (pz_rR 12 22 l0) fun x4 =>
  pz_gB (pz_aI 0 x4 l1) fun x5 =>
  pz_cB (X12_multiplierAt n x5 l2 1) fun x6 =>
  pz_cV 12 l0 (X12_addTo n l0 l3 x3 x6) fun _ =>
  pz_ret ()
/-- RowSolverModel.isGoodLeaf (I)Z -/
def X12_isGoodLeaf_b420 (n : Nat) (s0 : Int32) : pz_C Int32 :=
  pz_zz s0 (pz_ret s0)
def X12_isGoodLeaf_b398 (n : Nat) (K330 : Int32 → pz_C Int32) (l0 : Option Nat) (l1 : Int32) (l3 : Int32) : pz_C Int32 :=
  pz_let (l3 + 1) fun l3_14 =>
  K330 l3_14
def X12_isGoodLeaf_b366 (n : Nat) (K330 : Int32 → pz_C Int32) (l0 : Option Nat) (l1 : Int32) (l3 : Int32) : pz_C Int32 :=
  pz_gB (pz_rR 12 32 l0) fun x12 =>
  pz_gB (pz_aI 1 x12 ((2 * l3) + 1)) fun x13 =>
  pz_if (x13 = 0) (X12_isGoodLeaf_b398 n K330 l0 l1 l3) <|
  pz_gB (pz_rR 12 33 l0) fun x15 =>
  pz_gB (pz_aI 0 x15 ((2 * l3) + 1)) fun x16 =>
  pz_cV 12 l0 (X12_add n l0 l1 (22 + l3) x16) fun _ =>
  X12_isGoodLeaf_b398 n K330 l0 l1 l3
def X12_isGoodLeaf_L330_body (n : Nat) (l0 : Option Nat) (l1 : Int32) (K330 : Int32 → pz_C Int32) (l3 : Int32) : pz_C Int32 :=
  pz_gB (pz_rI 12 0 l0) fun x7 =>
  pz_if (x7 ≤ l3) (
    pz_gB (pz_rI 12 30 l0) fun x8 =>
    pz_cV 12 l0 (X12_sgn n l0 x8) fun x9 =>
    pz_if (0 ≤ x9) (X12_isGoodLeaf_b420 n 0) <|
    X12_isGoodLeaf_b420 n 1) <|
  pz_gB (pz_rR 12 32 l0) fun x10 =>
  pz_gB (pz_aI 1 x10 (2 * l3)) fun x11 =>
  pz_if (x11 = 0) (X12_isGoodLeaf_b366 n K330 l0 l1 l3) <|
  pz_gB (pz_rR 12 33 l0) fun x18 =>
  pz_gB (pz_aI 0 x18 (2 * l3)) fun x19 =>
  pz_cV 12 l0 (X12_add n l0 l1 (12 + l3) x19) fun _ =>
  X12_isGoodLeaf_b366 n K330 l0 l1 l3
def X12_isGoodLeaf_L330 (n : Nat) (l0 : Option Nat) (l1 : Int32) (l3 : Int32) : pz_C Int32 := pz_loop (fun (K : Int32 → pz_C Int32) (s : Int32) => X12_isGoodLeaf_L330_body n l0 l1 (fun l3 => K l3) s) n l3
def X12_isGoodLeaf_L297_body (n : Nat) (l0 : Option Nat) (l1 : Int32) (K297 : Int32 → pz_C Int32) (l3 : Int32) : pz_C Int32 :=
  pz_gB (pz_rI 12 1 l0) fun x6 =>
  pz_if (x6 ≤ l3) (X12_isGoodLeaf_L330 n l0 l1 0) <|
  pz_gB (pz_rR 12 4 l0) fun x21 =>
  pz_gB (pz_aI 0 x21 l3) fun x22 =>
  pz_cV 12 l0 (X12_plainOf n l0 (Int32.toInt64 x22)) fun x23 =>
  pz_cV 12 l0 (X12_add n l0 l1 l3 x23) fun _ =>
  pz_let (l3 + 1) fun l3_25 =>
  K297 l3_25
def X12_isGoodLeaf_L297 (n : Nat) (l0 : Option Nat) (l1 : Int32) (l3 : Int32) : pz_C Int32 := pz_loop (fun (K : Int32 → pz_C Int32) (s : Int32) => X12_isGoodLeaf_L297_body n l0 l1 (fun l3 => K l3) s) n l3
def X12_isGoodLeaf_b285 (n : Nat) (l0 : Option Nat) (l1 : Int32) (l2 : Int32) : pz_C Int32 :=
  pz_if (l2 = 0) (pz_zz 0 (pz_ret 0)) <|
  pz_cV 12 l0 (X12_beginSum n l0) fun _ =>
  X12_isGoodLeaf_L297 n l0 l1 0
def X12_isGoodLeaf_b272 (n : Nat) (K164 : Int32 → Int32 → pz_C Int32) (l0 : Option Nat) (l1 : Int32) (l3 : Int32) (l4 : Int32) (s0 : Int32) : pz_C Int32 :=
  pz_uB (pz_wF 12 35 l0 (.int l4)) <|
  pz_let (l3 + 1) fun l3_35 =>
  K164 s0 l3_35
def X12_isGoodLeaf_L189_body (n : Nat) (K164 : Int32 → Int32 → pz_C Int32) (l0 : Option Nat) (l1 : Int32) (l3 : Int32) (l4 : Int32) (K189 : Int32 → pz_C Int32) (l5 : Int32) : pz_C Int32 :=
  pz_gB (pz_rI 12 1 l0) fun x28 =>
  pz_if (x28 ≤ l5) (
    pz_cV 12 l0 (X12_plainOf n l0 1) fun x29 =>
    pz_cV 12 l0 (X12_add n l0 l1 (12 + l3) x29) fun _ =>
    pz_cV 12 l0 (X12_plainOf n l0 1) fun x31 =>
    pz_cV 12 l0 (X12_add n l0 l1 (22 + l3) x31) fun _ =>
    pz_gB (pz_rI 12 30 l0) fun x33 =>
    pz_cV 12 l0 (X12_sgn n l0 x33) fun x34 =>
    pz_if (x34 = 0) (X12_isGoodLeaf_b272 n K164 l0 l1 l3 l4 1) <|
    X12_isGoodLeaf_b272 n K164 l0 l1 l3 l4 0) <|
  pz_gB (pz_rR 12 2 l0) fun x36 =>
  pz_gB (pz_aI 0 x36 ((10 * l5) + l3)) fun x37 =>
  pz_cV 12 l0 (X12_plainOf n l0 (Int32.toInt64 x37)) fun x38 =>
  pz_cV 12 l0 (X12_add n l0 l1 l5 x38) fun _ =>
  pz_let (l5 + 1) fun l5_40 =>
  K189 l5_40
def X12_isGoodLeaf_L189 (n : Nat) (K164 : Int32 → Int32 → pz_C Int32) (l0 : Option Nat) (l1 : Int32) (l3 : Int32) (l4 : Int32) (l5 : Int32) : pz_C Int32 := pz_loop (fun (K : Int32 → pz_C Int32) (s : Int32) => X12_isGoodLeaf_L189_body n K164 l0 l1 l3 l4 (fun l5 => K l5) s) n l5
def X12_isGoodLeaf_L164_body (n : Nat) (l0 : Option Nat) (l1 : Int32) (K164 : Int32 → Int32 → pz_C Int32) (l2 : Int32) (l3 : Int32) : pz_C Int32 :=
  pz_gB (pz_rI 12 0 l0) fun x4 =>
  pz_if (x4 ≤ l3) (X12_isGoodLeaf_b285 n l0 l1 l2) <|
  pz_if (l2 = 0) (X12_isGoodLeaf_b285 n l0 l1 l2) <|
  pz_gB (pz_rI 12 35 l0) fun x26 =>
  pz_cV 12 l0 (X12_beginSum n l0) fun _ =>
  X12_isGoodLeaf_L189 n K164 l0 l1 l3 x26 0
def X12_isGoodLeaf_L164 (n : Nat) (l0 : Option Nat) (l1 : Int32) (l2 : Int32) (l3 : Int32) : pz_C Int32 := pz_loop (fun (K : Int32 × Int32 → pz_C Int32) (s : Int32 × Int32) => X12_isGoodLeaf_L164_body n l0 l1 (fun l2 l3 => K (l2, l3)) s.1 s.2) n (l2, l3)
def X12_isGoodLeaf_b155 (n : Nat) (K72 : Int32 → Int32 → pz_C Int32) (l0 : Option Nat) (l1 : Int32) (l3 : Int32) (s0 : Int32) : pz_C Int32 :=
  pz_let (l3 + 1) fun l3_43 =>
  K72 s0 l3_43
def X12_isGoodLeaf_b154 (n : Nat) (K72 : Int32 → Int32 → pz_C Int32) (l0 : Option Nat) (l1 : Int32) (l3 : Int32) : pz_C Int32 :=
  X12_isGoodLeaf_b155 n K72 l0 l1 l3 0
def X12_isGoodLeaf_b150 (n : Nat) (K72 : Int32 → Int32 → pz_C Int32) (l0 : Option Nat) (l1 : Int32) (l3 : Int32) : pz_C Int32 :=
  X12_isGoodLeaf_b155 n K72 l0 l1 l3 1
def X12_isGoodLeaf_b132 (n : Nat) (K72 : Int32 → Int32 → pz_C Int32) (l0 : Option Nat) (l1 : Int32) (l3 : Int32) (l5 : Int32) : pz_C Int32 :=
  pz_gB (pz_rR 12 32 l0) fun x46 =>
  pz_gB (pz_aI 1 x46 ((2 * l3) + 1)) fun x47 =>
  pz_if (x47 = 0) (
    pz_if (l5 = 0) (X12_isGoodLeaf_b150 n K72 l0 l1 l3) <|
    X12_isGoodLeaf_b154 n K72 l0 l1 l3) <|
  X12_isGoodLeaf_b150 n K72 l0 l1 l3
def X12_isGoodLeaf_L72_body (n : Nat) (l0 : Option Nat) (l1 : Int32) (K72 : Int32 → Int32 → pz_C Int32) (l2 : Int32) (l3 : Int32) : pz_C Int32 :=
  pz_gB (pz_rI 12 0 l0) fun x3 =>
  pz_if (x3 ≤ l3) (X12_isGoodLeaf_L164 n l0 l1 l2 0) <|
  pz_cV 12 l0 (X12_signOf n l0 l1 (12 + l3)) fun x41 =>
  pz_cV 12 l0 (X12_signOf n l0 l1 (22 + l3)) fun x42 =>
  pz_if (l2 = 0) (X12_isGoodLeaf_b154 n K72 l0 l1 l3) <|
  pz_if (x41 < 0) (X12_isGoodLeaf_b154 n K72 l0 l1 l3) <|
  pz_if (0 < x42) (X12_isGoodLeaf_b154 n K72 l0 l1 l3) <|
  pz_gB (pz_rR 12 32 l0) fun x44 =>
  pz_gB (pz_aI 1 x44 (2 * l3)) fun x45 =>
  pz_if (x45 = 0) (
    pz_if (x41 = 0) (X12_isGoodLeaf_b132 n K72 l0 l1 l3 x42) <|
    X12_isGoodLeaf_b154 n K72 l0 l1 l3) <|
  X12_isGoodLeaf_b132 n K72 l0 l1 l3 x42
def X12_isGoodLeaf_L72 (n : Nat) (l0 : Option Nat) (l1 : Int32) (l2 : Int32) (l3 : Int32) : pz_C Int32 := pz_loop (fun (K : Int32 × Int32 → pz_C Int32) (s : Int32 × Int32) => X12_isGoodLeaf_L72_body n l0 l1 (fun l2 l3 => K (l2, l3)) s.1 s.2) n (l2, l3)
def X12_isGoodLeaf_b63 (n : Nat) (K9 : Int32 → Int32 → pz_C Int32) (l0 : Option Nat) (l1 : Int32) (l3 : Int32) (s0 : Int32) : pz_C Int32 :=
  pz_let (l3 + 1) fun l3_49 =>
  K9 s0 l3_49
def X12_isGoodLeaf_b62 (n : Nat) (K9 : Int32 → Int32 → pz_C Int32) (l0 : Option Nat) (l1 : Int32) (l3 : Int32) : pz_C Int32 :=
  X12_isGoodLeaf_b63 n K9 l0 l1 l3 0
def X12_isGoodLeaf_b58 (n : Nat) (K9 : Int32 → Int32 → pz_C Int32) (l0 : Option Nat) (l1 : Int32) (l3 : Int32) : pz_C Int32 :=
  X12_isGoodLeaf_b63 n K9 l0 l1 l3 1
def X12_isGoodLeaf_b43 (n : Nat) (K9 : Int32 → Int32 → pz_C Int32) (l0 : Option Nat) (l1 : Int32) (l3 : Int32) (l4 : Int32) : pz_C Int32 :=
  pz_gB (pz_rR 12 3 l0) fun x52 =>
  pz_gB (pz_aI 0 x52 l3) fun x53 =>
  pz_if (x53 = 1) (
    pz_if (0 < l4) (X12_isGoodLeaf_b62 n K9 l0 l1 l3) <|
    X12_isGoodLeaf_b58 n K9 l0 l1 l3) <|
  X12_isGoodLeaf_b58 n K9 l0 l1 l3
def X12_isGoodLeaf_L9_body (n : Nat) (l0 : Option Nat) (l1 : Int32) (K9 : Int32 → Int32 → pz_C Int32) (l2 : Int32) (l3 : Int32) : pz_C Int32 :=
  pz_gB (pz_rI 12 1 l0) fun x2 =>
  pz_if (x2 ≤ l3) (X12_isGoodLeaf_L72 n l0 l1 l2 0) <|
  pz_cV 12 l0 (X12_signOf n l0 l1 l3) fun x48 =>
  pz_if (l2 = 0) (X12_isGoodLeaf_b62 n K9 l0 l1 l3) <|
  pz_gB (pz_rR 12 3 l0) fun x50 =>
  pz_gB (pz_aI 0 x50 l3) fun x51 =>
  pz_if (x51 = 0) (
    pz_if (x48 < 0) (X12_isGoodLeaf_b62 n K9 l0 l1 l3) <|
    X12_isGoodLeaf_b43 n K9 l0 l1 l3 x48) <|
  X12_isGoodLeaf_b43 n K9 l0 l1 l3 x48
def X12_isGoodLeaf_L9 (n : Nat) (l0 : Option Nat) (l1 : Int32) (l2 : Int32) (l3 : Int32) : pz_C Int32 := pz_loop (fun (K : Int32 × Int32 → pz_C Int32) (s : Int32 × Int32) => X12_isGoodLeaf_L9_body n l0 l1 (fun l2 l3 => K (l2, l3)) s.1 s.2) n (l2, l3)
def X12_isGoodLeaf (n : Nat) (l0 : Option Nat) (l1 : Int32) : pz_C Int32 :=
  pz_cV 12 l0 (X12_lookAround n l0 l1) fun _ =>
  X12_isGoodLeaf_L9 n l0 l1 1 0
/-- RowSolverModel.judgeTree ()I -/
def X12_judgeTree_b82 (n : Nat) (K11 : Int32 → pz_C Int32) (l0 : Option Nat) (l1 : Int32) (l2 : Int32) (s0 : Int32) : pz_C Int32 :=
  pz_uB (pz_wF 12 35 l0 (.int l2)) <|
  pz_if (s0 = 0) (pz_ret (1 + l1)) <|
  pz_let (l1 + 1) fun l1_7 =>
  K11 l1_7
def X12_judgeTree_b73 (n : Nat) (K11 : Int32 → pz_C Int32) (l0 : Option Nat) (l1 : Int32) (l2 : Int32) : pz_C Int32 :=
  X12_judgeTree_b82 n K11 l0 l1 l2 0
def X12_judgeTree_L11_body (n : Nat) (l0 : Option Nat) (K11 : Int32 → pz_C Int32) (l1 : Int32) : pz_C Int32 :=
  pz_gB (pz_rI 12 15 l0) fun x2 =>
  pz_if (x2 ≤ l1) (pz_ret 0) <|
  pz_gB (pz_rI 12 35 l0) fun x3 =>
  pz_gB (pz_rR 12 16 l0) fun x4 =>
  pz_gB (pz_aI 1 x4 l1) fun x5 =>
  pz_if (x5 = 0) (
    pz_cV 12 l0 (X12_isGoodLeaf n l0 l1) fun x6 =>
    X12_judgeTree_b82 n K11 l0 l1 x3 x6) <|
  pz_gB (pz_rR 12 6 l0) fun x8 =>
  pz_gB (pz_rR 12 18 l0) fun x9 =>
  pz_gB (pz_aI 0 x9 l1) fun x10 =>
  pz_gB (pz_aI 1 x8 x10) fun x11 =>
  pz_if (x11 = 0) (X12_judgeTree_b73 n K11 l0 l1 x3) <|
  pz_gB (pz_rR 12 19 l0) fun x12 =>
  pz_gB (pz_aI 0 x12 l1) fun x13 =>
  pz_if (x13 = (-2)) (X12_judgeTree_b73 n K11 l0 l1 x3) <|
  pz_gB (pz_rR 12 20 l0) fun x14 =>
  pz_gB (pz_aI 0 x14 l1) fun x15 =>
  pz_if (x15 = (-2)) (X12_judgeTree_b73 n K11 l0 l1 x3) <|
  X12_judgeTree_b82 n K11 l0 l1 x3 1
def X12_judgeTree_L11 (n : Nat) (l0 : Option Nat) (l1 : Int32) : pz_C Int32 := pz_loop (fun (K : Int32 → pz_C Int32) (s : Int32) => X12_judgeTree_L11_body n l0 (fun l1 => K l1) s) n l1
def X12_judgeTree (n : Nat) (l0 : Option Nat) : pz_C Int32 :=
  pz_gB (pz_rI 12 15 l0) fun x1 =>
  pz_if (x1 = 0) (pz_ret (-1)) <|
  X12_judgeTree_L11 n l0 0
