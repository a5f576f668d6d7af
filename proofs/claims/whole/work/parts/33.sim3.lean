set_option maxRecDepth 20000 in
theorem S_X0_small_b24 (X : pz_X) (n : Nat) (s0 : Int64) : pz_Sm X (pz_QM X) J_X0_small pz_vL 24 [] [.long s0] (X0_small_b24 n s0) := by
  unfold X0_small_b24
  exact pz_lret rfl dX0_small_24
set_option maxRecDepth 20000 in
theorem S_X0_small (X : pz_X) (n : Nat) (l0 : Option Nat) : pz_Sm X (pz_QM X) J_X0_small pz_vL 0 [(0, va_rf l0)] [] (X0_small n l0) := by
  unfold X0_small
  refine pz_aload_n 0 dX0_small_0 rfl ?_
  refine pz_getI (ci := 0) (k := 1) ck_0 (by decide) (Or.inl pw_90) dX0_small_1 (fun x1 => ?_)
  refine pz_if_ne 11 dX0_small_4 (by decide) ?_ ?_
  · refine pz_lconst 0 dX0_small_7 (by decide) ?_
    refine pz_goto 24 dX0_small_8 (by decide) ?_
    exact pz_sub [] rfl (S_X0_small_b24 X n 0)
  · refine pz_aload_n 0 dX0_small_11 rfl ?_
    refine pz_getI (ci := 0) (k := 2) ck_0 (by decide) (Or.inl pw_94) dX0_small_12 (fun x2 => ?_)
    refine pz_i2l dX0_small_15 ?_
    refine pz_aload_n 0 dX0_small_16 rfl ?_
    refine pz_getR (ci := 0) (k := 0) ck_0 (by decide) (Or.inl pw_86) dX0_small_17 (fun x3 => ?_)
    refine pz_iconst 0 dX0_small_20 (by decide) ?_
    refine pz_iald (t := 0) rfl dX0_small_21 (fun x4 => ?_)
    refine pz_i2l dX0_small_22 ?_
    refine pz_lmul dX0_small_23 ?_
    exact pz_sub [] rfl (S_X0_small_b24 X n ((Int32.toInt64 x2) * (Int32.toInt64 x4)))
set_option maxRecDepth 20000 in
theorem md_X0_small (X : pz_X) (n : Nat) (l0 : Option Nat) : pz_Md X yX0_small J_X0_small pz_vL [va_rf l0] (X0_small n l0) :=
  pz_md [(0, va_rf l0)] (by decide +kernel) rfl rfl (by cases l0 <;> rfl) (by cases l0 <;> exact Nat.le_of_ble_eq_true rfl) (fun X => S_X0_small X n l0)
set_option maxRecDepth 20000 in
theorem S_X0_isSmall_b13 (X : pz_X) (n : Nat) (s0 : Int32) : pz_Sm X (pz_QM X) J_X0_isSmall pz_vI 13 [] [.int s0] (X0_isSmall_b13 n s0) := by
  unfold X0_isSmall_b13
  exact pz_zret rfl dX0_isSmall_13
set_option maxRecDepth 20000 in
theorem S_X0_isSmall (X : pz_X) (n : Nat) (l0 : Option Nat) : pz_Sm X (pz_QM X) J_X0_isSmall pz_vI 0 [(0, va_rf l0)] [] (X0_isSmall n l0) := by
  unfold X0_isSmall
  refine pz_aload_n 0 dX0_isSmall_0 rfl ?_
  refine pz_getI (ci := 0) (k := 1) ck_0 (by decide) (Or.inl pw_90) dX0_isSmall_1 (fun x1 => ?_)
  refine pz_iconst 1 dX0_isSmall_4 (by decide) ?_
  refine pz_icmp_gt 12 dX0_isSmall_5 (by decide) ?_ ?_
  · refine pz_iconst 0 dX0_isSmall_12 (by decide) ?_
    exact pz_sub [] rfl (S_X0_isSmall_b13 X n 0)
  · refine pz_iconst 1 dX0_isSmall_8 (by decide) ?_
    refine pz_goto 13 dX0_isSmall_9 (by decide) ?_
    exact pz_sub [] rfl (S_X0_isSmall_b13 X n 1)
set_option maxRecDepth 20000 in
theorem md_X0_isSmall (X : pz_X) (n : Nat) (l0 : Option Nat) : pz_Md X yX0_isSmall J_X0_isSmall pz_vI [va_rf l0] (X0_isSmall n l0) :=
  pz_md [(0, va_rf l0)] (by decide +kernel) rfl rfl (by cases l0 <;> rfl) (by cases l0 <;> exact Nat.le_of_ble_eq_true rfl) (fun X => S_X0_isSmall X n l0)
set_option maxRecDepth 20000 in
theorem S_X8_addProduct_L25_body (X : pz_X) (n : Nat) (l0 : Option Nat) (l1 : Option Nat) (l2 : Option Nat) (l4 : Int64) (K25 : Int32 → pz_C Unit) (hK25 : ∀ (l6 : Int32), pz_Sm X (pz_QM X) J_X8_addProduct pz_vU 25 [(0, va_rf l0), (1, va_rf l1), (2, va_rf l2), (4, .long l4), (6, .int l6)] [] (K25 l6)) (l6 : Int32) : pz_Sm X (pz_QM X) J_X8_addProduct pz_vU 25 [(0, va_rf l0), (1, va_rf l1), (2, va_rf l2), (4, .long l4), (6, .int l6)] [] (X8_addProduct_L25_body n l0 l1 l2 l4 K25 l6) := by
  unfold X8_addProduct_L25_body
  refine pz_iload 4 dX8_addProduct_25 rfl ?_
  refine pz_aload_n 2 dX8_addProduct_27 rfl ?_
  refine pz_getI (ci := 0) (k := 1) ck_0 (by decide) (Or.inl pw_92) dX8_addProduct_28 (fun x4 => ?_)
  refine pz_icmp_ge 58 dX8_addProduct_31 (by decide) ?_ ?_
  · exact pz_vret rfl dX8_addProduct_58
  · refine pz_aload_n 0 dX8_addProduct_34 rfl ?_
    refine pz_aload_n 1 dX8_addProduct_35 rfl ?_
    refine pz_lload 3 dX8_addProduct_36 rfl ?_
    refine pz_aload_n 2 dX8_addProduct_38 rfl ?_
    refine pz_getR (ci := 0) (k := 0) ck_0 (by decide) (Or.inl pw_88) dX8_addProduct_39 (fun x5 => ?_)
    refine pz_iload 4 dX8_addProduct_42 rfl ?_
    refine pz_iald (t := 0) rfl dX8_addProduct_44 (fun x6 => ?_)
    refine pz_i2l dX8_addProduct_45 ?_
    refine pz_lmul dX8_addProduct_46 ?_
    refine pz_iload 4 dX8_addProduct_47 rfl ?_
    refine pz_cvU (st := []) (md_X8_addShifted X n l0 l1 (l4 * (Int32.toInt64 x6)) l6) ck_8 rfl mk_X8_addShifted (Or.inl pw_583) pw_585 ps_7 rfl rfl (by decide) (by decide) (by decide) dX8_addProduct_49 (fun _ => ?_)
    refine pz_iinc 4 1 (fun l6_8 => [(6, .int l6_8), (0, va_rf l0), (1, va_rf l1), (2, va_rf l2), (4, .long l4)]) dX8_addProduct_52 rfl (by decide) (by decide) (fun l6_8 => rfl) (fun l6_8 => ?_)
    refine pz_goto 25 dX8_addProduct_55 (by decide) ?_
    exact pz_sub [1, 2, 3, 4, 0] rfl (hK25 l6_8)
set_option maxRecDepth 20000 in
theorem S_X8_addProduct_L25 (X : pz_X) (n : Nat) (l0 : Option Nat) (l1 : Option Nat) (l2 : Option Nat) (l4 : Int64) (l6 : Int32) : pz_Sm X (pz_QM X) J_X8_addProduct pz_vU 25 [(0, va_rf l0), (1, va_rf l1), (2, va_rf l2), (4, .long l4), (6, .int l6)] [] (X8_addProduct_L25 n l0 l1 l2 l4 l6) :=
  pz_lp (L := fun (s : Int32) => [(0, va_rf l0), (1, va_rf l1), (2, va_rf l2), (4, .long l4), (6, .int s)]) (fun K hK s => S_X8_addProduct_L25_body X n l0 l1 l2 l4 (fun l6 => K l6) (fun l6 => hK l6) s) n l6
set_option maxRecDepth 20000 in
theorem S_X8_addProduct (X : pz_X) (n : Nat) (l0 : Option Nat) (l1 : Option Nat) (l2 : Option Nat) (l3 : Int32) : pz_Sm X (pz_QM X) J_X8_addProduct pz_vU 0 [(0, va_rf l0), (1, va_rf l1), (2, va_rf l2), (3, .int l3)] [] (X8_addProduct n l0 l1 l2 l3) := by
  unfold X8_addProduct
  refine pz_iload_n 3 dX8_addProduct_0 rfl ?_
  refine pz_aload_n 1 dX8_addProduct_1 rfl ?_
  refine pz_getI (ci := 0) (k := 2) ck_0 (by decide) (Or.inl pw_96) dX8_addProduct_2 (fun x1 => ?_)
  refine pz_imul dX8_addProduct_5 ?_
  refine pz_aload_n 2 dX8_addProduct_6 rfl ?_
  refine pz_getI (ci := 0) (k := 2) ck_0 (by decide) (Or.inl pw_96) dX8_addProduct_7 (fun x2 => ?_)
  refine pz_imul dX8_addProduct_10 ?_
  refine pz_i2l dX8_addProduct_11 ?_
  refine pz_nmL (fun l4_3 => ?_)
  refine pz_lstore [(4, .long l4_3), (0, va_rf l0), (1, va_rf l1), (2, va_rf l2), (3, .int l3)] dX8_addProduct_12 (by decide) rfl ?_
  refine pz_lload 0 dX8_addProduct_14 rfl ?_
  refine pz_lconst 0 dX8_addProduct_16 (by decide) ?_
  refine pz_lcmp dX8_addProduct_17 ?_
  refine pz_if_ne 22 dX8_addProduct_18 (by decide) ?_ ?_
  · exact pz_vret rfl dX8_addProduct_21
  · refine pz_iconst 0 dX8_addProduct_22 (by decide) ?_
    refine pz_istore [(6, .int 0), (4, .long l4_3), (0, va_rf l0), (1, va_rf l1), (2, va_rf l2), (3, .int l3)] dX8_addProduct_23 (by decide) rfl ?_
    exact pz_sub [2, 3, 4, 1, 0] rfl (S_X8_addProduct_L25 X n l0 l1 l2 l4_3 0)
set_option maxRecDepth 20000 in
theorem md_X8_addProduct (X : pz_X) (n : Nat) (l0 : Option Nat) (l1 : Option Nat) (l2 : Option Nat) (l3 : Int32) : pz_Md X yX8_addProduct J_X8_addProduct pz_vU [va_rf l0, va_rf l1, va_rf l2, .int l3] (X8_addProduct n l0 l1 l2 l3) :=
  pz_md [(0, va_rf l0), (1, va_rf l1), (2, va_rf l2), (3, .int l3)] (by decide +kernel) rfl rfl (by cases l0 <;> cases l1 <;> cases l2 <;> rfl) (by cases l0 <;> cases l1 <;> cases l2 <;> exact Nat.le_of_ble_eq_true rfl) (fun X => S_X8_addProduct X n l0 l1 l2 l3)
set_option maxRecDepth 20000 in
theorem S_X9_cross_b22 (X : pz_X) (n : Nat) : pz_Sm X (pz_QM X) J_X9_cross pz_vU 22 [] [] (X9_cross_b22 n) := by
  unfold X9_cross_b22
  exact pz_vret rfl dX9_cross_22
set_option maxRecDepth 20000 in
theorem S_X9_cross_b116 (X : pz_X) (n : Nat) (l0 : Option Nat) (l1 : Option Nat) (l2 : Option Nat) (l3 : Option Nat) (l4 : Option Nat) (l5 : Int32) : pz_Sm X (pz_QM X) J_X9_cross pz_vU 116 [(0, va_rf l0), (1, va_rf l1), (2, va_rf l2), (3, va_rf l3), (4, va_rf l4), (5, .int l5)] [] (X9_cross_b116 n l0 l1 l2 l3 l4 l5) := by
  unfold X9_cross_b116
  refine pz_aload_n 0 dX9_cross_116 rfl ?_
  refine pz_getR (ci := 9) (k := 0) ck_9 (by decide) (Or.inl pw_153) dX9_cross_117 (fun x8 => ?_)
  refine pz_cvU (st := []) (md_X8_clear X n x8) ck_8 rfl mk_X8_clear (Or.inl pw_574) pw_575 pw_576 rfl rfl (by decide) (by decide) (by decide) dX9_cross_120 (fun _ => ?_)
  refine pz_aload_n 0 dX9_cross_123 rfl ?_
  refine pz_getR (ci := 9) (k := 0) ck_9 (by decide) (Or.inl pw_153) dX9_cross_124 (fun x10 => ?_)
  refine pz_aload_n 1 dX9_cross_127 rfl ?_
  refine pz_aload_n 2 dX9_cross_128 rfl ?_
  refine pz_iload 5 dX9_cross_129 rfl ?_
  refine pz_cvU (st := []) (md_X8_addProduct X n x10 l1 l2 l5) ck_8 rfl mk_X8_addProduct (Or.inl pw_704) pw_705 pw_706 rfl rfl (by decide) (by decide) (by decide) dX9_cross_131 (fun _ => ?_)
  refine pz_aload_n 0 dX9_cross_134 rfl ?_
  refine pz_getR (ci := 9) (k := 0) ck_9 (by decide) (Or.inl pw_153) dX9_cross_135 (fun x12 => ?_)
  refine pz_aload_n 3 dX9_cross_138 rfl ?_
  refine pz_aload 4 dX9_cross_139 rfl ?_
  refine pz_iload 5 dX9_cross_141 rfl ?_
  refine pz_ineg dX9_cross_143 ?_
  refine pz_cvU (st := []) (md_X8_addProduct X n x12 l3 l4 (-l5)) ck_8 rfl mk_X8_addProduct (Or.inl pw_704) pw_705 pw_706 rfl rfl (by decide) (by decide) (by decide) dX9_cross_144 (fun _ => ?_)
  refine pz_aload_n 0 dX9_cross_147 rfl ?_
  refine pz_getR (ci := 9) (k := 9) ck_9 (by decide) (Or.inl pw_165) dX9_cross_148 (fun x14 => ?_)
  refine pz_cvI (st := []) (md_X0_isOne X n x14) ck_0 rfl mk_X0_isOne (Or.inl pw_599) pw_600 pw_601 rfl rfl (by decide) (by decide) (by decide) dX9_cross_151 (fun x15 => ?_)
  refine pz_if_eq 166 dX9_cross_154 (by decide) ?_ ?_
  · refine pz_aload_n 0 dX9_cross_166 rfl ?_
    refine pz_getR (ci := 9) (k := 0) ck_9 (by decide) (Or.inl pw_153) dX9_cross_167 (fun x16 => ?_)
    refine pz_aload_n 0 dX9_cross_170 rfl ?_
    refine pz_getR (ci := 9) (k := 12) ck_9 (by decide) (Or.inl pw_170) dX9_cross_171 (fun x17 => ?_)
    refine pz_cvU (st := []) (md_X8_store X n x16 x17) ck_8 rfl mk_X8_store (Or.inl pw_687) pw_688 pw_689 rfl rfl (by decide) (by decide) (by decide) dX9_cross_174 (fun _ => ?_)
    refine pz_aload_n 0 dX9_cross_177 rfl ?_
    refine pz_getR (ci := 9) (k := 1) ck_9 (by decide) (Or.inl pw_154) dX9_cross_178 (fun x19 => ?_)
    refine pz_aload_n 0 dX9_cross_181 rfl ?_
    refine pz_getR (ci := 9) (k := 12) ck_9 (by decide) (Or.inl pw_170) dX9_cross_182 (fun x20 => ?_)
    refine pz_aload_n 0 dX9_cross_185 rfl ?_
    refine pz_getR (ci := 9) (k := 9) ck_9 (by decide) (Or.inl pw_165) dX9_cross_186 (fun x21 => ?_)
    refine pz_cvU (st := []) (md_X2_divide X n x19 x20 x21) ck_2 rfl mk_X2_divide (Or.inl pw_603) pw_604 pw_605 rfl rfl (by decide) (by decide) (by decide) dX9_cross_189 (fun _ => ?_)
    refine pz_aload_n 1 dX9_cross_192 rfl ?_
    refine pz_aload_n 0 dX9_cross_193 rfl ?_
    refine pz_getR (ci := 9) (k := 1) ck_9 (by decide) (Or.inl pw_154) dX9_cross_194 (fun x23 => ?_)
    refine pz_getR (ci := 2) (k := 0) ck_2 (by decide) (Or.inl pw_109) dX9_cross_197 (fun x24 => ?_)
    refine pz_aload_n 0 dX9_cross_200 rfl ?_
    refine pz_getR (ci := 9) (k := 12) ck_9 (by decide) (Or.inl pw_170) dX9_cross_201 (fun x25 => ?_)
    refine pz_getI (ci := 0) (k := 2) ck_0 (by decide) (Or.inl pw_99) dX9_cross_204 (fun x26 => ?_)
    refine pz_cvU (st := []) (md_X0_set X n l1 x24 x26) ck_0 rfl mk_X0_set (Or.inl pw_708) pw_613 pw_614 rfl rfl (by decide) (by decide) (by decide) dX9_cross_207 (fun _ => ?_)
    exact pz_vret rfl dX9_cross_210
  · refine pz_aload_n 0 dX9_cross_157 rfl ?_
    refine pz_getR (ci := 9) (k := 0) ck_9 (by decide) (Or.inl pw_153) dX9_cross_158 (fun x28 => ?_)
    refine pz_aload_n 1 dX9_cross_161 rfl ?_
    refine pz_cvU (st := []) (md_X8_store X n x28 l1) ck_8 rfl mk_X8_store (Or.inl pw_687) pw_688 pw_689 rfl rfl (by decide) (by decide) (by decide) dX9_cross_162 (fun _ => ?_)
    exact pz_vret rfl dX9_cross_165
set_option maxRecDepth 20000 in
theorem S_X9_cross_b23 (X : pz_X) (n : Nat) (l0 : Option Nat) (l1 : Option Nat) (l2 : Option Nat) (l3 : Option Nat) (l4 : Option Nat) : pz_Sm X (pz_QM X) J_X9_cross pz_vU 23 [(0, va_rf l0), (1, va_rf l1), (2, va_rf l2), (3, va_rf l3), (4, va_rf l4)] [] (X9_cross_b23 n l0 l1 l2 l3 l4) := by
  unfold X9_cross_b23
  refine pz_aload_n 2 dX9_cross_23 rfl ?_
  refine pz_getI (ci := 0) (k := 2) ck_0 (by decide) (Or.inl pw_99) dX9_cross_24 (fun x4 => ?_)
  refine pz_istore [(5, .int x4), (0, va_rf l0), (1, va_rf l1), (2, va_rf l2), (3, va_rf l3), (4, va_rf l4)] dX9_cross_27 (by decide) (by cases l4 <;> rfl) ?_
  refine pz_aload_n 1 dX9_cross_29 rfl ?_
  refine pz_getR (ci := 9) (k := 9) ck_9 (by decide) (Or.inl pw_165) dX9_cross_30 (fun x5 => ?_)
  refine pz_cvL (st := []) (md_X0_small X n x5) ck_0 rfl mk_X0_small (Or.inl pw_696) pw_697 pw_698 rfl rfl (by decide) (by decide) (by decide) dX9_cross_33 (fun x6 => ?_)
  refine pz_lstore [(6, .long x6), (5, .int x4), (0, va_rf l0), (1, va_rf l1), (2, va_rf l2), (3, va_rf l3), (4, va_rf l4)] dX9_cross_36 (by decide) rfl ?_
  refine pz_aload_n 3 dX9_cross_38 rfl ?_
  refine pz_cvI (st := []) (md_X0_isSmall X n l1) ck_0 rfl mk_X0_isSmall (Or.inl pw_700) pw_701 pw_702 rfl rfl (by decide) (by decide) (by decide) dX9_cross_39 (fun x7 => ?_)
  refine pz_if_eq 116 dX9_cross_42 (by decide) ?_ ?_
  · exact pz_sub [2, 3, 4, 5, 6, 1] rfl (S_X9_cross_b116 X n l0 l1 l2 l3 l4 x4)
  · refine pz_aload_n 4 dX9_cross_45 rfl ?_
    refine pz_cvI (st := []) (md_X0_isSmall X n l2) ck_0 rfl mk_X0_isSmall (Or.inl pw_700) pw_701 pw_702 rfl rfl (by decide) (by decide) (by decide) dX9_cross_46 (fun x30 => ?_)
    refine pz_if_eq 116 dX9_cross_49 (by decide) ?_ ?_
    · exact pz_sub [2, 3, 4, 5, 6, 1] rfl (S_X9_cross_b116 X n l0 l1 l2 l3 l4 x4)
    · refine pz_aload_n 5 dX9_cross_52 rfl ?_
      refine pz_cvI (st := []) (md_X0_isSmall X n l3) ck_0 rfl mk_X0_isSmall (Or.inl pw_700) pw_701 pw_702 rfl rfl (by decide) (by decide) (by decide) dX9_cross_53 (fun x31 => ?_)
      refine pz_if_eq 116 dX9_cross_56 (by decide) ?_ ?_
      · exact pz_sub [2, 3, 4, 5, 6, 1] rfl (S_X9_cross_b116 X n l0 l1 l2 l3 l4 x4)
      · refine pz_aload 6 dX9_cross_59 rfl ?_
        refine pz_cvI (st := []) (md_X0_isSmall X n l4) ck_0 rfl mk_X0_isSmall (Or.inl pw_700) pw_701 pw_702 rfl rfl (by decide) (by decide) (by decide) dX9_cross_61 (fun x32 => ?_)
        refine pz_if_eq 116 dX9_cross_64 (by decide) ?_ ?_
        · exact pz_sub [2, 3, 4, 5, 6, 1] rfl (S_X9_cross_b116 X n l0 l1 l2 l3 l4 x4)
        · refine pz_aload_n 2 dX9_cross_67 rfl ?_
          refine pz_getR (ci := 9) (k := 9) ck_9 (by decide) (Or.inl pw_165) dX9_cross_68 (fun x33 => ?_)
          refine pz_cvI (st := []) (md_X0_isSmall X n x33) ck_0 rfl mk_X0_isSmall (Or.inl pw_700) pw_701 pw_702 rfl rfl (by decide) (by decide) (by decide) dX9_cross_71 (fun x34 => ?_)
          refine pz_if_eq 116 dX9_cross_74 (by decide) ?_ ?_
          · exact pz_sub [2, 3, 4, 5, 6, 1] rfl (S_X9_cross_b116 X n l0 l1 l2 l3 l4 x4)
          · refine pz_lload 0 dX9_cross_77 rfl ?_
            refine pz_lconst 0 dX9_cross_79 (by decide) ?_
            refine pz_lcmp dX9_cross_80 ?_
            refine pz_if_le 116 dX9_cross_81 (by decide) ?_ ?_
            · exact pz_sub [2, 3, 4, 5, 6, 1] rfl (S_X9_cross_b116 X n l0 l1 l2 l3 l4 x4)
            · refine pz_aload_n 3 dX9_cross_84 rfl ?_
              refine pz_iload 1 dX9_cross_85 rfl ?_
              refine pz_i2l dX9_cross_87 ?_
              refine pz_aload_n 3 dX9_cross_88 rfl ?_
              refine pz_cvL (st := [.long (Int32.toInt64 x4), va_rf l1]) (md_X0_small X n l1) ck_0 rfl mk_X0_small (Or.inl pw_696) pw_697 pw_698 rfl rfl (by simp [pz_rf1, pz_ci, pz_cl]) (by decide) (by decide) dX9_cross_89 (fun x35 => ?_)
              refine pz_aload_n 4 dX9_cross_92 rfl ?_
              refine pz_cvL (st := [.long x35, .long (Int32.toInt64 x4), va_rf l1]) (md_X0_small X n l2) ck_0 rfl mk_X0_small (Or.inl pw_696) pw_697 pw_698 rfl rfl (by simp [pz_rf1, pz_ci, pz_cl]) (by decide) (by decide) dX9_cross_93 (fun x36 => ?_)
              refine pz_lmul dX9_cross_96 ?_
              refine pz_aload_n 5 dX9_cross_97 rfl ?_
              refine pz_cvL (st := [.long (x35 * x36), .long (Int32.toInt64 x4), va_rf l1]) (md_X0_small X n l3) ck_0 rfl mk_X0_small (Or.inl pw_696) pw_697 pw_698 rfl rfl (by simp [pz_rf1, pz_ci, pz_cl]) (by decide) (by decide) dX9_cross_98 (fun x37 => ?_)
              refine pz_aload 6 dX9_cross_101 rfl ?_
              refine pz_cvL (st := [.long x37, .long (x35 * x36), .long (Int32.toInt64 x4), va_rf l1]) (md_X0_small X n l4) ck_0 rfl mk_X0_small (Or.inl pw_696) pw_697 pw_698 rfl rfl (by simp [pz_rf1, pz_ci, pz_cl]) (by decide) (by decide) dX9_cross_103 (fun x38 => ?_)
              refine pz_lmul dX9_cross_106 ?_
              refine pz_lsub dX9_cross_107 ?_
              refine pz_lmul dX9_cross_108 ?_
              refine pz_lload 0 dX9_cross_109 rfl ?_
              refine pz_ldiv dX9_cross_111 (fun x39 => ?_)
              refine pz_cvU (st := []) (md_X0_setLong X n l1 x39) ck_0 rfl mk_X0_setLong (Or.inl pw_481) pw_383 pw_384 rfl rfl (by decide) (by decide) (by decide) dX9_cross_112 (fun _ => ?_)
              exact pz_vret rfl dX9_cross_115
set_option maxRecDepth 20000 in
theorem S_X9_cross (X : pz_X) (n : Nat) (l0 : Option Nat) (l1 : Option Nat) (l2 : Option Nat) (l3 : Option Nat) (l4 : Option Nat) : pz_Sm X (pz_QM X) J_X9_cross pz_vU 0 [(0, va_rf l0), (1, va_rf l1), (2, va_rf l2), (3, va_rf l3), (4, va_rf l4)] [] (X9_cross n l0 l1 l2 l3 l4) := by
  unfold X9_cross
  refine pz_aload_n 1 dX9_cross_0 rfl ?_
  refine pz_getI (ci := 0) (k := 2) ck_0 (by decide) (Or.inl pw_99) dX9_cross_1 (fun x1 => ?_)
  refine pz_if_ne 23 dX9_cross_4 (by decide) ?_ ?_
  · refine pz_aload_n 3 dX9_cross_7 rfl ?_
    refine pz_getI (ci := 0) (k := 2) ck_0 (by decide) (Or.inl pw_99) dX9_cross_8 (fun x2 => ?_)
    refine pz_if_eq 22 dX9_cross_11 (by decide) ?_ ?_
    · exact pz_sub [] rfl (S_X9_cross_b22 X n)
    · refine pz_aload 4 dX9_cross_14 rfl ?_
      refine pz_getI (ci := 0) (k := 2) ck_0 (by decide) (Or.inl pw_99) dX9_cross_16 (fun x3 => ?_)
      refine pz_if_ne 23 dX9_cross_19 (by decide) ?_ ?_
      · exact pz_sub [] rfl (S_X9_cross_b22 X n)
      · exact pz_sub [0, 1, 2, 3, 4] rfl (S_X9_cross_b23 X n l0 l1 l2 l3 l4)
  · exact pz_sub [0, 1, 2, 3, 4] rfl (S_X9_cross_b23 X n l0 l1 l2 l3 l4)
set_option maxRecDepth 20000 in
theorem md_X9_cross (X : pz_X) (n : Nat) (l0 : Option Nat) (l1 : Option Nat) (l2 : Option Nat) (l3 : Option Nat) (l4 : Option Nat) : pz_Md X yX9_cross J_X9_cross pz_vU [va_rf l0, va_rf l1, va_rf l2, va_rf l3, va_rf l4] (X9_cross n l0 l1 l2 l3 l4) :=
  pz_md [(0, va_rf l0), (1, va_rf l1), (2, va_rf l2), (3, va_rf l3), (4, va_rf l4)] (by decide +kernel) rfl rfl (by cases l0 <;> cases l1 <;> cases l2 <;> cases l3 <;> cases l4 <;> rfl) (by cases l0 <;> cases l1 <;> cases l2 <;> cases l3 <;> cases l4 <;> exact Nat.le_of_ble_eq_true rfl) (fun X => S_X9_cross X n l0 l1 l2 l3 l4)
set_option maxRecDepth 20000 in
theorem S_X9_turnRow_b102 (X : pz_X) (n : Nat) (l0 : Option Nat) (l1 : Int32) (l2 : Int32) (l3 : Option Nat) (l4 : Int32) (K69 : Int32 → pz_C Unit) (hK69 : ∀ (l5 : Int32), pz_Sm X (pz_QM X) J_X9_turnRow pz_vU 69 [(0, va_rf l0), (1, .int l1), (2, .int l2), (3, va_rf l3), (4, .int l4), (5, .int l5)] [] (K69 l5)) (l5 : Int32) : pz_Sm X (pz_QM X) J_X9_turnRow pz_vU 102 [(0, va_rf l0), (1, .int l1), (2, .int l2), (3, va_rf l3), (4, .int l4), (5, .int l5)] [] (X9_turnRow_b102 n K69 l0 l1 l2 l3 l4 l5) := by
  unfold X9_turnRow_b102
  refine pz_iinc 5 1 (fun l5_24 => [(5, .int l5_24), (0, va_rf l0), (1, .int l1), (2, .int l2), (3, va_rf l3), (4, .int l4)]) dX9_turnRow_102 rfl (by decide) (by decide) (fun l5_24 => rfl) (fun l5_24 => ?_)
  refine pz_goto 69 dX9_turnRow_105 (by decide) ?_
  exact pz_sub [1, 2, 3, 4, 5, 0] rfl (hK69 l5_24)
set_option maxRecDepth 20000 in
theorem S_X9_turnRow_L69_body (X : pz_X) (n : Nat) (l0 : Option Nat) (l1 : Int32) (l2 : Int32) (l3 : Option Nat) (l4 : Int32) (K69 : Int32 → pz_C Unit) (hK69 : ∀ (l5 : Int32), pz_Sm X (pz_QM X) J_X9_turnRow pz_vU 69 [(0, va_rf l0), (1, .int l1), (2, .int l2), (3, va_rf l3), (4, .int l4), (5, .int l5)] [] (K69 l5)) (l5 : Int32) : pz_Sm X (pz_QM X) J_X9_turnRow pz_vU 69 [(0, va_rf l0), (1, .int l1), (2, .int l2), (3, va_rf l3), (4, .int l4), (5, .int l5)] [] (X9_turnRow_L69_body n l0 l1 l2 l3 l4 K69 l5) := by
  unfold X9_turnRow_L69_body
  refine pz_iload 5 dX9_turnRow_69 rfl ?_
  refine pz_aload_n 0 dX9_turnRow_71 rfl ?_
  refine pz_getI (ci := 9) (k := 14) ck_9 (by decide) (Or.inl pw_172) dX9_turnRow_72 (fun x16 => ?_)
  refine pz_icmp_ge 108 dX9_turnRow_75 (by decide) ?_ ?_
  · refine pz_aload_n 0 dX9_turnRow_108 rfl ?_
    refine pz_getR (ci := 9) (k := 11) ck_9 (by decide) (Or.inl pw_169) dX9_turnRow_109 (fun x17 => ?_)
    refine pz_aload_n 0 dX9_turnRow_112 rfl ?_
    refine pz_getR (ci := 9) (k := 9) ck_9 (by decide) (Or.inl pw_165) dX9_turnRow_113 (fun x18 => ?_)
    refine pz_iload 4 dX9_turnRow_116 rfl ?_
    refine pz_cvU (st := []) (md_X0_set X n x17 x18 l4) ck_0 rfl mk_X0_set (Or.inl pw_708) pw_613 pw_614 rfl rfl (by decide) (by decide) (by decide) dX9_turnRow_118 (fun _ => ?_)
    refine pz_aload_n 0 dX9_turnRow_121 rfl ?_
    refine pz_getR (ci := 9) (k := 9) ck_9 (by decide) (Or.inl pw_165) dX9_turnRow_122 (fun x20 => ?_)
    refine pz_aload_n 3 dX9_turnRow_125 rfl ?_
    refine pz_iload 4 dX9_turnRow_126 rfl ?_
    refine pz_cvU (st := []) (md_X0_set X n x20 l3 l4) ck_0 rfl mk_X0_set (Or.inl pw_708) pw_613 pw_614 rfl rfl (by decide) (by decide) (by decide) dX9_turnRow_128 (fun _ => ?_)
    refine pz_aload_n 3 dX9_turnRow_131 rfl ?_
    refine pz_aload_n 0 dX9_turnRow_132 rfl ?_
    refine pz_getR (ci := 9) (k := 11) ck_9 (by decide) (Or.inl pw_169) dX9_turnRow_133 (fun x22 => ?_)
    refine pz_iconst 1 dX9_turnRow_136 (by decide) ?_
    refine pz_cvU (st := []) (md_X0_set X n l3 x22 1) ck_0 rfl mk_X0_set (Or.inl pw_708) pw_613 pw_614 rfl rfl (by decide) (by decide) (by decide) dX9_turnRow_137 (fun _ => ?_)
    exact pz_vret rfl dX9_turnRow_140
  · refine pz_iload 5 dX9_turnRow_78 rfl ?_
    refine pz_iload_n 2 dX9_turnRow_80 rfl ?_
    refine pz_icmp_eq 102 dX9_turnRow_81 (by decide) ?_ ?_
    · exact pz_sub [0, 1, 2, 3, 4, 5] rfl (S_X9_turnRow_b102 X n l0 l1 l2 l3 l4 K69 hK69 l5)
    · refine pz_aload_n 0 dX9_turnRow_84 rfl ?_
      refine pz_iload_n 1 dX9_turnRow_85 rfl ?_
      refine pz_iload 5 dX9_turnRow_86 rfl ?_
      refine pz_cvR (st := []) (md_X9_cell X n l0 l1 l5) ck_9 rfl mk_X9_cell (Or.inl pw_490) pw_491 pw_492 rfl rfl (by decide) (by decide) (by decide) dX9_turnRow_88 (fun x25 => ?_)
      refine pz_dup dX9_turnRow_91 (pz_rf1 _) ?_
      refine pz_getI (ci := 0) (k := 2) ck_0 (by decide) (Or.inl pw_99) dX9_turnRow_92 (fun x26 => ?_)
      refine pz_iload 4 dX9_turnRow_95 rfl ?_
      refine pz_ineg dX9_turnRow_97 ?_
      refine pz_imul dX9_turnRow_98 ?_
      refine pz_put (ci := 0) (k := 2) ck_0 (by decide) (Or.inl pw_99) (Or.inl rfl) rfl rfl dX9_turnRow_99 ?_
      exact pz_sub [0, 1, 2, 3, 4, 5] rfl (S_X9_turnRow_b102 X n l0 l1 l2 l3 l4 K69 hK69 l5)
set_option maxRecDepth 20000 in
theorem S_X9_turnRow_L69 (X : pz_X) (n : Nat) (l0 : Option Nat) (l1 : Int32) (l2 : Int32) (l3 : Option Nat) (l4 : Int32) (l5 : Int32) : pz_Sm X (pz_QM X) J_X9_turnRow pz_vU 69 [(0, va_rf l0), (1, .int l1), (2, .int l2), (3, va_rf l3), (4, .int l4), (5, .int l5)] [] (X9_turnRow_L69 n l0 l1 l2 l3 l4 l5) :=
  pz_lp (L := fun (s : Int32) => [(0, va_rf l0), (1, .int l1), (2, .int l2), (3, va_rf l3), (4, .int l4), (5, .int s)]) (fun K hK s => S_X9_turnRow_L69_body X n l0 l1 l2 l3 l4 (fun l5 => K l5) (fun l5 => hK l5) s) n l5
set_option maxRecDepth 20000 in
theorem S_X9_turnRow (X : pz_X) (n : Nat) (l0 : Option Nat) (l1 : Int32) (l2 : Int32) : pz_Sm X (pz_QM X) J_X9_turnRow pz_vU 0 [(0, va_rf l0), (1, .int l1), (2, .int l2)] [] (X9_turnRow n l0 l1 l2) := by
  unfold X9_turnRow
  refine pz_aload_n 0 dX9_turnRow_0 rfl ?_
  refine pz_iload_n 1 dX9_turnRow_1 rfl ?_
  refine pz_iload_n 2 dX9_turnRow_2 rfl ?_
  refine pz_cvR (st := []) (md_X9_cell X n l0 l1 l2) ck_9 rfl mk_X9_cell (Or.inl pw_490) pw_491 pw_492 rfl rfl (by decide) (by decide) (by decide) dX9_turnRow_3 (fun x1 => ?_)
  refine pz_astore_n [(3, va_rf x1), (0, va_rf l0), (1, .int l1), (2, .int l2)] dX9_turnRow_6 (by decide) rfl ?_
  refine pz_aload_n 0 dX9_turnRow_7 rfl ?_
  refine pz_getI (ci := 0) (k := 2) ck_0 (by decide) (Or.inl pw_99) dX9_turnRow_8 (fun x2 => ?_)
  refine pz_istore [(4, .int x2), (3, va_rf x1), (0, va_rf l0), (1, .int l1), (2, .int l2)] dX9_turnRow_11 (by decide) (by cases x1 <;> rfl) ?_
  refine pz_aload_n 2 dX9_turnRow_13 rfl ?_
  refine pz_getR (ci := 9) (k := 0) ck_9 (by decide) (Or.inl pw_153) dX9_turnRow_14 (fun x3 => ?_)
  refine pz_cvU (st := []) (md_X8_clear X n x3) ck_8 rfl mk_X8_clear (Or.inl pw_574) pw_575 pw_576 rfl rfl (by decide) (by decide) (by decide) dX9_turnRow_17 (fun _ => ?_)
  refine pz_aload_n 2 dX9_turnRow_20 rfl ?_
  refine pz_getR (ci := 9) (k := 0) ck_9 (by decide) (Or.inl pw_153) dX9_turnRow_21 (fun x5 => ?_)
  refine pz_aload_n 1 dX9_turnRow_24 rfl ?_
  refine pz_iload 0 dX9_turnRow_25 rfl ?_
  refine pz_i2l dX9_turnRow_27 ?_
  refine pz_aload_n 2 dX9_turnRow_28 rfl ?_
  refine pz_getR (ci := 9) (k := 4) ck_9 (by decide) (Or.inl pw_157) dX9_turnRow_29 (fun x6 => ?_)
  refine pz_iload_n 4 dX9_turnRow_32 rfl ?_
  refine pz_lald (t := 2) rfl dX9_turnRow_33 (fun x7 => ?_)
  refine pz_lmul dX9_turnRow_34 ?_
  refine pz_cvU (st := []) (md_X8_addTimes X n x5 x1 ((Int32.toInt64 x2) * x7)) ck_8 rfl mk_X8_addTimes (Or.inl pw_578) pw_579 pw_580 rfl rfl (by decide) (by decide) (by decide) dX9_turnRow_35 (fun _ => ?_)
  refine pz_aload_n 2 dX9_turnRow_38 rfl ?_
  refine pz_getR (ci := 9) (k := 0) ck_9 (by decide) (Or.inl pw_153) dX9_turnRow_39 (fun x9 => ?_)
  refine pz_aload_n 2 dX9_turnRow_42 rfl ?_
  refine pz_getR (ci := 9) (k := 10) ck_9 (by decide) (Or.inl pw_168) dX9_turnRow_43 (fun x10 => ?_)
  refine pz_iload 0 dX9_turnRow_46 rfl ?_
  refine pz_ineg dX9_turnRow_48 ?_
  refine pz_i2l dX9_turnRow_49 ?_
  refine pz_cvU (st := []) (md_X8_addTimes X n x9 x10 (Int32.toInt64 (-x2))) ck_8 rfl mk_X8_addTimes (Or.inl pw_578) pw_579 pw_580 rfl rfl (by decide) (by decide) (by decide) dX9_turnRow_50 (fun _ => ?_)
  refine pz_aload_n 2 dX9_turnRow_53 rfl ?_
  refine pz_getR (ci := 9) (k := 0) ck_9 (by decide) (Or.inl pw_153) dX9_turnRow_54 (fun x12 => ?_)
  refine pz_aload_n 2 dX9_turnRow_57 rfl ?_
  refine pz_getR (ci := 9) (k := 3) ck_9 (by decide) (Or.inl pw_156) dX9_turnRow_58 (fun x13 => ?_)
  refine pz_iload_n 3 dX9_turnRow_61 rfl ?_
  refine pz_aald (t := 3) rfl rfl dX9_turnRow_62 (fun x14 => ?_)
  refine pz_cvU (st := []) (md_X8_store X n x12 x14) ck_8 rfl mk_X8_store (Or.inl pw_687) pw_688 pw_689 rfl rfl (by decide) (by decide) (by decide) dX9_turnRow_63 (fun _ => ?_)
  refine pz_iconst 0 dX9_turnRow_66 (by decide) ?_
  refine pz_istore [(5, .int 0), (4, .int x2), (3, va_rf x1), (0, va_rf l0), (1, .int l1), (2, .int l2)] dX9_turnRow_67 (by decide) rfl ?_
  exact pz_sub [3, 4, 5, 2, 1, 0] rfl (S_X9_turnRow_L69 X n l0 l1 l2 x1 x2 0)
set_option maxRecDepth 20000 in
theorem md_X9_turnRow (X : pz_X) (n : Nat) (l0 : Option Nat) (l1 : Int32) (l2 : Int32) : pz_Md X yX9_turnRow J_X9_turnRow pz_vU [va_rf l0, .int l1, .int l2] (X9_turnRow n l0 l1 l2) :=
  pz_md [(0, va_rf l0), (1, .int l1), (2, .int l2)] (by decide +kernel) rfl rfl (by cases l0 <;> rfl) (by cases l0 <;> exact Nat.le_of_ble_eq_true rfl) (fun X => S_X9_turnRow X n l0 l1 l2)
set_option maxRecDepth 20000 in
theorem S_X9_exchange_b137 (X : pz_X) (n : Nat) (l0 : Option Nat) (l1 : Int32) (l2 : Int32) (l3 : Int64) (l5 : Option Nat) (K29 : Int32 → pz_C Unit) (hK29 : ∀ (l6 : Int32), pz_Sm X (pz_QM X) J_X9_exchange pz_vU 29 [(0, va_rf l0), (1, .int l1), (2, .int l2), (3, .long l3), (5, va_rf l5), (6, .int l6)] [] (K29 l6)) (l6 : Int32) : pz_Sm X (pz_QM X) J_X9_exchange pz_vU 137 [(0, va_rf l0), (1, .int l1), (2, .int l2), (3, .long l3), (5, va_rf l5), (6, .int l6)] [] (X9_exchange_b137 n K29 l0 l1 l2 l3 l5 l6) := by
  unfold X9_exchange_b137
  refine pz_iinc 5 1 (fun l6_15 => [(6, .int l6_15), (0, va_rf l0), (1, .int l1), (2, .int l2), (3, .long l3), (5, va_rf l5)]) dX9_exchange_137 rfl (by decide) (by decide) (fun l6_15 => (by cases l5 <;> rfl)) (fun l6_15 => ?_)
  refine pz_goto 29 dX9_exchange_140 (by decide) ?_
  exact pz_sub [1, 2, 3, 4, 5, 0] rfl (hK29 l6_15)
set_option maxRecDepth 20000 in
theorem S_X9_exchange_b97 (X : pz_X) (n : Nat) (l0 : Option Nat) (l1 : Int32) (l2 : Int32) (l3 : Int64) (l5 : Option Nat) (l6 : Int32) (l7 : Option Nat) (K29 : Int32 → pz_C Unit) (K59 : Int32 → pz_C Unit) (hK29 : ∀ (l6 : Int32), pz_Sm X (pz_QM X) J_X9_exchange pz_vU 29 [(0, va_rf l0), (1, .int l1), (2, .int l2), (3, .long l3), (5, va_rf l5), (6, .int l6)] [] (K29 l6)) (hK59 : ∀ (l8 : Int32), pz_Sm X (pz_QM X) J_X9_exchange pz_vU 59 [(0, va_rf l0), (1, .int l1), (2, .int l2), (3, .long l3), (5, va_rf l5), (6, .int l6), (7, va_rf l7), (8, .int l8)] [] (K59 l8)) (l8 : Int32) : pz_Sm X (pz_QM X) J_X9_exchange pz_vU 97 [(0, va_rf l0), (1, .int l1), (2, .int l2), (3, .long l3), (5, va_rf l5), (6, .int l6), (7, va_rf l7), (8, .int l8)] [] (X9_exchange_b97 n K29 K59 l0 l1 l2 l3 l5 l6 l7 l8) := by
  unfold X9_exchange_b97
  refine pz_iinc 7 1 (fun l8_24 => [(8, .int l8_24), (0, va_rf l0), (1, .int l1), (2, .int l2), (3, .long l3), (5, va_rf l5), (6, .int l6), (7, va_rf l7)]) dX9_exchange_97 rfl (by decide) (by decide) (fun l8_24 => (by cases l7 <;> rfl)) (fun l8_24 => ?_)
  refine pz_goto 59 dX9_exchange_100 (by decide) ?_
  exact pz_sub [1, 2, 3, 4, 5, 6, 7, 0] rfl (hK59 l8_24)
set_option maxRecDepth 20000 in
theorem S_X9_exchange_L59_body (X : pz_X) (n : Nat) (l0 : Option Nat) (l1 : Int32) (l2 : Int32) (l3 : Int64) (l5 : Option Nat) (K29 : Int32 → pz_C Unit) (hK29 : ∀ (l6 : Int32), pz_Sm X (pz_QM X) J_X9_exchange pz_vU 29 [(0, va_rf l0), (1, .int l1), (2, .int l2), (3, .long l3), (5, va_rf l5), (6, .int l6)] [] (K29 l6)) (l6 : Int32) (l7 : Option Nat) (K59 : Int32 → pz_C Unit) (hK59 : ∀ (l8 : Int32), pz_Sm X (pz_QM X) J_X9_exchange pz_vU 59 [(0, va_rf l0), (1, .int l1), (2, .int l2), (3, .long l3), (5, va_rf l5), (6, .int l6), (7, va_rf l7), (8, .int l8)] [] (K59 l8)) (l8 : Int32) : pz_Sm X (pz_QM X) J_X9_exchange pz_vU 59 [(0, va_rf l0), (1, .int l1), (2, .int l2), (3, .long l3), (5, va_rf l5), (6, .int l6), (7, va_rf l7), (8, .int l8)] [] (X9_exchange_L59_body n K29 l0 l1 l2 l3 l5 l6 l7 K59 l8) := by
  unfold X9_exchange_L59_body
  refine pz_iload 7 dX9_exchange_59 rfl ?_
  refine pz_aload_n 0 dX9_exchange_61 rfl ?_
  refine pz_getI (ci := 9) (k := 14) ck_9 (by decide) (Or.inl pw_172) dX9_exchange_62 (fun x17 => ?_)
  refine pz_icmp_ge 103 dX9_exchange_65 (by decide) ?_ ?_
  · refine pz_aload_n 0 dX9_exchange_103 rfl ?_
    refine pz_aload_n 0 dX9_exchange_104 rfl ?_
    refine pz_getR (ci := 9) (k := 3) ck_9 (by decide) (Or.inl pw_156) dX9_exchange_105 (fun x18 => ?_)
    refine pz_iload 5 dX9_exchange_108 rfl ?_
    refine pz_aald (t := 3) rfl rfl dX9_exchange_110 (fun x19 => ?_)
    refine pz_aload 4 dX9_exchange_111 rfl ?_
    refine pz_aload 6 dX9_exchange_113 rfl ?_
    refine pz_aload_n 0 dX9_exchange_115 rfl ?_
    refine pz_getR (ci := 9) (k := 10) ck_9 (by decide) (Or.inl pw_168) dX9_exchange_116 (fun x20 => ?_)
    refine pz_cvU (st := []) (md_X9_cross X n l0 x19 l5 l7 x20) ck_9 rfl mk_X9_cross (Or.inl pw_692) pw_694 ps_15 rfl rfl (by decide) (by decide) (by decide) dX9_exchange_119 (fun _ => ?_)
    refine pz_aload 6 dX9_exchange_122 rfl ?_
    refine pz_dup dX9_exchange_124 (pz_rf1 _) ?_
    refine pz_getI (ci := 0) (k := 2) ck_0 (by decide) (Or.inl pw_99) dX9_exchange_125 (fun x22 => ?_)
    refine pz_aload 4 dX9_exchange_128 rfl ?_
    refine pz_getI (ci := 0) (k := 2) ck_0 (by decide) (Or.inl pw_99) dX9_exchange_130 (fun x23 => ?_)
    refine pz_imul dX9_exchange_133 ?_
    refine pz_put (ci := 0) (k := 2) ck_0 (by decide) (Or.inl pw_99) (Or.inl rfl) rfl rfl dX9_exchange_134 ?_
    exact pz_sub [0, 1, 2, 3, 4, 5] rfl (S_X9_exchange_b137 X n l0 l1 l2 l3 l5 K29 hK29 l6)
  · refine pz_iload 7 dX9_exchange_68 rfl ?_
    refine pz_iload_n 2 dX9_exchange_70 rfl ?_
    refine pz_icmp_eq 97 dX9_exchange_71 (by decide) ?_ ?_
    · exact pz_sub [0, 1, 2, 3, 4, 5, 6, 7] rfl (S_X9_exchange_b97 X n l0 l1 l2 l3 l5 l6 l7 K29 K59 hK29 hK59 l8)
    · refine pz_aload_n 0 dX9_exchange_74 rfl ?_
      refine pz_aload_n 0 dX9_exchange_75 rfl ?_
      refine pz_iload 5 dX9_exchange_76 rfl ?_
      refine pz_iload 7 dX9_exchange_78 rfl ?_
      refine pz_cvR (st := [va_rf l0]) (md_X9_cell X n l0 l6 l8) ck_9 rfl mk_X9_cell (Or.inl pw_490) pw_491 pw_492 rfl rfl (by simp [pz_rf1, pz_ci, pz_cl]) (by decide) (by decide) dX9_exchange_80 (fun x25 => ?_)
      refine pz_aload 4 dX9_exchange_83 rfl ?_
      refine pz_aload 6 dX9_exchange_85 rfl ?_
      refine pz_aload_n 0 dX9_exchange_87 rfl ?_
      refine pz_iload_n 1 dX9_exchange_88 rfl ?_
      refine pz_iload 7 dX9_exchange_89 rfl ?_
      refine pz_cvR (st := [va_rf l7, va_rf l5, va_rf x25, va_rf l0]) (md_X9_cell X n l0 l1 l8) ck_9 rfl mk_X9_cell (Or.inl pw_490) pw_491 pw_492 rfl rfl (by simp [pz_rf1, pz_ci, pz_cl]) (by decide) (by decide) dX9_exchange_91 (fun x26 => ?_)
      refine pz_cvU (st := []) (md_X9_cross X n l0 x25 l5 l7 x26) ck_9 rfl mk_X9_cross (Or.inl pw_692) pw_694 ps_15 rfl rfl (by decide) (by decide) (by decide) dX9_exchange_94 (fun _ => ?_)
      exact pz_sub [0, 1, 2, 3, 4, 5, 6, 7] rfl (S_X9_exchange_b97 X n l0 l1 l2 l3 l5 l6 l7 K29 K59 hK29 hK59 l8)
set_option maxRecDepth 20000 in
theorem S_X9_exchange_L59 (X : pz_X) (n : Nat) (l0 : Option Nat) (l1 : Int32) (l2 : Int32) (l3 : Int64) (l5 : Option Nat) (K29 : Int32 → pz_C Unit) (hK29 : ∀ (l6 : Int32), pz_Sm X (pz_QM X) J_X9_exchange pz_vU 29 [(0, va_rf l0), (1, .int l1), (2, .int l2), (3, .long l3), (5, va_rf l5), (6, .int l6)] [] (K29 l6)) (l6 : Int32) (l7 : Option Nat) (l8 : Int32) : pz_Sm X (pz_QM X) J_X9_exchange pz_vU 59 [(0, va_rf l0), (1, .int l1), (2, .int l2), (3, .long l3), (5, va_rf l5), (6, .int l6), (7, va_rf l7), (8, .int l8)] [] (X9_exchange_L59 n K29 l0 l1 l2 l3 l5 l6 l7 l8) :=
  pz_lp (L := fun (s : Int32) => [(0, va_rf l0), (1, .int l1), (2, .int l2), (3, .long l3), (5, va_rf l5), (6, .int l6), (7, va_rf l7), (8, .int s)]) (fun K hK s => S_X9_exchange_L59_body X n l0 l1 l2 l3 l5 K29 hK29 l6 l7 (fun l8 => K l8) (fun l8 => hK l8) s) n l8
set_option maxRecDepth 20000 in
theorem S_X9_exchange_L29_body (X : pz_X) (n : Nat) (l0 : Option Nat) (l1 : Int32) (l2 : Int32) (l3 : Int64) (l5 : Option Nat) (K29 : Int32 → pz_C Unit) (hK29 : ∀ (l6 : Int32), pz_Sm X (pz_QM X) J_X9_exchange pz_vU 29 [(0, va_rf l0), (1, .int l1), (2, .int l2), (3, .long l3), (5, va_rf l5), (6, .int l6)] [] (K29 l6)) (l6 : Int32) : pz_Sm X (pz_QM X) J_X9_exchange pz_vU 29 [(0, va_rf l0), (1, .int l1), (2, .int l2), (3, .long l3), (5, va_rf l5), (6, .int l6)] [] (X9_exchange_L29_body n l0 l1 l2 l3 l5 K29 l6) := by
  unfold X9_exchange_L29_body
  refine pz_iload 5 dX9_exchange_29 rfl ?_
  refine pz_aload_n 0 dX9_exchange_31 rfl ?_
  refine pz_getI (ci := 9) (k := 13) ck_9 (by decide) (Or.inl pw_171) dX9_exchange_32 (fun x6 => ?_)
  refine pz_icmp_ge 143 dX9_exchange_35 (by decide) ?_ ?_
  · refine pz_aload_n 0 dX9_exchange_143 rfl ?_
    refine pz_iload_n 1 dX9_exchange_144 rfl ?_
    refine pz_iload_n 2 dX9_exchange_145 rfl ?_
    refine pz_cvU (st := []) (md_X9_turnRow X n l0 l1 l2) ck_9 rfl mk_X9_turnRow (Or.inl pw_709) pw_711 ps_16 rfl rfl (by decide) (by decide) (by decide) dX9_exchange_146 (fun _ => ?_)
    refine pz_aload_n 0 dX9_exchange_149 rfl ?_
    refine pz_getR (ci := 9) (k := 4) ck_9 (by decide) (Or.inl pw_157) dX9_exchange_150 (fun x8 => ?_)
    refine pz_iload_n 2 dX9_exchange_153 rfl ?_
    refine pz_lload_n 3 dX9_exchange_154 rfl ?_
    refine pz_last (t := 2) rfl dX9_exchange_155 ?_
    refine pz_aload_n 0 dX9_exchange_156 rfl ?_
    refine pz_getR (ci := 9) (k := 5) ck_9 (by decide) (Or.inl pw_159) dX9_exchange_157 (fun x9 => ?_)
    refine pz_iload_n 1 dX9_exchange_160 rfl ?_
    refine pz_iald (t := 0) rfl dX9_exchange_161 (fun x10 => ?_)
    refine pz_istore [(6, .int x10), (0, va_rf l0), (1, .int l1), (2, .int l2), (3, .long l3), (5, va_rf l5)] dX9_exchange_162 (by decide) (by cases l5 <;> rfl) ?_
    refine pz_aload_n 1 dX9_exchange_164 rfl ?_
    refine pz_iload_n 2 dX9_exchange_165 rfl ?_
    refine pz_aload_n 1 dX9_exchange_166 rfl ?_
    refine pz_getR (ci := 9) (k := 6) ck_9 (by decide) (Or.inl pw_161) dX9_exchange_167 (fun x11 => ?_)
    refine pz_iload_n 3 dX9_exchange_170 rfl ?_
    refine pz_iald (t := 0) rfl dX9_exchange_171 (fun x12 => ?_)
    refine pz_cvU (st := []) (md_X9_seatRow X n l0 l1 x12) ck_9 rfl mk_X9_seatRow (Or.inl pw_486) pw_488 ps_1 rfl rfl (by decide) (by decide) (by decide) dX9_exchange_172 (fun _ => ?_)
    refine pz_aload_n 1 dX9_exchange_175 rfl ?_
    refine pz_iload_n 3 dX9_exchange_176 rfl ?_
    refine pz_iload 0 dX9_exchange_177 rfl ?_
    refine pz_cvU (st := []) (md_X9_seatColumn X n l0 l2 x10) ck_9 rfl mk_X9_seatColumn (Or.inl pw_482) pw_484 ps_0 rfl rfl (by decide) (by decide) (by decide) dX9_exchange_179 (fun _ => ?_)
    exact pz_vret rfl dX9_exchange_182
  · refine pz_iload 5 dX9_exchange_38 rfl ?_
    refine pz_iload_n 1 dX9_exchange_40 rfl ?_
    refine pz_icmp_ne 47 dX9_exchange_41 (by decide) ?_ ?_
    · refine pz_goto 137 dX9_exchange_44 (by decide) ?_
      exact pz_sub [0, 1, 2, 3, 4, 5] rfl (S_X9_exchange_b137 X n l0 l1 l2 l3 l5 K29 hK29 l6)
    · refine pz_aload_n 0 dX9_exchange_47 rfl ?_
      refine pz_iload 5 dX9_exchange_48 rfl ?_
      refine pz_iload_n 2 dX9_exchange_50 rfl ?_
      refine pz_cvR (st := []) (md_X9_cell X n l0 l6 l2) ck_9 rfl mk_X9_cell (Or.inl pw_490) pw_491 pw_492 rfl rfl (by decide) (by decide) (by decide) dX9_exchange_51 (fun x16 => ?_)
      refine pz_astore [(7, va_rf x16), (0, va_rf l0), (1, .int l1), (2, .int l2), (3, .long l3), (5, va_rf l5), (6, .int l6)] dX9_exchange_54 (by decide) rfl ?_
      refine pz_iconst 0 dX9_exchange_56 (by decide) ?_
      refine pz_istore [(8, .int 0), (7, va_rf x16), (0, va_rf l0), (1, .int l1), (2, .int l2), (3, .long l3), (5, va_rf l5), (6, .int l6)] dX9_exchange_57 (by decide) (by cases x16 <;> rfl) ?_
      exact pz_sub [2, 3, 4, 5, 6, 7, 1, 0] rfl (S_X9_exchange_L59 X n l0 l1 l2 l3 l5 K29 hK29 l6 x16 0)
set_option maxRecDepth 20000 in
theorem S_X9_exchange_L29 (X : pz_X) (n : Nat) (l0 : Option Nat) (l1 : Int32) (l2 : Int32) (l3 : Int64) (l5 : Option Nat) (l6 : Int32) : pz_Sm X (pz_QM X) J_X9_exchange pz_vU 29 [(0, va_rf l0), (1, .int l1), (2, .int l2), (3, .long l3), (5, va_rf l5), (6, .int l6)] [] (X9_exchange_L29 n l0 l1 l2 l3 l5 l6) :=
  pz_lp (L := fun (s : Int32) => [(0, va_rf l0), (1, .int l1), (2, .int l2), (3, .long l3), (5, va_rf l5), (6, .int s)]) (fun K hK s => S_X9_exchange_L29_body X n l0 l1 l2 l3 l5 (fun l6 => K l6) (fun l6 => hK l6) s) n l6
set_option maxRecDepth 20000 in
theorem S_X9_exchange (X : pz_X) (n : Nat) (l0 : Option Nat) (l1 : Int32) (l2 : Int32) (l3 : Int64) : pz_Sm X (pz_QM X) J_X9_exchange pz_vU 0 [(0, va_rf l0), (1, .int l1), (2, .int l2), (3, .long l3)] [] (X9_exchange n l0 l1 l2 l3) := by
  unfold X9_exchange
  refine pz_aload_n 0 dX9_exchange_0 rfl ?_
  refine pz_iload_n 1 dX9_exchange_1 rfl ?_
  refine pz_iload_n 2 dX9_exchange_2 rfl ?_
  refine pz_cvR (st := []) (md_X9_cell X n l0 l1 l2) ck_9 rfl mk_X9_cell (Or.inl pw_490) pw_491 pw_492 rfl rfl (by decide) (by decide) (by decide) dX9_exchange_3 (fun x1 => ?_)
  refine pz_astore [(5, va_rf x1), (0, va_rf l0), (1, .int l1), (2, .int l2), (3, .long l3)] dX9_exchange_6 (by decide) rfl ?_
  refine pz_aload_n 1 dX9_exchange_8 rfl ?_
  refine pz_iload_n 2 dX9_exchange_9 rfl ?_
  refine pz_lload_n 4 dX9_exchange_10 rfl ?_
  refine pz_cvI (st := []) (md_X9_compareAmount X n l0 l1 l3) ck_9 rfl mk_X9_compareAmount (Or.inl pw_686) pw_571 pw_572 rfl rfl (by decide) (by decide) (by decide) dX9_exchange_11 (fun x2 => ?_)
  refine pz_pop dX9_exchange_14 rfl ?_
  refine pz_aload_n 1 dX9_exchange_15 rfl ?_
  refine pz_getR (ci := 9) (k := 0) ck_9 (by decide) (Or.inl pw_153) dX9_exchange_16 (fun x3 => ?_)
  refine pz_aload_n 1 dX9_exchange_19 rfl ?_
  refine pz_getR (ci := 9) (k := 10) ck_9 (by decide) (Or.inl pw_168) dX9_exchange_20 (fun x4 => ?_)
  refine pz_cvU (st := []) (md_X8_store X n x3 x4) ck_8 rfl mk_X8_store (Or.inl pw_687) pw_688 pw_689 rfl rfl (by decide) (by decide) (by decide) dX9_exchange_23 (fun _ => ?_)
  refine pz_iconst 0 dX9_exchange_26 (by decide) ?_
  refine pz_istore [(6, .int 0), (5, va_rf x1), (0, va_rf l0), (1, .int l1), (2, .int l2), (3, .long l3)] dX9_exchange_27 (by decide) (by cases x1 <;> rfl) ?_
  exact pz_sub [2, 3, 4, 5, 1, 0] rfl (S_X9_exchange_L29 X n l0 l1 l2 l3 x1 0)
set_option maxRecDepth 20000 in
theorem md_X9_exchange (X : pz_X) (n : Nat) (l0 : Option Nat) (l1 : Int32) (l2 : Int32) (l3 : Int64) : pz_Md X yX9_exchange J_X9_exchange pz_vU [va_rf l0, .int l1, .int l2, .long l3] (X9_exchange n l0 l1 l2 l3) :=
  pz_md [(0, va_rf l0), (1, .int l1), (2, .int l2), (3, .long l3)] (by decide +kernel) rfl rfl (by cases l0 <;> rfl) (by cases l0 <;> exact Nat.le_of_ble_eq_true rfl) (fun X => S_X9_exchange X n l0 l1 l2 l3)
set_option maxRecDepth 20000 in
theorem S_X10_isSplit_b14 (X : pz_X) (n : Nat) (s0 : Int32) : pz_Sm X (pz_QM X) J_X10_isSplit pz_vI 14 [] [.int s0] (X10_isSplit_b14 n s0) := by
  unfold X10_isSplit_b14
  exact pz_zret rfl dX10_isSplit_14
set_option maxRecDepth 20000 in
theorem S_X10_isSplit (X : pz_X) (n : Nat) (l0 : Option Nat) (l1 : Int32) : pz_Sm X (pz_QM X) J_X10_isSplit pz_vI 0 [(0, va_rf l0), (1, .int l1)] [] (X10_isSplit n l0 l1) := by
  unfold X10_isSplit
  refine pz_aload_n 0 dX10_isSplit_0 rfl ?_
  refine pz_getR (ci := 10) (k := 1) ck_10 (by decide) (Or.inl pw_215) dX10_isSplit_1 (fun x1 => ?_)
  refine pz_iload_n 1 dX10_isSplit_4 rfl ?_
  refine pz_iald (t := 0) rfl dX10_isSplit_5 (fun x2 => ?_)
  refine pz_if_lt 13 dX10_isSplit_6 (by decide) ?_ ?_
  · refine pz_iconst 0 dX10_isSplit_13 (by decide) ?_
    exact pz_sub [] rfl (S_X10_isSplit_b14 X n 0)
  · refine pz_iconst 1 dX10_isSplit_9 (by decide) ?_
    refine pz_goto 14 dX10_isSplit_10 (by decide) ?_
    exact pz_sub [] rfl (S_X10_isSplit_b14 X n 1)
set_option maxRecDepth 20000 in
theorem md_X10_isSplit (X : pz_X) (n : Nat) (l0 : Option Nat) (l1 : Int32) : pz_Md X yX10_isSplit J_X10_isSplit pz_vI [va_rf l0, .int l1] (X10_isSplit n l0 l1) :=
  pz_md [(0, va_rf l0), (1, .int l1)] (by decide +kernel) rfl rfl (by cases l0 <;> rfl) (by cases l0 <;> exact Nat.le_of_ble_eq_true rfl) (fun X => S_X10_isSplit X n l0 l1)
set_option maxRecDepth 20000 in
theorem S_X10_leafOf_b31 (X : pz_X) (n : Nat) (s0 : Option Nat) : pz_Sm X (pz_QM X) J_X10_leafOf pz_vR 31 [] [va_rf s0] (X10_leafOf_b31 n s0) := by
  unfold X10_leafOf_b31
  exact pz_aret rfl dX10_leafOf_31
set_option maxRecDepth 20000 in
theorem S_X10_leafOf_b30 (X : pz_X) (n : Nat) : pz_Sm X (pz_QM X) J_X10_leafOf pz_vR 30 [] [] (X10_leafOf_b30 n) := by
  unfold X10_leafOf_b30
  refine pz_null dX10_leafOf_30 ?_
  exact pz_sub [] rfl (S_X10_leafOf_b31 X n none)
set_option maxRecDepth 20000 in
theorem S_X10_leafOf (X : pz_X) (n : Nat) (l0 : Option Nat) (l1 : Int32) : pz_Sm X (pz_QM X) J_X10_leafOf pz_vR 0 [(0, va_rf l0), (1, .int l1)] [] (X10_leafOf n l0 l1) := by
  unfold X10_leafOf
  refine pz_aload_n 0 dX10_leafOf_0 rfl ?_
  refine pz_iload_n 1 dX10_leafOf_1 rfl ?_
  refine pz_cvI (st := []) (md_X10_has X n l0 l1) ck_10 rfl mk_X10_has (Or.inl pw_498) pw_499 pw_500 rfl rfl (by decide) (by decide) (by decide) dX10_leafOf_2 (fun x1 => ?_)
  refine pz_if_eq 30 dX10_leafOf_5 (by decide) ?_ ?_
  · exact pz_sub [] rfl (S_X10_leafOf_b30 X n)
  · refine pz_aload_n 0 dX10_leafOf_8 rfl ?_
    refine pz_iload_n 1 dX10_leafOf_9 rfl ?_
    refine pz_cvI (st := []) (md_X10_isSplit X n l0 l1) ck_10 rfl mk_X10_isSplit (Or.inl pw_721) pw_722 pw_723 rfl rfl (by decide) (by decide) (by decide) dX10_leafOf_10 (fun x2 => ?_)
    refine pz_if_ne 30 dX10_leafOf_13 (by decide) ?_ ?_
    · refine pz_aload_n 0 dX10_leafOf_16 rfl ?_
      refine pz_getR (ci := 10) (k := 8) ck_10 (by decide) (Or.inl pw_235) dX10_leafOf_17 (fun x3 => ?_)
      refine pz_aload_n 0 dX10_leafOf_20 rfl ?_
      refine pz_getR (ci := 10) (k := 7) ck_10 (by decide) (Or.inl pw_234) dX10_leafOf_21 (fun x4 => ?_)
      refine pz_iload_n 1 dX10_leafOf_24 rfl ?_
      refine pz_iald (t := 0) rfl dX10_leafOf_25 (fun x5 => ?_)
      refine pz_aald (t := 5) rfl rfl dX10_leafOf_26 (fun x6 => ?_)
      refine pz_goto 31 dX10_leafOf_27 (by decide) ?_
      exact pz_sub [] rfl (S_X10_leafOf_b31 X n x6)
    · exact pz_sub [] rfl (S_X10_leafOf_b30 X n)
set_option maxRecDepth 20000 in
theorem md_X10_leafOf (X : pz_X) (n : Nat) (l0 : Option Nat) (l1 : Int32) : pz_Md X yX10_leafOf J_X10_leafOf pz_vR [va_rf l0, .int l1] (X10_leafOf n l0 l1) :=
  pz_md [(0, va_rf l0), (1, .int l1)] (by decide +kernel) rfl rfl (by cases l0 <;> rfl) (by cases l0 <;> exact Nat.le_of_ble_eq_true rfl) (fun X => S_X10_leafOf X n l0 l1)
set_option maxRecDepth 20000 in
theorem S_X5_ofPlace_b39 (X : pz_X) (n : Nat) (s0 : Option Nat) : pz_Sm X (pz_QM X) J_X5_ofPlace pz_vR 39 [] [va_rf s0] (X5_ofPlace_b39 n s0) := by
  unfold X5_ofPlace_b39
  exact pz_aret rfl dX5_ofPlace_39
set_option maxRecDepth 20000 in
theorem S_X5_ofPlace (X : pz_X) (n : Nat) (l0 : Option Nat) (l1 : Int32) (l2 : Int32) (l3 : Int32) : pz_Sm X (pz_QM X) J_X5_ofPlace pz_vR 0 [(0, va_rf l0), (1, .int l1), (2, .int l2), (3, .int l3)] [] (X5_ofPlace n l0 l1 l2 l3) := by
  unfold X5_ofPlace
  refine pz_iload_n 1 dX5_ofPlace_0 rfl ?_
  refine pz_iload_n 2 dX5_ofPlace_1 rfl ?_
  refine pz_icmp_lt 14 dX5_ofPlace_2 (by decide) ?_ ?_
  · refine pz_iload_n 3 dX5_ofPlace_14 rfl ?_
    refine pz_if_le 30 dX5_ofPlace_15 (by decide) ?_ ?_
    · refine pz_aload_n 0 dX5_ofPlace_30 rfl ?_
      refine pz_getR (ci := 5) (k := 0) ck_5 (by decide) (Or.inl pw_509) dX5_ofPlace_31 (fun x1 => ?_)
      refine pz_bipush 22 dX5_ofPlace_34 (by decide) ?_
      refine pz_iload_n 1 dX5_ofPlace_36 rfl ?_
      refine pz_iadd dX5_ofPlace_37 ?_
      refine pz_aald (t := 4) rfl rfl dX5_ofPlace_38 (fun x2 => ?_)
      exact pz_sub [] rfl (S_X5_ofPlace_b39 X n x2)
    · refine pz_aload_n 0 dX5_ofPlace_18 rfl ?_
      refine pz_getR (ci := 5) (k := 0) ck_5 (by decide) (Or.inl pw_509) dX5_ofPlace_19 (fun x3 => ?_)
      refine pz_bipush 12 dX5_ofPlace_22 (by decide) ?_
      refine pz_iload_n 1 dX5_ofPlace_24 rfl ?_
      refine pz_iadd dX5_ofPlace_25 ?_
      refine pz_aald (t := 4) rfl rfl dX5_ofPlace_26 (fun x4 => ?_)
      refine pz_goto 39 dX5_ofPlace_27 (by decide) ?_
      exact pz_sub [] rfl (S_X5_ofPlace_b39 X n x4)
  · refine pz_aload_n 0 dX5_ofPlace_5 rfl ?_
    refine pz_getR (ci := 5) (k := 0) ck_5 (by decide) (Or.inl pw_509) dX5_ofPlace_6 (fun x5 => ?_)
    refine pz_iload_n 1 dX5_ofPlace_9 rfl ?_
    refine pz_iload_n 2 dX5_ofPlace_10 rfl ?_
    refine pz_isub dX5_ofPlace_11 ?_
    refine pz_aald (t := 4) rfl rfl dX5_ofPlace_12 (fun x6 => ?_)
    exact pz_aret rfl dX5_ofPlace_13
set_option maxRecDepth 20000 in
theorem md_X5_ofPlace (X : pz_X) (n : Nat) (l0 : Option Nat) (l1 : Int32) (l2 : Int32) (l3 : Int32) : pz_Md X yX5_ofPlace J_X5_ofPlace pz_vR [va_rf l0, .int l1, .int l2, .int l3] (X5_ofPlace n l0 l1 l2 l3) :=
  pz_md [(0, va_rf l0), (1, .int l1), (2, .int l2), (3, .int l3)] (by decide +kernel) rfl rfl (by cases l0 <;> rfl) (by cases l0 <;> exact Nat.le_of_ble_eq_true rfl) (fun X => S_X5_ofPlace X n l0 l1 l2 l3)
set_option maxRecDepth 20000 in
theorem S_X3_setQuotient (X : pz_X) (n : Nat) (l0 : Option Nat) (l1 : Option Nat) (l2 : Option Nat) (l3 : Int32) : pz_Sm X (pz_QM X) J_X3_setQuotient pz_vU 0 [(0, va_rf l0), (1, va_rf l1), (2, va_rf l2), (3, .int l3)] [] (X3_setQuotient n l0 l1 l2 l3) := by
  unfold X3_setQuotient
  refine pz_aload_n 0 dX3_setQuotient_0 rfl ?_
  refine pz_getR (ci := 3) (k := 0) ck_3 (by decide) (Or.inl pw_387) dX3_setQuotient_1 (fun x1 => ?_)
  refine pz_aload_n 1 dX3_setQuotient_4 rfl ?_
  refine pz_iload_n 3 dX3_setQuotient_5 rfl ?_
  refine pz_cvU (st := []) (md_X0_set X n x1 l1 l3) ck_0 rfl mk_X0_set (Or.inl pw_733) pw_613 pw_614 rfl rfl (by decide) (by decide) (by decide) dX3_setQuotient_6 (fun _ => ?_)
  refine pz_aload_n 0 dX3_setQuotient_9 rfl ?_
  refine pz_getR (ci := 3) (k := 1) ck_3 (by decide) (Or.inl pw_391) dX3_setQuotient_10 (fun x3 => ?_)
  refine pz_aload_n 2 dX3_setQuotient_13 rfl ?_
  refine pz_iconst 1 dX3_setQuotient_14 (by decide) ?_
  refine pz_cvU (st := []) (md_X0_set X n x3 l2 1) ck_0 rfl mk_X0_set (Or.inl pw_733) pw_613 pw_614 rfl rfl (by decide) (by decide) (by decide) dX3_setQuotient_15 (fun _ => ?_)
  exact pz_vret rfl dX3_setQuotient_18
set_option maxRecDepth 20000 in
theorem md_X3_setQuotient (X : pz_X) (n : Nat) (l0 : Option Nat) (l1 : Option Nat) (l2 : Option Nat) (l3 : Int32) : pz_Md X yX3_setQuotient J_X3_setQuotient pz_vU [va_rf l0, va_rf l1, va_rf l2, .int l3] (X3_setQuotient n l0 l1 l2 l3) :=
  pz_md [(0, va_rf l0), (1, va_rf l1), (2, va_rf l2), (3, .int l3)] (by decide +kernel) rfl rfl (by cases l0 <;> cases l1 <;> cases l2 <;> rfl) (by cases l0 <;> cases l1 <;> cases l2 <;> exact Nat.le_of_ble_eq_true rfl) (fun X => S_X3_setQuotient X n l0 l1 l2 l3)
set_option maxRecDepth 20000 in
theorem S_X7_closeLeaf_b152 (X : pz_X) (n : Nat) (l0 : Option Nat) (l1 : Int32) (l2 : Int32) (l3 : Option Nat) (l4 : Option Nat) (K77 : Int32 → pz_C Unit) (hK77 : ∀ (l5 : Int32), pz_Sm X (pz_QM X) J_X7_closeLeaf pz_vU 77 [(0, va_rf l0), (1, .int l1), (2, .int l2), (3, va_rf l3), (4, va_rf l4), (5, .int l5)] [] (K77 l5)) (l5 : Int32) : pz_Sm X (pz_QM X) J_X7_closeLeaf pz_vU 152 [(0, va_rf l0), (1, .int l1), (2, .int l2), (3, va_rf l3), (4, va_rf l4), (5, .int l5)] [] (X7_closeLeaf_b152 n K77 l0 l1 l2 l3 l4 l5) := by
  unfold X7_closeLeaf_b152
  refine pz_iinc 5 1 (fun l5_24 => [(5, .int l5_24), (0, va_rf l0), (1, .int l1), (2, .int l2), (3, va_rf l3), (4, va_rf l4)]) dX7_closeLeaf_152 rfl (by decide) (by decide) (fun l5_24 => (by cases l4 <;> rfl)) (fun l5_24 => ?_)
  refine pz_goto 77 dX7_closeLeaf_155 (by decide) ?_
  exact pz_sub [1, 2, 3, 4, 5, 0] rfl (hK77 l5_24)
set_option maxRecDepth 20000 in
theorem S_X7_closeLeaf_L77_body (X : pz_X) (n : Nat) (l0 : Option Nat) (l1 : Int32) (l2 : Int32) (l3 : Option Nat) (l4 : Option Nat) (K77 : Int32 → pz_C Unit) (hK77 : ∀ (l5 : Int32), pz_Sm X (pz_QM X) J_X7_closeLeaf pz_vU 77 [(0, va_rf l0), (1, .int l1), (2, .int l2), (3, va_rf l3), (4, va_rf l4), (5, .int l5)] [] (K77 l5)) (l5 : Int32) : pz_Sm X (pz_QM X) J_X7_closeLeaf pz_vU 77 [(0, va_rf l0), (1, .int l1), (2, .int l2), (3, va_rf l3), (4, va_rf l4), (5, .int l5)] [] (X7_closeLeaf_L77_body n l0 l1 l2 l3 l4 K77 l5) := by
  unfold X7_closeLeaf_L77_body
  refine pz_iload 5 dX7_closeLeaf_77 rfl ?_
  refine pz_aload_n 0 dX7_closeLeaf_79 rfl ?_
  refine pz_getR (ci := 7) (k := 0) ck_7 (by decide) (Or.inl pw_300) dX7_closeLeaf_80 (fun x18 => ?_)
  refine pz_getI (ci := 6) (k := 5) ck_6 (by decide) (Or.inl pw_51) dX7_closeLeaf_83 (fun x19 => ?_)
  refine pz_icmp_ge 158 dX7_closeLeaf_86 (by decide) ?_ ?_
  · exact pz_vret rfl dX7_closeLeaf_158
  · refine pz_aload_n 0 dX7_closeLeaf_89 rfl ?_
    refine pz_getR (ci := 7) (k := 1) ck_7 (by decide) (Or.inl pw_301) dX7_closeLeaf_90 (fun x20 => ?_)
    refine pz_iload_n 1 dX7_closeLeaf_93 rfl ?_
    refine pz_iload 5 dX7_closeLeaf_94 rfl ?_
    refine pz_cvR (st := []) (md_X9_cell X n x20 l1 l5) ck_9 rfl mk_X9_cell (Or.inl pw_681) pw_491 pw_492 rfl rfl (by decide) (by decide) (by decide) dX7_closeLeaf_96 (fun x21 => ?_)
    refine pz_astore [(6, va_rf x21), (0, va_rf l0), (1, .int l1), (2, .int l2), (3, va_rf l3), (4, va_rf l4), (5, .int l5)] dX7_closeLeaf_99 (by decide) rfl ?_
    refine pz_iload_n 3 dX7_closeLeaf_101 rfl ?_
    refine pz_ineg dX7_closeLeaf_102 ?_
    refine pz_aload 0 dX7_closeLeaf_103 rfl ?_
    refine pz_getI (ci := 0) (k := 2) ck_0 (by decide) (Or.inl pw_98) dX7_closeLeaf_105 (fun x22 => ?_)
    refine pz_imul dX7_closeLeaf_108 ?_
    refine pz_nmI (fun l7_23 => ?_)
    refine pz_istore [(7, .int l7_23), (6, va_rf x21), (0, va_rf l0), (1, .int l1), (2, .int l2), (3, va_rf l3), (4, va_rf l4), (5, .int l5)] dX7_closeLeaf_109 (by decide) (by cases x21 <;> rfl) ?_
    refine pz_iload 0 dX7_closeLeaf_111 rfl ?_
    refine pz_if_eq 152 dX7_closeLeaf_113 (by decide) ?_ ?_
    · exact pz_sub [2, 3, 4, 5, 6, 7] rfl (S_X7_closeLeaf_b152 X n l0 l1 l2 l3 l4 K77 hK77 l5)
    · refine pz_aload_n 2 dX7_closeLeaf_116 rfl ?_
      refine pz_getR (ci := 7) (k := 1) ck_7 (by decide) (Or.inl pw_301) dX7_closeLeaf_117 (fun x25 => ?_)
      refine pz_getR (ci := 9) (k := 6) ck_9 (by decide) (Or.inl pw_162) dX7_closeLeaf_120 (fun x26 => ?_)
      refine pz_iload 7 dX7_closeLeaf_123 rfl ?_
      refine pz_iald (t := 0) rfl dX7_closeLeaf_125 (fun x27 => ?_)
      refine pz_istore [(8, .int x27), (7, .int l7_23), (6, va_rf x21), (0, va_rf l0), (1, .int l1), (2, .int l2), (3, va_rf l3), (4, va_rf l4), (5, .int l5)] dX7_closeLeaf_126 (by decide) rfl ?_
      refine pz_aload_n 6 dX7_closeLeaf_128 rfl ?_
      refine pz_iload 0 dX7_closeLeaf_129 rfl ?_
      refine pz_aload_n 3 dX7_closeLeaf_131 rfl ?_
      refine pz_getR (ci := 7) (k := 0) ck_7 (by decide) (Or.inl pw_300) dX7_closeLeaf_132 (fun x28 => ?_)
      refine pz_getI (ci := 6) (k := 5) ck_6 (by decide) (Or.inl pw_51) dX7_closeLeaf_135 (fun x29 => ?_)
      refine pz_iload 1 dX7_closeLeaf_138 rfl ?_
      refine pz_cvR (st := []) (md_X5_ofPlace X n l3 x27 x29 l7_23) ck_5 rfl mk_X5_ofPlace (Or.inl pw_725) pw_726 pw_727 rfl rfl (by decide) (by decide) (by decide) dX7_closeLeaf_140 (fun x30 => ?_)
      refine pz_aload 2 dX7_closeLeaf_143 rfl ?_
      refine pz_aload 7 dX7_closeLeaf_145 rfl ?_
      refine pz_iload_n 5 dX7_closeLeaf_147 rfl ?_
      refine pz_ineg dX7_closeLeaf_148 ?_
      refine pz_cvU (st := []) (md_X3_setQuotient X n x30 x21 l4 (-l2)) ck_3 rfl mk_X3_setQuotient (Or.inl pw_729) pw_730 pw_731 rfl rfl (by decide) (by decide) (by decide) dX7_closeLeaf_149 (fun _ => ?_)
      exact pz_sub [3, 4, 5, 6, 7, 8] rfl (S_X7_closeLeaf_b152 X n l0 l1 l2 l3 l4 K77 hK77 l5)
set_option maxRecDepth 20000 in
theorem S_X7_closeLeaf_L77 (X : pz_X) (n : Nat) (l0 : Option Nat) (l1 : Int32) (l2 : Int32) (l3 : Option Nat) (l4 : Option Nat) (l5 : Int32) : pz_Sm X (pz_QM X) J_X7_closeLeaf pz_vU 77 [(0, va_rf l0), (1, .int l1), (2, .int l2), (3, va_rf l3), (4, va_rf l4), (5, .int l5)] [] (X7_closeLeaf_L77 n l0 l1 l2 l3 l4 l5) :=
  pz_lp (L := fun (s : Int32) => [(0, va_rf l0), (1, .int l1), (2, .int l2), (3, va_rf l3), (4, va_rf l4), (5, .int s)]) (fun K hK s => S_X7_closeLeaf_L77_body X n l0 l1 l2 l3 l4 (fun l5 => K l5) (fun l5 => hK l5) s) n l5
set_option maxRecDepth 20000 in
theorem S_X7_closeLeaf (X : pz_X) (n : Nat) (l0 : Option Nat) (l1 : Int32) (l2 : Int32) : pz_Sm X (pz_QM X) J_X7_closeLeaf pz_vU 0 [(0, va_rf l0), (1, .int l1), (2, .int l2)] [] (X7_closeLeaf n l0 l1 l2) := by
  unfold X7_closeLeaf
  refine pz_aload_n 0 dX7_closeLeaf_0 rfl ?_
  refine pz_getR (ci := 7) (k := 2) ck_7 (by decide) (Or.inl pw_302) dX7_closeLeaf_1 (fun x1 => ?_)
  refine pz_aload_n 0 dX7_closeLeaf_4 rfl ?_
  refine pz_getR (ci := 7) (k := 2) ck_7 (by decide) (Or.inl pw_302) dX7_closeLeaf_5 (fun x2 => ?_)
  refine pz_getI (ci := 10) (k := 11) ck_10 (by decide) (Or.inl pw_240) dX7_closeLeaf_8 (fun x3 => ?_)
  refine pz_cvR (st := []) (md_X10_leafOf X n x1 x3) ck_10 rfl mk_X10_leafOf (Or.inl pw_717) pw_718 pw_719 rfl rfl (by decide) (by decide) (by decide) dX7_closeLeaf_11 (fun x4 => ?_)
  refine pz_astore_n [(3, va_rf x4), (0, va_rf l0), (1, .int l1), (2, .int l2)] dX7_closeLeaf_14 (by decide) rfl ?_
  refine pz_aload_n 0 dX7_closeLeaf_15 rfl ?_
  refine pz_ifnonnull 20 dX7_closeLeaf_16 (by decide) ?_ ?_
  · exact pz_vret rfl dX7_closeLeaf_19
  · refine pz_aload_n 1 dX7_closeLeaf_20 rfl ?_
    refine pz_getR (ci := 7) (k := 2) ck_7 (by decide) (Or.inl pw_302) dX7_closeLeaf_21 (fun x5 => ?_)
    refine pz_getR (ci := 10) (k := 6) ck_10 (by decide) (Or.inl pw_232) dX7_closeLeaf_24 (fun x6 => ?_)
    refine pz_aload_n 1 dX7_closeLeaf_27 rfl ?_
    refine pz_getR (ci := 7) (k := 2) ck_7 (by decide) (Or.inl pw_302) dX7_closeLeaf_28 (fun x7 => ?_)
    refine pz_getI (ci := 10) (k := 11) ck_10 (by decide) (Or.inl pw_240) dX7_closeLeaf_31 (fun x8 => ?_)
    refine pz_iconst 1 dX7_closeLeaf_34 (by decide) ?_
    refine pz_zast (t := 1) rfl dX7_closeLeaf_35 ?_
    refine pz_aload_n 1 dX7_closeLeaf_36 rfl ?_
    refine pz_getR (ci := 7) (k := 1) ck_7 (by decide) (Or.inl pw_301) dX7_closeLeaf_37 (fun x9 => ?_)
    refine pz_getR (ci := 9) (k := 9) ck_9 (by decide) (Or.inl pw_166) dX7_closeLeaf_40 (fun x10 => ?_)
    refine pz_astore [(4, va_rf x10), (3, va_rf x4), (0, va_rf l0), (1, .int l1), (2, .int l2)] dX7_closeLeaf_43 (by decide) (by cases x4 <;> rfl) ?_
    refine pz_aload_n 1 dX7_closeLeaf_45 rfl ?_
    refine pz_aload_n 2 dX7_closeLeaf_46 rfl ?_
    refine pz_getR (ci := 7) (k := 1) ck_7 (by decide) (Or.inl pw_301) dX7_closeLeaf_47 (fun x11 => ?_)
    refine pz_getR (ci := 9) (k := 5) ck_9 (by decide) (Or.inl pw_160) dX7_closeLeaf_50 (fun x12 => ?_)
    refine pz_iload_n 3 dX7_closeLeaf_53 rfl ?_
    refine pz_iald (t := 0) rfl dX7_closeLeaf_54 (fun x13 => ?_)
    refine pz_aload_n 2 dX7_closeLeaf_55 rfl ?_
    refine pz_getR (ci := 7) (k := 0) ck_7 (by decide) (Or.inl pw_300) dX7_closeLeaf_56 (fun x14 => ?_)
    refine pz_getI (ci := 6) (k := 5) ck_6 (by decide) (Or.inl pw_51) dX7_closeLeaf_59 (fun x15 => ?_)
    refine pz_iload_n 4 dX7_closeLeaf_62 rfl ?_
    refine pz_cvR (st := []) (md_X5_ofPlace X n x4 x13 x15 l2) ck_5 rfl mk_X5_ofPlace (Or.inl pw_725) pw_726 pw_727 rfl rfl (by decide) (by decide) (by decide) dX7_closeLeaf_63 (fun x16 => ?_)
    refine pz_aload 0 dX7_closeLeaf_66 rfl ?_
    refine pz_aload 0 dX7_closeLeaf_68 rfl ?_
    refine pz_iload_n 4 dX7_closeLeaf_70 rfl ?_
    refine pz_cvU (st := []) (md_X3_setQuotient X n x16 x10 x10 l2) ck_3 rfl mk_X3_setQuotient (Or.inl pw_729) pw_730 pw_731 rfl rfl (by decide) (by decide) (by decide) dX7_closeLeaf_71 (fun _ => ?_)
    refine pz_iconst 0 dX7_closeLeaf_74 (by decide) ?_
    refine pz_istore [(5, .int 0), (4, va_rf x10), (3, va_rf x4), (0, va_rf l0), (1, .int l1), (2, .int l2)] dX7_closeLeaf_75 (by decide) (by cases x10 <;> rfl) ?_
    exact pz_sub [3, 4, 5, 2, 1, 0] rfl (S_X7_closeLeaf_L77 X n l0 l1 l2 x4 x10 0)
set_option maxRecDepth 20000 in
theorem md_X7_closeLeaf (X : pz_X) (n : Nat) (l0 : Option Nat) (l1 : Int32) (l2 : Int32) : pz_Md X yX7_closeLeaf J_X7_closeLeaf pz_vU [va_rf l0, .int l1, .int l2] (X7_closeLeaf n l0 l1 l2) :=
  pz_md [(0, va_rf l0), (1, .int l1), (2, .int l2)] (by decide +kernel) rfl rfl (by cases l0 <;> rfl) (by cases l0 <;> exact Nat.le_of_ble_eq_true rfl) (fun X => S_X7_closeLeaf X n l0 l1 l2)
set_option maxRecDepth 20000 in
theorem S_X10_lastWaiting_b61 (X : pz_X) (n : Nat) (l1 : Int32) : pz_Sm X (pz_QM X) J_X10_lastWaiting pz_vI 61 [(1, .int l1)] [] (X10_lastWaiting_b61 n l1) := by
  unfold X10_lastWaiting_b61
  refine pz_iload_n 0 dX10_lastWaiting_61 rfl ?_
  exact pz_iret rfl dX10_lastWaiting_62
set_option maxRecDepth 20000 in
theorem S_X10_lastWaiting_L28_body (X : pz_X) (n : Nat) (l0 : Option Nat) (K28 : Int32 → Int32 → pz_C Int32) (hK28 : ∀ (l1 : Int32) (l2 : Int32), pz_Sm X (pz_QM X) J_X10_lastWaiting pz_vI 28 [(0, va_rf l0), (1, .int l1), (2, .int l2)] [] (K28 l1 l2)) (l1 : Int32) (l2 : Int32) : pz_Sm X (pz_QM X) J_X10_lastWaiting pz_vI 28 [(0, va_rf l0), (1, .int l1), (2, .int l2)] [] (X10_lastWaiting_L28_body n l0 K28 l1 l2) := by
  unfold X10_lastWaiting_L28_body
  refine pz_iload_n 2 dX10_lastWaiting_28 rfl ?_
  refine pz_sipush 301 dX10_lastWaiting_29 (by decide) ?_
  refine pz_icmp_ge 61 dX10_lastWaiting_32 (by decide) ?_ ?_
  · exact pz_sub [1] rfl (S_X10_lastWaiting_b61 X n l1)
  · refine pz_iload_n 1 dX10_lastWaiting_35 rfl ?_
    refine pz_if_lt 61 dX10_lastWaiting_36 (by decide) ?_ ?_
    · exact pz_sub [1] rfl (S_X10_lastWaiting_b61 X n l1)
    · refine pz_aload_n 0 dX10_lastWaiting_39 rfl ?_
      refine pz_getR (ci := 10) (k := 2) ck_10 (by decide) (Or.inl pw_218) dX10_lastWaiting_40 (fun x3 => ?_)
      refine pz_iload_n 1 dX10_lastWaiting_43 rfl ?_
      refine pz_iald (t := 0) rfl dX10_lastWaiting_44 (fun x4 => ?_)
      refine pz_if_lt 61 dX10_lastWaiting_45 (by decide) ?_ ?_
      · exact pz_sub [1] rfl (S_X10_lastWaiting_b61 X n l1)
      · refine pz_aload_n 0 dX10_lastWaiting_48 rfl ?_
        refine pz_getR (ci := 10) (k := 0) ck_10 (by decide) (Or.inl pw_212) dX10_lastWaiting_49 (fun x5 => ?_)
        refine pz_iload_n 1 dX10_lastWaiting_52 rfl ?_
        refine pz_iald (t := 0) rfl dX10_lastWaiting_53 (fun x6 => ?_)
        refine pz_istore_n [(1, .int x6), (0, va_rf l0), (2, .int l2)] dX10_lastWaiting_54 (by decide) (by cases l0 <;> rfl) ?_
        refine pz_iinc 2 1 (fun l2_7 => [(2, .int l2_7), (1, .int x6), (0, va_rf l0)]) dX10_lastWaiting_55 rfl (by decide) (by decide) (fun l2_7 => rfl) (fun l2_7 => ?_)
        refine pz_goto 28 dX10_lastWaiting_58 (by decide) ?_
        exact pz_sub [2, 1, 0] rfl (hK28 x6 l2_7)
set_option maxRecDepth 20000 in
theorem S_X10_lastWaiting_L28 (X : pz_X) (n : Nat) (l0 : Option Nat) (l1 : Int32) (l2 : Int32) : pz_Sm X (pz_QM X) J_X10_lastWaiting pz_vI 28 [(0, va_rf l0), (1, .int l1), (2, .int l2)] [] (X10_lastWaiting_L28 n l0 l1 l2) :=
  pz_lp (L := fun (s : Int32 × Int32) => [(0, va_rf l0), (1, .int s.1), (2, .int s.2)]) (fun K hK s => S_X10_lastWaiting_L28_body X n l0 (fun l1 l2 => K (l1, l2)) (fun l1 l2 => hK (l1, l2)) s.1 s.2) n (l1, l2)
set_option maxRecDepth 20000 in
theorem S_X10_lastWaiting_b25 (X : pz_X) (n : Nat) (l0 : Option Nat) (s0 : Int32) : pz_Sm X (pz_QM X) J_X10_lastWaiting pz_vI 25 [(0, va_rf l0)] [.int s0] (X10_lastWaiting_b25 n l0 s0) := by
  unfold X10_lastWaiting_b25
  refine pz_istore_n [(1, .int s0), (0, va_rf l0)] dX10_lastWaiting_25 (by decide) (by cases l0 <;> rfl) ?_
  refine pz_iconst 0 dX10_lastWaiting_26 (by decide) ?_
  refine pz_istore_n [(2, .int 0), (1, .int s0), (0, va_rf l0)] dX10_lastWaiting_27 (by decide) rfl ?_
  exact pz_sub [2, 1, 0] rfl (S_X10_lastWaiting_L28 X n l0 s0 0)
set_option maxRecDepth 20000 in
theorem S_X10_lastWaiting (X : pz_X) (n : Nat) (l0 : Option Nat) : pz_Sm X (pz_QM X) J_X10_lastWaiting pz_vI 0 [(0, va_rf l0)] [] (X10_lastWaiting n l0) := by
  unfold X10_lastWaiting
  refine pz_aload_n 0 dX10_lastWaiting_0 rfl ?_
  refine pz_aload_n 0 dX10_lastWaiting_1 rfl ?_
  refine pz_getI (ci := 10) (k := 11) ck_10 (by decide) (Or.inl pw_239) dX10_lastWaiting_2 (fun x1 => ?_)
  refine pz_cvI (st := []) (md_X10_has X n l0 x1) ck_10 rfl mk_X10_has (Or.inl pw_498) pw_499 pw_500 rfl rfl (by decide) (by decide) (by decide) dX10_lastWaiting_5 (fun x2 => ?_)
  refine pz_if_eq 23 dX10_lastWaiting_8 (by decide) ?_ ?_
  · refine pz_bipush (-2) dX10_lastWaiting_23 (by decide) ?_
    exact pz_sub [0] rfl (S_X10_lastWaiting_b25 X n l0 (-2))
  · refine pz_aload_n 0 dX10_lastWaiting_11 rfl ?_
    refine pz_getR (ci := 10) (k := 0) ck_10 (by decide) (Or.inl pw_212) dX10_lastWaiting_12 (fun x8 => ?_)
    refine pz_aload_n 0 dX10_lastWaiting_15 rfl ?_
    refine pz_getI (ci := 10) (k := 11) ck_10 (by decide) (Or.inl pw_239) dX10_lastWaiting_16 (fun x9 => ?_)
    refine pz_iald (t := 0) rfl dX10_lastWaiting_19 (fun x10 => ?_)
    refine pz_goto 25 dX10_lastWaiting_20 (by decide) ?_
    exact pz_sub [0] rfl (S_X10_lastWaiting_b25 X n l0 x10)
set_option maxRecDepth 20000 in
theorem md_X10_lastWaiting (X : pz_X) (n : Nat) (l0 : Option Nat) : pz_Md X yX10_lastWaiting J_X10_lastWaiting pz_vI [va_rf l0] (X10_lastWaiting n l0) :=
  pz_md [(0, va_rf l0)] (by decide +kernel) rfl rfl (by cases l0 <;> rfl) (by cases l0 <;> exact Nat.le_of_ble_eq_true rfl) (fun X => S_X10_lastWaiting X n l0)
set_option maxRecDepth 20000 in
theorem S_X9_move_L13_body (X : pz_X) (n : Nat) (l0 : Option Nat) (l1 : Int32) (l2 : Int64) (l4 : Int64) (K13 : Int32 → pz_C Unit) (hK13 : ∀ (l6 : Int32), pz_Sm X (pz_QM X) J_X9_move pz_vU 13 [(0, va_rf l0), (1, .int l1), (2, .long l2), (4, .long l4), (6, .int l6)] [] (K13 l6)) (l6 : Int32) : pz_Sm X (pz_QM X) J_X9_move pz_vU 13 [(0, va_rf l0), (1, .int l1), (2, .long l2), (4, .long l4), (6, .int l6)] [] (X9_move_L13_body n l0 l1 l2 l4 K13 l6) := by
  unfold X9_move_L13_body
  refine pz_iload 4 dX9_move_13 rfl ?_
  refine pz_aload_n 0 dX9_move_15 rfl ?_
  refine pz_getI (ci := 9) (k := 13) ck_9 (by decide) (Or.inl pw_171) dX9_move_16 (fun x4 => ?_)
  refine pz_icmp_ge 80 dX9_move_19 (by decide) ?_ ?_
  · refine pz_aload_n 0 dX9_move_80 rfl ?_
    refine pz_getR (ci := 9) (k := 4) ck_9 (by decide) (Or.inl pw_157) dX9_move_81 (fun x5 => ?_)
    refine pz_iload_n 1 dX9_move_84 rfl ?_
    refine pz_lload_n 2 dX9_move_85 rfl ?_
    refine pz_last (t := 2) rfl dX9_move_86 ?_
    exact pz_vret rfl dX9_move_87
  · refine pz_aload_n 0 dX9_move_22 rfl ?_
    refine pz_getR (ci := 9) (k := 0) ck_9 (by decide) (Or.inl pw_153) dX9_move_23 (fun x6 => ?_)
    refine pz_cvU (st := []) (md_X8_clear X n x6) ck_8 rfl mk_X8_clear (Or.inl pw_574) pw_575 pw_576 rfl rfl (by decide) (by decide) (by decide) dX9_move_26 (fun _ => ?_)
    refine pz_aload_n 0 dX9_move_29 rfl ?_
    refine pz_getR (ci := 9) (k := 0) ck_9 (by decide) (Or.inl pw_153) dX9_move_30 (fun x8 => ?_)
    refine pz_aload_n 0 dX9_move_33 rfl ?_
    refine pz_getR (ci := 9) (k := 3) ck_9 (by decide) (Or.inl pw_156) dX9_move_34 (fun x9 => ?_)
    refine pz_iload 4 dX9_move_37 rfl ?_
    refine pz_aald (t := 3) rfl rfl dX9_move_39 (fun x10 => ?_)
    refine pz_lconst 1 dX9_move_40 (by decide) ?_
    refine pz_cvU (st := []) (md_X8_addTimes X n x8 x10 1) ck_8 rfl mk_X8_addTimes (Or.inl pw_578) pw_579 pw_580 rfl rfl (by decide) (by decide) (by decide) dX9_move_41 (fun _ => ?_)
    refine pz_aload_n 0 dX9_move_44 rfl ?_
    refine pz_getR (ci := 9) (k := 0) ck_9 (by decide) (Or.inl pw_153) dX9_move_45 (fun x12 => ?_)
    refine pz_aload_n 0 dX9_move_48 rfl ?_
    refine pz_iload 4 dX9_move_49 rfl ?_
    refine pz_iload_n 1 dX9_move_51 rfl ?_
    refine pz_cvR (st := [va_rf x12]) (md_X9_cell X n l0 l6 l1) ck_9 rfl mk_X9_cell (Or.inl pw_490) pw_491 pw_492 rfl rfl (by simp [pz_rf1, pz_ci, pz_cl]) (by decide) (by decide) dX9_move_52 (fun x13 => ?_)
    refine pz_lload 3 dX9_move_55 rfl ?_
    refine pz_cvU (st := []) (md_X8_addTimes X n x12 x13 l4) ck_8 rfl mk_X8_addTimes (Or.inl pw_578) pw_579 pw_580 rfl rfl (by decide) (by decide) (by decide) dX9_move_57 (fun _ => ?_)
    refine pz_aload_n 0 dX9_move_60 rfl ?_
    refine pz_getR (ci := 9) (k := 0) ck_9 (by decide) (Or.inl pw_153) dX9_move_61 (fun x15 => ?_)
    refine pz_aload_n 0 dX9_move_64 rfl ?_
    refine pz_getR (ci := 9) (k := 3) ck_9 (by decide) (Or.inl pw_156) dX9_move_65 (fun x16 => ?_)
    refine pz_iload 4 dX9_move_68 rfl ?_
    refine pz_aald (t := 3) rfl rfl dX9_move_70 (fun x17 => ?_)
    refine pz_cvU (st := []) (md_X8_store X n x15 x17) ck_8 rfl mk_X8_store (Or.inl pw_687) pw_688 pw_689 rfl rfl (by decide) (by decide) (by decide) dX9_move_71 (fun _ => ?_)
    refine pz_iinc 4 1 (fun l6_19 => [(6, .int l6_19), (0, va_rf l0), (1, .int l1), (2, .long l2), (4, .long l4)]) dX9_move_74 rfl (by decide) (by decide) (fun l6_19 => rfl) (fun l6_19 => ?_)
    refine pz_goto 13 dX9_move_77 (by decide) ?_
    exact pz_sub [1, 2, 3, 4, 0] rfl (hK13 l6_19)
set_option maxRecDepth 20000 in
theorem S_X9_move_L13 (X : pz_X) (n : Nat) (l0 : Option Nat) (l1 : Int32) (l2 : Int64) (l4 : Int64) (l6 : Int32) : pz_Sm X (pz_QM X) J_X9_move pz_vU 13 [(0, va_rf l0), (1, .int l1), (2, .long l2), (4, .long l4), (6, .int l6)] [] (X9_move_L13 n l0 l1 l2 l4 l6) :=
  pz_lp (L := fun (s : Int32) => [(0, va_rf l0), (1, .int l1), (2, .long l2), (4, .long l4), (6, .int s)]) (fun K hK s => S_X9_move_L13_body X n l0 l1 l2 l4 (fun l6 => K l6) (fun l6 => hK l6) s) n l6
set_option maxRecDepth 20000 in
theorem S_X9_move (X : pz_X) (n : Nat) (l0 : Option Nat) (l1 : Int32) (l2 : Int64) : pz_Sm X (pz_QM X) J_X9_move pz_vU 0 [(0, va_rf l0), (1, .int l1), (2, .long l2)] [] (X9_move n l0 l1 l2) := by
  unfold X9_move
  refine pz_lload_n 2 dX9_move_0 rfl ?_
  refine pz_aload_n 0 dX9_move_1 rfl ?_
  refine pz_getR (ci := 9) (k := 4) ck_9 (by decide) (Or.inl pw_157) dX9_move_2 (fun x1 => ?_)
  refine pz_iload_n 1 dX9_move_5 rfl ?_
  refine pz_lald (t := 2) rfl dX9_move_6 (fun x2 => ?_)
  refine pz_lsub dX9_move_7 ?_
  refine pz_nmL (fun l4_3 => ?_)
  refine pz_lstore [(4, .long l4_3), (0, va_rf l0), (1, .int l1), (2, .long l2)] dX9_move_8 (by decide) rfl ?_
  refine pz_iconst 0 dX9_move_10 (by decide) ?_
  refine pz_istore [(6, .int 0), (4, .long l4_3), (0, va_rf l0), (1, .int l1), (2, .long l2)] dX9_move_11 (by decide) rfl ?_
  exact pz_sub [2, 3, 4, 1, 0] rfl (S_X9_move_L13 X n l0 l1 l2 l4_3 0)
set_option maxRecDepth 20000 in
theorem md_X9_move (X : pz_X) (n : Nat) (l0 : Option Nat) (l1 : Int32) (l2 : Int64) : pz_Md X yX9_move J_X9_move pz_vU [va_rf l0, .int l1, .long l2] (X9_move n l0 l1 l2) :=
  pz_md [(0, va_rf l0), (1, .int l1), (2, .long l2)] (by decide +kernel) rfl rfl (by cases l0 <;> rfl) (by cases l0 <;> exact Nat.le_of_ble_eq_true rfl) (fun X => S_X9_move X n l0 l1 l2)
set_option maxRecDepth 20000 in
theorem S_X7_goBack_b101 (X : pz_X) (n : Nat) : pz_Sm X (pz_QM X) J_X7_goBack pz_vU 101 [] [] (X7_goBack_b101 n) := by
  unfold X7_goBack_b101
  exact pz_vret rfl dX7_goBack_101
set_option maxRecDepth 20000 in
theorem S_X7_goBack (X : pz_X) (n : Nat) (l0 : Option Nat) : pz_Sm X (pz_QM X) J_X7_goBack pz_vU 0 [(0, va_rf l0)] [] (X7_goBack n l0) := by
  unfold X7_goBack
  refine pz_aload_n 0 dX7_goBack_0 rfl ?_
  refine pz_getR (ci := 7) (k := 2) ck_7 (by decide) (Or.inl pw_302) dX7_goBack_1 (fun x1 => ?_)
  refine pz_cvI (st := []) (md_X10_lastWaiting X n x1) ck_10 rfl mk_X10_lastWaiting (Or.inl pw_738) pw_739 pw_740 rfl rfl (by decide) (by decide) (by decide) dX7_goBack_4 (fun x2 => ?_)
  refine pz_istore_n [(1, .int x2), (0, va_rf l0)] dX7_goBack_7 (by decide) (by cases l0 <;> rfl) ?_
  refine pz_iload_n 0 dX7_goBack_8 rfl ?_
  refine pz_if_ge 27 dX7_goBack_9 (by decide) ?_ ?_
  · refine pz_aload_n 1 dX7_goBack_27 rfl ?_
    refine pz_getR (ci := 7) (k := 2) ck_7 (by decide) (Or.inl pw_302) dX7_goBack_28 (fun x3 => ?_)
    refine pz_iload_n 0 dX7_goBack_31 rfl ?_
    refine pz_cvU (st := []) (md_X10_addLeaf X n x3 x2) ck_10 rfl mk_X10_addLeaf (Or.inl pw_494) pw_495 pw_496 rfl rfl (by decide) (by decide) (by decide) dX7_goBack_32 (fun _ => ?_)
    refine pz_aload_n 1 dX7_goBack_35 rfl ?_
    refine pz_cvU (st := []) (md_X7_setSplitBounds X n l0) ck_7 rfl mk_X7_setSplitBounds (Or.inl pw_527) pw_529 ps_2 rfl rfl (by decide) (by decide) (by decide) dX7_goBack_36 (fun _ => ?_)
    refine pz_aload_n 1 dX7_goBack_39 rfl ?_
    refine pz_getR (ci := 7) (k := 2) ck_7 (by decide) (Or.inl pw_302) dX7_goBack_40 (fun x6 => ?_)
    refine pz_getR (ci := 10) (k := 3) ck_10 (by decide) (Or.inl pw_224) dX7_goBack_43 (fun x7 => ?_)
    refine pz_iload_n 0 dX7_goBack_46 rfl ?_
    refine pz_iald (t := 0) rfl dX7_goBack_47 (fun x8 => ?_)
    refine pz_istore_n [(2, .int x8), (1, .int x2), (0, va_rf l0)] dX7_goBack_48 (by decide) rfl ?_
    refine pz_aload_n 2 dX7_goBack_49 rfl ?_
    refine pz_getR (ci := 7) (k := 1) ck_7 (by decide) (Or.inl pw_301) dX7_goBack_50 (fun x9 => ?_)
    refine pz_iload_n 0 dX7_goBack_53 rfl ?_
    refine pz_cvI (st := []) (md_X9_columnOf X n x9 x8) ck_9 rfl mk_X9_columnOf (Or.inl pw_677) pw_678 pw_679 rfl rfl (by decide) (by decide) (by decide) dX7_goBack_54 (fun x10 => ?_)
    refine pz_istore_n [(3, .int x10), (2, .int x8), (1, .int x2), (0, va_rf l0)] dX7_goBack_57 (by decide) rfl ?_
    refine pz_iload_n 0 dX7_goBack_58 rfl ?_
    refine pz_if_lt 101 dX7_goBack_59 (by decide) ?_ ?_
    · exact pz_sub [] rfl (S_X7_goBack_b101 X n)
    · refine pz_aload_n 3 dX7_goBack_62 rfl ?_
      refine pz_getR (ci := 7) (k := 1) ck_7 (by decide) (Or.inl pw_301) dX7_goBack_63 (fun x11 => ?_)
      refine pz_getR (ci := 9) (k := 4) ck_9 (by decide) (Or.inl pw_158) dX7_goBack_66 (fun x12 => ?_)
      refine pz_iload_n 0 dX7_goBack_69 rfl ?_
      refine pz_lald (t := 2) rfl dX7_goBack_70 (fun x13 => ?_)
      refine pz_aload_n 3 dX7_goBack_71 rfl ?_
      refine pz_getR (ci := 7) (k := 3) ck_7 (by decide) (Or.inl pw_303) dX7_goBack_72 (fun x14 => ?_)
      refine pz_getR (ci := 1) (k := 3) ck_1 (by decide) (Or.inl pw_289) dX7_goBack_75 (fun x15 => ?_)
      refine pz_iload_n 1 dX7_goBack_78 rfl ?_
      refine pz_lald (t := 2) rfl dX7_goBack_79 (fun x16 => ?_)
      refine pz_lcmp dX7_goBack_80 ?_
      refine pz_if_ge 101 dX7_goBack_81 (by decide) ?_ ?_
      · exact pz_sub [] rfl (S_X7_goBack_b101 X n)
      · refine pz_aload_n 3 dX7_goBack_84 rfl ?_
        refine pz_getR (ci := 7) (k := 1) ck_7 (by decide) (Or.inl pw_301) dX7_goBack_85 (fun x17 => ?_)
        refine pz_iload_n 0 dX7_goBack_88 rfl ?_
        refine pz_aload_n 3 dX7_goBack_89 rfl ?_
        refine pz_getR (ci := 7) (k := 3) ck_7 (by decide) (Or.inl pw_303) dX7_goBack_90 (fun x18 => ?_)
        refine pz_getR (ci := 1) (k := 3) ck_1 (by decide) (Or.inl pw_289) dX7_goBack_93 (fun x19 => ?_)
        refine pz_iload_n 1 dX7_goBack_96 rfl ?_
        refine pz_lald (t := 2) rfl dX7_goBack_97 (fun x20 => ?_)
        refine pz_cvU (st := []) (md_X9_move X n x17 x10 x20) ck_9 rfl mk_X9_move (Or.inl pw_742) pw_743 pw_744 rfl rfl (by decide) (by decide) (by decide) dX7_goBack_98 (fun _ => ?_)
        exact pz_sub [] rfl (S_X7_goBack_b101 X n)
  · refine pz_aload_n 1 dX7_goBack_12 rfl ?_
    refine pz_iconst 3 dX7_goBack_13 (by decide) ?_
    refine pz_put (ci := 7) (k := 4) ck_7 (by decide) (Or.inl pw_304) (Or.inl rfl) rfl rfl dX7_goBack_14 ?_
    refine pz_aload_n 1 dX7_goBack_17 rfl ?_
    refine pz_getR (ci := 7) (k := 2) ck_7 (by decide) (Or.inl pw_302) dX7_goBack_18 (fun x22 => ?_)
    refine pz_bipush (-2) dX7_goBack_21 (by decide) ?_
    refine pz_put (ci := 10) (k := 11) ck_10 (by decide) (Or.inl pw_240) (Or.inl rfl) rfl rfl dX7_goBack_23 ?_
    exact pz_vret rfl dX7_goBack_26
set_option maxRecDepth 20000 in
theorem md_X7_goBack (X : pz_X) (n : Nat) (l0 : Option Nat) : pz_Md X yX7_goBack J_X7_goBack pz_vU [va_rf l0] (X7_goBack n l0) :=
  pz_md [(0, va_rf l0)] (by decide +kernel) rfl rfl (by cases l0 <;> rfl) (by cases l0 <;> exact Nat.le_of_ble_eq_true rfl) (fun X => S_X7_goBack X n l0)
set_option maxRecDepth 20000 in
theorem S_X7_doStep_b113 (X : pz_X) (n : Nat) (s0 : Option Nat) (s1 : Int32) (s2 : Int32) (s3 : Int64) : pz_Sm X (pz_QM X) J_X7_doStep pz_vU 113 [] [.long s3, .int s2, .int s1, va_rf s0] (X7_doStep_b113 n s0 s1 s2 s3) := by
  unfold X7_doStep_b113
  refine pz_cvU (st := []) (md_X9_exchange X n s0 s1 s2 s3) ck_9 rfl mk_X9_exchange (Or.inl pw_682) pw_683 pw_684 rfl rfl (by decide) (by decide) (by decide) dX7_doStep_113 (fun _ => ?_)
  exact pz_vret rfl dX7_doStep_116
set_option maxRecDepth 20000 in
theorem S_X7_doStep_b41 (X : pz_X) (n : Nat) : pz_Sm X (pz_QM X) J_X7_doStep pz_vU 41 [] [] (X7_doStep_b41 n) := by
  unfold X7_doStep_b41
  exact pz_vret rfl dX7_doStep_41
set_option maxRecDepth 20000 in
theorem S_X7_doStep (X : pz_X) (n : Nat) (l0 : Option Nat) : pz_Sm X (pz_QM X) J_X7_doStep pz_vU 0 [(0, va_rf l0)] [] (X7_doStep n l0) := by
  unfold X7_doStep
  refine pz_aload_n 0 dX7_doStep_0 rfl ?_
  refine pz_dup dX7_doStep_1 (pz_rf1 _) ?_
  refine pz_getI (ci := 7) (k := 5) ck_7 (by decide) (Or.inl pw_306) dX7_doStep_2 (fun x1 => ?_)
  refine pz_iconst 1 dX7_doStep_5 (by decide) ?_
  refine pz_iadd dX7_doStep_6 ?_
  refine pz_put (ci := 7) (k := 5) ck_7 (by decide) (Or.inl pw_306) (Or.inl rfl) rfl rfl dX7_doStep_7 ?_
  refine pz_aload_n 0 dX7_doStep_10 rfl ?_
  refine pz_cvI (st := []) (md_X7_firstBeyond X n l0) ck_7 rfl mk_X7_firstBeyond (Or.inl pw_554) pw_556 ps_5 rfl rfl (by decide) (by decide) (by decide) dX7_doStep_11 (fun x2 => ?_)
  refine pz_istore_n [(1, .int x2), (0, va_rf l0)] dX7_doStep_14 (by decide) (by cases l0 <;> rfl) ?_
  refine pz_iload_n 0 dX7_doStep_15 rfl ?_
  refine pz_if_ge 42 dX7_doStep_16 (by decide) ?_ ?_
  · refine pz_aload_n 1 dX7_doStep_42 rfl ?_
    refine pz_getR (ci := 7) (k := 1) ck_7 (by decide) (Or.inl pw_301) dX7_doStep_43 (fun x3 => ?_)
    refine pz_iload_n 0 dX7_doStep_46 rfl ?_
    refine pz_cvI (st := []) (md_X9_rowOf X n x3 x2) ck_9 rfl mk_X9_rowOf (Or.inl pw_562) pw_563 pw_564 rfl rfl (by decide) (by decide) (by decide) dX7_doStep_47 (fun x4 => ?_)
    refine pz_istore_n [(2, .int x4), (1, .int x2), (0, va_rf l0)] dX7_doStep_50 (by decide) rfl ?_
    refine pz_aload_n 2 dX7_doStep_51 rfl ?_
    refine pz_iload_n 1 dX7_doStep_52 rfl ?_
    refine pz_iload_n 0 dX7_doStep_53 rfl ?_
    refine pz_cvI (st := []) (md_X7_sideBeyond X n l0 x2 x4) ck_7 rfl mk_X7_sideBeyond (Or.inl pw_566) pw_568 ps_6 rfl rfl (by decide) (by decide) (by decide) dX7_doStep_54 (fun x5 => ?_)
    refine pz_istore_n [(3, .int x5), (2, .int x4), (1, .int x2), (0, va_rf l0)] dX7_doStep_57 (by decide) rfl ?_
    refine pz_aload_n 3 dX7_doStep_58 rfl ?_
    refine pz_iload_n 1 dX7_doStep_59 rfl ?_
    refine pz_iload_n 0 dX7_doStep_60 rfl ?_
    refine pz_cvI (st := []) (md_X7_enteringColumn X n l0 x4 x5) ck_7 rfl mk_X7_enteringColumn (Or.inl pw_673) pw_675 ps_14 rfl rfl (by decide) (by decide) (by decide) dX7_doStep_61 (fun x6 => ?_)
    refine pz_istore [(4, .int x6), (3, .int x5), (2, .int x4), (1, .int x2), (0, va_rf l0)] dX7_doStep_64 (by decide) rfl ?_
    refine pz_iload 0 dX7_doStep_66 rfl ?_
    refine pz_if_lt 117 dX7_doStep_68 (by decide) ?_ ?_
    · refine pz_aload_n 4 dX7_doStep_117 rfl ?_
      refine pz_dup dX7_doStep_118 (pz_rf1 _) ?_
      refine pz_getI (ci := 7) (k := 7) ck_7 (by decide) (Or.inl pw_310) dX7_doStep_119 (fun x7 => ?_)
      refine pz_iconst 1 dX7_doStep_122 (by decide) ?_
      refine pz_iadd dX7_doStep_123 ?_
      refine pz_put (ci := 7) (k := 7) ck_7 (by decide) (Or.inl pw_310) (Or.inl rfl) rfl rfl dX7_doStep_124 ?_
      refine pz_aload_n 4 dX7_doStep_127 rfl ?_
      refine pz_iload_n 2 dX7_doStep_128 rfl ?_
      refine pz_iload_n 1 dX7_doStep_129 rfl ?_
      refine pz_cvU (st := []) (md_X7_closeLeaf X n l0 x4 x5) ck_7 rfl mk_X7_closeLeaf (Or.inl pw_713) pw_715 ps_17 rfl rfl (by decide) (by decide) (by decide) dX7_doStep_130 (fun _ => ?_)
      refine pz_aload_n 4 dX7_doStep_133 rfl ?_
      refine pz_cvU (st := []) (md_X7_goBack X n l0) ck_7 rfl mk_X7_goBack (Or.inl pw_734) pw_736 ps_18 rfl rfl (by decide) (by decide) (by decide) dX7_doStep_134 (fun _ => ?_)
      exact pz_vret rfl dX7_doStep_137
    · refine pz_aload_n 4 dX7_doStep_71 rfl ?_
      refine pz_dup dX7_doStep_72 (pz_rf1 _) ?_
      refine pz_getI (ci := 7) (k := 6) ck_7 (by decide) (Or.inl pw_308) dX7_doStep_73 (fun x10 => ?_)
      refine pz_iconst 1 dX7_doStep_76 (by decide) ?_
      refine pz_iadd dX7_doStep_77 ?_
      refine pz_put (ci := 7) (k := 6) ck_7 (by decide) (Or.inl pw_308) (Or.inl rfl) rfl rfl dX7_doStep_78 ?_
      refine pz_aload_n 4 dX7_doStep_81 rfl ?_
      refine pz_getR (ci := 7) (k := 1) ck_7 (by decide) (Or.inl pw_301) dX7_doStep_82 (fun x11 => ?_)
      refine pz_iload_n 2 dX7_doStep_85 rfl ?_
      refine pz_iload 0 dX7_doStep_86 rfl ?_
      refine pz_iload_n 1 dX7_doStep_88 rfl ?_
      refine pz_if_ge 104 dX7_doStep_89 (by decide) ?_ ?_
      · refine pz_aload_n 4 dX7_doStep_104 rfl ?_
        refine pz_getR (ci := 7) (k := 3) ck_7 (by decide) (Or.inl pw_303) dX7_doStep_105 (fun x12 => ?_)
        refine pz_getR (ci := 1) (k := 2) ck_1 (by decide) (Or.inl pw_286) dX7_doStep_108 (fun x13 => ?_)
        refine pz_iload_n 3 dX7_doStep_111 rfl ?_
        refine pz_lald (t := 2) rfl dX7_doStep_112 (fun x14 => ?_)
        exact pz_sub [] rfl (S_X7_doStep_b113 X n x11 x4 x6 x14)
      · refine pz_aload_n 4 dX7_doStep_92 rfl ?_
        refine pz_getR (ci := 7) (k := 3) ck_7 (by decide) (Or.inl pw_303) dX7_doStep_93 (fun x16 => ?_)
        refine pz_getR (ci := 1) (k := 3) ck_1 (by decide) (Or.inl pw_289) dX7_doStep_96 (fun x17 => ?_)
        refine pz_iload_n 3 dX7_doStep_99 rfl ?_
        refine pz_lald (t := 2) rfl dX7_doStep_100 (fun x18 => ?_)
        refine pz_goto 113 dX7_doStep_101 (by decide) ?_
        exact pz_sub [] rfl (S_X7_doStep_b113 X n x11 x4 x6 x18)
  · refine pz_aload_n 1 dX7_doStep_19 rfl ?_
    refine pz_cvI (st := []) (md_X7_firstNotWhole X n l0) ck_7 rfl mk_X7_firstNotWhole (Or.inl pw_591) pw_593 ps_8 rfl rfl (by decide) (by decide) (by decide) dX7_doStep_20 (fun x19 => ?_)
    refine pz_istore_n [(2, .int x19), (1, .int x2), (0, va_rf l0)] dX7_doStep_23 (by decide) rfl ?_
    refine pz_iload_n 0 dX7_doStep_24 rfl ?_
    refine pz_if_lt 36 dX7_doStep_25 (by decide) ?_ ?_
    · refine pz_aload_n 2 dX7_doStep_36 rfl ?_
      refine pz_iconst 2 dX7_doStep_37 (by decide) ?_
      refine pz_put (ci := 7) (k := 4) ck_7 (by decide) (Or.inl pw_304) (Or.inl rfl) rfl rfl dX7_doStep_38 ?_
      exact pz_sub [] rfl (S_X7_doStep_b41 X n)
    · refine pz_aload_n 2 dX7_doStep_28 rfl ?_
      refine pz_iload_n 0 dX7_doStep_29 rfl ?_
      refine pz_cvU (st := []) (md_X7_split X n l0 x19) ck_7 rfl mk_X7_split (Or.inl pw_644) pw_646 ps_13 rfl rfl (by decide) (by decide) (by decide) dX7_doStep_30 (fun _ => ?_)
      refine pz_goto 41 dX7_doStep_33 (by decide) ?_
      exact pz_sub [] rfl (S_X7_doStep_b41 X n)
set_option maxRecDepth 20000 in
theorem md_X7_doStep (X : pz_X) (n : Nat) (l0 : Option Nat) : pz_Md X yX7_doStep J_X7_doStep pz_vU [va_rf l0] (X7_doStep n l0) :=
  pz_md [(0, va_rf l0)] (by decide +kernel) rfl rfl (by cases l0 <;> rfl) (by cases l0 <;> exact Nat.le_of_ble_eq_true rfl) (fun X => S_X7_doStep X n l0)
set_option maxRecDepth 20000 in
theorem S_X11_solve_b22 (X : pz_X) (n : Nat) : pz_Sm X (pz_QM X) J_X11_solve pz_vI 22 [] [] (X11_solve_b22 n) := by
  unfold X11_solve_b22
  refine pz_iconst (-1) dX11_solve_22 (by decide) ?_
  exact pz_iret rfl dX11_solve_23
set_option maxRecDepth 20000 in
theorem S_X11_solve_b72 (X : pz_X) (n : Nat) (l2 : Int32) : pz_Sm X (pz_QM X) J_X11_solve pz_vI 72 [(2, .int l2)] [] (X11_solve_b72 n l2) := by
  unfold X11_solve_b72
  refine pz_iload_n 0 dX11_solve_72 rfl ?_
  exact pz_iret rfl dX11_solve_73
set_option maxRecDepth 20000 in
theorem S_X11_solve_L43_body (X : pz_X) (n : Nat) (l0 : Option Nat) (l1 : Int32) (K43 : Int32 → pz_C Int32) (hK43 : ∀ (l2 : Int32), pz_Sm X (pz_QM X) J_X11_solve pz_vI 43 [(0, va_rf l0), (1, .int l1), (2, .int l2)] [] (K43 l2)) (l2 : Int32) : pz_Sm X (pz_QM X) J_X11_solve pz_vI 43 [(0, va_rf l0), (1, .int l1), (2, .int l2)] [] (X11_solve_L43_body n l0 l1 K43 l2) := by
  unfold X11_solve_L43_body
  refine pz_iload_n 2 dX11_solve_43 rfl ?_
  refine pz_iload_n 1 dX11_solve_44 rfl ?_
  refine pz_icmp_ge 72 dX11_solve_45 (by decide) ?_ ?_
  · exact pz_sub [2] rfl (S_X11_solve_b72 X n l2)
  · refine pz_aload_n 0 dX11_solve_48 rfl ?_
    refine pz_getR (ci := 11) (k := 5) ck_11 (by decide) (Or.inl pw_405) dX11_solve_49 (fun x7 => ?_)
    refine pz_getI (ci := 7) (k := 4) ck_7 (by decide) (Or.inl pw_305) dX11_solve_52 (fun x8 => ?_)
    refine pz_iconst 1 dX11_solve_55 (by decide) ?_
    refine pz_icmp_ne 72 dX11_solve_56 (by decide) ?_ ?_
    · refine pz_aload_n 0 dX11_solve_59 rfl ?_
      refine pz_getR (ci := 11) (k := 5) ck_11 (by decide) (Or.inl pw_405) dX11_solve_60 (fun x9 => ?_)
      refine pz_cvU (st := []) (md_X7_doStep X n x9) ck_7 rfl mk_X7_doStep (Or.inl pw_550) pw_551 pw_552 rfl rfl (by decide) (by decide) (by decide) dX11_solve_63 (fun _ => ?_)
      refine pz_iinc 2 1 (fun l2_11 => [(2, .int l2_11), (0, va_rf l0), (1, .int l1)]) dX11_solve_66 rfl (by decide) (by decide) (fun l2_11 => rfl) (fun l2_11 => ?_)
      refine pz_goto 43 dX11_solve_69 (by decide) ?_
      exact pz_sub [1, 2, 0] rfl (hK43 l2_11)
    · exact pz_sub [2] rfl (S_X11_solve_b72 X n l2)
set_option maxRecDepth 20000 in
theorem S_X11_solve_L43 (X : pz_X) (n : Nat) (l0 : Option Nat) (l1 : Int32) (l2 : Int32) : pz_Sm X (pz_QM X) J_X11_solve pz_vI 43 [(0, va_rf l0), (1, .int l1), (2, .int l2)] [] (X11_solve_L43 n l0 l1 l2) :=
  pz_lp (L := fun (s : Int32) => [(0, va_rf l0), (1, .int l1), (2, .int s)]) (fun K hK s => S_X11_solve_L43_body X n l0 l1 (fun l2 => K l2) (fun l2 => hK l2) s) n l2
set_option maxRecDepth 20000 in
theorem S_X11_solve_b41 (X : pz_X) (n : Nat) (l0 : Option Nat) (l1 : Int32) : pz_Sm X (pz_QM X) J_X11_solve pz_vI 41 [(0, va_rf l0), (1, .int l1)] [] (X11_solve_b41 n l0 l1) := by
  unfold X11_solve_b41
  refine pz_iconst 0 dX11_solve_41 (by decide) ?_
  refine pz_istore_n [(2, .int 0), (0, va_rf l0), (1, .int l1)] dX11_solve_42 (by decide) rfl ?_
  exact pz_sub [1, 2, 0] rfl (S_X11_solve_L43 X n l0 l1 0)
set_option maxRecDepth 20000 in
theorem S_X11_solve (X : pz_X) (n : Nat) (l0 : Option Nat) (l1 : Int32) : pz_Sm X (pz_QM X) J_X11_solve pz_vI 0 [(0, va_rf l0), (1, .int l1)] [] (X11_solve n l0 l1) := by
  unfold X11_solve
  refine pz_aload_n 0 dX11_solve_0 rfl ?_
  refine pz_getR (ci := 11) (k := 0) ck_11 (by decide) (Or.inl pw_400) dX11_solve_1 (fun x1 => ?_)
  refine pz_getI (ci := 6) (k := 5) ck_6 (by decide) (Or.inl pw_50) dX11_solve_4 (fun x2 => ?_)
  refine pz_if_eq 22 dX11_solve_7 (by decide) ?_ ?_
  · exact pz_sub [] rfl (S_X11_solve_b22 X n)
  · refine pz_iload_n 1 dX11_solve_10 rfl ?_
    refine pz_iconst 1 dX11_solve_11 (by decide) ?_
    refine pz_icmp_lt 22 dX11_solve_12 (by decide) ?_ ?_
    · exact pz_sub [] rfl (S_X11_solve_b22 X n)
    · refine pz_iload_n 1 dX11_solve_15 rfl ?_
      refine pz_sipush 20000 dX11_solve_16 (by decide) ?_
      refine pz_icmp_le 24 dX11_solve_19 (by decide) ?_ ?_
      · refine pz_aload_n 0 dX11_solve_24 rfl ?_
        refine pz_getR (ci := 11) (k := 5) ck_11 (by decide) (Or.inl pw_405) dX11_solve_25 (fun x3 => ?_)
        refine pz_getI (ci := 7) (k := 4) ck_7 (by decide) (Or.inl pw_305) dX11_solve_28 (fun x4 => ?_)
        refine pz_if_ne 41 dX11_solve_31 (by decide) ?_ ?_
        · refine pz_aload_n 0 dX11_solve_34 rfl ?_
          refine pz_getR (ci := 11) (k := 5) ck_11 (by decide) (Or.inl pw_405) dX11_solve_35 (fun x5 => ?_)
          refine pz_cvU (st := []) (md_X7_begin X n x5) ck_7 rfl mk_X7_begin (Or.inl pw_473) pw_474 pw_475 rfl rfl (by decide) (by decide) (by decide) dX11_solve_38 (fun _ => ?_)
          exact pz_sub [0, 1] rfl (S_X11_solve_b41 X n l0 l1)
        · exact pz_sub [0, 1] rfl (S_X11_solve_b41 X n l0 l1)
      · exact pz_sub [] rfl (S_X11_solve_b22 X n)
set_option maxRecDepth 20000 in
theorem md_X11_solve (X : pz_X) (n : Nat) (l0 : Option Nat) (l1 : Int32) : pz_Md X yX11_solve J_X11_solve pz_vI [va_rf l0, .int l1] (X11_solve n l0 l1) :=
  pz_md [(0, va_rf l0), (1, .int l1)] (by decide +kernel) rfl rfl (by cases l0 <;> rfl) (by cases l0 <;> exact Nat.le_of_ble_eq_true rfl) (fun X => S_X11_solve X n l0 l1)
set_option maxRecDepth 20000 in
theorem S_X12_valueAt (X : pz_X) (n : Nat) (l0 : Int32) : pz_Sm X (pz_QM X) J_X12_valueAt pz_vI 0 [(0, .int l0)] [] (X12_valueAt n l0) := by
  unfold X12_valueAt
  refine pz_sipush 3856 dX12_valueAt_0 (by decide) ?_
  refine pz_sipush 300 dX12_valueAt_3 (by decide) ?_
  refine pz_iload_n 0 dX12_valueAt_6 rfl ?_
  refine pz_imul dX12_valueAt_7 ?_
  refine pz_iadd dX12_valueAt_8 ?_
  exact pz_iret rfl dX12_valueAt_9
set_option maxRecDepth 20000 in
theorem md_X12_valueAt (X : pz_X) (n : Nat) (l0 : Int32) : pz_Md X yX12_valueAt J_X12_valueAt pz_vI [.int l0] (X12_valueAt n l0) :=
  pz_md [(0, .int l0)] (by decide +kernel) rfl rfl (by rfl) (by exact Nat.le_of_ble_eq_true rfl) (fun X => S_X12_valueAt X n l0)
set_option maxRecDepth 20000 in
theorem S_X12_factorAt (X : pz_X) (n : Nat) (l0 : Int32) (l1 : Int32) : pz_Sm X (pz_QM X) J_X12_factorAt pz_vI 0 [(0, .int l0), (1, .int l1)] [] (X12_factorAt n l0 l1) := by
  unfold X12_factorAt
  refine pz_bipush 16 dX12_factorAt_0 (by decide) ?_
  refine pz_bipush 16 dX12_factorAt_2 (by decide) ?_
  refine pz_bipush 10 dX12_factorAt_4 (by decide) ?_
  refine pz_iload_n 0 dX12_factorAt_6 rfl ?_
  refine pz_imul dX12_factorAt_7 ?_
  refine pz_iload_n 1 dX12_factorAt_8 rfl ?_
  refine pz_iadd dX12_factorAt_9 ?_
  refine pz_imul dX12_factorAt_10 ?_
  refine pz_iadd dX12_factorAt_11 ?_
  exact pz_iret rfl dX12_factorAt_12
set_option maxRecDepth 20000 in
theorem md_X12_factorAt (X : pz_X) (n : Nat) (l0 : Int32) (l1 : Int32) : pz_Md X yX12_factorAt J_X12_factorAt pz_vI [.int l0, .int l1] (X12_factorAt n l0 l1) :=
  pz_md [(0, .int l0), (1, .int l1)] (by decide +kernel) rfl rfl (by rfl) (by exact Nat.le_of_ble_eq_true rfl) (fun X => S_X12_factorAt X n l0 l1)
set_option maxRecDepth 20000 in
theorem S_X12_multiplierAt (X : pz_X) (n : Nat) (l0 : Int32) (l1 : Int32) (l2 : Int32) : pz_Sm X (pz_QM X) J_X12_multiplierAt pz_vI 0 [(0, .int l0), (1, .int l1), (2, .int l2)] [] (X12_multiplierAt n l0 l1 l2) := by
  unfold X12_multiplierAt
  refine pz_ldc 116056 dX12_multiplierAt_0 pw_1093 ?_
  refine pz_bipush 16 dX12_multiplierAt_2 (by decide) ?_
  refine pz_iconst 2 dX12_multiplierAt_4 (by decide) ?_
  refine pz_bipush 32 dX12_multiplierAt_5 (by decide) ?_
  refine pz_iload_n 0 dX12_multiplierAt_7 rfl ?_
  refine pz_imul dX12_multiplierAt_8 ?_
  refine pz_iload_n 1 dX12_multiplierAt_9 rfl ?_
  refine pz_iadd dX12_multiplierAt_10 ?_
  refine pz_imul dX12_multiplierAt_11 ?_
  refine pz_iload_n 2 dX12_multiplierAt_12 rfl ?_
  refine pz_iadd dX12_multiplierAt_13 ?_
  refine pz_imul dX12_multiplierAt_14 ?_
  refine pz_iadd dX12_multiplierAt_15 ?_
  exact pz_iret rfl dX12_multiplierAt_16
set_option maxRecDepth 20000 in
theorem md_X12_multiplierAt (X : pz_X) (n : Nat) (l0 : Int32) (l1 : Int32) (l2 : Int32) : pz_Md X yX12_multiplierAt J_X12_multiplierAt pz_vI [.int l0, .int l1, .int l2] (X12_multiplierAt n l0 l1 l2) :=
  pz_md [(0, .int l0), (1, .int l1), (2, .int l2)] (by decide +kernel) rfl rfl (by rfl) (by exact Nat.le_of_ble_eq_true rfl) (fun X => S_X12_multiplierAt X n l0 l1 l2)
set_option maxRecDepth 20000 in
theorem S_X12_newNode_L78_body (X : pz_X) (n : Nat) (l0 : Option Nat) (l2 : Int32) (K78 : Int32 → pz_C Int32) (hK78 : ∀ (l3 : Int32), pz_Sm X (pz_QM X) J_X12_newNode pz_vI 78 [(0, va_rf l0), (2, .int l2), (3, .int l3)] [] (K78 l3)) (l3 : Int32) : pz_Sm X (pz_QM X) J_X12_newNode pz_vI 78 [(0, va_rf l0), (2, .int l2), (3, .int l3)] [] (X12_newNode_L78_body n l0 l2 K78 l3) := by
  unfold X12_newNode_L78_body
  refine pz_iload_n 2 dX12_newNode_78 rfl ?_
  refine pz_bipush 32 dX12_newNode_79 (by decide) ?_
  refine pz_icmp_ge 122 dX12_newNode_81 (by decide) ?_ ?_
  · refine pz_iload_n 1 dX12_newNode_122 rfl ?_
    exact pz_iret rfl dX12_newNode_123
  · refine pz_aload_n 0 dX12_newNode_84 rfl ?_
    refine pz_aload_n 0 dX12_newNode_85 rfl ?_
    refine pz_getR (ci := 12) (k := 22) ck_12 (by decide) (Or.inl pw_954) dX12_newNode_86 (fun x12 => ?_)
    refine pz_iload_n 1 dX12_newNode_89 rfl ?_
    refine pz_iald (t := 0) rfl dX12_newNode_90 (fun x13 => ?_)
    refine pz_iload_n 2 dX12_newNode_91 rfl ?_
    refine pz_iconst 0 dX12_newNode_92 (by decide) ?_
    refine pz_csI (st := [va_rf l0]) (md_X12_multiplierAt X n x13 l3 0) mk_X12_multiplierAt (Or.inl pw_1090) pw_1091 rfl rfl (by simp [pz_rf1, pz_ci, pz_cl]) (by decide) (by decide) dX12_newNode_93 (fun x14 => ?_)
    refine pz_lconst 0 dX12_newNode_96 (by decide) ?_
    refine pz_cvU (st := []) (md_X12_setWhole X n l0 x14 0) ck_12 rfl mk_X12_setWhole (Or.inl pw_915) pw_917 ps_29 rfl rfl (by decide) (by decide) (by decide) dX12_newNode_97 (fun _ => ?_)
    refine pz_aload_n 0 dX12_newNode_100 rfl ?_
    refine pz_aload_n 0 dX12_newNode_101 rfl ?_
    refine pz_getR (ci := 12) (k := 22) ck_12 (by decide) (Or.inl pw_954) dX12_newNode_102 (fun x16 => ?_)
    refine pz_iload_n 1 dX12_newNode_105 rfl ?_
    refine pz_iald (t := 0) rfl dX12_newNode_106 (fun x17 => ?_)
    refine pz_iload_n 2 dX12_newNode_107 rfl ?_
    refine pz_iconst 1 dX12_newNode_108 (by decide) ?_
    refine pz_csI (st := [va_rf l0]) (md_X12_multiplierAt X n x17 l3 1) mk_X12_multiplierAt (Or.inl pw_1090) pw_1091 rfl rfl (by simp [pz_rf1, pz_ci, pz_cl]) (by decide) (by decide) dX12_newNode_109 (fun x18 => ?_)
    refine pz_lconst 1 dX12_newNode_112 (by decide) ?_
    refine pz_cvU (st := []) (md_X12_setWhole X n l0 x18 1) ck_12 rfl mk_X12_setWhole (Or.inl pw_915) pw_917 ps_29 rfl rfl (by decide) (by decide) (by decide) dX12_newNode_113 (fun _ => ?_)
    refine pz_iinc 2 1 (fun l3_20 => [(3, .int l3_20), (0, va_rf l0), (2, .int l2)]) dX12_newNode_116 rfl (by decide) (by decide) (fun l3_20 => rfl) (fun l3_20 => ?_)
    refine pz_goto 78 dX12_newNode_119 (by decide) ?_
    exact pz_sub [1, 2, 0] rfl (hK78 l3_20)
set_option maxRecDepth 20000 in
theorem S_X12_newNode_L78 (X : pz_X) (n : Nat) (l0 : Option Nat) (l2 : Int32) (l3 : Int32) : pz_Sm X (pz_QM X) J_X12_newNode pz_vI 78 [(0, va_rf l0), (2, .int l2), (3, .int l3)] [] (X12_newNode_L78 n l0 l2 l3) :=
  pz_lp (L := fun (s : Int32) => [(0, va_rf l0), (2, .int l2), (3, .int s)]) (fun K hK s => S_X12_newNode_L78_body X n l0 l2 (fun l3 => K l3) (fun l3 => hK l3) s) n l3
set_option maxRecDepth 20000 in
theorem S_X12_newNode (X : pz_X) (n : Nat) (l0 : Option Nat) (l1 : Int32) : pz_Sm X (pz_QM X) J_X12_newNode pz_vI 0 [(0, va_rf l0), (1, .int l1)] [] (X12_newNode n l0 l1) := by
  unfold X12_newNode
  refine pz_aload_n 0 dX12_newNode_0 rfl ?_
  refine pz_getI (ci := 12) (k := 15) ck_12 (by decide) (Or.inl pw_947) dX12_newNode_1 (fun x1 => ?_)
  refine pz_istore_n [(2, .int x1), (0, va_rf l0), (1, .int l1)] dX12_newNode_4 (by decide) rfl ?_
  refine pz_aload_n 1 dX12_newNode_5 rfl ?_
  refine pz_dup dX12_newNode_6 (pz_rf1 _) ?_
  refine pz_getI (ci := 12) (k := 15) ck_12 (by decide) (Or.inl pw_947) dX12_newNode_7 (fun x2 => ?_)
  refine pz_iconst 1 dX12_newNode_10 (by decide) ?_
  refine pz_iadd dX12_newNode_11 ?_
  refine pz_put (ci := 12) (k := 15) ck_12 (by decide) (Or.inl pw_947) (Or.inl rfl) rfl rfl dX12_newNode_12 ?_
  refine pz_aload_n 1 dX12_newNode_15 rfl ?_
  refine pz_getR (ci := 12) (k := 16) ck_12 (by decide) (Or.inl pw_948) dX12_newNode_16 (fun x3 => ?_)
  refine pz_iload_n 0 dX12_newNode_19 rfl ?_
  refine pz_iconst 0 dX12_newNode_20 (by decide) ?_
  refine pz_zast (t := 1) rfl dX12_newNode_21 ?_
  refine pz_aload_n 1 dX12_newNode_22 rfl ?_
  refine pz_getR (ci := 12) (k := 17) ck_12 (by decide) (Or.inl pw_949) dX12_newNode_23 (fun x4 => ?_)
  refine pz_iload_n 0 dX12_newNode_26 rfl ?_
  refine pz_iconst 0 dX12_newNode_27 (by decide) ?_
  refine pz_zast (t := 1) rfl dX12_newNode_28 ?_
  refine pz_aload_n 1 dX12_newNode_29 rfl ?_
  refine pz_getR (ci := 12) (k := 19) ck_12 (by decide) (Or.inl pw_951) dX12_newNode_30 (fun x5 => ?_)
  refine pz_iload_n 0 dX12_newNode_33 rfl ?_
  refine pz_bipush (-2) dX12_newNode_34 (by decide) ?_
  refine pz_iast (t := 0) rfl dX12_newNode_36 ?_
  refine pz_aload_n 1 dX12_newNode_37 rfl ?_
  refine pz_getR (ci := 12) (k := 20) ck_12 (by decide) (Or.inl pw_952) dX12_newNode_38 (fun x6 => ?_)
  refine pz_iload_n 0 dX12_newNode_41 rfl ?_
  refine pz_bipush (-2) dX12_newNode_42 (by decide) ?_
  refine pz_iast (t := 0) rfl dX12_newNode_44 ?_
  refine pz_aload_n 1 dX12_newNode_45 rfl ?_
  refine pz_getR (ci := 12) (k := 21) ck_12 (by decide) (Or.inl pw_953) dX12_newNode_46 (fun x7 => ?_)
  refine pz_iload_n 0 dX12_newNode_49 rfl ?_
  refine pz_iload_n 2 dX12_newNode_50 rfl ?_
  refine pz_iast (t := 0) rfl dX12_newNode_51 ?_
  refine pz_aload_n 1 dX12_newNode_52 rfl ?_
  refine pz_getR (ci := 12) (k := 22) ck_12 (by decide) (Or.inl pw_954) dX12_newNode_53 (fun x8 => ?_)
  refine pz_iload_n 0 dX12_newNode_56 rfl ?_
  refine pz_aload_n 1 dX12_newNode_57 rfl ?_
  refine pz_getI (ci := 12) (k := 23) ck_12 (by decide) (Or.inl pw_955) dX12_newNode_58 (fun x9 => ?_)
  refine pz_sipush 152 dX12_newNode_61 (by decide) ?_
  refine pz_irem dX12_newNode_64 (fun x10 => ?_)
  refine pz_iast (t := 0) rfl dX12_newNode_65 ?_
  refine pz_aload_n 1 dX12_newNode_66 rfl ?_
  refine pz_dup dX12_newNode_67 (pz_rf1 _) ?_
  refine pz_getI (ci := 12) (k := 23) ck_12 (by decide) (Or.inl pw_955) dX12_newNode_68 (fun x11 => ?_)
  refine pz_iconst 1 dX12_newNode_71 (by decide) ?_
  refine pz_iadd dX12_newNode_72 ?_
  refine pz_put (ci := 12) (k := 23) ck_12 (by decide) (Or.inl pw_955) (Or.inl rfl) rfl rfl dX12_newNode_73 ?_
  refine pz_iconst 0 dX12_newNode_76 (by decide) ?_
  refine pz_istore_n [(3, .int 0), (2, .int x1), (0, va_rf l0), (1, .int l1)] dX12_newNode_77 (by decide) rfl ?_
  exact pz_sub [2, 1, 0] rfl (S_X12_newNode_L78 X n l0 x1 0)
set_option maxRecDepth 20000 in
theorem md_X12_newNode (X : pz_X) (n : Nat) (l0 : Option Nat) (l1 : Int32) : pz_Md X yX12_newNode J_X12_newNode pz_vI [va_rf l0, .int l1] (X12_newNode n l0 l1) :=
  pz_md [(0, va_rf l0), (1, .int l1)] (by decide +kernel) rfl rfl (by cases l0 <;> rfl) (by cases l0 <;> exact Nat.le_of_ble_eq_true rfl) (fun X => S_X12_newNode X n l0 l1)
set_option maxRecDepth 20000 in
theorem S_X12_begin_L87_body (X : pz_X) (n : Nat) (l0 : Option Nat) (K65 : Int32 → pz_C Unit) (hK65 : ∀ (l1 : Int32), pz_Sm X (pz_QM X) J_X12_begin pz_vU 65 [(0, va_rf l0), (1, .int l1)] [] (K65 l1)) (l1 : Int32) (K87 : Int32 → pz_C Unit) (hK87 : ∀ (l2 : Int32), pz_Sm X (pz_QM X) J_X12_begin pz_vU 87 [(0, va_rf l0), (1, .int l1), (2, .int l2)] [] (K87 l2)) (l2 : Int32) : pz_Sm X (pz_QM X) J_X12_begin pz_vU 87 [(0, va_rf l0), (1, .int l1), (2, .int l2)] [] (X12_begin_L87_body n K65 l0 l1 K87 l2) := by
  unfold X12_begin_L87_body
  refine pz_iload_n 2 dX12_begin_87 rfl ?_
  refine pz_aload_n 0 dX12_begin_88 rfl ?_
  refine pz_getI (ci := 12) (k := 0) ck_12 (by decide) (Or.inl pw_932) dX12_begin_89 (fun x7 => ?_)
  refine pz_icmp_ge 122 dX12_begin_92 (by decide) ?_ ?_
  · refine pz_iinc 1 1 (fun l1_8 => [(1, .int l1_8), (0, va_rf l0), (2, .int l2)]) dX12_begin_122 rfl (by decide) (by decide) (fun l1_8 => (by cases l0 <;> rfl)) (fun l1_8 => ?_)
    refine pz_goto 65 dX12_begin_125 (by decide) ?_
    exact pz_sub [1, 0] rfl (hK65 l1_8)
  · refine pz_aload_n 0 dX12_begin_95 rfl ?_
    refine pz_iload_n 1 dX12_begin_96 rfl ?_
    refine pz_iload_n 2 dX12_begin_97 rfl ?_
    refine pz_csI (st := [va_rf l0]) (md_X12_factorAt X n l1 l2) mk_X12_factorAt (Or.inl pw_1083) pw_1084 rfl rfl (by simp [pz_rf1, pz_ci, pz_cl]) (by decide) (by decide) dX12_begin_98 (fun x9 => ?_)
    refine pz_aload_n 0 dX12_begin_101 rfl ?_
    refine pz_getR (ci := 12) (k := 2) ck_12 (by decide) (Or.inl pw_934) dX12_begin_102 (fun x10 => ?_)
    refine pz_bipush 10 dX12_begin_105 (by decide) ?_
    refine pz_iload_n 1 dX12_begin_107 rfl ?_
    refine pz_imul dX12_begin_108 ?_
    refine pz_iload_n 2 dX12_begin_109 rfl ?_
    refine pz_iadd dX12_begin_110 ?_
    refine pz_iald (t := 0) rfl dX12_begin_111 (fun x11 => ?_)
    refine pz_i2l dX12_begin_112 ?_
    refine pz_cvU (st := []) (md_X12_setWhole X n l0 x9 (Int32.toInt64 x11)) ck_12 rfl mk_X12_setWhole (Or.inl pw_915) pw_917 ps_29 rfl rfl (by decide) (by decide) (by decide) dX12_begin_113 (fun _ => ?_)
    refine pz_iinc 2 1 (fun l2_13 => [(2, .int l2_13), (0, va_rf l0), (1, .int l1)]) dX12_begin_116 rfl (by decide) (by decide) (fun l2_13 => rfl) (fun l2_13 => ?_)
    refine pz_goto 87 dX12_begin_119 (by decide) ?_
    exact pz_sub [1, 2, 0] rfl (hK87 l2_13)
set_option maxRecDepth 20000 in
theorem S_X12_begin_L87 (X : pz_X) (n : Nat) (l0 : Option Nat) (K65 : Int32 → pz_C Unit) (hK65 : ∀ (l1 : Int32), pz_Sm X (pz_QM X) J_X12_begin pz_vU 65 [(0, va_rf l0), (1, .int l1)] [] (K65 l1)) (l1 : Int32) (l2 : Int32) : pz_Sm X (pz_QM X) J_X12_begin pz_vU 87 [(0, va_rf l0), (1, .int l1), (2, .int l2)] [] (X12_begin_L87 n K65 l0 l1 l2) :=
  pz_lp (L := fun (s : Int32) => [(0, va_rf l0), (1, .int l1), (2, .int s)]) (fun K hK s => S_X12_begin_L87_body X n l0 K65 hK65 l1 (fun l2 => K l2) (fun l2 => hK l2) s) n l2
set_option maxRecDepth 20000 in
theorem S_X12_begin_L65_body (X : pz_X) (n : Nat) (l0 : Option Nat) (K65 : Int32 → pz_C Unit) (hK65 : ∀ (l1 : Int32), pz_Sm X (pz_QM X) J_X12_begin pz_vU 65 [(0, va_rf l0), (1, .int l1)] [] (K65 l1)) (l1 : Int32) : pz_Sm X (pz_QM X) J_X12_begin pz_vU 65 [(0, va_rf l0), (1, .int l1)] [] (X12_begin_L65_body n l0 K65 l1) := by
  unfold X12_begin_L65_body
  refine pz_iload_n 1 dX12_begin_65 rfl ?_
  refine pz_aload_n 0 dX12_begin_66 rfl ?_
  refine pz_getI (ci := 12) (k := 1) ck_12 (by decide) (Or.inl pw_933) dX12_begin_67 (fun x3 => ?_)
  refine pz_icmp_ge 128 dX12_begin_70 (by decide) ?_ ?_
  · refine pz_aload_n 0 dX12_begin_128 rfl ?_
    refine pz_aload_n 0 dX12_begin_129 rfl ?_
    refine pz_bipush (-2) dX12_begin_130 (by decide) ?_
    refine pz_cvI (st := [va_rf l0]) (md_X12_newNode X n l0 (-2)) ck_12 rfl mk_X12_newNode (Or.inl pw_1086) pw_1088 ps_36 rfl rfl (by simp [pz_rf1, pz_ci, pz_cl]) (by decide) (by decide) dX12_begin_132 (fun x4 => ?_)
    refine pz_put (ci := 12) (k := 24) ck_12 (by decide) (Or.inl pw_956) (Or.inl rfl) rfl rfl dX12_begin_135 ?_
    exact pz_vret rfl dX12_begin_138
  · refine pz_aload_n 0 dX12_begin_73 rfl ?_
    refine pz_getR (ci := 12) (k := 13) ck_12 (by decide) (Or.inl pw_945) dX12_begin_74 (fun x5 => ?_)
    refine pz_iload_n 1 dX12_begin_77 rfl ?_
    refine pz_aload_n 0 dX12_begin_78 rfl ?_
    refine pz_getI (ci := 12) (k := 0) ck_12 (by decide) (Or.inl pw_932) dX12_begin_79 (fun x6 => ?_)
    refine pz_iload_n 1 dX12_begin_82 rfl ?_
    refine pz_iadd dX12_begin_83 ?_
    refine pz_iast (t := 0) rfl dX12_begin_84 ?_
    refine pz_iconst 0 dX12_begin_85 (by decide) ?_
    refine pz_istore_n [(2, .int 0), (0, va_rf l0), (1, .int l1)] dX12_begin_86 (by decide) rfl ?_
    exact pz_sub [1, 2, 0] rfl (S_X12_begin_L87 X n l0 K65 hK65 l1 0)
set_option maxRecDepth 20000 in
theorem S_X12_begin_L65 (X : pz_X) (n : Nat) (l0 : Option Nat) (l1 : Int32) : pz_Sm X (pz_QM X) J_X12_begin pz_vU 65 [(0, va_rf l0), (1, .int l1)] [] (X12_begin_L65 n l0 l1) :=
  pz_lp (L := fun (s : Int32) => [(0, va_rf l0), (1, .int s)]) (fun K hK s => S_X12_begin_L65_body X n l0 (fun l1 => K l1) (fun l1 => hK l1) s) n l1
set_option maxRecDepth 20000 in
theorem S_X12_begin_L7_body (X : pz_X) (n : Nat) (l0 : Option Nat) (K7 : Int32 → pz_C Unit) (hK7 : ∀ (l1 : Int32), pz_Sm X (pz_QM X) J_X12_begin pz_vU 7 [(0, va_rf l0), (1, .int l1)] [] (K7 l1)) (l1 : Int32) : pz_Sm X (pz_QM X) J_X12_begin pz_vU 7 [(0, va_rf l0), (1, .int l1)] [] (X12_begin_L7_body n l0 K7 l1) := by
  unfold X12_begin_L7_body
  refine pz_iload_n 1 dX12_begin_7 rfl ?_
  refine pz_aload_n 0 dX12_begin_8 rfl ?_
  refine pz_getI (ci := 12) (k := 0) ck_12 (by decide) (Or.inl pw_932) dX12_begin_9 (fun x1 => ?_)
  refine pz_icmp_ge 57 dX12_begin_12 (by decide) ?_ ?_
  · refine pz_aload_n 0 dX12_begin_57 rfl ?_
    refine pz_iconst 0 dX12_begin_58 (by decide) ?_
    refine pz_lconst 1 dX12_begin_59 (by decide) ?_
    refine pz_cvU (st := []) (md_X12_setWhole X n l0 0 1) ck_12 rfl mk_X12_setWhole (Or.inl pw_915) pw_917 ps_29 rfl rfl (by decide) (by decide) (by decide) dX12_begin_60 (fun _ => ?_)
    refine pz_iconst 0 dX12_begin_63 (by decide) ?_
    refine pz_istore_n [(1, .int 0), (0, va_rf l0)] dX12_begin_64 (by decide) (by cases l0 <;> rfl) ?_
    exact pz_sub [1, 0] rfl (S_X12_begin_L65 X n l0 0)
  · refine pz_aload_n 0 dX12_begin_15 rfl ?_
    refine pz_getR (ci := 12) (k := 14) ck_12 (by decide) (Or.inl pw_946) dX12_begin_16 (fun x14 => ?_)
    refine pz_iload_n 1 dX12_begin_19 rfl ?_
    refine pz_iload_n 1 dX12_begin_20 rfl ?_
    refine pz_iast (t := 0) rfl dX12_begin_21 ?_
    refine pz_aload_n 0 dX12_begin_22 rfl ?_
    refine pz_iload_n 1 dX12_begin_23 rfl ?_
    refine pz_csI (st := [va_rf l0]) (md_X12_valueAt X n l1) mk_X12_valueAt (Or.inl pw_1080) pw_1081 rfl rfl (by simp [pz_rf1, pz_ci, pz_cl]) (by decide) (by decide) dX12_begin_24 (fun x15 => ?_)
    refine pz_lconst 0 dX12_begin_27 (by decide) ?_
    refine pz_cvU (st := []) (md_X12_setWhole X n l0 x15 0) ck_12 rfl mk_X12_setWhole (Or.inl pw_915) pw_917 ps_29 rfl rfl (by decide) (by decide) (by decide) dX12_begin_28 (fun _ => ?_)
    refine pz_aload_n 0 dX12_begin_31 rfl ?_
    refine pz_getR (ci := 12) (k := 12) ck_12 (by decide) (Or.inl pw_944) dX12_begin_32 (fun x17 => ?_)
    refine pz_iconst 2 dX12_begin_35 (by decide) ?_
    refine pz_iload_n 1 dX12_begin_36 rfl ?_
    refine pz_imul dX12_begin_37 ?_
    refine pz_iconst 0 dX12_begin_38 (by decide) ?_
    refine pz_zast (t := 1) rfl dX12_begin_39 ?_
    refine pz_aload_n 0 dX12_begin_40 rfl ?_
    refine pz_getR (ci := 12) (k := 12) ck_12 (by decide) (Or.inl pw_944) dX12_begin_41 (fun x18 => ?_)
    refine pz_iconst 2 dX12_begin_44 (by decide) ?_
    refine pz_iload_n 1 dX12_begin_45 rfl ?_
    refine pz_imul dX12_begin_46 ?_
    refine pz_iconst 1 dX12_begin_47 (by decide) ?_
    refine pz_iadd dX12_begin_48 ?_
    refine pz_iconst 0 dX12_begin_49 (by decide) ?_
    refine pz_zast (t := 1) rfl dX12_begin_50 ?_
    refine pz_iinc 1 1 (fun l1_19 => [(1, .int l1_19), (0, va_rf l0)]) dX12_begin_51 rfl (by decide) (by decide) (fun l1_19 => (by cases l0 <;> rfl)) (fun l1_19 => ?_)
    refine pz_goto 7 dX12_begin_54 (by decide) ?_
    exact pz_sub [1, 0] rfl (hK7 l1_19)
set_option maxRecDepth 20000 in
theorem S_X12_begin_L7 (X : pz_X) (n : Nat) (l0 : Option Nat) (l1 : Int32) : pz_Sm X (pz_QM X) J_X12_begin pz_vU 7 [(0, va_rf l0), (1, .int l1)] [] (X12_begin_L7 n l0 l1) :=
  pz_lp (L := fun (s : Int32) => [(0, va_rf l0), (1, .int s)]) (fun K hK s => S_X12_begin_L7_body X n l0 (fun l1 => K l1) (fun l1 => hK l1) s) n l1
set_option maxRecDepth 20000 in
theorem S_X12_begin (X : pz_X) (n : Nat) (l0 : Option Nat) : pz_Sm X (pz_QM X) J_X12_begin pz_vU 0 [(0, va_rf l0)] [] (X12_begin n l0) := by
  unfold X12_begin
  refine pz_aload_n 0 dX12_begin_0 rfl ?_
  refine pz_iconst 1 dX12_begin_1 (by decide) ?_
  refine pz_put (ci := 12) (k := 7) ck_12 (by decide) (Or.inl pw_939) (Or.inl rfl) rfl rfl dX12_begin_2 ?_
  refine pz_iconst 0 dX12_begin_5 (by decide) ?_
  refine pz_istore_n [(1, .int 0), (0, va_rf l0)] dX12_begin_6 (by decide) (by cases l0 <;> rfl) ?_
  exact pz_sub [1, 0] rfl (S_X12_begin_L7 X n l0 0)
set_option maxRecDepth 20000 in
theorem md_X12_begin (X : pz_X) (n : Nat) (l0 : Option Nat) : pz_Md X yX12_begin J_X12_begin pz_vU [va_rf l0] (X12_begin n l0) :=
  pz_md [(0, va_rf l0)] (by decide +kernel) rfl rfl (by cases l0 <;> rfl) (by cases l0 <;> exact Nat.le_of_ble_eq_true rfl) (fun X => S_X12_begin X n l0)
