set_option maxRecDepth 20000 in
theorem S_X4_cancelsVariables_L19_body (X : pz_X) (n : Nat) (l0 : Option Nat) (l1 : Option Nat) (K2 : Int32 → pz_C Int32) (hK2 : ∀ (l2 : Int32), pz_Sm X (pz_QM X) J_X4_cancelsVariables pz_vI 2 [(0, va_rf l0), (1, va_rf l1), (2, .int l2)] [] (K2 l2)) (l2 : Int32) (K19 : Int32 → pz_C Int32) (hK19 : ∀ (l3 : Int32), pz_Sm X (pz_QM X) J_X4_cancelsVariables pz_vI 19 [(0, va_rf l0), (1, va_rf l1), (2, .int l2), (3, .int l3)] [] (K19 l3)) (l3 : Int32) : pz_Sm X (pz_QM X) J_X4_cancelsVariables pz_vI 19 [(0, va_rf l0), (1, va_rf l1), (2, .int l2), (3, .int l3)] [] (X4_cancelsVariables_L19_body n K2 l0 l1 l2 K19 l3) := by
  unfold X4_cancelsVariables_L19_body
  refine pz_iload_n 3 dX4_cancelsVariables_19 rfl ?_
  refine pz_aload_n 0 dX4_cancelsVariables_20 rfl ?_
  refine pz_getR (ci := 4) (k := 0) ck_4 (by decide) (Or.inl pw_345) dX4_cancelsVariables_21 (fun x4 => ?_)
  refine pz_getI (ci := 6) (k := 6) ck_6 (by decide) (Or.inl pw_55) dX4_cancelsVariables_24 (fun x5 => ?_)
  refine pz_icmp_ge 54 dX4_cancelsVariables_27 (by decide) ?_ ?_
  · refine pz_aload_n 0 dX4_cancelsVariables_54 rfl ?_
    refine pz_getR (ci := 4) (k := 6) ck_4 (by decide) (Or.inl pw_351) dX4_cancelsVariables_55 (fun x6 => ?_)
    refine pz_bipush 12 dX4_cancelsVariables_58 (by decide) ?_
    refine pz_iload_n 2 dX4_cancelsVariables_60 rfl ?_
    refine pz_iadd dX4_cancelsVariables_61 ?_
    refine pz_lconst 1 dX4_cancelsVariables_62 (by decide) ?_
    refine pz_last (t := 2) rfl dX4_cancelsVariables_63 ?_
    refine pz_aload_n 0 dX4_cancelsVariables_64 rfl ?_
    refine pz_getR (ci := 4) (k := 6) ck_4 (by decide) (Or.inl pw_351) dX4_cancelsVariables_65 (fun x7 => ?_)
    refine pz_bipush 22 dX4_cancelsVariables_68 (by decide) ?_
    refine pz_iload_n 2 dX4_cancelsVariables_70 rfl ?_
    refine pz_iadd dX4_cancelsVariables_71 ?_
    refine pz_lconst 1 dX4_cancelsVariables_72 (by decide) ?_
    refine pz_last (t := 2) rfl dX4_cancelsVariables_73 ?_
    refine pz_aload_n 0 dX4_cancelsVariables_74 rfl ?_
    refine pz_aload_n 1 dX4_cancelsVariables_75 rfl ?_
    refine pz_getR (ci := 5) (k := 0) ck_5 (by decide) (Or.inl pw_510) dX4_cancelsVariables_76 (fun x8 => ?_)
    refine pz_lconst 0 dX4_cancelsVariables_79 (by decide) ?_
    refine pz_cvI (st := []) (md_X4_compareTotal X n l0 x8 0) ck_4 rfl mk_X4_compareTotal (Or.inl pw_828) pw_830 ps_23 rfl rfl (by decide) (by decide) (by decide) dX4_cancelsVariables_80 (fun x9 => ?_)
    refine pz_if_eq 88 dX4_cancelsVariables_83 (by decide) ?_ ?_
    · refine pz_iinc 2 1 (fun l2_10 => [(2, .int l2_10), (0, va_rf l0), (1, va_rf l1), (3, .int l3)]) dX4_cancelsVariables_88 rfl (by decide) (by decide) (fun l2_10 => (by cases l1 <;> rfl)) (fun l2_10 => ?_)
      refine pz_goto 2 dX4_cancelsVariables_91 (by decide) ?_
      exact pz_sub [1, 2, 0] rfl (hK2 l2_10)
    · refine pz_iconst 0 dX4_cancelsVariables_86 (by decide) ?_
      exact pz_zret rfl dX4_cancelsVariables_87
  · refine pz_aload_n 0 dX4_cancelsVariables_30 rfl ?_
    refine pz_getR (ci := 4) (k := 6) ck_4 (by decide) (Or.inl pw_351) dX4_cancelsVariables_31 (fun x11 => ?_)
    refine pz_iload_n 3 dX4_cancelsVariables_34 rfl ?_
    refine pz_aload_n 0 dX4_cancelsVariables_35 rfl ?_
    refine pz_getR (ci := 4) (k := 0) ck_4 (by decide) (Or.inl pw_345) dX4_cancelsVariables_36 (fun x12 => ?_)
    refine pz_getR (ci := 6) (k := 0) ck_6 (by decide) (Or.inl pw_32) dX4_cancelsVariables_39 (fun x13 => ?_)
    refine pz_iload_n 3 dX4_cancelsVariables_42 rfl ?_
    refine pz_aald (t := 6) rfl rfl dX4_cancelsVariables_43 (fun x14 => ?_)
    refine pz_iload_n 2 dX4_cancelsVariables_44 rfl ?_
    refine pz_iald (t := 0) rfl dX4_cancelsVariables_45 (fun x15 => ?_)
    refine pz_i2l dX4_cancelsVariables_46 ?_
    refine pz_last (t := 2) rfl dX4_cancelsVariables_47 ?_
    refine pz_iinc 3 1 (fun l3_16 => [(3, .int l3_16), (0, va_rf l0), (1, va_rf l1), (2, .int l2)]) dX4_cancelsVariables_48 rfl (by decide) (by decide) (fun l3_16 => rfl) (fun l3_16 => ?_)
    refine pz_goto 19 dX4_cancelsVariables_51 (by decide) ?_
    exact pz_sub [1, 2, 3, 0] rfl (hK19 l3_16)
set_option maxRecDepth 20000 in
theorem S_X4_cancelsVariables_L19 (X : pz_X) (n : Nat) (l0 : Option Nat) (l1 : Option Nat) (K2 : Int32 → pz_C Int32) (hK2 : ∀ (l2 : Int32), pz_Sm X (pz_QM X) J_X4_cancelsVariables pz_vI 2 [(0, va_rf l0), (1, va_rf l1), (2, .int l2)] [] (K2 l2)) (l2 : Int32) (l3 : Int32) : pz_Sm X (pz_QM X) J_X4_cancelsVariables pz_vI 19 [(0, va_rf l0), (1, va_rf l1), (2, .int l2), (3, .int l3)] [] (X4_cancelsVariables_L19 n K2 l0 l1 l2 l3) :=
  pz_lp (L := fun (s : Int32) => [(0, va_rf l0), (1, va_rf l1), (2, .int l2), (3, .int s)]) (fun K hK s => S_X4_cancelsVariables_L19_body X n l0 l1 K2 hK2 l2 (fun l3 => K l3) (fun l3 => hK l3) s) n l3
set_option maxRecDepth 20000 in
theorem S_X4_cancelsVariables_L2_body (X : pz_X) (n : Nat) (l0 : Option Nat) (l1 : Option Nat) (K2 : Int32 → pz_C Int32) (hK2 : ∀ (l2 : Int32), pz_Sm X (pz_QM X) J_X4_cancelsVariables pz_vI 2 [(0, va_rf l0), (1, va_rf l1), (2, .int l2)] [] (K2 l2)) (l2 : Int32) : pz_Sm X (pz_QM X) J_X4_cancelsVariables pz_vI 2 [(0, va_rf l0), (1, va_rf l1), (2, .int l2)] [] (X4_cancelsVariables_L2_body n l0 l1 K2 l2) := by
  unfold X4_cancelsVariables_L2_body
  refine pz_iload_n 2 dX4_cancelsVariables_2 rfl ?_
  refine pz_aload_n 0 dX4_cancelsVariables_3 rfl ?_
  refine pz_getR (ci := 4) (k := 0) ck_4 (by decide) (Or.inl pw_345) dX4_cancelsVariables_4 (fun x1 => ?_)
  refine pz_getI (ci := 6) (k := 5) ck_6 (by decide) (Or.inl pw_49) dX4_cancelsVariables_7 (fun x2 => ?_)
  refine pz_icmp_ge 94 dX4_cancelsVariables_10 (by decide) ?_ ?_
  · refine pz_iconst 1 dX4_cancelsVariables_94 (by decide) ?_
    exact pz_zret rfl dX4_cancelsVariables_95
  · refine pz_aload_n 0 dX4_cancelsVariables_13 rfl ?_
    refine pz_cvU (st := []) (md_X4_clearWeights X n l0) ck_4 rfl mk_X4_clearWeights (Or.inl pw_824) pw_826 ps_22 rfl rfl (by decide) (by decide) (by decide) dX4_cancelsVariables_14 (fun _ => ?_)
    refine pz_iconst 0 dX4_cancelsVariables_17 (by decide) ?_
    refine pz_istore_n [(3, .int 0), (0, va_rf l0), (1, va_rf l1), (2, .int l2)] dX4_cancelsVariables_18 (by decide) rfl ?_
    exact pz_sub [1, 2, 3, 0] rfl (S_X4_cancelsVariables_L19 X n l0 l1 K2 hK2 l2 0)
set_option maxRecDepth 20000 in
theorem S_X4_cancelsVariables_L2 (X : pz_X) (n : Nat) (l0 : Option Nat) (l1 : Option Nat) (l2 : Int32) : pz_Sm X (pz_QM X) J_X4_cancelsVariables pz_vI 2 [(0, va_rf l0), (1, va_rf l1), (2, .int l2)] [] (X4_cancelsVariables_L2 n l0 l1 l2) :=
  pz_lp (L := fun (s : Int32) => [(0, va_rf l0), (1, va_rf l1), (2, .int s)]) (fun K hK s => S_X4_cancelsVariables_L2_body X n l0 l1 (fun l2 => K l2) (fun l2 => hK l2) s) n l2
set_option maxRecDepth 20000 in
theorem S_X4_cancelsVariables (X : pz_X) (n : Nat) (l0 : Option Nat) (l1 : Option Nat) : pz_Sm X (pz_QM X) J_X4_cancelsVariables pz_vI 0 [(0, va_rf l0), (1, va_rf l1)] [] (X4_cancelsVariables n l0 l1) := by
  unfold X4_cancelsVariables
  refine pz_iconst 0 dX4_cancelsVariables_0 (by decide) ?_
  refine pz_istore_n [(2, .int 0), (0, va_rf l0), (1, va_rf l1)] dX4_cancelsVariables_1 (by decide) (by cases l1 <;> rfl) ?_
  exact pz_sub [1, 2, 0] rfl (S_X4_cancelsVariables_L2 X n l0 l1 0)
set_option maxRecDepth 20000 in
theorem md_X4_cancelsVariables (X : pz_X) (n : Nat) (l0 : Option Nat) (l1 : Option Nat) : pz_Md X yX4_cancelsVariables J_X4_cancelsVariables pz_vI [va_rf l0, va_rf l1] (X4_cancelsVariables n l0 l1) :=
  pz_md [(0, va_rf l0), (1, va_rf l1)] (by decide +kernel) rfl rfl (by cases l0 <;> cases l1 <;> rfl) (by cases l0 <;> cases l1 <;> exact Nat.le_of_ble_eq_true rfl) (fun X => S_X4_cancelsVariables X n l0 l1)
set_option maxRecDepth 20000 in
theorem S_X4_isBelowZero_b143 (X : pz_X) (n : Nat) (s0 : Int32) : pz_Sm X (pz_QM X) J_X4_isBelowZero pz_vI 143 [] [.int s0] (X4_isBelowZero_b143 n s0) := by
  unfold X4_isBelowZero_b143
  exact pz_zret rfl dX4_isBelowZero_143
set_option maxRecDepth 20000 in
theorem S_X4_isBelowZero_b119 (X : pz_X) (n : Nat) (l0 : Option Nat) (l1 : Option Nat) (K41 : Int32 → pz_C Int32) (hK41 : ∀ (l2 : Int32), pz_Sm X (pz_QM X) J_X4_isBelowZero pz_vI 41 [(0, va_rf l0), (1, va_rf l1), (2, .int l2)] [] (K41 l2)) (l2 : Int32) (s0 : Option Nat) (s1 : Int32) (s2 : Int64) : pz_Sm X (pz_QM X) J_X4_isBelowZero pz_vI 119 [(0, va_rf l0), (1, va_rf l1), (2, .int l2)] [.long s2, .int s1, va_rf s0] (X4_isBelowZero_b119 n K41 l0 l1 l2 s0 s1 s2) := by
  unfold X4_isBelowZero_b119
  refine pz_last (t := 2) rfl dX4_isBelowZero_119 ?_
  refine pz_iinc 2 1 (fun l2_16 => [(2, .int l2_16), (0, va_rf l0), (1, va_rf l1)]) dX4_isBelowZero_120 rfl (by decide) (by decide) (fun l2_16 => (by cases l1 <;> rfl)) (fun l2_16 => ?_)
  refine pz_goto 41 dX4_isBelowZero_123 (by decide) ?_
  exact pz_sub [1, 2, 0] rfl (hK41 l2_16)
set_option maxRecDepth 20000 in
theorem S_X4_isBelowZero_b85 (X : pz_X) (n : Nat) (l0 : Option Nat) (l1 : Option Nat) (K41 : Int32 → pz_C Int32) (hK41 : ∀ (l2 : Int32), pz_Sm X (pz_QM X) J_X4_isBelowZero pz_vI 41 [(0, va_rf l0), (1, va_rf l1), (2, .int l2)] [] (K41 l2)) (l2 : Int32) (s0 : Option Nat) (s1 : Int32) (s2 : Int64) : pz_Sm X (pz_QM X) J_X4_isBelowZero pz_vI 85 [(0, va_rf l0), (1, va_rf l1), (2, .int l2)] [.long s2, .int s1, va_rf s0] (X4_isBelowZero_b85 n K41 l0 l1 l2 s0 s1 s2) := by
  unfold X4_isBelowZero_b85
  refine pz_last (t := 2) rfl dX4_isBelowZero_85 ?_
  refine pz_aload_n 0 dX4_isBelowZero_86 rfl ?_
  refine pz_getR (ci := 4) (k := 6) ck_4 (by decide) (Or.inl pw_351) dX4_isBelowZero_87 (fun x12 => ?_)
  refine pz_bipush 22 dX4_isBelowZero_90 (by decide) ?_
  refine pz_iload_n 2 dX4_isBelowZero_92 rfl ?_
  refine pz_iadd dX4_isBelowZero_93 ?_
  refine pz_aload_n 0 dX4_isBelowZero_94 rfl ?_
  refine pz_getR (ci := 4) (k := 5) ck_4 (by decide) (Or.inl pw_350) dX4_isBelowZero_95 (fun x13 => ?_)
  refine pz_getR (ci := 1) (k := 1) ck_1 (by decide) (Or.inl pw_283) dX4_isBelowZero_98 (fun x14 => ?_)
  refine pz_iload_n 2 dX4_isBelowZero_101 rfl ?_
  refine pz_zald (t := 1) rfl dX4_isBelowZero_102 (fun x15 => ?_)
  refine pz_if_eq 118 dX4_isBelowZero_103 (by decide) ?_ ?_
  · refine pz_lconst 0 dX4_isBelowZero_118 (by decide) ?_
    exact pz_sub [0, 1, 2] rfl (S_X4_isBelowZero_b119 X n l0 l1 K41 hK41 l2 x12 (22 + l2) 0)
  · refine pz_aload_n 0 dX4_isBelowZero_106 rfl ?_
    refine pz_getR (ci := 4) (k := 5) ck_4 (by decide) (Or.inl pw_350) dX4_isBelowZero_107 (fun x17 => ?_)
    refine pz_getR (ci := 1) (k := 3) ck_1 (by decide) (Or.inl pw_290) dX4_isBelowZero_110 (fun x18 => ?_)
    refine pz_iload_n 2 dX4_isBelowZero_113 rfl ?_
    refine pz_lald (t := 2) rfl dX4_isBelowZero_114 (fun x19 => ?_)
    refine pz_goto 119 dX4_isBelowZero_115 (by decide) ?_
    exact pz_sub [0, 1, 2] rfl (S_X4_isBelowZero_b119 X n l0 l1 K41 hK41 l2 x12 (22 + l2) x19)
set_option maxRecDepth 20000 in
theorem S_X4_isBelowZero_L41_body (X : pz_X) (n : Nat) (l0 : Option Nat) (l1 : Option Nat) (K41 : Int32 → pz_C Int32) (hK41 : ∀ (l2 : Int32), pz_Sm X (pz_QM X) J_X4_isBelowZero pz_vI 41 [(0, va_rf l0), (1, va_rf l1), (2, .int l2)] [] (K41 l2)) (l2 : Int32) : pz_Sm X (pz_QM X) J_X4_isBelowZero pz_vI 41 [(0, va_rf l0), (1, va_rf l1), (2, .int l2)] [] (X4_isBelowZero_L41_body n l0 l1 K41 l2) := by
  unfold X4_isBelowZero_L41_body
  refine pz_iload_n 2 dX4_isBelowZero_41 rfl ?_
  refine pz_aload_n 0 dX4_isBelowZero_42 rfl ?_
  refine pz_getR (ci := 4) (k := 0) ck_4 (by decide) (Or.inl pw_345) dX4_isBelowZero_43 (fun x4 => ?_)
  refine pz_getI (ci := 6) (k := 5) ck_6 (by decide) (Or.inl pw_49) dX4_isBelowZero_46 (fun x5 => ?_)
  refine pz_icmp_ge 126 dX4_isBelowZero_49 (by decide) ?_ ?_
  · refine pz_aload_n 0 dX4_isBelowZero_126 rfl ?_
    refine pz_aload_n 1 dX4_isBelowZero_127 rfl ?_
    refine pz_getR (ci := 5) (k := 0) ck_5 (by decide) (Or.inl pw_510) dX4_isBelowZero_128 (fun x6 => ?_)
    refine pz_lconst 0 dX4_isBelowZero_131 (by decide) ?_
    refine pz_cvI (st := []) (md_X4_compareTotal X n l0 x6 0) ck_4 rfl mk_X4_compareTotal (Or.inl pw_828) pw_830 ps_23 rfl rfl (by decide) (by decide) (by decide) dX4_isBelowZero_132 (fun x7 => ?_)
    refine pz_if_ge 142 dX4_isBelowZero_135 (by decide) ?_ ?_
    · refine pz_iconst 0 dX4_isBelowZero_142 (by decide) ?_
      exact pz_sub [] rfl (S_X4_isBelowZero_b143 X n 0)
    · refine pz_iconst 1 dX4_isBelowZero_138 (by decide) ?_
      refine pz_goto 143 dX4_isBelowZero_139 (by decide) ?_
      exact pz_sub [] rfl (S_X4_isBelowZero_b143 X n 1)
  · refine pz_aload_n 0 dX4_isBelowZero_52 rfl ?_
    refine pz_getR (ci := 4) (k := 6) ck_4 (by decide) (Or.inl pw_351) dX4_isBelowZero_53 (fun x8 => ?_)
    refine pz_bipush 12 dX4_isBelowZero_56 (by decide) ?_
    refine pz_iload_n 2 dX4_isBelowZero_58 rfl ?_
    refine pz_iadd dX4_isBelowZero_59 ?_
    refine pz_aload_n 0 dX4_isBelowZero_60 rfl ?_
    refine pz_getR (ci := 4) (k := 5) ck_4 (by decide) (Or.inl pw_350) dX4_isBelowZero_61 (fun x9 => ?_)
    refine pz_getR (ci := 1) (k := 0) ck_1 (by decide) (Or.inl pw_280) dX4_isBelowZero_64 (fun x10 => ?_)
    refine pz_iload_n 2 dX4_isBelowZero_67 rfl ?_
    refine pz_zald (t := 1) rfl dX4_isBelowZero_68 (fun x11 => ?_)
    refine pz_if_eq 84 dX4_isBelowZero_69 (by decide) ?_ ?_
    · refine pz_lconst 0 dX4_isBelowZero_84 (by decide) ?_
      exact pz_sub [0, 1, 2] rfl (S_X4_isBelowZero_b85 X n l0 l1 K41 hK41 l2 x8 (12 + l2) 0)
    · refine pz_aload_n 0 dX4_isBelowZero_72 rfl ?_
      refine pz_getR (ci := 4) (k := 5) ck_4 (by decide) (Or.inl pw_350) dX4_isBelowZero_73 (fun x20 => ?_)
      refine pz_getR (ci := 1) (k := 2) ck_1 (by decide) (Or.inl pw_287) dX4_isBelowZero_76 (fun x21 => ?_)
      refine pz_iload_n 2 dX4_isBelowZero_79 rfl ?_
      refine pz_lald (t := 2) rfl dX4_isBelowZero_80 (fun x22 => ?_)
      refine pz_goto 85 dX4_isBelowZero_81 (by decide) ?_
      exact pz_sub [0, 1, 2] rfl (S_X4_isBelowZero_b85 X n l0 l1 K41 hK41 l2 x8 (12 + l2) x22)
set_option maxRecDepth 20000 in
theorem S_X4_isBelowZero_L41 (X : pz_X) (n : Nat) (l0 : Option Nat) (l1 : Option Nat) (l2 : Int32) : pz_Sm X (pz_QM X) J_X4_isBelowZero pz_vI 41 [(0, va_rf l0), (1, va_rf l1), (2, .int l2)] [] (X4_isBelowZero_L41 n l0 l1 l2) :=
  pz_lp (L := fun (s : Int32) => [(0, va_rf l0), (1, va_rf l1), (2, .int s)]) (fun K hK s => S_X4_isBelowZero_L41_body X n l0 l1 (fun l2 => K l2) (fun l2 => hK l2) s) n l2
set_option maxRecDepth 20000 in
theorem S_X4_isBelowZero_L6_body (X : pz_X) (n : Nat) (l0 : Option Nat) (l1 : Option Nat) (K6 : Int32 → pz_C Int32) (hK6 : ∀ (l2 : Int32), pz_Sm X (pz_QM X) J_X4_isBelowZero pz_vI 6 [(0, va_rf l0), (1, va_rf l1), (2, .int l2)] [] (K6 l2)) (l2 : Int32) : pz_Sm X (pz_QM X) J_X4_isBelowZero pz_vI 6 [(0, va_rf l0), (1, va_rf l1), (2, .int l2)] [] (X4_isBelowZero_L6_body n l0 l1 K6 l2) := by
  unfold X4_isBelowZero_L6_body
  refine pz_iload_n 2 dX4_isBelowZero_6 rfl ?_
  refine pz_aload_n 0 dX4_isBelowZero_7 rfl ?_
  refine pz_getR (ci := 4) (k := 0) ck_4 (by decide) (Or.inl pw_345) dX4_isBelowZero_8 (fun x2 => ?_)
  refine pz_getI (ci := 6) (k := 6) ck_6 (by decide) (Or.inl pw_55) dX4_isBelowZero_11 (fun x3 => ?_)
  refine pz_icmp_ge 39 dX4_isBelowZero_14 (by decide) ?_ ?_
  · refine pz_iconst 0 dX4_isBelowZero_39 (by decide) ?_
    refine pz_istore_n [(2, .int 0), (0, va_rf l0), (1, va_rf l1)] dX4_isBelowZero_40 (by decide) (by cases l1 <;> rfl) ?_
    exact pz_sub [1, 2, 0] rfl (S_X4_isBelowZero_L41 X n l0 l1 0)
  · refine pz_aload_n 0 dX4_isBelowZero_17 rfl ?_
    refine pz_getR (ci := 4) (k := 6) ck_4 (by decide) (Or.inl pw_351) dX4_isBelowZero_18 (fun x23 => ?_)
    refine pz_iload_n 2 dX4_isBelowZero_21 rfl ?_
    refine pz_aload_n 0 dX4_isBelowZero_22 rfl ?_
    refine pz_getR (ci := 4) (k := 0) ck_4 (by decide) (Or.inl pw_345) dX4_isBelowZero_23 (fun x24 => ?_)
    refine pz_getR (ci := 6) (k := 2) ck_6 (by decide) (Or.inl pw_38) dX4_isBelowZero_26 (fun x25 => ?_)
    refine pz_iload_n 2 dX4_isBelowZero_29 rfl ?_
    refine pz_iald (t := 0) rfl dX4_isBelowZero_30 (fun x26 => ?_)
    refine pz_i2l dX4_isBelowZero_31 ?_
    refine pz_last (t := 2) rfl dX4_isBelowZero_32 ?_
    refine pz_iinc 2 1 (fun l2_27 => [(2, .int l2_27), (0, va_rf l0), (1, va_rf l1)]) dX4_isBelowZero_33 rfl (by decide) (by decide) (fun l2_27 => (by cases l1 <;> rfl)) (fun l2_27 => ?_)
    refine pz_goto 6 dX4_isBelowZero_36 (by decide) ?_
    exact pz_sub [1, 2, 0] rfl (hK6 l2_27)
set_option maxRecDepth 20000 in
theorem S_X4_isBelowZero_L6 (X : pz_X) (n : Nat) (l0 : Option Nat) (l1 : Option Nat) (l2 : Int32) : pz_Sm X (pz_QM X) J_X4_isBelowZero pz_vI 6 [(0, va_rf l0), (1, va_rf l1), (2, .int l2)] [] (X4_isBelowZero_L6 n l0 l1 l2) :=
  pz_lp (L := fun (s : Int32) => [(0, va_rf l0), (1, va_rf l1), (2, .int s)]) (fun K hK s => S_X4_isBelowZero_L6_body X n l0 l1 (fun l2 => K l2) (fun l2 => hK l2) s) n l2
set_option maxRecDepth 20000 in
theorem S_X4_isBelowZero (X : pz_X) (n : Nat) (l0 : Option Nat) (l1 : Option Nat) : pz_Sm X (pz_QM X) J_X4_isBelowZero pz_vI 0 [(0, va_rf l0), (1, va_rf l1)] [] (X4_isBelowZero n l0 l1) := by
  unfold X4_isBelowZero
  refine pz_aload_n 0 dX4_isBelowZero_0 rfl ?_
  refine pz_cvU (st := []) (md_X4_clearWeights X n l0) ck_4 rfl mk_X4_clearWeights (Or.inl pw_824) pw_826 ps_22 rfl rfl (by decide) (by decide) (by decide) dX4_isBelowZero_1 (fun _ => ?_)
  refine pz_iconst 0 dX4_isBelowZero_4 (by decide) ?_
  refine pz_istore_n [(2, .int 0), (0, va_rf l0), (1, va_rf l1)] dX4_isBelowZero_5 (by decide) (by cases l1 <;> rfl) ?_
  exact pz_sub [1, 2, 0] rfl (S_X4_isBelowZero_L6 X n l0 l1 0)
set_option maxRecDepth 20000 in
theorem md_X4_isBelowZero (X : pz_X) (n : Nat) (l0 : Option Nat) (l1 : Option Nat) : pz_Md X yX4_isBelowZero J_X4_isBelowZero pz_vI [va_rf l0, va_rf l1] (X4_isBelowZero n l0 l1) :=
  pz_md [(0, va_rf l0), (1, va_rf l1)] (by decide +kernel) rfl rfl (by cases l0 <;> cases l1 <;> rfl) (by cases l0 <;> cases l1 <;> exact Nat.le_of_ble_eq_true rfl) (fun X => S_X4_isBelowZero X n l0 l1)
set_option maxRecDepth 20000 in
theorem S_X4_isGood_b119 (X : pz_X) (n : Nat) (s0 : Int32) : pz_Sm X (pz_QM X) J_X4_isGood pz_vI 119 [] [.int s0] (X4_isGood_b119 n s0) := by
  unfold X4_isGood_b119
  exact pz_zret rfl dX4_isGood_119
set_option maxRecDepth 20000 in
theorem S_X4_isGood_b118 (X : pz_X) (n : Nat) : pz_Sm X (pz_QM X) J_X4_isGood pz_vI 118 [] [] (X4_isGood_b118 n) := by
  unfold X4_isGood_b118
  refine pz_iconst 0 dX4_isGood_118 (by decide) ?_
  exact pz_sub [] rfl (S_X4_isGood_b119 X n 0)
set_option maxRecDepth 20000 in
theorem S_X4_isGood_b48 (X : pz_X) (n : Nat) (s0 : Int32) : pz_Sm X (pz_QM X) J_X4_isGood pz_vI 48 [] [.int s0] (X4_isGood_b48 n s0) := by
  unfold X4_isGood_b48
  exact pz_zret rfl dX4_isGood_48
set_option maxRecDepth 20000 in
theorem S_X4_isGood_b47 (X : pz_X) (n : Nat) : pz_Sm X (pz_QM X) J_X4_isGood pz_vI 47 [] [] (X4_isGood_b47 n) := by
  unfold X4_isGood_b47
  refine pz_iconst 0 dX4_isGood_47 (by decide) ?_
  exact pz_sub [] rfl (S_X4_isGood_b48 X n 0)
set_option maxRecDepth 20000 in
theorem S_X4_isGood (X : pz_X) (n : Nat) (l0 : Option Nat) (l1 : Int32) : pz_Sm X (pz_QM X) J_X4_isGood pz_vI 0 [(0, va_rf l0), (1, .int l1)] [] (X4_isGood n l0 l1) := by
  unfold X4_isGood
  refine pz_aload_n 0 dX4_isGood_0 rfl ?_
  refine pz_getR (ci := 4) (k := 1) ck_4 (by decide) (Or.inl pw_346) dX4_isGood_1 (fun x1 => ?_)
  refine pz_iload_n 1 dX4_isGood_4 rfl ?_
  refine pz_cvI (st := []) (md_X10_isSplit X n x1 l1) ck_10 rfl mk_X10_isSplit (Or.inl pw_888) pw_722 pw_723 rfl rfl (by decide) (by decide) (by decide) dX4_isGood_5 (fun x2 => ?_)
  refine pz_if_eq 49 dX4_isGood_8 (by decide) ?_ ?_
  · refine pz_aload_n 0 dX4_isGood_49 rfl ?_
    refine pz_getR (ci := 4) (k := 1) ck_4 (by decide) (Or.inl pw_346) dX4_isGood_50 (fun x3 => ?_)
    refine pz_iload_n 1 dX4_isGood_53 rfl ?_
    refine pz_cvR (st := []) (md_X10_leafOf X n x3 l1) ck_10 rfl mk_X10_leafOf (Or.inl pw_889) pw_718 pw_719 rfl rfl (by decide) (by decide) (by decide) dX4_isGood_54 (fun x4 => ?_)
    refine pz_astore_n [(2, va_rf x4), (0, va_rf l0), (1, .int l1)] dX4_isGood_57 (by decide) rfl ?_
    refine pz_aload_n 0 dX4_isGood_58 rfl ?_
    refine pz_ifnonnull 64 dX4_isGood_59 (by decide) ?_ ?_
    · refine pz_iconst 0 dX4_isGood_62 (by decide) ?_
      exact pz_zret rfl dX4_isGood_63
    · refine pz_aload_n 1 dX4_isGood_64 rfl ?_
      refine pz_getR (ci := 4) (k := 5) ck_4 (by decide) (Or.inl pw_350) dX4_isGood_65 (fun x5 => ?_)
      refine pz_aload_n 1 dX4_isGood_68 rfl ?_
      refine pz_getR (ci := 4) (k := 1) ck_4 (by decide) (Or.inl pw_346) dX4_isGood_69 (fun x6 => ?_)
      refine pz_aload_n 1 dX4_isGood_72 rfl ?_
      refine pz_getR (ci := 4) (k := 0) ck_4 (by decide) (Or.inl pw_345) dX4_isGood_73 (fun x7 => ?_)
      refine pz_getI (ci := 6) (k := 5) ck_6 (by decide) (Or.inl pw_49) dX4_isGood_76 (fun x8 => ?_)
      refine pz_iload_n 2 dX4_isGood_79 rfl ?_
      refine pz_aload_n 1 dX4_isGood_80 rfl ?_
      refine pz_getR (ci := 4) (k := 1) ck_4 (by decide) (Or.inl pw_346) dX4_isGood_81 (fun x9 => ?_)
      refine pz_getR (ci := 10) (k := 5) ck_10 (by decide) (Or.inl pw_229) dX4_isGood_84 (fun x10 => ?_)
      refine pz_cvU (st := []) (md_X1_setSplits X n x5 x6 x8 l1 x10) ck_1 rfl mk_X1_setSplits (Or.inl pw_890) pw_532 pw_533 rfl rfl (by decide) (by decide) (by decide) dX4_isGood_87 (fun _ => ?_)
      refine pz_aload_n 1 dX4_isGood_90 rfl ?_
      refine pz_aload_n 0 dX4_isGood_91 rfl ?_
      refine pz_cvI (st := []) (md_X4_haveRightSigns X n l0 x4) ck_4 rfl mk_X4_haveRightSigns (Or.inl pw_891) pw_893 ps_26 rfl rfl (by decide) (by decide) (by decide) dX4_isGood_92 (fun x12 => ?_)
      refine pz_if_eq 118 dX4_isGood_95 (by decide) ?_ ?_
      · exact pz_sub [] rfl (S_X4_isGood_b118 X n)
      · refine pz_aload_n 1 dX4_isGood_98 rfl ?_
        refine pz_aload_n 0 dX4_isGood_99 rfl ?_
        refine pz_cvI (st := []) (md_X4_cancelsVariables X n l0 x4) ck_4 rfl mk_X4_cancelsVariables (Or.inl pw_895) pw_897 ps_27 rfl rfl (by decide) (by decide) (by decide) dX4_isGood_100 (fun x13 => ?_)
        refine pz_if_eq 118 dX4_isGood_103 (by decide) ?_ ?_
        · exact pz_sub [] rfl (S_X4_isGood_b118 X n)
        · refine pz_aload_n 1 dX4_isGood_106 rfl ?_
          refine pz_aload_n 0 dX4_isGood_107 rfl ?_
          refine pz_cvI (st := []) (md_X4_isBelowZero X n l0 x4) ck_4 rfl mk_X4_isBelowZero (Or.inl pw_899) pw_901 ps_28 rfl rfl (by decide) (by decide) (by decide) dX4_isGood_108 (fun x14 => ?_)
          refine pz_if_eq 118 dX4_isGood_111 (by decide) ?_ ?_
          · exact pz_sub [] rfl (S_X4_isGood_b118 X n)
          · refine pz_iconst 1 dX4_isGood_114 (by decide) ?_
            refine pz_goto 119 dX4_isGood_115 (by decide) ?_
            exact pz_sub [] rfl (S_X4_isGood_b119 X n 1)
  · refine pz_aload_n 0 dX4_isGood_11 rfl ?_
    refine pz_getR (ci := 4) (k := 0) ck_4 (by decide) (Or.inl pw_345) dX4_isGood_12 (fun x15 => ?_)
    refine pz_getR (ci := 6) (k := 3) ck_6 (by decide) (Or.inl pw_41) dX4_isGood_15 (fun x16 => ?_)
    refine pz_aload_n 0 dX4_isGood_18 rfl ?_
    refine pz_getR (ci := 4) (k := 1) ck_4 (by decide) (Or.inl pw_346) dX4_isGood_19 (fun x17 => ?_)
    refine pz_getR (ci := 10) (k := 3) ck_10 (by decide) (Or.inl pw_223) dX4_isGood_22 (fun x18 => ?_)
    refine pz_iload_n 1 dX4_isGood_25 rfl ?_
    refine pz_iald (t := 0) rfl dX4_isGood_26 (fun x19 => ?_)
    refine pz_zald (t := 1) rfl dX4_isGood_27 (fun x20 => ?_)
    refine pz_if_eq 47 dX4_isGood_28 (by decide) ?_ ?_
    · exact pz_sub [] rfl (S_X4_isGood_b47 X n)
    · refine pz_aload_n 0 dX4_isGood_31 rfl ?_
      refine pz_getR (ci := 4) (k := 1) ck_4 (by decide) (Or.inl pw_346) dX4_isGood_32 (fun x21 => ?_)
      refine pz_getR (ci := 10) (k := 2) ck_10 (by decide) (Or.inl pw_219) dX4_isGood_35 (fun x22 => ?_)
      refine pz_iload_n 1 dX4_isGood_38 rfl ?_
      refine pz_iald (t := 0) rfl dX4_isGood_39 (fun x23 => ?_)
      refine pz_if_lt 47 dX4_isGood_40 (by decide) ?_ ?_
      · exact pz_sub [] rfl (S_X4_isGood_b47 X n)
      · refine pz_iconst 1 dX4_isGood_43 (by decide) ?_
        refine pz_goto 48 dX4_isGood_44 (by decide) ?_
        exact pz_sub [] rfl (S_X4_isGood_b48 X n 1)
set_option maxRecDepth 20000 in
theorem md_X4_isGood (X : pz_X) (n : Nat) (l0 : Option Nat) (l1 : Int32) : pz_Md X yX4_isGood J_X4_isGood pz_vI [va_rf l0, .int l1] (X4_isGood n l0 l1) :=
  pz_md [(0, va_rf l0), (1, .int l1)] (by decide +kernel) rfl rfl (by cases l0 <;> rfl) (by cases l0 <;> exact Nat.le_of_ble_eq_true rfl) (fun X => S_X4_isGood X n l0 l1)
set_option maxRecDepth 20000 in
theorem S_X11_judgeTree_L14_body (X : pz_X) (n : Nat) (l0 : Option Nat) (K14 : Int32 → pz_C Int32) (hK14 : ∀ (l1 : Int32), pz_Sm X (pz_QM X) J_X11_judgeTree pz_vI 14 [(0, va_rf l0), (1, .int l1)] [] (K14 l1)) (l1 : Int32) : pz_Sm X (pz_QM X) J_X11_judgeTree pz_vI 14 [(0, va_rf l0), (1, .int l1)] [] (X11_judgeTree_L14_body n l0 K14 l1) := by
  unfold X11_judgeTree_L14_body
  refine pz_iload_n 1 dX11_judgeTree_14 rfl ?_
  refine pz_aload_n 0 dX11_judgeTree_15 rfl ?_
  refine pz_getR (ci := 11) (k := 4) ck_11 (by decide) (Or.inl pw_404) dX11_judgeTree_16 (fun x3 => ?_)
  refine pz_getI (ci := 10) (k := 10) ck_10 (by decide) (Or.inl pw_238) dX11_judgeTree_19 (fun x4 => ?_)
  refine pz_icmp_ge 46 dX11_judgeTree_22 (by decide) ?_ ?_
  · refine pz_iconst 0 dX11_judgeTree_46 (by decide) ?_
    exact pz_iret rfl dX11_judgeTree_47
  · refine pz_aload_n 0 dX11_judgeTree_25 rfl ?_
    refine pz_getR (ci := 11) (k := 6) ck_11 (by decide) (Or.inl pw_406) dX11_judgeTree_26 (fun x5 => ?_)
    refine pz_iload_n 1 dX11_judgeTree_29 rfl ?_
    refine pz_cvI (st := []) (md_X4_isGood X n x5 l1) ck_4 rfl mk_X4_isGood (Or.inl pw_884) pw_885 pw_886 rfl rfl (by decide) (by decide) (by decide) dX11_judgeTree_30 (fun x6 => ?_)
    refine pz_if_ne 40 dX11_judgeTree_33 (by decide) ?_ ?_
    · refine pz_iconst 1 dX11_judgeTree_36 (by decide) ?_
      refine pz_iload_n 1 dX11_judgeTree_37 rfl ?_
      refine pz_iadd dX11_judgeTree_38 ?_
      exact pz_iret rfl dX11_judgeTree_39
    · refine pz_iinc 1 1 (fun l1_7 => [(1, .int l1_7), (0, va_rf l0)]) dX11_judgeTree_40 rfl (by decide) (by decide) (fun l1_7 => (by cases l0 <;> rfl)) (fun l1_7 => ?_)
      refine pz_goto 14 dX11_judgeTree_43 (by decide) ?_
      exact pz_sub [1, 0] rfl (hK14 l1_7)
set_option maxRecDepth 20000 in
theorem S_X11_judgeTree_L14 (X : pz_X) (n : Nat) (l0 : Option Nat) (l1 : Int32) : pz_Sm X (pz_QM X) J_X11_judgeTree pz_vI 14 [(0, va_rf l0), (1, .int l1)] [] (X11_judgeTree_L14 n l0 l1) :=
  pz_lp (L := fun (s : Int32) => [(0, va_rf l0), (1, .int s)]) (fun K hK s => S_X11_judgeTree_L14_body X n l0 (fun l1 => K l1) (fun l1 => hK l1) s) n l1
set_option maxRecDepth 20000 in
theorem S_X11_judgeTree (X : pz_X) (n : Nat) (l0 : Option Nat) : pz_Sm X (pz_QM X) J_X11_judgeTree pz_vI 0 [(0, va_rf l0)] [] (X11_judgeTree n l0) := by
  unfold X11_judgeTree
  refine pz_aload_n 0 dX11_judgeTree_0 rfl ?_
  refine pz_getR (ci := 11) (k := 4) ck_11 (by decide) (Or.inl pw_404) dX11_judgeTree_1 (fun x1 => ?_)
  refine pz_getI (ci := 10) (k := 10) ck_10 (by decide) (Or.inl pw_238) dX11_judgeTree_4 (fun x2 => ?_)
  refine pz_if_ne 12 dX11_judgeTree_7 (by decide) ?_ ?_
  · refine pz_iconst (-1) dX11_judgeTree_10 (by decide) ?_
    exact pz_iret rfl dX11_judgeTree_11
  · refine pz_iconst 0 dX11_judgeTree_12 (by decide) ?_
    refine pz_istore_n [(1, .int 0), (0, va_rf l0)] dX11_judgeTree_13 (by decide) (by cases l0 <;> rfl) ?_
    exact pz_sub [1, 0] rfl (S_X11_judgeTree_L14 X n l0 0)
set_option maxRecDepth 20000 in
theorem md_X11_judgeTree (X : pz_X) (n : Nat) (l0 : Option Nat) : pz_Md X yX11_judgeTree J_X11_judgeTree pz_vI [va_rf l0] (X11_judgeTree n l0) :=
  pz_md [(0, va_rf l0)] (by decide +kernel) rfl rfl (by cases l0 <;> rfl) (by cases l0 <;> exact Nat.le_of_ble_eq_true rfl) (fun X => S_X11_judgeTree X n l0)
set_option maxRecDepth 20000 in
theorem S_X12_lookAround_b160 (X : pz_X) (n : Nat) (l0 : Option Nat) (K30 : Int32 → Int32 → pz_C Unit) (hK30 : ∀ (l2 : Int32) (l3 : Int32), pz_Sm X (pz_QM X) J_X12_lookAround pz_vU 30 [(0, va_rf l0), (2, .int l2), (3, .int l3)] [] (K30 l2 l3)) (l3 : Int32) : pz_Sm X (pz_QM X) J_X12_lookAround pz_vU 160 [(0, va_rf l0), (3, .int l3)] [] (X12_lookAround_b160 n K30 l0 l3) := by
  unfold X12_lookAround_b160
  refine pz_iload_n 1 dX12_lookAround_160 rfl ?_
  refine pz_istore_n [(2, .int l3), (0, va_rf l0), (3, .int l3)] dX12_lookAround_161 (by decide) rfl ?_
  refine pz_aload_n 1 dX12_lookAround_162 rfl ?_
  refine pz_getR (ci := 12) (k := 21) ck_12 (by decide) (Or.inl pw_953) dX12_lookAround_163 (fun x13 => ?_)
  refine pz_iload_n 2 dX12_lookAround_166 rfl ?_
  refine pz_iald (t := 0) rfl dX12_lookAround_167 (fun x14 => ?_)
  refine pz_istore_n [(3, .int x14), (2, .int l3), (0, va_rf l0)] dX12_lookAround_168 (by decide) rfl ?_
  refine pz_goto 30 dX12_lookAround_169 (by decide) ?_
  exact pz_sub [2, 1, 0] rfl (hK30 l3 x14)
set_option maxRecDepth 20000 in
theorem S_X12_lookAround_b143 (X : pz_X) (n : Nat) (l0 : Option Nat) (K30 : Int32 → Int32 → pz_C Unit) (hK30 : ∀ (l2 : Int32) (l3 : Int32), pz_Sm X (pz_QM X) J_X12_lookAround pz_vU 30 [(0, va_rf l0), (2, .int l2), (3, .int l3)] [] (K30 l2 l3)) (l3 : Int32) (l5 : Int32) (l6 : Int32) : pz_Sm X (pz_QM X) J_X12_lookAround pz_vU 143 [(0, va_rf l0), (3, .int l3), (5, .int l5), (6, .int l6)] [] (X12_lookAround_b143 n K30 l0 l3 l5 l6) := by
  unfold X12_lookAround_b143
  refine pz_aload_n 0 dX12_lookAround_143 rfl ?_
  refine pz_getR (ci := 12) (k := 32) ck_12 (by decide) (Or.inl pw_964) dX12_lookAround_144 (fun x11 => ?_)
  refine pz_iload 2 dX12_lookAround_147 rfl ?_
  refine pz_iconst 1 dX12_lookAround_149 (by decide) ?_
  refine pz_zast (t := 1) rfl dX12_lookAround_150 ?_
  refine pz_aload_n 0 dX12_lookAround_151 rfl ?_
  refine pz_getR (ci := 12) (k := 33) ck_12 (by decide) (Or.inl pw_965) dX12_lookAround_152 (fun x12 => ?_)
  refine pz_iload 2 dX12_lookAround_155 rfl ?_
  refine pz_iload 3 dX12_lookAround_157 rfl ?_
  refine pz_iast (t := 0) rfl dX12_lookAround_159 ?_
  exact pz_sub [0, 1] rfl (S_X12_lookAround_b160 X n l0 K30 hK30 l3)
set_option maxRecDepth 20000 in
theorem S_X12_lookAround_b91 (X : pz_X) (n : Nat) (l0 : Option Nat) (K30 : Int32 → Int32 → pz_C Unit) (hK30 : ∀ (l2 : Int32) (l3 : Int32), pz_Sm X (pz_QM X) J_X12_lookAround pz_vU 30 [(0, va_rf l0), (2, .int l2), (3, .int l3)] [] (K30 l2 l3)) (l3 : Int32) (l4 : Int32) (l5 : Int32) (s0 : Int32) : pz_Sm X (pz_QM X) J_X12_lookAround pz_vU 91 [(0, va_rf l0), (3, .int l3), (4, .int l4), (5, .int l5)] [.int s0] (X12_lookAround_b91 n K30 l0 l3 l4 l5 s0) := by
  unfold X12_lookAround_b91
  refine pz_istore [(6, .int s0), (0, va_rf l0), (3, .int l3), (4, .int l4), (5, .int l5)] dX12_lookAround_91 (by decide) rfl ?_
  refine pz_aload_n 1 dX12_lookAround_93 rfl ?_
  refine pz_getR (ci := 12) (k := 32) ck_12 (by decide) (Or.inl pw_964) dX12_lookAround_94 (fun x9 => ?_)
  refine pz_iload 4 dX12_lookAround_97 rfl ?_
  refine pz_zald (t := 1) rfl dX12_lookAround_99 (fun x10 => ?_)
  refine pz_if_eq 143 dX12_lookAround_100 (by decide) ?_ ?_
  · exact pz_sub [1, 2, 4, 0] rfl (S_X12_lookAround_b143 X n l0 K30 hK30 l3 l5 s0)
  · refine pz_iload 3 dX12_lookAround_103 rfl ?_
    refine pz_if_ne 127 dX12_lookAround_105 (by decide) ?_ ?_
    · refine pz_aload_n 1 dX12_lookAround_108 rfl ?_
      refine pz_iload 0 dX12_lookAround_109 rfl ?_
      refine pz_aload_n 1 dX12_lookAround_111 rfl ?_
      refine pz_getR (ci := 12) (k := 33) ck_12 (by decide) (Or.inl pw_965) dX12_lookAround_112 (fun x15 => ?_)
      refine pz_iload 4 dX12_lookAround_115 rfl ?_
      refine pz_iald (t := 0) rfl dX12_lookAround_117 (fun x16 => ?_)
      refine pz_cvI (st := []) (md_X12_compare X n l0 s0 x16) ck_12 rfl mk_X12_compare (Or.inl pw_1154) pw_1156 ps_51 rfl rfl (by decide) (by decide) (by decide) dX12_lookAround_118 (fun x17 => ?_)
      refine pz_if_ge 160 dX12_lookAround_121 (by decide) ?_ ?_
      · exact pz_sub [1, 2] rfl (S_X12_lookAround_b160 X n l0 K30 hK30 l3)
      · refine pz_goto 143 dX12_lookAround_124 (by decide) ?_
        exact pz_sub [1, 2, 4, 0] rfl (S_X12_lookAround_b143 X n l0 K30 hK30 l3 l5 s0)
    · refine pz_aload_n 1 dX12_lookAround_127 rfl ?_
      refine pz_iload 0 dX12_lookAround_128 rfl ?_
      refine pz_aload_n 1 dX12_lookAround_130 rfl ?_
      refine pz_getR (ci := 12) (k := 33) ck_12 (by decide) (Or.inl pw_965) dX12_lookAround_131 (fun x18 => ?_)
      refine pz_iload 4 dX12_lookAround_134 rfl ?_
      refine pz_iald (t := 0) rfl dX12_lookAround_136 (fun x19 => ?_)
      refine pz_cvI (st := []) (md_X12_compare X n l0 s0 x19) ck_12 rfl mk_X12_compare (Or.inl pw_1154) pw_1156 ps_51 rfl rfl (by decide) (by decide) (by decide) dX12_lookAround_137 (fun x20 => ?_)
      refine pz_if_le 160 dX12_lookAround_140 (by decide) ?_ ?_
      · exact pz_sub [1, 2] rfl (S_X12_lookAround_b160 X n l0 K30 hK30 l3)
      · exact pz_sub [1, 2, 4, 0] rfl (S_X12_lookAround_b143 X n l0 K30 hK30 l3 l5 s0)
set_option maxRecDepth 20000 in
theorem S_X12_lookAround_b51 (X : pz_X) (n : Nat) (l0 : Option Nat) (K30 : Int32 → Int32 → pz_C Unit) (hK30 : ∀ (l2 : Int32) (l3 : Int32), pz_Sm X (pz_QM X) J_X12_lookAround pz_vU 30 [(0, va_rf l0), (2, .int l2), (3, .int l3)] [] (K30 l2 l3)) (l3 : Int32) (s0 : Int32) : pz_Sm X (pz_QM X) J_X12_lookAround pz_vU 51 [(0, va_rf l0), (3, .int l3)] [.int s0] (X12_lookAround_b51 n K30 l0 l3 s0) := by
  unfold X12_lookAround_b51
  refine pz_istore [(4, .int s0), (0, va_rf l0), (3, .int l3)] dX12_lookAround_51 (by decide) rfl ?_
  refine pz_iconst 2 dX12_lookAround_53 (by decide) ?_
  refine pz_aload_n 1 dX12_lookAround_54 rfl ?_
  refine pz_getR (ci := 12) (k := 18) ck_12 (by decide) (Or.inl pw_950) dX12_lookAround_55 (fun x5 => ?_)
  refine pz_iload_n 2 dX12_lookAround_58 rfl ?_
  refine pz_iald (t := 0) rfl dX12_lookAround_59 (fun x6 => ?_)
  refine pz_imul dX12_lookAround_60 ?_
  refine pz_iload 0 dX12_lookAround_61 rfl ?_
  refine pz_iadd dX12_lookAround_63 ?_
  refine pz_nmI (fun l5_7 => ?_)
  refine pz_istore [(5, .int l5_7), (4, .int s0), (0, va_rf l0), (3, .int l3)] dX12_lookAround_64 (by decide) rfl ?_
  refine pz_iload 1 dX12_lookAround_66 rfl ?_
  refine pz_if_ne 78 dX12_lookAround_68 (by decide) ?_ ?_
  · refine pz_iload_n 3 dX12_lookAround_71 rfl ?_
    refine pz_csI (st := []) (md_X12_splitAt X n l3) mk_X12_splitAt (Or.inl pw_1224) pw_1225 rfl rfl (by decide) (by decide) (by decide) dX12_lookAround_72 (fun x8 => ?_)
    refine pz_goto 91 dX12_lookAround_75 (by decide) ?_
    exact pz_sub [2, 3, 1, 0] rfl (S_X12_lookAround_b91 X n l0 K30 hK30 l3 s0 l5_7 x8)
  · refine pz_aload_n 2 dX12_lookAround_78 rfl ?_
    refine pz_iload_n 3 dX12_lookAround_79 rfl ?_
    refine pz_csI (st := [va_rf l0]) (md_X12_splitAt X n l3) mk_X12_splitAt (Or.inl pw_1224) pw_1225 rfl rfl (by simp [pz_rf1, pz_ci, pz_cl]) (by decide) (by decide) dX12_lookAround_80 (fun x21 => ?_)
    refine pz_aload_n 2 dX12_lookAround_83 rfl ?_
    refine pz_lconst 1 dX12_lookAround_84 (by decide) ?_
    refine pz_cvI (st := [.int x21, va_rf l0]) (md_X12_plainOf X n l0 1) ck_12 rfl mk_X12_plainOf (Or.inl pw_919) pw_921 ps_30 rfl rfl (by simp [pz_rf1, pz_ci, pz_cl]) (by decide) (by decide) dX12_lookAround_85 (fun x22 => ?_)
    refine pz_cvI (st := []) (md_X12_plus X n l0 x21 x22) ck_12 rfl mk_X12_plus (Or.inl pw_1126) pw_1128 ps_45 rfl rfl (by decide) (by decide) (by decide) dX12_lookAround_88 (fun x23 => ?_)
    exact pz_sub [2, 3, 1, 0] rfl (S_X12_lookAround_b91 X n l0 K30 hK30 l3 s0 l5_7 x23)
set_option maxRecDepth 20000 in
theorem S_X12_lookAround_L30_body (X : pz_X) (n : Nat) (l0 : Option Nat) (K30 : Int32 → Int32 → pz_C Unit) (hK30 : ∀ (l2 : Int32) (l3 : Int32), pz_Sm X (pz_QM X) J_X12_lookAround pz_vU 30 [(0, va_rf l0), (2, .int l2), (3, .int l3)] [] (K30 l2 l3)) (l2 : Int32) (l3 : Int32) : pz_Sm X (pz_QM X) J_X12_lookAround pz_vU 30 [(0, va_rf l0), (2, .int l2), (3, .int l3)] [] (X12_lookAround_L30_body n l0 K30 l2 l3) := by
  unfold X12_lookAround_L30_body
  refine pz_iload_n 2 dX12_lookAround_30 rfl ?_
  refine pz_bipush (-2) dX12_lookAround_31 (by decide) ?_
  refine pz_icmp_eq 172 dX12_lookAround_33 (by decide) ?_ ?_
  · exact pz_vret rfl dX12_lookAround_172
  · refine pz_aload_n 0 dX12_lookAround_36 rfl ?_
    refine pz_getR (ci := 12) (k := 19) ck_12 (by decide) (Or.inl pw_951) dX12_lookAround_37 (fun x3 => ?_)
    refine pz_iload_n 2 dX12_lookAround_40 rfl ?_
    refine pz_iald (t := 0) rfl dX12_lookAround_41 (fun x4 => ?_)
    refine pz_iload_n 1 dX12_lookAround_42 rfl ?_
    refine pz_icmp_ne 50 dX12_lookAround_43 (by decide) ?_ ?_
    · refine pz_iconst 0 dX12_lookAround_46 (by decide) ?_
      refine pz_goto 51 dX12_lookAround_47 (by decide) ?_
      exact pz_sub [0, 2] rfl (S_X12_lookAround_b51 X n l0 K30 hK30 l3 0)
    · refine pz_iconst 1 dX12_lookAround_50 (by decide) ?_
      exact pz_sub [0, 2] rfl (S_X12_lookAround_b51 X n l0 K30 hK30 l3 1)
set_option maxRecDepth 20000 in
theorem S_X12_lookAround_L30 (X : pz_X) (n : Nat) (l0 : Option Nat) (l2 : Int32) (l3 : Int32) : pz_Sm X (pz_QM X) J_X12_lookAround pz_vU 30 [(0, va_rf l0), (2, .int l2), (3, .int l3)] [] (X12_lookAround_L30 n l0 l2 l3) :=
  pz_lp (L := fun (s : Int32 × Int32) => [(0, va_rf l0), (2, .int s.1), (3, .int s.2)]) (fun K hK s => S_X12_lookAround_L30_body X n l0 (fun l2 l3 => K (l2, l3)) (fun l2 l3 => hK (l2, l3)) s.1 s.2) n (l2, l3)
set_option maxRecDepth 20000 in
theorem S_X12_lookAround_L2_body (X : pz_X) (n : Nat) (l0 : Option Nat) (l1 : Int32) (K2 : Int32 → pz_C Unit) (hK2 : ∀ (l2 : Int32), pz_Sm X (pz_QM X) J_X12_lookAround pz_vU 2 [(0, va_rf l0), (1, .int l1), (2, .int l2)] [] (K2 l2)) (l2 : Int32) : pz_Sm X (pz_QM X) J_X12_lookAround pz_vU 2 [(0, va_rf l0), (1, .int l1), (2, .int l2)] [] (X12_lookAround_L2_body n l0 l1 K2 l2) := by
  unfold X12_lookAround_L2_body
  refine pz_iload_n 2 dX12_lookAround_2 rfl ?_
  refine pz_bipush 20 dX12_lookAround_3 (by decide) ?_
  refine pz_icmp_ge 21 dX12_lookAround_5 (by decide) ?_ ?_
  · refine pz_iload_n 1 dX12_lookAround_21 rfl ?_
    refine pz_istore_n [(2, .int l1), (0, va_rf l0), (1, .int l1)] dX12_lookAround_22 (by decide) rfl ?_
    refine pz_aload_n 1 dX12_lookAround_23 rfl ?_
    refine pz_getR (ci := 12) (k := 21) ck_12 (by decide) (Or.inl pw_953) dX12_lookAround_24 (fun x1 => ?_)
    refine pz_iload_n 2 dX12_lookAround_27 rfl ?_
    refine pz_iald (t := 0) rfl dX12_lookAround_28 (fun x2 => ?_)
    refine pz_istore_n [(3, .int x2), (2, .int l1), (0, va_rf l0), (1, .int l1)] dX12_lookAround_29 (by decide) rfl ?_
    exact pz_sub [2, 1, 0] rfl (S_X12_lookAround_L30 X n l0 l1 x2)
  · refine pz_aload_n 0 dX12_lookAround_8 rfl ?_
    refine pz_getR (ci := 12) (k := 32) ck_12 (by decide) (Or.inl pw_964) dX12_lookAround_9 (fun x24 => ?_)
    refine pz_iload_n 2 dX12_lookAround_12 rfl ?_
    refine pz_iconst 0 dX12_lookAround_13 (by decide) ?_
    refine pz_zast (t := 1) rfl dX12_lookAround_14 ?_
    refine pz_iinc 2 1 (fun l2_25 => [(2, .int l2_25), (0, va_rf l0), (1, .int l1)]) dX12_lookAround_15 rfl (by decide) (by decide) (fun l2_25 => rfl) (fun l2_25 => ?_)
    refine pz_goto 2 dX12_lookAround_18 (by decide) ?_
    exact pz_sub [1, 2, 0] rfl (hK2 l2_25)
set_option maxRecDepth 20000 in
theorem S_X12_lookAround_L2 (X : pz_X) (n : Nat) (l0 : Option Nat) (l1 : Int32) (l2 : Int32) : pz_Sm X (pz_QM X) J_X12_lookAround pz_vU 2 [(0, va_rf l0), (1, .int l1), (2, .int l2)] [] (X12_lookAround_L2 n l0 l1 l2) :=
  pz_lp (L := fun (s : Int32) => [(0, va_rf l0), (1, .int l1), (2, .int s)]) (fun K hK s => S_X12_lookAround_L2_body X n l0 l1 (fun l2 => K l2) (fun l2 => hK l2) s) n l2
set_option maxRecDepth 20000 in
theorem S_X12_lookAround (X : pz_X) (n : Nat) (l0 : Option Nat) (l1 : Int32) : pz_Sm X (pz_QM X) J_X12_lookAround pz_vU 0 [(0, va_rf l0), (1, .int l1)] [] (X12_lookAround n l0 l1) := by
  unfold X12_lookAround
  refine pz_iconst 0 dX12_lookAround_0 (by decide) ?_
  refine pz_istore_n [(2, .int 0), (0, va_rf l0), (1, .int l1)] dX12_lookAround_1 (by decide) rfl ?_
  exact pz_sub [1, 2, 0] rfl (S_X12_lookAround_L2 X n l0 l1 0)
set_option maxRecDepth 20000 in
theorem md_X12_lookAround (X : pz_X) (n : Nat) (l0 : Option Nat) (l1 : Int32) : pz_Md X yX12_lookAround J_X12_lookAround pz_vU [va_rf l0, .int l1] (X12_lookAround n l0 l1) :=
  pz_md [(0, va_rf l0), (1, .int l1)] (by decide +kernel) rfl rfl (by cases l0 <;> rfl) (by cases l0 <;> exact Nat.le_of_ble_eq_true rfl) (fun X => S_X12_lookAround X n l0 l1)
set_option maxRecDepth 20000 in
theorem S_X12_signOf (X : pz_X) (n : Nat) (l0 : Option Nat) (l1 : Int32) (l2 : Int32) : pz_Sm X (pz_QM X) J_X12_signOf pz_vI 0 [(0, va_rf l0), (1, .int l1), (2, .int l2)] [] (X12_signOf n l0 l1 l2) := by
  unfold X12_signOf
  refine pz_aload_n 0 dX12_signOf_0 rfl ?_
  refine pz_aload_n 0 dX12_signOf_1 rfl ?_
  refine pz_getR (ci := 12) (k := 22) ck_12 (by decide) (Or.inl pw_954) dX12_signOf_2 (fun x1 => ?_)
  refine pz_iload_n 1 dX12_signOf_5 rfl ?_
  refine pz_iald (t := 0) rfl dX12_signOf_6 (fun x2 => ?_)
  refine pz_iload_n 2 dX12_signOf_7 rfl ?_
  refine pz_iconst 0 dX12_signOf_8 (by decide) ?_
  refine pz_csI (st := [va_rf l0]) (md_X12_multiplierAt X n x2 l2 0) mk_X12_multiplierAt (Or.inl pw_1090) pw_1091 rfl rfl (by simp [pz_rf1, pz_ci, pz_cl]) (by decide) (by decide) dX12_signOf_9 (fun x3 => ?_)
  refine pz_cvI (st := []) (md_X12_sgn X n l0 x3) ck_12 rfl mk_X12_sgn (Or.inl pw_1122) pw_1124 ps_44 rfl rfl (by decide) (by decide) (by decide) dX12_signOf_12 (fun x4 => ?_)
  exact pz_iret rfl dX12_signOf_15
set_option maxRecDepth 20000 in
theorem md_X12_signOf (X : pz_X) (n : Nat) (l0 : Option Nat) (l1 : Int32) (l2 : Int32) : pz_Md X yX12_signOf J_X12_signOf pz_vI [va_rf l0, .int l1, .int l2] (X12_signOf n l0 l1 l2) :=
  pz_md [(0, va_rf l0), (1, .int l1), (2, .int l2)] (by decide +kernel) rfl rfl (by cases l0 <;> rfl) (by cases l0 <;> exact Nat.le_of_ble_eq_true rfl) (fun X => S_X12_signOf X n l0 l1 l2)
set_option maxRecDepth 20000 in
theorem S_X12_add (X : pz_X) (n : Nat) (l0 : Option Nat) (l1 : Int32) (l2 : Int32) (l3 : Int32) : pz_Sm X (pz_QM X) J_X12_add pz_vU 0 [(0, va_rf l0), (1, .int l1), (2, .int l2), (3, .int l3)] [] (X12_add n l0 l1 l2 l3) := by
  unfold X12_add
  refine pz_aload_n 0 dX12_add_0 rfl ?_
  refine pz_iload_n 3 dX12_add_1 rfl ?_
  refine pz_aload_n 0 dX12_add_2 rfl ?_
  refine pz_getR (ci := 12) (k := 22) ck_12 (by decide) (Or.inl pw_954) dX12_add_3 (fun x1 => ?_)
  refine pz_iload_n 1 dX12_add_6 rfl ?_
  refine pz_iald (t := 0) rfl dX12_add_7 (fun x2 => ?_)
  refine pz_iload_n 2 dX12_add_8 rfl ?_
  refine pz_iconst 0 dX12_add_9 (by decide) ?_
  refine pz_csI (st := [.int l3, va_rf l0]) (md_X12_multiplierAt X n x2 l2 0) mk_X12_multiplierAt (Or.inl pw_1090) pw_1091 rfl rfl (by simp [pz_rf1, pz_ci, pz_cl]) (by decide) (by decide) dX12_add_10 (fun x3 => ?_)
  refine pz_aload_n 0 dX12_add_13 rfl ?_
  refine pz_getR (ci := 12) (k := 22) ck_12 (by decide) (Or.inl pw_954) dX12_add_14 (fun x4 => ?_)
  refine pz_iload_n 1 dX12_add_17 rfl ?_
  refine pz_iald (t := 0) rfl dX12_add_18 (fun x5 => ?_)
  refine pz_iload_n 2 dX12_add_19 rfl ?_
  refine pz_iconst 1 dX12_add_20 (by decide) ?_
  refine pz_csI (st := [.int x3, .int l3, va_rf l0]) (md_X12_multiplierAt X n x5 l2 1) mk_X12_multiplierAt (Or.inl pw_1090) pw_1091 rfl rfl (by simp [pz_rf1, pz_ci, pz_cl]) (by decide) (by decide) dX12_add_21 (fun x6 => ?_)
  refine pz_cvU (st := []) (md_X12_addTo X n l0 l3 x3 x6) ck_12 rfl mk_X12_addTo (Or.inl pw_1286) pw_1288 ps_72 rfl rfl (by decide) (by decide) (by decide) dX12_add_24 (fun _ => ?_)
  exact pz_vret rfl dX12_add_27
set_option maxRecDepth 20000 in
theorem md_X12_add (X : pz_X) (n : Nat) (l0 : Option Nat) (l1 : Int32) (l2 : Int32) (l3 : Int32) : pz_Md X yX12_add J_X12_add pz_vU [va_rf l0, .int l1, .int l2, .int l3] (X12_add n l0 l1 l2 l3) :=
  pz_md [(0, va_rf l0), (1, .int l1), (2, .int l2), (3, .int l3)] (by decide +kernel) rfl rfl (by cases l0 <;> rfl) (by cases l0 <;> exact Nat.le_of_ble_eq_true rfl) (fun X => S_X12_add X n l0 l1 l2 l3)
set_option maxRecDepth 20000 in
theorem S_X12_isGoodLeaf_b420 (X : pz_X) (n : Nat) (s0 : Int32) : pz_Sm X (pz_QM X) J_X12_isGoodLeaf pz_vI 420 [] [.int s0] (X12_isGoodLeaf_b420 n s0) := by
  unfold X12_isGoodLeaf_b420
  exact pz_zret rfl dX12_isGoodLeaf_420
set_option maxRecDepth 20000 in
theorem S_X12_isGoodLeaf_b398 (X : pz_X) (n : Nat) (l0 : Option Nat) (l1 : Int32) (K330 : Int32 → pz_C Int32) (hK330 : ∀ (l3 : Int32), pz_Sm X (pz_QM X) J_X12_isGoodLeaf pz_vI 330 [(0, va_rf l0), (1, .int l1), (3, .int l3)] [] (K330 l3)) (l3 : Int32) : pz_Sm X (pz_QM X) J_X12_isGoodLeaf pz_vI 398 [(0, va_rf l0), (1, .int l1), (3, .int l3)] [] (X12_isGoodLeaf_b398 n K330 l0 l1 l3) := by
  unfold X12_isGoodLeaf_b398
  refine pz_iinc 2 1 (fun l3_14 => [(3, .int l3_14), (0, va_rf l0), (1, .int l1)]) dX12_isGoodLeaf_398 rfl (by decide) (by decide) (fun l3_14 => rfl) (fun l3_14 => ?_)
  refine pz_goto 330 dX12_isGoodLeaf_401 (by decide) ?_
  exact pz_sub [1, 2, 0] rfl (hK330 l3_14)
set_option maxRecDepth 20000 in
theorem S_X12_isGoodLeaf_b366 (X : pz_X) (n : Nat) (l0 : Option Nat) (l1 : Int32) (K330 : Int32 → pz_C Int32) (hK330 : ∀ (l3 : Int32), pz_Sm X (pz_QM X) J_X12_isGoodLeaf pz_vI 330 [(0, va_rf l0), (1, .int l1), (3, .int l3)] [] (K330 l3)) (l3 : Int32) : pz_Sm X (pz_QM X) J_X12_isGoodLeaf pz_vI 366 [(0, va_rf l0), (1, .int l1), (3, .int l3)] [] (X12_isGoodLeaf_b366 n K330 l0 l1 l3) := by
  unfold X12_isGoodLeaf_b366
  refine pz_aload_n 0 dX12_isGoodLeaf_366 rfl ?_
  refine pz_getR (ci := 12) (k := 32) ck_12 (by decide) (Or.inl pw_964) dX12_isGoodLeaf_367 (fun x12 => ?_)
  refine pz_iconst 2 dX12_isGoodLeaf_370 (by decide) ?_
  refine pz_iload_n 2 dX12_isGoodLeaf_371 rfl ?_
  refine pz_imul dX12_isGoodLeaf_372 ?_
  refine pz_iconst 1 dX12_isGoodLeaf_373 (by decide) ?_
  refine pz_iadd dX12_isGoodLeaf_374 ?_
  refine pz_zald (t := 1) rfl dX12_isGoodLeaf_375 (fun x13 => ?_)
  refine pz_if_eq 398 dX12_isGoodLeaf_376 (by decide) ?_ ?_
  · exact pz_sub [0, 1, 2] rfl (S_X12_isGoodLeaf_b398 X n l0 l1 K330 hK330 l3)
  · refine pz_aload_n 0 dX12_isGoodLeaf_379 rfl ?_
    refine pz_iload_n 1 dX12_isGoodLeaf_380 rfl ?_
    refine pz_bipush 22 dX12_isGoodLeaf_381 (by decide) ?_
    refine pz_iload_n 2 dX12_isGoodLeaf_383 rfl ?_
    refine pz_iadd dX12_isGoodLeaf_384 ?_
    refine pz_aload_n 0 dX12_isGoodLeaf_385 rfl ?_
    refine pz_getR (ci := 12) (k := 33) ck_12 (by decide) (Or.inl pw_965) dX12_isGoodLeaf_386 (fun x15 => ?_)
    refine pz_iconst 2 dX12_isGoodLeaf_389 (by decide) ?_
    refine pz_iload_n 2 dX12_isGoodLeaf_390 rfl ?_
    refine pz_imul dX12_isGoodLeaf_391 ?_
    refine pz_iconst 1 dX12_isGoodLeaf_392 (by decide) ?_
    refine pz_iadd dX12_isGoodLeaf_393 ?_
    refine pz_iald (t := 0) rfl dX12_isGoodLeaf_394 (fun x16 => ?_)
    refine pz_cvU (st := []) (md_X12_add X n l0 l1 (22 + l3) x16) ck_12 rfl mk_X12_add (Or.inl pw_1338) pw_1340 ps_79 rfl rfl (by decide) (by decide) (by decide) dX12_isGoodLeaf_395 (fun _ => ?_)
    exact pz_sub [0, 1, 2] rfl (S_X12_isGoodLeaf_b398 X n l0 l1 K330 hK330 l3)
set_option maxRecDepth 20000 in
theorem S_X12_isGoodLeaf_L330_body (X : pz_X) (n : Nat) (l0 : Option Nat) (l1 : Int32) (K330 : Int32 → pz_C Int32) (hK330 : ∀ (l3 : Int32), pz_Sm X (pz_QM X) J_X12_isGoodLeaf pz_vI 330 [(0, va_rf l0), (1, .int l1), (3, .int l3)] [] (K330 l3)) (l3 : Int32) : pz_Sm X (pz_QM X) J_X12_isGoodLeaf pz_vI 330 [(0, va_rf l0), (1, .int l1), (3, .int l3)] [] (X12_isGoodLeaf_L330_body n l0 l1 K330 l3) := by
  unfold X12_isGoodLeaf_L330_body
  refine pz_iload_n 2 dX12_isGoodLeaf_330 rfl ?_
  refine pz_aload_n 0 dX12_isGoodLeaf_331 rfl ?_
  refine pz_getI (ci := 12) (k := 0) ck_12 (by decide) (Or.inl pw_932) dX12_isGoodLeaf_332 (fun x7 => ?_)
  refine pz_icmp_ge 404 dX12_isGoodLeaf_335 (by decide) ?_ ?_
  · refine pz_aload_n 0 dX12_isGoodLeaf_404 rfl ?_
    refine pz_aload_n 0 dX12_isGoodLeaf_405 rfl ?_
    refine pz_getI (ci := 12) (k := 30) ck_12 (by decide) (Or.inl pw_962) dX12_isGoodLeaf_406 (fun x8 => ?_)
    refine pz_cvI (st := []) (md_X12_sgn X n l0 x8) ck_12 rfl mk_X12_sgn (Or.inl pw_1122) pw_1124 ps_44 rfl rfl (by decide) (by decide) (by decide) dX12_isGoodLeaf_409 (fun x9 => ?_)
    refine pz_if_ge 419 dX12_isGoodLeaf_412 (by decide) ?_ ?_
    · refine pz_iconst 0 dX12_isGoodLeaf_419 (by decide) ?_
      exact pz_sub [] rfl (S_X12_isGoodLeaf_b420 X n 0)
    · refine pz_iconst 1 dX12_isGoodLeaf_415 (by decide) ?_
      refine pz_goto 420 dX12_isGoodLeaf_416 (by decide) ?_
      exact pz_sub [] rfl (S_X12_isGoodLeaf_b420 X n 1)
  · refine pz_aload_n 0 dX12_isGoodLeaf_338 rfl ?_
    refine pz_getR (ci := 12) (k := 32) ck_12 (by decide) (Or.inl pw_964) dX12_isGoodLeaf_339 (fun x10 => ?_)
    refine pz_iconst 2 dX12_isGoodLeaf_342 (by decide) ?_
    refine pz_iload_n 2 dX12_isGoodLeaf_343 rfl ?_
    refine pz_imul dX12_isGoodLeaf_344 ?_
    refine pz_zald (t := 1) rfl dX12_isGoodLeaf_345 (fun x11 => ?_)
    refine pz_if_eq 366 dX12_isGoodLeaf_346 (by decide) ?_ ?_
    · exact pz_sub [0, 1, 2] rfl (S_X12_isGoodLeaf_b366 X n l0 l1 K330 hK330 l3)
    · refine pz_aload_n 0 dX12_isGoodLeaf_349 rfl ?_
      refine pz_iload_n 1 dX12_isGoodLeaf_350 rfl ?_
      refine pz_bipush 12 dX12_isGoodLeaf_351 (by decide) ?_
      refine pz_iload_n 2 dX12_isGoodLeaf_353 rfl ?_
      refine pz_iadd dX12_isGoodLeaf_354 ?_
      refine pz_aload_n 0 dX12_isGoodLeaf_355 rfl ?_
      refine pz_getR (ci := 12) (k := 33) ck_12 (by decide) (Or.inl pw_965) dX12_isGoodLeaf_356 (fun x18 => ?_)
      refine pz_iconst 2 dX12_isGoodLeaf_359 (by decide) ?_
      refine pz_iload_n 2 dX12_isGoodLeaf_360 rfl ?_
      refine pz_imul dX12_isGoodLeaf_361 ?_
      refine pz_iald (t := 0) rfl dX12_isGoodLeaf_362 (fun x19 => ?_)
      refine pz_cvU (st := []) (md_X12_add X n l0 l1 (12 + l3) x19) ck_12 rfl mk_X12_add (Or.inl pw_1338) pw_1340 ps_79 rfl rfl (by decide) (by decide) (by decide) dX12_isGoodLeaf_363 (fun _ => ?_)
      exact pz_sub [0, 1, 2] rfl (S_X12_isGoodLeaf_b366 X n l0 l1 K330 hK330 l3)
set_option maxRecDepth 20000 in
theorem S_X12_isGoodLeaf_L330 (X : pz_X) (n : Nat) (l0 : Option Nat) (l1 : Int32) (l3 : Int32) : pz_Sm X (pz_QM X) J_X12_isGoodLeaf pz_vI 330 [(0, va_rf l0), (1, .int l1), (3, .int l3)] [] (X12_isGoodLeaf_L330 n l0 l1 l3) :=
  pz_lp (L := fun (s : Int32) => [(0, va_rf l0), (1, .int l1), (3, .int s)]) (fun K hK s => S_X12_isGoodLeaf_L330_body X n l0 l1 (fun l3 => K l3) (fun l3 => hK l3) s) n l3
set_option maxRecDepth 20000 in
theorem S_X12_isGoodLeaf_L297_body (X : pz_X) (n : Nat) (l0 : Option Nat) (l1 : Int32) (K297 : Int32 → pz_C Int32) (hK297 : ∀ (l3 : Int32), pz_Sm X (pz_QM X) J_X12_isGoodLeaf pz_vI 297 [(0, va_rf l0), (1, .int l1), (3, .int l3)] [] (K297 l3)) (l3 : Int32) : pz_Sm X (pz_QM X) J_X12_isGoodLeaf pz_vI 297 [(0, va_rf l0), (1, .int l1), (3, .int l3)] [] (X12_isGoodLeaf_L297_body n l0 l1 K297 l3) := by
  unfold X12_isGoodLeaf_L297_body
  refine pz_iload_n 2 dX12_isGoodLeaf_297 rfl ?_
  refine pz_aload_n 0 dX12_isGoodLeaf_298 rfl ?_
  refine pz_getI (ci := 12) (k := 1) ck_12 (by decide) (Or.inl pw_933) dX12_isGoodLeaf_299 (fun x6 => ?_)
  refine pz_icmp_ge 328 dX12_isGoodLeaf_302 (by decide) ?_ ?_
  · refine pz_iconst 0 dX12_isGoodLeaf_328 (by decide) ?_
    refine pz_istore_n [(3, .int 0), (0, va_rf l0), (1, .int l1)] dX12_isGoodLeaf_329 (by decide) rfl ?_
    exact pz_sub [1, 2, 0] rfl (S_X12_isGoodLeaf_L330 X n l0 l1 0)
  · refine pz_aload_n 0 dX12_isGoodLeaf_305 rfl ?_
    refine pz_iload_n 1 dX12_isGoodLeaf_306 rfl ?_
    refine pz_iload_n 2 dX12_isGoodLeaf_307 rfl ?_
    refine pz_aload_n 0 dX12_isGoodLeaf_308 rfl ?_
    refine pz_aload_n 0 dX12_isGoodLeaf_309 rfl ?_
    refine pz_getR (ci := 12) (k := 4) ck_12 (by decide) (Or.inl pw_936) dX12_isGoodLeaf_310 (fun x21 => ?_)
    refine pz_iload_n 2 dX12_isGoodLeaf_313 rfl ?_
    refine pz_iald (t := 0) rfl dX12_isGoodLeaf_314 (fun x22 => ?_)
    refine pz_i2l dX12_isGoodLeaf_315 ?_
    refine pz_cvI (st := [.int l3, .int l1, va_rf l0]) (md_X12_plainOf X n l0 (Int32.toInt64 x22)) ck_12 rfl mk_X12_plainOf (Or.inl pw_919) pw_921 ps_30 rfl rfl (by simp [pz_rf1, pz_ci, pz_cl]) (by decide) (by decide) dX12_isGoodLeaf_316 (fun x23 => ?_)
    refine pz_cvU (st := []) (md_X12_add X n l0 l1 l3 x23) ck_12 rfl mk_X12_add (Or.inl pw_1338) pw_1340 ps_79 rfl rfl (by decide) (by decide) (by decide) dX12_isGoodLeaf_319 (fun _ => ?_)
    refine pz_iinc 2 1 (fun l3_25 => [(3, .int l3_25), (0, va_rf l0), (1, .int l1)]) dX12_isGoodLeaf_322 rfl (by decide) (by decide) (fun l3_25 => rfl) (fun l3_25 => ?_)
    refine pz_goto 297 dX12_isGoodLeaf_325 (by decide) ?_
    exact pz_sub [1, 2, 0] rfl (hK297 l3_25)
set_option maxRecDepth 20000 in
theorem S_X12_isGoodLeaf_L297 (X : pz_X) (n : Nat) (l0 : Option Nat) (l1 : Int32) (l3 : Int32) : pz_Sm X (pz_QM X) J_X12_isGoodLeaf pz_vI 297 [(0, va_rf l0), (1, .int l1), (3, .int l3)] [] (X12_isGoodLeaf_L297 n l0 l1 l3) :=
  pz_lp (L := fun (s : Int32) => [(0, va_rf l0), (1, .int l1), (3, .int s)]) (fun K hK s => S_X12_isGoodLeaf_L297_body X n l0 l1 (fun l3 => K l3) (fun l3 => hK l3) s) n l3
set_option maxRecDepth 20000 in
theorem S_X12_isGoodLeaf_b285 (X : pz_X) (n : Nat) (l0 : Option Nat) (l1 : Int32) (l2 : Int32) : pz_Sm X (pz_QM X) J_X12_isGoodLeaf pz_vI 285 [(0, va_rf l0), (1, .int l1), (2, .int l2)] [] (X12_isGoodLeaf_b285 n l0 l1 l2) := by
  unfold X12_isGoodLeaf_b285
  refine pz_iload_n 2 dX12_isGoodLeaf_285 rfl ?_
  refine pz_if_ne 291 dX12_isGoodLeaf_286 (by decide) ?_ ?_
  · refine pz_iconst 0 dX12_isGoodLeaf_289 (by decide) ?_
    exact pz_zret rfl dX12_isGoodLeaf_290
  · refine pz_aload_n 0 dX12_isGoodLeaf_291 rfl ?_
    refine pz_cvU (st := []) (md_X12_beginSum X n l0) ck_12 rfl mk_X12_beginSum (Or.inl pw_1282) pw_1284 ps_71 rfl rfl (by decide) (by decide) (by decide) dX12_isGoodLeaf_292 (fun _ => ?_)
    refine pz_iconst 0 dX12_isGoodLeaf_295 (by decide) ?_
    refine pz_istore_n [(3, .int 0), (0, va_rf l0), (1, .int l1), (2, .int l2)] dX12_isGoodLeaf_296 (by decide) rfl ?_
    exact pz_sub [1, 2, 0] rfl (S_X12_isGoodLeaf_L297 X n l0 l1 0)
set_option maxRecDepth 20000 in
theorem S_X12_isGoodLeaf_b272 (X : pz_X) (n : Nat) (l0 : Option Nat) (l1 : Int32) (K164 : Int32 → Int32 → pz_C Int32) (hK164 : ∀ (l2 : Int32) (l3 : Int32), pz_Sm X (pz_QM X) J_X12_isGoodLeaf pz_vI 164 [(0, va_rf l0), (1, .int l1), (2, .int l2), (3, .int l3)] [] (K164 l2 l3)) (l3 : Int32) (l4 : Int32) (s0 : Int32) : pz_Sm X (pz_QM X) J_X12_isGoodLeaf pz_vI 272 [(0, va_rf l0), (1, .int l1), (3, .int l3), (4, .int l4)] [.int s0] (X12_isGoodLeaf_b272 n K164 l0 l1 l3 l4 s0) := by
  unfold X12_isGoodLeaf_b272
  refine pz_istore_n [(2, .int s0), (0, va_rf l0), (1, .int l1), (3, .int l3), (4, .int l4)] dX12_isGoodLeaf_272 (by decide) rfl ?_
  refine pz_aload_n 1 dX12_isGoodLeaf_273 rfl ?_
  refine pz_iload 4 dX12_isGoodLeaf_274 rfl ?_
  refine pz_put (ci := 12) (k := 35) ck_12 (by decide) (Or.inl pw_967) (Or.inl rfl) rfl rfl dX12_isGoodLeaf_276 ?_
  refine pz_iinc 3 1 (fun l3_35 => [(3, .int l3_35), (2, .int s0), (0, va_rf l0), (1, .int l1), (4, .int l4)]) dX12_isGoodLeaf_279 rfl (by decide) (by decide) (fun l3_35 => rfl) (fun l3_35 => ?_)
  refine pz_goto 164 dX12_isGoodLeaf_282 (by decide) ?_
  exact pz_sub [2, 3, 1, 0] rfl (hK164 s0 l3_35)
set_option maxRecDepth 20000 in
theorem S_X12_isGoodLeaf_L189_body (X : pz_X) (n : Nat) (l0 : Option Nat) (l1 : Int32) (K164 : Int32 → Int32 → pz_C Int32) (hK164 : ∀ (l2 : Int32) (l3 : Int32), pz_Sm X (pz_QM X) J_X12_isGoodLeaf pz_vI 164 [(0, va_rf l0), (1, .int l1), (2, .int l2), (3, .int l3)] [] (K164 l2 l3)) (l3 : Int32) (l4 : Int32) (K189 : Int32 → pz_C Int32) (hK189 : ∀ (l5 : Int32), pz_Sm X (pz_QM X) J_X12_isGoodLeaf pz_vI 189 [(0, va_rf l0), (1, .int l1), (3, .int l3), (4, .int l4), (5, .int l5)] [] (K189 l5)) (l5 : Int32) : pz_Sm X (pz_QM X) J_X12_isGoodLeaf pz_vI 189 [(0, va_rf l0), (1, .int l1), (3, .int l3), (4, .int l4), (5, .int l5)] [] (X12_isGoodLeaf_L189_body n K164 l0 l1 l3 l4 K189 l5) := by
  unfold X12_isGoodLeaf_L189_body
  refine pz_iload 4 dX12_isGoodLeaf_189 rfl ?_
  refine pz_aload_n 0 dX12_isGoodLeaf_191 rfl ?_
  refine pz_getI (ci := 12) (k := 1) ck_12 (by decide) (Or.inl pw_933) dX12_isGoodLeaf_192 (fun x28 => ?_)
  refine pz_icmp_ge 228 dX12_isGoodLeaf_195 (by decide) ?_ ?_
  · refine pz_aload_n 0 dX12_isGoodLeaf_228 rfl ?_
    refine pz_iload_n 1 dX12_isGoodLeaf_229 rfl ?_
    refine pz_bipush 12 dX12_isGoodLeaf_230 (by decide) ?_
    refine pz_iload_n 2 dX12_isGoodLeaf_232 rfl ?_
    refine pz_iadd dX12_isGoodLeaf_233 ?_
    refine pz_aload_n 0 dX12_isGoodLeaf_234 rfl ?_
    refine pz_lconst 1 dX12_isGoodLeaf_235 (by decide) ?_
    refine pz_cvI (st := [.int (12 + l3), .int l1, va_rf l0]) (md_X12_plainOf X n l0 1) ck_12 rfl mk_X12_plainOf (Or.inl pw_919) pw_921 ps_30 rfl rfl (by simp [pz_rf1, pz_ci, pz_cl]) (by decide) (by decide) dX12_isGoodLeaf_236 (fun x29 => ?_)
    refine pz_cvU (st := []) (md_X12_add X n l0 l1 (12 + l3) x29) ck_12 rfl mk_X12_add (Or.inl pw_1338) pw_1340 ps_79 rfl rfl (by decide) (by decide) (by decide) dX12_isGoodLeaf_239 (fun _ => ?_)
    refine pz_aload_n 0 dX12_isGoodLeaf_242 rfl ?_
    refine pz_iload_n 1 dX12_isGoodLeaf_243 rfl ?_
    refine pz_bipush 22 dX12_isGoodLeaf_244 (by decide) ?_
    refine pz_iload_n 2 dX12_isGoodLeaf_246 rfl ?_
    refine pz_iadd dX12_isGoodLeaf_247 ?_
    refine pz_aload_n 0 dX12_isGoodLeaf_248 rfl ?_
    refine pz_lconst 1 dX12_isGoodLeaf_249 (by decide) ?_
    refine pz_cvI (st := [.int (22 + l3), .int l1, va_rf l0]) (md_X12_plainOf X n l0 1) ck_12 rfl mk_X12_plainOf (Or.inl pw_919) pw_921 ps_30 rfl rfl (by simp [pz_rf1, pz_ci, pz_cl]) (by decide) (by decide) dX12_isGoodLeaf_250 (fun x31 => ?_)
    refine pz_cvU (st := []) (md_X12_add X n l0 l1 (22 + l3) x31) ck_12 rfl mk_X12_add (Or.inl pw_1338) pw_1340 ps_79 rfl rfl (by decide) (by decide) (by decide) dX12_isGoodLeaf_253 (fun _ => ?_)
    refine pz_aload_n 0 dX12_isGoodLeaf_256 rfl ?_
    refine pz_aload_n 0 dX12_isGoodLeaf_257 rfl ?_
    refine pz_getI (ci := 12) (k := 30) ck_12 (by decide) (Or.inl pw_962) dX12_isGoodLeaf_258 (fun x33 => ?_)
    refine pz_cvI (st := []) (md_X12_sgn X n l0 x33) ck_12 rfl mk_X12_sgn (Or.inl pw_1122) pw_1124 ps_44 rfl rfl (by decide) (by decide) (by decide) dX12_isGoodLeaf_261 (fun x34 => ?_)
    refine pz_if_ne 271 dX12_isGoodLeaf_264 (by decide) ?_ ?_
    · refine pz_iconst 1 dX12_isGoodLeaf_267 (by decide) ?_
      refine pz_goto 272 dX12_isGoodLeaf_268 (by decide) ?_
      exact pz_sub [0, 1, 2, 3] rfl (S_X12_isGoodLeaf_b272 X n l0 l1 K164 hK164 l3 l4 1)
    · refine pz_iconst 0 dX12_isGoodLeaf_271 (by decide) ?_
      exact pz_sub [0, 1, 2, 3] rfl (S_X12_isGoodLeaf_b272 X n l0 l1 K164 hK164 l3 l4 0)
  · refine pz_aload_n 0 dX12_isGoodLeaf_198 rfl ?_
    refine pz_iload_n 1 dX12_isGoodLeaf_199 rfl ?_
    refine pz_iload 4 dX12_isGoodLeaf_200 rfl ?_
    refine pz_aload_n 0 dX12_isGoodLeaf_202 rfl ?_
    refine pz_aload_n 0 dX12_isGoodLeaf_203 rfl ?_
    refine pz_getR (ci := 12) (k := 2) ck_12 (by decide) (Or.inl pw_934) dX12_isGoodLeaf_204 (fun x36 => ?_)
    refine pz_bipush 10 dX12_isGoodLeaf_207 (by decide) ?_
    refine pz_iload 4 dX12_isGoodLeaf_209 rfl ?_
    refine pz_imul dX12_isGoodLeaf_211 ?_
    refine pz_iload_n 2 dX12_isGoodLeaf_212 rfl ?_
    refine pz_iadd dX12_isGoodLeaf_213 ?_
    refine pz_iald (t := 0) rfl dX12_isGoodLeaf_214 (fun x37 => ?_)
    refine pz_i2l dX12_isGoodLeaf_215 ?_
    refine pz_cvI (st := [.int l5, .int l1, va_rf l0]) (md_X12_plainOf X n l0 (Int32.toInt64 x37)) ck_12 rfl mk_X12_plainOf (Or.inl pw_919) pw_921 ps_30 rfl rfl (by simp [pz_rf1, pz_ci, pz_cl]) (by decide) (by decide) dX12_isGoodLeaf_216 (fun x38 => ?_)
    refine pz_cvU (st := []) (md_X12_add X n l0 l1 l5 x38) ck_12 rfl mk_X12_add (Or.inl pw_1338) pw_1340 ps_79 rfl rfl (by decide) (by decide) (by decide) dX12_isGoodLeaf_219 (fun _ => ?_)
    refine pz_iinc 4 1 (fun l5_40 => [(5, .int l5_40), (0, va_rf l0), (1, .int l1), (3, .int l3), (4, .int l4)]) dX12_isGoodLeaf_222 rfl (by decide) (by decide) (fun l5_40 => rfl) (fun l5_40 => ?_)
    refine pz_goto 189 dX12_isGoodLeaf_225 (by decide) ?_
    exact pz_sub [1, 2, 3, 4, 0] rfl (hK189 l5_40)
set_option maxRecDepth 20000 in
theorem S_X12_isGoodLeaf_L189 (X : pz_X) (n : Nat) (l0 : Option Nat) (l1 : Int32) (K164 : Int32 → Int32 → pz_C Int32) (hK164 : ∀ (l2 : Int32) (l3 : Int32), pz_Sm X (pz_QM X) J_X12_isGoodLeaf pz_vI 164 [(0, va_rf l0), (1, .int l1), (2, .int l2), (3, .int l3)] [] (K164 l2 l3)) (l3 : Int32) (l4 : Int32) (l5 : Int32) : pz_Sm X (pz_QM X) J_X12_isGoodLeaf pz_vI 189 [(0, va_rf l0), (1, .int l1), (3, .int l3), (4, .int l4), (5, .int l5)] [] (X12_isGoodLeaf_L189 n K164 l0 l1 l3 l4 l5) :=
  pz_lp (L := fun (s : Int32) => [(0, va_rf l0), (1, .int l1), (3, .int l3), (4, .int l4), (5, .int s)]) (fun K hK s => S_X12_isGoodLeaf_L189_body X n l0 l1 K164 hK164 l3 l4 (fun l5 => K l5) (fun l5 => hK l5) s) n l5
set_option maxRecDepth 20000 in
theorem S_X12_isGoodLeaf_L164_body (X : pz_X) (n : Nat) (l0 : Option Nat) (l1 : Int32) (K164 : Int32 → Int32 → pz_C Int32) (hK164 : ∀ (l2 : Int32) (l3 : Int32), pz_Sm X (pz_QM X) J_X12_isGoodLeaf pz_vI 164 [(0, va_rf l0), (1, .int l1), (2, .int l2), (3, .int l3)] [] (K164 l2 l3)) (l2 : Int32) (l3 : Int32) : pz_Sm X (pz_QM X) J_X12_isGoodLeaf pz_vI 164 [(0, va_rf l0), (1, .int l1), (2, .int l2), (3, .int l3)] [] (X12_isGoodLeaf_L164_body n l0 l1 K164 l2 l3) := by
  unfold X12_isGoodLeaf_L164_body
  refine pz_iload_n 3 dX12_isGoodLeaf_164 rfl ?_
  refine pz_aload_n 0 dX12_isGoodLeaf_165 rfl ?_
  refine pz_getI (ci := 12) (k := 0) ck_12 (by decide) (Or.inl pw_932) dX12_isGoodLeaf_166 (fun x4 => ?_)
  refine pz_icmp_ge 285 dX12_isGoodLeaf_169 (by decide) ?_ ?_
  · exact pz_sub [0, 1, 2] rfl (S_X12_isGoodLeaf_b285 X n l0 l1 l2)
  · refine pz_iload_n 2 dX12_isGoodLeaf_172 rfl ?_
    refine pz_if_eq 285 dX12_isGoodLeaf_173 (by decide) ?_ ?_
    · exact pz_sub [0, 1, 2] rfl (S_X12_isGoodLeaf_b285 X n l0 l1 l2)
    · refine pz_aload_n 0 dX12_isGoodLeaf_176 rfl ?_
      refine pz_getI (ci := 12) (k := 35) ck_12 (by decide) (Or.inl pw_967) dX12_isGoodLeaf_177 (fun x26 => ?_)
      refine pz_istore [(4, .int x26), (0, va_rf l0), (1, .int l1), (2, .int l2), (3, .int l3)] dX12_isGoodLeaf_180 (by decide) rfl ?_
      refine pz_aload_n 1 dX12_isGoodLeaf_182 rfl ?_
      refine pz_cvU (st := []) (md_X12_beginSum X n l0) ck_12 rfl mk_X12_beginSum (Or.inl pw_1282) pw_1284 ps_71 rfl rfl (by decide) (by decide) (by decide) dX12_isGoodLeaf_183 (fun _ => ?_)
      refine pz_iconst 0 dX12_isGoodLeaf_186 (by decide) ?_
      refine pz_istore [(5, .int 0), (4, .int x26), (0, va_rf l0), (1, .int l1), (2, .int l2), (3, .int l3)] dX12_isGoodLeaf_187 (by decide) rfl ?_
      exact pz_sub [2, 3, 5, 1, 0] rfl (S_X12_isGoodLeaf_L189 X n l0 l1 K164 hK164 l3 x26 0)
set_option maxRecDepth 20000 in
theorem S_X12_isGoodLeaf_L164 (X : pz_X) (n : Nat) (l0 : Option Nat) (l1 : Int32) (l2 : Int32) (l3 : Int32) : pz_Sm X (pz_QM X) J_X12_isGoodLeaf pz_vI 164 [(0, va_rf l0), (1, .int l1), (2, .int l2), (3, .int l3)] [] (X12_isGoodLeaf_L164 n l0 l1 l2 l3) :=
  pz_lp (L := fun (s : Int32 × Int32) => [(0, va_rf l0), (1, .int l1), (2, .int s.1), (3, .int s.2)]) (fun K hK s => S_X12_isGoodLeaf_L164_body X n l0 l1 (fun l2 l3 => K (l2, l3)) (fun l2 l3 => hK (l2, l3)) s.1 s.2) n (l2, l3)
set_option maxRecDepth 20000 in
theorem S_X12_isGoodLeaf_b155 (X : pz_X) (n : Nat) (l0 : Option Nat) (l1 : Int32) (K72 : Int32 → Int32 → pz_C Int32) (hK72 : ∀ (l2 : Int32) (l3 : Int32), pz_Sm X (pz_QM X) J_X12_isGoodLeaf pz_vI 72 [(0, va_rf l0), (1, .int l1), (2, .int l2), (3, .int l3)] [] (K72 l2 l3)) (l3 : Int32) (s0 : Int32) : pz_Sm X (pz_QM X) J_X12_isGoodLeaf pz_vI 155 [(0, va_rf l0), (1, .int l1), (3, .int l3)] [.int s0] (X12_isGoodLeaf_b155 n K72 l0 l1 l3 s0) := by
  unfold X12_isGoodLeaf_b155
  refine pz_istore_n [(2, .int s0), (0, va_rf l0), (1, .int l1), (3, .int l3)] dX12_isGoodLeaf_155 (by decide) rfl ?_
  refine pz_iinc 3 1 (fun l3_43 => [(3, .int l3_43), (2, .int s0), (0, va_rf l0), (1, .int l1)]) dX12_isGoodLeaf_156 rfl (by decide) (by decide) (fun l3_43 => rfl) (fun l3_43 => ?_)
  refine pz_goto 72 dX12_isGoodLeaf_159 (by decide) ?_
  exact pz_sub [2, 3, 1, 0] rfl (hK72 s0 l3_43)
set_option maxRecDepth 20000 in
theorem S_X12_isGoodLeaf_b154 (X : pz_X) (n : Nat) (l0 : Option Nat) (l1 : Int32) (K72 : Int32 → Int32 → pz_C Int32) (hK72 : ∀ (l2 : Int32) (l3 : Int32), pz_Sm X (pz_QM X) J_X12_isGoodLeaf pz_vI 72 [(0, va_rf l0), (1, .int l1), (2, .int l2), (3, .int l3)] [] (K72 l2 l3)) (l3 : Int32) : pz_Sm X (pz_QM X) J_X12_isGoodLeaf pz_vI 154 [(0, va_rf l0), (1, .int l1), (3, .int l3)] [] (X12_isGoodLeaf_b154 n K72 l0 l1 l3) := by
  unfold X12_isGoodLeaf_b154
  refine pz_iconst 0 dX12_isGoodLeaf_154 (by decide) ?_
  exact pz_sub [0, 1, 2] rfl (S_X12_isGoodLeaf_b155 X n l0 l1 K72 hK72 l3 0)
set_option maxRecDepth 20000 in
theorem S_X12_isGoodLeaf_b150 (X : pz_X) (n : Nat) (l0 : Option Nat) (l1 : Int32) (K72 : Int32 → Int32 → pz_C Int32) (hK72 : ∀ (l2 : Int32) (l3 : Int32), pz_Sm X (pz_QM X) J_X12_isGoodLeaf pz_vI 72 [(0, va_rf l0), (1, .int l1), (2, .int l2), (3, .int l3)] [] (K72 l2 l3)) (l3 : Int32) : pz_Sm X (pz_QM X) J_X12_isGoodLeaf pz_vI 150 [(0, va_rf l0), (1, .int l1), (3, .int l3)] [] (X12_isGoodLeaf_b150 n K72 l0 l1 l3) := by
  unfold X12_isGoodLeaf_b150
  refine pz_iconst 1 dX12_isGoodLeaf_150 (by decide) ?_
  refine pz_goto 155 dX12_isGoodLeaf_151 (by decide) ?_
  exact pz_sub [0, 1, 2] rfl (S_X12_isGoodLeaf_b155 X n l0 l1 K72 hK72 l3 1)
set_option maxRecDepth 20000 in
theorem S_X12_isGoodLeaf_b132 (X : pz_X) (n : Nat) (l0 : Option Nat) (l1 : Int32) (K72 : Int32 → Int32 → pz_C Int32) (hK72 : ∀ (l2 : Int32) (l3 : Int32), pz_Sm X (pz_QM X) J_X12_isGoodLeaf pz_vI 72 [(0, va_rf l0), (1, .int l1), (2, .int l2), (3, .int l3)] [] (K72 l2 l3)) (l3 : Int32) (l5 : Int32) : pz_Sm X (pz_QM X) J_X12_isGoodLeaf pz_vI 132 [(0, va_rf l0), (1, .int l1), (3, .int l3), (5, .int l5)] [] (X12_isGoodLeaf_b132 n K72 l0 l1 l3 l5) := by
  unfold X12_isGoodLeaf_b132
  refine pz_aload_n 0 dX12_isGoodLeaf_132 rfl ?_
  refine pz_getR (ci := 12) (k := 32) ck_12 (by decide) (Or.inl pw_964) dX12_isGoodLeaf_133 (fun x46 => ?_)
  refine pz_iconst 2 dX12_isGoodLeaf_136 (by decide) ?_
  refine pz_iload_n 2 dX12_isGoodLeaf_137 rfl ?_
  refine pz_imul dX12_isGoodLeaf_138 ?_
  refine pz_iconst 1 dX12_isGoodLeaf_139 (by decide) ?_
  refine pz_iadd dX12_isGoodLeaf_140 ?_
  refine pz_zald (t := 1) rfl dX12_isGoodLeaf_141 (fun x47 => ?_)
  refine pz_if_ne 150 dX12_isGoodLeaf_142 (by decide) ?_ ?_
  · refine pz_iload 3 dX12_isGoodLeaf_145 rfl ?_
    refine pz_if_ne 154 dX12_isGoodLeaf_147 (by decide) ?_ ?_
    · exact pz_sub [0, 1, 2] rfl (S_X12_isGoodLeaf_b150 X n l0 l1 K72 hK72 l3)
    · exact pz_sub [0, 1, 2] rfl (S_X12_isGoodLeaf_b154 X n l0 l1 K72 hK72 l3)
  · exact pz_sub [0, 1, 2] rfl (S_X12_isGoodLeaf_b150 X n l0 l1 K72 hK72 l3)
set_option maxRecDepth 20000 in
theorem S_X12_isGoodLeaf_L72_body (X : pz_X) (n : Nat) (l0 : Option Nat) (l1 : Int32) (K72 : Int32 → Int32 → pz_C Int32) (hK72 : ∀ (l2 : Int32) (l3 : Int32), pz_Sm X (pz_QM X) J_X12_isGoodLeaf pz_vI 72 [(0, va_rf l0), (1, .int l1), (2, .int l2), (3, .int l3)] [] (K72 l2 l3)) (l2 : Int32) (l3 : Int32) : pz_Sm X (pz_QM X) J_X12_isGoodLeaf pz_vI 72 [(0, va_rf l0), (1, .int l1), (2, .int l2), (3, .int l3)] [] (X12_isGoodLeaf_L72_body n l0 l1 K72 l2 l3) := by
  unfold X12_isGoodLeaf_L72_body
  refine pz_iload_n 3 dX12_isGoodLeaf_72 rfl ?_
  refine pz_aload_n 0 dX12_isGoodLeaf_73 rfl ?_
  refine pz_getI (ci := 12) (k := 0) ck_12 (by decide) (Or.inl pw_932) dX12_isGoodLeaf_74 (fun x3 => ?_)
  refine pz_icmp_ge 162 dX12_isGoodLeaf_77 (by decide) ?_ ?_
  · refine pz_iconst 0 dX12_isGoodLeaf_162 (by decide) ?_
    refine pz_istore_n [(3, .int 0), (0, va_rf l0), (1, .int l1), (2, .int l2)] dX12_isGoodLeaf_163 (by decide) rfl ?_
    exact pz_sub [1, 2, 3, 0] rfl (S_X12_isGoodLeaf_L164 X n l0 l1 l2 0)
  · refine pz_aload_n 0 dX12_isGoodLeaf_80 rfl ?_
    refine pz_iload_n 1 dX12_isGoodLeaf_81 rfl ?_
    refine pz_bipush 12 dX12_isGoodLeaf_82 (by decide) ?_
    refine pz_iload_n 3 dX12_isGoodLeaf_84 rfl ?_
    refine pz_iadd dX12_isGoodLeaf_85 ?_
    refine pz_cvI (st := []) (md_X12_signOf X n l0 l1 (12 + l3)) ck_12 rfl mk_X12_signOf (Or.inl pw_1334) pw_1336 ps_78 rfl rfl (by decide) (by decide) (by decide) dX12_isGoodLeaf_86 (fun x41 => ?_)
    refine pz_istore [(4, .int x41), (0, va_rf l0), (1, .int l1), (2, .int l2), (3, .int l3)] dX12_isGoodLeaf_89 (by decide) rfl ?_
    refine pz_aload_n 1 dX12_isGoodLeaf_91 rfl ?_
    refine pz_iload_n 2 dX12_isGoodLeaf_92 rfl ?_
    refine pz_bipush 22 dX12_isGoodLeaf_93 (by decide) ?_
    refine pz_iload_n 4 dX12_isGoodLeaf_95 rfl ?_
    refine pz_iadd dX12_isGoodLeaf_96 ?_
    refine pz_cvI (st := []) (md_X12_signOf X n l0 l1 (22 + l3)) ck_12 rfl mk_X12_signOf (Or.inl pw_1334) pw_1336 ps_78 rfl rfl (by decide) (by decide) (by decide) dX12_isGoodLeaf_97 (fun x42 => ?_)
    refine pz_istore [(5, .int x42), (4, .int x41), (0, va_rf l0), (1, .int l1), (2, .int l2), (3, .int l3)] dX12_isGoodLeaf_100 (by decide) rfl ?_
    refine pz_iload_n 4 dX12_isGoodLeaf_102 rfl ?_
    refine pz_if_eq 154 dX12_isGoodLeaf_103 (by decide) ?_ ?_
    · exact pz_sub [2, 3, 5] rfl (S_X12_isGoodLeaf_b154 X n l0 l1 K72 hK72 l3)
    · refine pz_iload 1 dX12_isGoodLeaf_106 rfl ?_
      refine pz_if_lt 154 dX12_isGoodLeaf_108 (by decide) ?_ ?_
      · exact pz_sub [2, 3, 5] rfl (S_X12_isGoodLeaf_b154 X n l0 l1 K72 hK72 l3)
      · refine pz_iload 0 dX12_isGoodLeaf_111 rfl ?_
        refine pz_if_gt 154 dX12_isGoodLeaf_113 (by decide) ?_ ?_
        · exact pz_sub [2, 3, 5] rfl (S_X12_isGoodLeaf_b154 X n l0 l1 K72 hK72 l3)
        · refine pz_aload_n 2 dX12_isGoodLeaf_116 rfl ?_
          refine pz_getR (ci := 12) (k := 32) ck_12 (by decide) (Or.inl pw_964) dX12_isGoodLeaf_117 (fun x44 => ?_)
          refine pz_iconst 2 dX12_isGoodLeaf_120 (by decide) ?_
          refine pz_iload_n 5 dX12_isGoodLeaf_121 rfl ?_
          refine pz_imul dX12_isGoodLeaf_122 ?_
          refine pz_zald (t := 1) rfl dX12_isGoodLeaf_123 (fun x45 => ?_)
          refine pz_if_ne 132 dX12_isGoodLeaf_124 (by decide) ?_ ?_
          · refine pz_iload 1 dX12_isGoodLeaf_127 rfl ?_
            refine pz_if_ne 154 dX12_isGoodLeaf_129 (by decide) ?_ ?_
            · exact pz_sub [2, 3, 5, 0] rfl (S_X12_isGoodLeaf_b132 X n l0 l1 K72 hK72 l3 x42)
            · exact pz_sub [2, 3, 5] rfl (S_X12_isGoodLeaf_b154 X n l0 l1 K72 hK72 l3)
          · exact pz_sub [2, 3, 5, 0] rfl (S_X12_isGoodLeaf_b132 X n l0 l1 K72 hK72 l3 x42)
set_option maxRecDepth 20000 in
theorem S_X12_isGoodLeaf_L72 (X : pz_X) (n : Nat) (l0 : Option Nat) (l1 : Int32) (l2 : Int32) (l3 : Int32) : pz_Sm X (pz_QM X) J_X12_isGoodLeaf pz_vI 72 [(0, va_rf l0), (1, .int l1), (2, .int l2), (3, .int l3)] [] (X12_isGoodLeaf_L72 n l0 l1 l2 l3) :=
  pz_lp (L := fun (s : Int32 × Int32) => [(0, va_rf l0), (1, .int l1), (2, .int s.1), (3, .int s.2)]) (fun K hK s => S_X12_isGoodLeaf_L72_body X n l0 l1 (fun l2 l3 => K (l2, l3)) (fun l2 l3 => hK (l2, l3)) s.1 s.2) n (l2, l3)
set_option maxRecDepth 20000 in
theorem S_X12_isGoodLeaf_b63 (X : pz_X) (n : Nat) (l0 : Option Nat) (l1 : Int32) (K9 : Int32 → Int32 → pz_C Int32) (hK9 : ∀ (l2 : Int32) (l3 : Int32), pz_Sm X (pz_QM X) J_X12_isGoodLeaf pz_vI 9 [(0, va_rf l0), (1, .int l1), (2, .int l2), (3, .int l3)] [] (K9 l2 l3)) (l3 : Int32) (s0 : Int32) : pz_Sm X (pz_QM X) J_X12_isGoodLeaf pz_vI 63 [(0, va_rf l0), (1, .int l1), (3, .int l3)] [.int s0] (X12_isGoodLeaf_b63 n K9 l0 l1 l3 s0) := by
  unfold X12_isGoodLeaf_b63
  refine pz_istore_n [(2, .int s0), (0, va_rf l0), (1, .int l1), (3, .int l3)] dX12_isGoodLeaf_63 (by decide) rfl ?_
  refine pz_iinc 3 1 (fun l3_49 => [(3, .int l3_49), (2, .int s0), (0, va_rf l0), (1, .int l1)]) dX12_isGoodLeaf_64 rfl (by decide) (by decide) (fun l3_49 => rfl) (fun l3_49 => ?_)
  refine pz_goto 9 dX12_isGoodLeaf_67 (by decide) ?_
  exact pz_sub [2, 3, 1, 0] rfl (hK9 s0 l3_49)
set_option maxRecDepth 20000 in
theorem S_X12_isGoodLeaf_b62 (X : pz_X) (n : Nat) (l0 : Option Nat) (l1 : Int32) (K9 : Int32 → Int32 → pz_C Int32) (hK9 : ∀ (l2 : Int32) (l3 : Int32), pz_Sm X (pz_QM X) J_X12_isGoodLeaf pz_vI 9 [(0, va_rf l0), (1, .int l1), (2, .int l2), (3, .int l3)] [] (K9 l2 l3)) (l3 : Int32) : pz_Sm X (pz_QM X) J_X12_isGoodLeaf pz_vI 62 [(0, va_rf l0), (1, .int l1), (3, .int l3)] [] (X12_isGoodLeaf_b62 n K9 l0 l1 l3) := by
  unfold X12_isGoodLeaf_b62
  refine pz_iconst 0 dX12_isGoodLeaf_62 (by decide) ?_
  exact pz_sub [0, 1, 2] rfl (S_X12_isGoodLeaf_b63 X n l0 l1 K9 hK9 l3 0)
set_option maxRecDepth 20000 in
theorem S_X12_isGoodLeaf_b58 (X : pz_X) (n : Nat) (l0 : Option Nat) (l1 : Int32) (K9 : Int32 → Int32 → pz_C Int32) (hK9 : ∀ (l2 : Int32) (l3 : Int32), pz_Sm X (pz_QM X) J_X12_isGoodLeaf pz_vI 9 [(0, va_rf l0), (1, .int l1), (2, .int l2), (3, .int l3)] [] (K9 l2 l3)) (l3 : Int32) : pz_Sm X (pz_QM X) J_X12_isGoodLeaf pz_vI 58 [(0, va_rf l0), (1, .int l1), (3, .int l3)] [] (X12_isGoodLeaf_b58 n K9 l0 l1 l3) := by
  unfold X12_isGoodLeaf_b58
  refine pz_iconst 1 dX12_isGoodLeaf_58 (by decide) ?_
  refine pz_goto 63 dX12_isGoodLeaf_59 (by decide) ?_
  exact pz_sub [0, 1, 2] rfl (S_X12_isGoodLeaf_b63 X n l0 l1 K9 hK9 l3 1)
set_option maxRecDepth 20000 in
theorem S_X12_isGoodLeaf_b43 (X : pz_X) (n : Nat) (l0 : Option Nat) (l1 : Int32) (K9 : Int32 → Int32 → pz_C Int32) (hK9 : ∀ (l2 : Int32) (l3 : Int32), pz_Sm X (pz_QM X) J_X12_isGoodLeaf pz_vI 9 [(0, va_rf l0), (1, .int l1), (2, .int l2), (3, .int l3)] [] (K9 l2 l3)) (l3 : Int32) (l4 : Int32) : pz_Sm X (pz_QM X) J_X12_isGoodLeaf pz_vI 43 [(0, va_rf l0), (1, .int l1), (3, .int l3), (4, .int l4)] [] (X12_isGoodLeaf_b43 n K9 l0 l1 l3 l4) := by
  unfold X12_isGoodLeaf_b43
  refine pz_aload_n 0 dX12_isGoodLeaf_43 rfl ?_
  refine pz_getR (ci := 12) (k := 3) ck_12 (by decide) (Or.inl pw_935) dX12_isGoodLeaf_44 (fun x52 => ?_)
  refine pz_iload_n 2 dX12_isGoodLeaf_47 rfl ?_
  refine pz_iald (t := 0) rfl dX12_isGoodLeaf_48 (fun x53 => ?_)
  refine pz_iconst 1 dX12_isGoodLeaf_49 (by decide) ?_
  refine pz_icmp_ne 58 dX12_isGoodLeaf_50 (by decide) ?_ ?_
  · refine pz_iload 3 dX12_isGoodLeaf_53 rfl ?_
    refine pz_if_gt 62 dX12_isGoodLeaf_55 (by decide) ?_ ?_
    · exact pz_sub [0, 1, 2] rfl (S_X12_isGoodLeaf_b62 X n l0 l1 K9 hK9 l3)
    · exact pz_sub [0, 1, 2] rfl (S_X12_isGoodLeaf_b58 X n l0 l1 K9 hK9 l3)
  · exact pz_sub [0, 1, 2] rfl (S_X12_isGoodLeaf_b58 X n l0 l1 K9 hK9 l3)
set_option maxRecDepth 20000 in
theorem S_X12_isGoodLeaf_L9_body (X : pz_X) (n : Nat) (l0 : Option Nat) (l1 : Int32) (K9 : Int32 → Int32 → pz_C Int32) (hK9 : ∀ (l2 : Int32) (l3 : Int32), pz_Sm X (pz_QM X) J_X12_isGoodLeaf pz_vI 9 [(0, va_rf l0), (1, .int l1), (2, .int l2), (3, .int l3)] [] (K9 l2 l3)) (l2 : Int32) (l3 : Int32) : pz_Sm X (pz_QM X) J_X12_isGoodLeaf pz_vI 9 [(0, va_rf l0), (1, .int l1), (2, .int l2), (3, .int l3)] [] (X12_isGoodLeaf_L9_body n l0 l1 K9 l2 l3) := by
  unfold X12_isGoodLeaf_L9_body
  refine pz_iload_n 3 dX12_isGoodLeaf_9 rfl ?_
  refine pz_aload_n 0 dX12_isGoodLeaf_10 rfl ?_
  refine pz_getI (ci := 12) (k := 1) ck_12 (by decide) (Or.inl pw_933) dX12_isGoodLeaf_11 (fun x2 => ?_)
  refine pz_icmp_ge 70 dX12_isGoodLeaf_14 (by decide) ?_ ?_
  · refine pz_iconst 0 dX12_isGoodLeaf_70 (by decide) ?_
    refine pz_istore_n [(3, .int 0), (0, va_rf l0), (1, .int l1), (2, .int l2)] dX12_isGoodLeaf_71 (by decide) rfl ?_
    exact pz_sub [1, 2, 3, 0] rfl (S_X12_isGoodLeaf_L72 X n l0 l1 l2 0)
  · refine pz_aload_n 0 dX12_isGoodLeaf_17 rfl ?_
    refine pz_iload_n 1 dX12_isGoodLeaf_18 rfl ?_
    refine pz_iload_n 3 dX12_isGoodLeaf_19 rfl ?_
    refine pz_cvI (st := []) (md_X12_signOf X n l0 l1 l3) ck_12 rfl mk_X12_signOf (Or.inl pw_1334) pw_1336 ps_78 rfl rfl (by decide) (by decide) (by decide) dX12_isGoodLeaf_20 (fun x48 => ?_)
    refine pz_istore [(4, .int x48), (0, va_rf l0), (1, .int l1), (2, .int l2), (3, .int l3)] dX12_isGoodLeaf_23 (by decide) rfl ?_
    refine pz_iload_n 3 dX12_isGoodLeaf_25 rfl ?_
    refine pz_if_eq 62 dX12_isGoodLeaf_26 (by decide) ?_ ?_
    · exact pz_sub [1, 2, 4] rfl (S_X12_isGoodLeaf_b62 X n l0 l1 K9 hK9 l3)
    · refine pz_aload_n 1 dX12_isGoodLeaf_29 rfl ?_
      refine pz_getR (ci := 12) (k := 3) ck_12 (by decide) (Or.inl pw_935) dX12_isGoodLeaf_30 (fun x50 => ?_)
      refine pz_iload_n 4 dX12_isGoodLeaf_33 rfl ?_
      refine pz_iald (t := 0) rfl dX12_isGoodLeaf_34 (fun x51 => ?_)
      refine pz_if_ne 43 dX12_isGoodLeaf_35 (by decide) ?_ ?_
      · refine pz_iload 0 dX12_isGoodLeaf_38 rfl ?_
        refine pz_if_lt 62 dX12_isGoodLeaf_40 (by decide) ?_ ?_
        · exact pz_sub [1, 2, 4] rfl (S_X12_isGoodLeaf_b62 X n l0 l1 K9 hK9 l3)
        · exact pz_sub [1, 2, 4, 0] rfl (S_X12_isGoodLeaf_b43 X n l0 l1 K9 hK9 l3 x48)
      · exact pz_sub [1, 2, 4, 0] rfl (S_X12_isGoodLeaf_b43 X n l0 l1 K9 hK9 l3 x48)
set_option maxRecDepth 20000 in
theorem S_X12_isGoodLeaf_L9 (X : pz_X) (n : Nat) (l0 : Option Nat) (l1 : Int32) (l2 : Int32) (l3 : Int32) : pz_Sm X (pz_QM X) J_X12_isGoodLeaf pz_vI 9 [(0, va_rf l0), (1, .int l1), (2, .int l2), (3, .int l3)] [] (X12_isGoodLeaf_L9 n l0 l1 l2 l3) :=
  pz_lp (L := fun (s : Int32 × Int32) => [(0, va_rf l0), (1, .int l1), (2, .int s.1), (3, .int s.2)]) (fun K hK s => S_X12_isGoodLeaf_L9_body X n l0 l1 (fun l2 l3 => K (l2, l3)) (fun l2 l3 => hK (l2, l3)) s.1 s.2) n (l2, l3)
set_option maxRecDepth 20000 in
theorem S_X12_isGoodLeaf (X : pz_X) (n : Nat) (l0 : Option Nat) (l1 : Int32) : pz_Sm X (pz_QM X) J_X12_isGoodLeaf pz_vI 0 [(0, va_rf l0), (1, .int l1)] [] (X12_isGoodLeaf n l0 l1) := by
  unfold X12_isGoodLeaf
  refine pz_aload_n 0 dX12_isGoodLeaf_0 rfl ?_
  refine pz_iload_n 1 dX12_isGoodLeaf_1 rfl ?_
  refine pz_cvU (st := []) (md_X12_lookAround X n l0 l1) ck_12 rfl mk_X12_lookAround (Or.inl pw_1330) pw_1332 ps_77 rfl rfl (by decide) (by decide) (by decide) dX12_isGoodLeaf_2 (fun _ => ?_)
  refine pz_iconst 1 dX12_isGoodLeaf_5 (by decide) ?_
  refine pz_istore_n [(2, .int 1), (0, va_rf l0), (1, .int l1)] dX12_isGoodLeaf_6 (by decide) rfl ?_
  refine pz_iconst 0 dX12_isGoodLeaf_7 (by decide) ?_
  refine pz_istore_n [(3, .int 0), (2, .int 1), (0, va_rf l0), (1, .int l1)] dX12_isGoodLeaf_8 (by decide) rfl ?_
  exact pz_sub [2, 3, 1, 0] rfl (S_X12_isGoodLeaf_L9 X n l0 l1 1 0)
set_option maxRecDepth 20000 in
theorem md_X12_isGoodLeaf (X : pz_X) (n : Nat) (l0 : Option Nat) (l1 : Int32) : pz_Md X yX12_isGoodLeaf J_X12_isGoodLeaf pz_vI [va_rf l0, .int l1] (X12_isGoodLeaf n l0 l1) :=
  pz_md [(0, va_rf l0), (1, .int l1)] (by decide +kernel) rfl rfl (by cases l0 <;> rfl) (by cases l0 <;> exact Nat.le_of_ble_eq_true rfl) (fun X => S_X12_isGoodLeaf X n l0 l1)
set_option maxRecDepth 20000 in
theorem S_X12_judgeTree_b82 (X : pz_X) (n : Nat) (l0 : Option Nat) (K11 : Int32 → pz_C Int32) (hK11 : ∀ (l1 : Int32), pz_Sm X (pz_QM X) J_X12_judgeTree pz_vI 11 [(0, va_rf l0), (1, .int l1)] [] (K11 l1)) (l1 : Int32) (l2 : Int32) (s0 : Int32) : pz_Sm X (pz_QM X) J_X12_judgeTree pz_vI 82 [(0, va_rf l0), (1, .int l1), (2, .int l2)] [.int s0] (X12_judgeTree_b82 n K11 l0 l1 l2 s0) := by
  unfold X12_judgeTree_b82
  refine pz_istore_n [(3, .int s0), (0, va_rf l0), (1, .int l1), (2, .int l2)] dX12_judgeTree_82 (by decide) rfl ?_
  refine pz_aload_n 1 dX12_judgeTree_83 rfl ?_
  refine pz_iload_n 3 dX12_judgeTree_84 rfl ?_
  refine pz_put (ci := 12) (k := 35) ck_12 (by decide) (Or.inl pw_967) (Or.inl rfl) rfl rfl dX12_judgeTree_85 ?_
  refine pz_iload_n 0 dX12_judgeTree_88 rfl ?_
  refine pz_if_ne 96 dX12_judgeTree_89 (by decide) ?_ ?_
  · refine pz_iconst 1 dX12_judgeTree_92 (by decide) ?_
    refine pz_iload_n 2 dX12_judgeTree_93 rfl ?_
    refine pz_iadd dX12_judgeTree_94 ?_
    exact pz_iret rfl dX12_judgeTree_95
  · refine pz_iinc 2 1 (fun l1_7 => [(1, .int l1_7), (3, .int s0), (0, va_rf l0), (2, .int l2)]) dX12_judgeTree_96 rfl (by decide) (by decide) (fun l1_7 => (by cases l0 <;> rfl)) (fun l1_7 => ?_)
    refine pz_goto 11 dX12_judgeTree_99 (by decide) ?_
    exact pz_sub [2, 0] rfl (hK11 l1_7)
set_option maxRecDepth 20000 in
theorem S_X12_judgeTree_b73 (X : pz_X) (n : Nat) (l0 : Option Nat) (K11 : Int32 → pz_C Int32) (hK11 : ∀ (l1 : Int32), pz_Sm X (pz_QM X) J_X12_judgeTree pz_vI 11 [(0, va_rf l0), (1, .int l1)] [] (K11 l1)) (l1 : Int32) (l2 : Int32) : pz_Sm X (pz_QM X) J_X12_judgeTree pz_vI 73 [(0, va_rf l0), (1, .int l1), (2, .int l2)] [] (X12_judgeTree_b73 n K11 l0 l1 l2) := by
  unfold X12_judgeTree_b73
  refine pz_iconst 0 dX12_judgeTree_73 (by decide) ?_
  refine pz_goto 82 dX12_judgeTree_74 (by decide) ?_
  exact pz_sub [0, 1, 2] rfl (S_X12_judgeTree_b82 X n l0 K11 hK11 l1 l2 0)
set_option maxRecDepth 20000 in
theorem S_X12_judgeTree_L11_body (X : pz_X) (n : Nat) (l0 : Option Nat) (K11 : Int32 → pz_C Int32) (hK11 : ∀ (l1 : Int32), pz_Sm X (pz_QM X) J_X12_judgeTree pz_vI 11 [(0, va_rf l0), (1, .int l1)] [] (K11 l1)) (l1 : Int32) : pz_Sm X (pz_QM X) J_X12_judgeTree pz_vI 11 [(0, va_rf l0), (1, .int l1)] [] (X12_judgeTree_L11_body n l0 K11 l1) := by
  unfold X12_judgeTree_L11_body
  refine pz_iload_n 1 dX12_judgeTree_11 rfl ?_
  refine pz_aload_n 0 dX12_judgeTree_12 rfl ?_
  refine pz_getI (ci := 12) (k := 15) ck_12 (by decide) (Or.inl pw_947) dX12_judgeTree_13 (fun x2 => ?_)
  refine pz_icmp_ge 102 dX12_judgeTree_16 (by decide) ?_ ?_
  · refine pz_iconst 0 dX12_judgeTree_102 (by decide) ?_
    exact pz_iret rfl dX12_judgeTree_103
  · refine pz_aload_n 0 dX12_judgeTree_19 rfl ?_
    refine pz_getI (ci := 12) (k := 35) ck_12 (by decide) (Or.inl pw_967) dX12_judgeTree_20 (fun x3 => ?_)
    refine pz_istore_n [(2, .int x3), (0, va_rf l0), (1, .int l1)] dX12_judgeTree_23 (by decide) rfl ?_
    refine pz_aload_n 1 dX12_judgeTree_24 rfl ?_
    refine pz_getR (ci := 12) (k := 16) ck_12 (by decide) (Or.inl pw_948) dX12_judgeTree_25 (fun x4 => ?_)
    refine pz_iload_n 2 dX12_judgeTree_28 rfl ?_
    refine pz_zald (t := 1) rfl dX12_judgeTree_29 (fun x5 => ?_)
    refine pz_if_eq 77 dX12_judgeTree_30 (by decide) ?_ ?_
    · refine pz_aload_n 1 dX12_judgeTree_77 rfl ?_
      refine pz_iload_n 2 dX12_judgeTree_78 rfl ?_
      refine pz_cvI (st := []) (md_X12_isGoodLeaf X n l0 l1) ck_12 rfl mk_X12_isGoodLeaf (Or.inl pw_1326) pw_1328 ps_76 rfl rfl (by decide) (by decide) (by decide) dX12_judgeTree_79 (fun x6 => ?_)
      exact pz_sub [1, 2, 0] rfl (S_X12_judgeTree_b82 X n l0 K11 hK11 l1 x3 x6)
    · refine pz_aload_n 1 dX12_judgeTree_33 rfl ?_
      refine pz_getR (ci := 12) (k := 6) ck_12 (by decide) (Or.inl pw_938) dX12_judgeTree_34 (fun x8 => ?_)
      refine pz_aload_n 1 dX12_judgeTree_37 rfl ?_
      refine pz_getR (ci := 12) (k := 18) ck_12 (by decide) (Or.inl pw_950) dX12_judgeTree_38 (fun x9 => ?_)
      refine pz_iload_n 2 dX12_judgeTree_41 rfl ?_
      refine pz_iald (t := 0) rfl dX12_judgeTree_42 (fun x10 => ?_)
      refine pz_zald (t := 1) rfl dX12_judgeTree_43 (fun x11 => ?_)
      refine pz_if_eq 73 dX12_judgeTree_44 (by decide) ?_ ?_
      · exact pz_sub [1, 2, 0] rfl (S_X12_judgeTree_b73 X n l0 K11 hK11 l1 x3)
      · refine pz_aload_n 1 dX12_judgeTree_47 rfl ?_
        refine pz_getR (ci := 12) (k := 19) ck_12 (by decide) (Or.inl pw_951) dX12_judgeTree_48 (fun x12 => ?_)
        refine pz_iload_n 2 dX12_judgeTree_51 rfl ?_
        refine pz_iald (t := 0) rfl dX12_judgeTree_52 (fun x13 => ?_)
        refine pz_bipush (-2) dX12_judgeTree_53 (by decide) ?_
        refine pz_icmp_eq 73 dX12_judgeTree_55 (by decide) ?_ ?_
        · exact pz_sub [1, 2, 0] rfl (S_X12_judgeTree_b73 X n l0 K11 hK11 l1 x3)
        · refine pz_aload_n 1 dX12_judgeTree_58 rfl ?_
          refine pz_getR (ci := 12) (k := 20) ck_12 (by decide) (Or.inl pw_952) dX12_judgeTree_59 (fun x14 => ?_)
          refine pz_iload_n 2 dX12_judgeTree_62 rfl ?_
          refine pz_iald (t := 0) rfl dX12_judgeTree_63 (fun x15 => ?_)
          refine pz_bipush (-2) dX12_judgeTree_64 (by decide) ?_
          refine pz_icmp_eq 73 dX12_judgeTree_66 (by decide) ?_ ?_
          · exact pz_sub [1, 2, 0] rfl (S_X12_judgeTree_b73 X n l0 K11 hK11 l1 x3)
          · refine pz_iconst 1 dX12_judgeTree_69 (by decide) ?_
            refine pz_goto 82 dX12_judgeTree_70 (by decide) ?_
            exact pz_sub [1, 2, 0] rfl (S_X12_judgeTree_b82 X n l0 K11 hK11 l1 x3 1)
set_option maxRecDepth 20000 in
theorem S_X12_judgeTree_L11 (X : pz_X) (n : Nat) (l0 : Option Nat) (l1 : Int32) : pz_Sm X (pz_QM X) J_X12_judgeTree pz_vI 11 [(0, va_rf l0), (1, .int l1)] [] (X12_judgeTree_L11 n l0 l1) :=
  pz_lp (L := fun (s : Int32) => [(0, va_rf l0), (1, .int s)]) (fun K hK s => S_X12_judgeTree_L11_body X n l0 (fun l1 => K l1) (fun l1 => hK l1) s) n l1
set_option maxRecDepth 20000 in
theorem S_X12_judgeTree (X : pz_X) (n : Nat) (l0 : Option Nat) : pz_Sm X (pz_QM X) J_X12_judgeTree pz_vI 0 [(0, va_rf l0)] [] (X12_judgeTree n l0) := by
  unfold X12_judgeTree
  refine pz_aload_n 0 dX12_judgeTree_0 rfl ?_
  refine pz_getI (ci := 12) (k := 15) ck_12 (by decide) (Or.inl pw_947) dX12_judgeTree_1 (fun x1 => ?_)
  refine pz_if_ne 9 dX12_judgeTree_4 (by decide) ?_ ?_
  · refine pz_iconst (-1) dX12_judgeTree_7 (by decide) ?_
    exact pz_iret rfl dX12_judgeTree_8
  · refine pz_iconst 0 dX12_judgeTree_9 (by decide) ?_
    refine pz_istore_n [(1, .int 0), (0, va_rf l0)] dX12_judgeTree_10 (by decide) (by cases l0 <;> rfl) ?_
    exact pz_sub [1, 0] rfl (S_X12_judgeTree_L11 X n l0 0)
set_option maxRecDepth 20000 in
theorem md_X12_judgeTree (X : pz_X) (n : Nat) (l0 : Option Nat) : pz_Md X yX12_judgeTree J_X12_judgeTree pz_vI [va_rf l0] (X12_judgeTree n l0) :=
  pz_md [(0, va_rf l0)] (by decide +kernel) rfl rfl (by cases l0 <;> rfl) (by cases l0 <;> exact Nat.le_of_ble_eq_true rfl) (fun X => S_X12_judgeTree X n l0)
