set_option maxRecDepth 20000 in
theorem S_X4_firstBrokenRow_b105 (X : pz_X) (n : Nat) (l0 : Option Nat) (l1 : Option Nat) (K2 : Int32 → pz_C Int32) (hK2 : ∀ (l2 : Int32), pz_Sm X (pz_QM X) J_X4_firstBrokenRow pz_vI 2 [(0, va_rf l0), (1, va_rf l1), (2, .int l2)] [] (K2 l2)) (l2 : Int32) : pz_Sm X (pz_QM X) J_X4_firstBrokenRow pz_vI 105 [(0, va_rf l0), (1, va_rf l1), (2, .int l2)] [] (X4_firstBrokenRow_b105 n K2 l0 l1 l2) := by
  unfold X4_firstBrokenRow_b105
  refine pz_iinc 2 1 (fun l2_10 => [(2, .int l2_10), (0, va_rf l0), (1, va_rf l1)]) dX4_firstBrokenRow_105 rfl (by decide) (by decide) (fun l2_10 => (by cases l1 <;> rfl)) (fun l2_10 => ?_)
  refine pz_goto 2 dX4_firstBrokenRow_108 (by decide) ?_
  exact pz_sub [1, 2, 0] rfl (hK2 l2_10)
set_option maxRecDepth 20000 in
theorem S_X4_firstBrokenRow_b103 (X : pz_X) (n : Nat) (l2 : Int32) : pz_Sm X (pz_QM X) J_X4_firstBrokenRow pz_vI 103 [(2, .int l2)] [] (X4_firstBrokenRow_b103 n l2) := by
  unfold X4_firstBrokenRow_b103
  refine pz_iload_n 0 dX4_firstBrokenRow_103 rfl ?_
  exact pz_iret rfl dX4_firstBrokenRow_104
set_option maxRecDepth 20000 in
theorem S_X4_firstBrokenRow_b87 (X : pz_X) (n : Nat) (l0 : Option Nat) (l1 : Option Nat) (K2 : Int32 → pz_C Int32) (hK2 : ∀ (l2 : Int32), pz_Sm X (pz_QM X) J_X4_firstBrokenRow pz_vI 2 [(0, va_rf l0), (1, va_rf l1), (2, .int l2)] [] (K2 l2)) (l2 : Int32) (l3 : Int32) : pz_Sm X (pz_QM X) J_X4_firstBrokenRow pz_vI 87 [(0, va_rf l0), (1, va_rf l1), (2, .int l2), (3, .int l3)] [] (X4_firstBrokenRow_b87 n K2 l0 l1 l2 l3) := by
  unfold X4_firstBrokenRow_b87
  refine pz_iload_n 3 dX4_firstBrokenRow_87 rfl ?_
  refine pz_if_ge 105 dX4_firstBrokenRow_88 (by decide) ?_ ?_
  · exact pz_sub [0, 1, 2] rfl (S_X4_firstBrokenRow_b105 X n l0 l1 K2 hK2 l2)
  · refine pz_aload_n 0 dX4_firstBrokenRow_91 rfl ?_
    refine pz_getR (ci := 4) (k := 0) ck_4 (by decide) (Or.inl pw_345) dX4_firstBrokenRow_92 (fun x11 => ?_)
    refine pz_getR (ci := 6) (k := 1) ck_6 (by decide) (Or.inl pw_36) dX4_firstBrokenRow_95 (fun x12 => ?_)
    refine pz_iload_n 2 dX4_firstBrokenRow_98 rfl ?_
    refine pz_iald (t := 0) rfl dX4_firstBrokenRow_99 (fun x13 => ?_)
    refine pz_if_eq 105 dX4_firstBrokenRow_100 (by decide) ?_ ?_
    · exact pz_sub [0, 1, 2] rfl (S_X4_firstBrokenRow_b105 X n l0 l1 K2 hK2 l2)
    · exact pz_sub [2] rfl (S_X4_firstBrokenRow_b103 X n l2)
set_option maxRecDepth 20000 in
theorem S_X4_firstBrokenRow_L19_body (X : pz_X) (n : Nat) (l0 : Option Nat) (l1 : Option Nat) (K2 : Int32 → pz_C Int32) (hK2 : ∀ (l2 : Int32), pz_Sm X (pz_QM X) J_X4_firstBrokenRow pz_vI 2 [(0, va_rf l0), (1, va_rf l1), (2, .int l2)] [] (K2 l2)) (l2 : Int32) (K19 : Int32 → pz_C Int32) (hK19 : ∀ (l3 : Int32), pz_Sm X (pz_QM X) J_X4_firstBrokenRow pz_vI 19 [(0, va_rf l0), (1, va_rf l1), (2, .int l2), (3, .int l3)] [] (K19 l3)) (l3 : Int32) : pz_Sm X (pz_QM X) J_X4_firstBrokenRow pz_vI 19 [(0, va_rf l0), (1, va_rf l1), (2, .int l2), (3, .int l3)] [] (X4_firstBrokenRow_L19_body n K2 l0 l1 l2 K19 l3) := by
  unfold X4_firstBrokenRow_L19_body
  refine pz_iload_n 3 dX4_firstBrokenRow_19 rfl ?_
  refine pz_aload_n 0 dX4_firstBrokenRow_20 rfl ?_
  refine pz_getR (ci := 4) (k := 0) ck_4 (by decide) (Or.inl pw_345) dX4_firstBrokenRow_21 (fun x4 => ?_)
  refine pz_getI (ci := 6) (k := 5) ck_6 (by decide) (Or.inl pw_49) dX4_firstBrokenRow_24 (fun x5 => ?_)
  refine pz_icmp_ge 54 dX4_firstBrokenRow_27 (by decide) ?_ ?_
  · refine pz_aload_n 0 dX4_firstBrokenRow_54 rfl ?_
    refine pz_aload_n 1 dX4_firstBrokenRow_55 rfl ?_
    refine pz_aload_n 0 dX4_firstBrokenRow_56 rfl ?_
    refine pz_getR (ci := 4) (k := 0) ck_4 (by decide) (Or.inl pw_345) dX4_firstBrokenRow_57 (fun x6 => ?_)
    refine pz_getR (ci := 6) (k := 2) ck_6 (by decide) (Or.inl pw_38) dX4_firstBrokenRow_60 (fun x7 => ?_)
    refine pz_iload_n 2 dX4_firstBrokenRow_63 rfl ?_
    refine pz_iald (t := 0) rfl dX4_firstBrokenRow_64 (fun x8 => ?_)
    refine pz_i2l dX4_firstBrokenRow_65 ?_
    refine pz_cvI (st := []) (md_X4_compareTotal X n l0 l1 (Int32.toInt64 x8)) ck_4 rfl mk_X4_compareTotal (Or.inl pw_828) pw_830 ps_23 rfl rfl (by decide) (by decide) (by decide) dX4_firstBrokenRow_66 (fun x9 => ?_)
    refine pz_istore_n [(3, .int x9), (0, va_rf l0), (1, va_rf l1), (2, .int l2)] dX4_firstBrokenRow_69 (by decide) rfl ?_
    refine pz_iload_n 0 dX4_firstBrokenRow_70 rfl ?_
    refine pz_if_le 87 dX4_firstBrokenRow_71 (by decide) ?_ ?_
    · exact pz_sub [1, 2, 3, 0] rfl (S_X4_firstBrokenRow_b87 X n l0 l1 K2 hK2 l2 x9)
    · refine pz_aload_n 1 dX4_firstBrokenRow_74 rfl ?_
      refine pz_getR (ci := 4) (k := 0) ck_4 (by decide) (Or.inl pw_345) dX4_firstBrokenRow_75 (fun x14 => ?_)
      refine pz_getR (ci := 6) (k := 1) ck_6 (by decide) (Or.inl pw_36) dX4_firstBrokenRow_78 (fun x15 => ?_)
      refine pz_iload_n 3 dX4_firstBrokenRow_81 rfl ?_
      refine pz_iald (t := 0) rfl dX4_firstBrokenRow_82 (fun x16 => ?_)
      refine pz_iconst 1 dX4_firstBrokenRow_83 (by decide) ?_
      refine pz_icmp_ne 103 dX4_firstBrokenRow_84 (by decide) ?_ ?_
      · exact pz_sub [1, 2, 3, 0] rfl (S_X4_firstBrokenRow_b87 X n l0 l1 K2 hK2 l2 x9)
      · exact pz_sub [3] rfl (S_X4_firstBrokenRow_b103 X n l2)
  · refine pz_aload_n 0 dX4_firstBrokenRow_30 rfl ?_
    refine pz_getR (ci := 4) (k := 6) ck_4 (by decide) (Or.inl pw_351) dX4_firstBrokenRow_31 (fun x17 => ?_)
    refine pz_iload_n 3 dX4_firstBrokenRow_34 rfl ?_
    refine pz_aload_n 0 dX4_firstBrokenRow_35 rfl ?_
    refine pz_getR (ci := 4) (k := 0) ck_4 (by decide) (Or.inl pw_345) dX4_firstBrokenRow_36 (fun x18 => ?_)
    refine pz_getR (ci := 6) (k := 0) ck_6 (by decide) (Or.inl pw_32) dX4_firstBrokenRow_39 (fun x19 => ?_)
    refine pz_iload_n 2 dX4_firstBrokenRow_42 rfl ?_
    refine pz_aald (t := 6) rfl rfl dX4_firstBrokenRow_43 (fun x20 => ?_)
    refine pz_iload_n 3 dX4_firstBrokenRow_44 rfl ?_
    refine pz_iald (t := 0) rfl dX4_firstBrokenRow_45 (fun x21 => ?_)
    refine pz_i2l dX4_firstBrokenRow_46 ?_
    refine pz_last (t := 2) rfl dX4_firstBrokenRow_47 ?_
    refine pz_iinc 3 1 (fun l3_22 => [(3, .int l3_22), (0, va_rf l0), (1, va_rf l1), (2, .int l2)]) dX4_firstBrokenRow_48 rfl (by decide) (by decide) (fun l3_22 => rfl) (fun l3_22 => ?_)
    refine pz_goto 19 dX4_firstBrokenRow_51 (by decide) ?_
    exact pz_sub [1, 2, 3, 0] rfl (hK19 l3_22)
set_option maxRecDepth 20000 in
theorem S_X4_firstBrokenRow_L19 (X : pz_X) (n : Nat) (l0 : Option Nat) (l1 : Option Nat) (K2 : Int32 → pz_C Int32) (hK2 : ∀ (l2 : Int32), pz_Sm X (pz_QM X) J_X4_firstBrokenRow pz_vI 2 [(0, va_rf l0), (1, va_rf l1), (2, .int l2)] [] (K2 l2)) (l2 : Int32) (l3 : Int32) : pz_Sm X (pz_QM X) J_X4_firstBrokenRow pz_vI 19 [(0, va_rf l0), (1, va_rf l1), (2, .int l2), (3, .int l3)] [] (X4_firstBrokenRow_L19 n K2 l0 l1 l2 l3) :=
  pz_lp (L := fun (s : Int32) => [(0, va_rf l0), (1, va_rf l1), (2, .int l2), (3, .int s)]) (fun K hK s => S_X4_firstBrokenRow_L19_body X n l0 l1 K2 hK2 l2 (fun l3 => K l3) (fun l3 => hK l3) s) n l3
set_option maxRecDepth 20000 in
theorem S_X4_firstBrokenRow_L2_body (X : pz_X) (n : Nat) (l0 : Option Nat) (l1 : Option Nat) (K2 : Int32 → pz_C Int32) (hK2 : ∀ (l2 : Int32), pz_Sm X (pz_QM X) J_X4_firstBrokenRow pz_vI 2 [(0, va_rf l0), (1, va_rf l1), (2, .int l2)] [] (K2 l2)) (l2 : Int32) : pz_Sm X (pz_QM X) J_X4_firstBrokenRow pz_vI 2 [(0, va_rf l0), (1, va_rf l1), (2, .int l2)] [] (X4_firstBrokenRow_L2_body n l0 l1 K2 l2) := by
  unfold X4_firstBrokenRow_L2_body
  refine pz_iload_n 2 dX4_firstBrokenRow_2 rfl ?_
  refine pz_aload_n 0 dX4_firstBrokenRow_3 rfl ?_
  refine pz_getR (ci := 4) (k := 0) ck_4 (by decide) (Or.inl pw_345) dX4_firstBrokenRow_4 (fun x1 => ?_)
  refine pz_getI (ci := 6) (k := 6) ck_6 (by decide) (Or.inl pw_55) dX4_firstBrokenRow_7 (fun x2 => ?_)
  refine pz_icmp_ge 111 dX4_firstBrokenRow_10 (by decide) ?_ ?_
  · refine pz_bipush (-2) dX4_firstBrokenRow_111 (by decide) ?_
    exact pz_iret rfl dX4_firstBrokenRow_113
  · refine pz_aload_n 0 dX4_firstBrokenRow_13 rfl ?_
    refine pz_cvU (st := []) (md_X4_clearWeights X n l0) ck_4 rfl mk_X4_clearWeights (Or.inl pw_824) pw_826 ps_22 rfl rfl (by decide) (by decide) (by decide) dX4_firstBrokenRow_14 (fun _ => ?_)
    refine pz_iconst 0 dX4_firstBrokenRow_17 (by decide) ?_
    refine pz_istore_n [(3, .int 0), (0, va_rf l0), (1, va_rf l1), (2, .int l2)] dX4_firstBrokenRow_18 (by decide) rfl ?_
    exact pz_sub [1, 2, 3, 0] rfl (S_X4_firstBrokenRow_L19 X n l0 l1 K2 hK2 l2 0)
set_option maxRecDepth 20000 in
theorem S_X4_firstBrokenRow_L2 (X : pz_X) (n : Nat) (l0 : Option Nat) (l1 : Option Nat) (l2 : Int32) : pz_Sm X (pz_QM X) J_X4_firstBrokenRow pz_vI 2 [(0, va_rf l0), (1, va_rf l1), (2, .int l2)] [] (X4_firstBrokenRow_L2 n l0 l1 l2) :=
  pz_lp (L := fun (s : Int32) => [(0, va_rf l0), (1, va_rf l1), (2, .int s)]) (fun K hK s => S_X4_firstBrokenRow_L2_body X n l0 l1 (fun l2 => K l2) (fun l2 => hK l2) s) n l2
set_option maxRecDepth 20000 in
theorem S_X4_firstBrokenRow (X : pz_X) (n : Nat) (l0 : Option Nat) (l1 : Option Nat) : pz_Sm X (pz_QM X) J_X4_firstBrokenRow pz_vI 0 [(0, va_rf l0), (1, va_rf l1)] [] (X4_firstBrokenRow n l0 l1) := by
  unfold X4_firstBrokenRow
  refine pz_iconst 0 dX4_firstBrokenRow_0 (by decide) ?_
  refine pz_istore_n [(2, .int 0), (0, va_rf l0), (1, va_rf l1)] dX4_firstBrokenRow_1 (by decide) (by cases l1 <;> rfl) ?_
  exact pz_sub [1, 2, 0] rfl (S_X4_firstBrokenRow_L2 X n l0 l1 0)
set_option maxRecDepth 20000 in
theorem md_X4_firstBrokenRow (X : pz_X) (n : Nat) (l0 : Option Nat) (l1 : Option Nat) : pz_Md X yX4_firstBrokenRow J_X4_firstBrokenRow pz_vI [va_rf l0, va_rf l1] (X4_firstBrokenRow n l0 l1) :=
  pz_md [(0, va_rf l0), (1, va_rf l1)] (by decide +kernel) rfl rfl (by cases l0 <;> cases l1 <;> rfl) (by cases l0 <;> cases l1 <;> exact Nat.le_of_ble_eq_true rfl) (fun X => S_X4_firstBrokenRow X n l0 l1)
set_option maxRecDepth 20000 in
theorem S_X4_firstBrokenVariable_b71 (X : pz_X) (n : Nat) : pz_Sm X (pz_QM X) J_X4_firstBrokenVariable pz_vI 71 [] [] (X4_firstBrokenVariable_b71 n) := by
  unfold X4_firstBrokenVariable_b71
  refine pz_bipush (-2) dX4_firstBrokenVariable_71 (by decide) ?_
  exact pz_iret rfl dX4_firstBrokenVariable_73
set_option maxRecDepth 20000 in
theorem S_X4_firstBrokenVariable_b65 (X : pz_X) (n : Nat) (l0 : Option Nat) (l1 : Option Nat) (K2 : Int32 → pz_C Int32) (hK2 : ∀ (l2 : Int32), pz_Sm X (pz_QM X) J_X4_firstBrokenVariable pz_vI 2 [(0, va_rf l0), (1, va_rf l1), (2, .int l2)] [] (K2 l2)) (l2 : Int32) : pz_Sm X (pz_QM X) J_X4_firstBrokenVariable pz_vI 65 [(0, va_rf l0), (1, va_rf l1), (2, .int l2)] [] (X4_firstBrokenVariable_b65 n K2 l0 l1 l2) := by
  unfold X4_firstBrokenVariable_b65
  refine pz_iinc 2 1 (fun l2_7 => [(2, .int l2_7), (0, va_rf l0), (1, va_rf l1)]) dX4_firstBrokenVariable_65 rfl (by decide) (by decide) (fun l2_7 => (by cases l1 <;> rfl)) (fun l2_7 => ?_)
  refine pz_goto 2 dX4_firstBrokenVariable_68 (by decide) ?_
  exact pz_sub [1, 2, 0] rfl (hK2 l2_7)
set_option maxRecDepth 20000 in
theorem S_X4_firstBrokenVariable_L2_body (X : pz_X) (n : Nat) (l0 : Option Nat) (l1 : Option Nat) (K2 : Int32 → pz_C Int32) (hK2 : ∀ (l2 : Int32), pz_Sm X (pz_QM X) J_X4_firstBrokenVariable pz_vI 2 [(0, va_rf l0), (1, va_rf l1), (2, .int l2)] [] (K2 l2)) (l2 : Int32) : pz_Sm X (pz_QM X) J_X4_firstBrokenVariable pz_vI 2 [(0, va_rf l0), (1, va_rf l1), (2, .int l2)] [] (X4_firstBrokenVariable_L2_body n l0 l1 K2 l2) := by
  unfold X4_firstBrokenVariable_L2_body
  refine pz_iload_n 2 dX4_firstBrokenVariable_2 rfl ?_
  refine pz_aload_n 0 dX4_firstBrokenVariable_3 rfl ?_
  refine pz_getR (ci := 4) (k := 0) ck_4 (by decide) (Or.inl pw_345) dX4_firstBrokenVariable_4 (fun x1 => ?_)
  refine pz_getI (ci := 6) (k := 5) ck_6 (by decide) (Or.inl pw_49) dX4_firstBrokenVariable_7 (fun x2 => ?_)
  refine pz_icmp_ge 71 dX4_firstBrokenVariable_10 (by decide) ?_ ?_
  · exact pz_sub [] rfl (S_X4_firstBrokenVariable_b71 X n)
  · refine pz_iload_n 2 dX4_firstBrokenVariable_13 rfl ?_
    refine pz_aload_n 1 dX4_firstBrokenVariable_14 rfl ?_
    refine pz_alen (t := 4) rfl dX4_firstBrokenVariable_15 (fun x3 => ?_)
    refine pz_icmp_ge 71 dX4_firstBrokenVariable_16 (by decide) ?_ ?_
    · exact pz_sub [] rfl (S_X4_firstBrokenVariable_b71 X n)
    · refine pz_aload_n 0 dX4_firstBrokenVariable_19 rfl ?_
      refine pz_getR (ci := 4) (k := 0) ck_4 (by decide) (Or.inl pw_345) dX4_firstBrokenVariable_20 (fun x4 => ?_)
      refine pz_getR (ci := 6) (k := 3) ck_6 (by decide) (Or.inl pw_41) dX4_firstBrokenVariable_23 (fun x5 => ?_)
      refine pz_iload_n 2 dX4_firstBrokenVariable_26 rfl ?_
      refine pz_zald (t := 1) rfl dX4_firstBrokenVariable_27 (fun x6 => ?_)
      refine pz_if_eq 65 dX4_firstBrokenVariable_28 (by decide) ?_ ?_
      · exact pz_sub [0, 1, 2] rfl (S_X4_firstBrokenVariable_b65 X n l0 l1 K2 hK2 l2)
      · refine pz_aload_n 0 dX4_firstBrokenVariable_31 rfl ?_
        refine pz_getR (ci := 4) (k := 3) ck_4 (by decide) (Or.inl pw_348) dX4_firstBrokenVariable_32 (fun x8 => ?_)
        refine pz_aload_n 1 dX4_firstBrokenVariable_35 rfl ?_
        refine pz_iload_n 2 dX4_firstBrokenVariable_36 rfl ?_
        refine pz_aald (t := 4) rfl rfl dX4_firstBrokenVariable_37 (fun x9 => ?_)
        refine pz_getR (ci := 3) (k := 0) ck_3 (by decide) (Or.inl pw_388) dX4_firstBrokenVariable_38 (fun x10 => ?_)
        refine pz_aload_n 1 dX4_firstBrokenVariable_41 rfl ?_
        refine pz_iload_n 2 dX4_firstBrokenVariable_42 rfl ?_
        refine pz_aald (t := 4) rfl rfl dX4_firstBrokenVariable_43 (fun x11 => ?_)
        refine pz_getR (ci := 3) (k := 1) ck_3 (by decide) (Or.inl pw_392) dX4_firstBrokenVariable_44 (fun x12 => ?_)
        refine pz_cvU (st := []) (md_X2_divide X n x8 x10 x12) ck_2 rfl mk_X2_divide (Or.inl pw_847) pw_604 pw_605 rfl rfl (by decide) (by decide) (by decide) dX4_firstBrokenVariable_47 (fun _ => ?_)
        refine pz_aload_n 0 dX4_firstBrokenVariable_50 rfl ?_
        refine pz_getR (ci := 4) (k := 3) ck_4 (by decide) (Or.inl pw_348) dX4_firstBrokenVariable_51 (fun x14 => ?_)
        refine pz_getR (ci := 2) (k := 1) ck_2 (by decide) (Or.inl pw_111) dX4_firstBrokenVariable_54 (fun x15 => ?_)
        refine pz_getI (ci := 0) (k := 1) ck_0 (by decide) (Or.inl pw_91) dX4_firstBrokenVariable_57 (fun x16 => ?_)
        refine pz_if_le 65 dX4_firstBrokenVariable_60 (by decide) ?_ ?_
        · exact pz_sub [0, 1, 2] rfl (S_X4_firstBrokenVariable_b65 X n l0 l1 K2 hK2 l2)
        · refine pz_iload_n 2 dX4_firstBrokenVariable_63 rfl ?_
          exact pz_iret rfl dX4_firstBrokenVariable_64
set_option maxRecDepth 20000 in
theorem S_X4_firstBrokenVariable_L2 (X : pz_X) (n : Nat) (l0 : Option Nat) (l1 : Option Nat) (l2 : Int32) : pz_Sm X (pz_QM X) J_X4_firstBrokenVariable pz_vI 2 [(0, va_rf l0), (1, va_rf l1), (2, .int l2)] [] (X4_firstBrokenVariable_L2 n l0 l1 l2) :=
  pz_lp (L := fun (s : Int32) => [(0, va_rf l0), (1, va_rf l1), (2, .int s)]) (fun K hK s => S_X4_firstBrokenVariable_L2_body X n l0 l1 (fun l2 => K l2) (fun l2 => hK l2) s) n l2
set_option maxRecDepth 20000 in
theorem S_X4_firstBrokenVariable (X : pz_X) (n : Nat) (l0 : Option Nat) (l1 : Option Nat) : pz_Sm X (pz_QM X) J_X4_firstBrokenVariable pz_vI 0 [(0, va_rf l0), (1, va_rf l1)] [] (X4_firstBrokenVariable n l0 l1) := by
  unfold X4_firstBrokenVariable
  refine pz_iconst 0 dX4_firstBrokenVariable_0 (by decide) ?_
  refine pz_istore_n [(2, .int 0), (0, va_rf l0), (1, va_rf l1)] dX4_firstBrokenVariable_1 (by decide) (by cases l1 <;> rfl) ?_
  exact pz_sub [1, 2, 0] rfl (S_X4_firstBrokenVariable_L2 X n l0 l1 0)
set_option maxRecDepth 20000 in
theorem md_X4_firstBrokenVariable (X : pz_X) (n : Nat) (l0 : Option Nat) (l1 : Option Nat) : pz_Md X yX4_firstBrokenVariable J_X4_firstBrokenVariable pz_vI [va_rf l0, va_rf l1] (X4_firstBrokenVariable n l0 l1) :=
  pz_md [(0, va_rf l0), (1, va_rf l1)] (by decide +kernel) rfl rfl (by cases l0 <;> cases l1 <;> rfl) (by cases l0 <;> cases l1 <;> exact Nat.le_of_ble_eq_true rfl) (fun X => S_X4_firstBrokenVariable X n l0 l1)
set_option maxRecDepth 20000 in
theorem S_X11_judgeWitness_b56 (X : pz_X) (n : Nat) (s0 : Int32) : pz_Sm X (pz_QM X) J_X11_judgeWitness pz_vI 56 [] [.int s0] (X11_judgeWitness_b56 n s0) := by
  unfold X11_judgeWitness_b56
  exact pz_iret rfl dX11_judgeWitness_56
set_option maxRecDepth 20000 in
theorem S_X11_judgeWitness (X : pz_X) (n : Nat) (l0 : Option Nat) : pz_Sm X (pz_QM X) J_X11_judgeWitness pz_vI 0 [(0, va_rf l0)] [] (X11_judgeWitness n l0) := by
  unfold X11_judgeWitness
  refine pz_aload_n 0 dX11_judgeWitness_0 rfl ?_
  refine pz_getR (ci := 11) (k := 0) ck_11 (by decide) (Or.inl pw_400) dX11_judgeWitness_1 (fun x1 => ?_)
  refine pz_getI (ci := 6) (k := 5) ck_6 (by decide) (Or.inl pw_50) dX11_judgeWitness_4 (fun x2 => ?_)
  refine pz_if_ne 12 dX11_judgeWitness_7 (by decide) ?_ ?_
  · refine pz_iconst (-1) dX11_judgeWitness_10 (by decide) ?_
    exact pz_iret rfl dX11_judgeWitness_11
  · refine pz_aload_n 0 dX11_judgeWitness_12 rfl ?_
    refine pz_getR (ci := 11) (k := 6) ck_11 (by decide) (Or.inl pw_406) dX11_judgeWitness_13 (fun x3 => ?_)
    refine pz_aload_n 0 dX11_judgeWitness_16 rfl ?_
    refine pz_getR (ci := 11) (k := 7) ck_11 (by decide) (Or.inl pw_407) dX11_judgeWitness_17 (fun x4 => ?_)
    refine pz_cvI (st := []) (md_X4_firstBrokenRow X n x3 x4) ck_4 rfl mk_X4_firstBrokenRow (Or.inl pw_820) pw_821 pw_822 rfl rfl (by decide) (by decide) (by decide) dX11_judgeWitness_20 (fun x5 => ?_)
    refine pz_istore_n [(1, .int x5), (0, va_rf l0)] dX11_judgeWitness_23 (by decide) (by cases l0 <;> rfl) ?_
    refine pz_iload_n 0 dX11_judgeWitness_24 rfl ?_
    refine pz_if_lt 32 dX11_judgeWitness_25 (by decide) ?_ ?_
    · refine pz_aload_n 1 dX11_judgeWitness_32 rfl ?_
      refine pz_getR (ci := 11) (k := 6) ck_11 (by decide) (Or.inl pw_406) dX11_judgeWitness_33 (fun x6 => ?_)
      refine pz_aload_n 1 dX11_judgeWitness_36 rfl ?_
      refine pz_getR (ci := 11) (k := 7) ck_11 (by decide) (Or.inl pw_407) dX11_judgeWitness_37 (fun x7 => ?_)
      refine pz_cvI (st := []) (md_X4_firstBrokenVariable X n x6 x7) ck_4 rfl mk_X4_firstBrokenVariable (Or.inl pw_843) pw_844 pw_845 rfl rfl (by decide) (by decide) (by decide) dX11_judgeWitness_40 (fun x8 => ?_)
      refine pz_istore_n [(2, .int x8), (1, .int x5), (0, va_rf l0)] dX11_judgeWitness_43 (by decide) rfl ?_
      refine pz_iload_n 0 dX11_judgeWitness_44 rfl ?_
      refine pz_if_lt 55 dX11_judgeWitness_45 (by decide) ?_ ?_
      · refine pz_iconst 0 dX11_judgeWitness_55 (by decide) ?_
        exact pz_sub [] rfl (S_X11_judgeWitness_b56 X n 0)
      · refine pz_bipush 100 dX11_judgeWitness_48 (by decide) ?_
        refine pz_iload_n 0 dX11_judgeWitness_50 rfl ?_
        refine pz_iadd dX11_judgeWitness_51 ?_
        refine pz_goto 56 dX11_judgeWitness_52 (by decide) ?_
        exact pz_sub [] rfl (S_X11_judgeWitness_b56 X n (100 + x8))
    · refine pz_iconst 1 dX11_judgeWitness_28 (by decide) ?_
      refine pz_iload_n 0 dX11_judgeWitness_29 rfl ?_
      refine pz_iadd dX11_judgeWitness_30 ?_
      exact pz_iret rfl dX11_judgeWitness_31
set_option maxRecDepth 20000 in
theorem md_X11_judgeWitness (X : pz_X) (n : Nat) (l0 : Option Nat) : pz_Md X yX11_judgeWitness J_X11_judgeWitness pz_vI [va_rf l0] (X11_judgeWitness n l0) :=
  pz_md [(0, va_rf l0)] (by decide +kernel) rfl rfl (by cases l0 <;> rfl) (by cases l0 <;> exact Nat.le_of_ble_eq_true rfl) (fun X => S_X11_judgeWitness X n l0)
set_option maxRecDepth 20000 in
theorem S_X12_beginSum (X : pz_X) (n : Nat) (l0 : Option Nat) : pz_Sm X (pz_QM X) J_X12_beginSum pz_vU 0 [(0, va_rf l0)] [] (X12_beginSum n l0) := by
  unfold X12_beginSum
  refine pz_aload_n 0 dX12_beginSum_0 rfl ?_
  refine pz_aload_n 0 dX12_beginSum_1 rfl ?_
  refine pz_lconst 0 dX12_beginSum_2 (by decide) ?_
  refine pz_cvI (st := [va_rf l0]) (md_X12_plainOf X n l0 0) ck_12 rfl mk_X12_plainOf (Or.inl pw_919) pw_921 ps_30 rfl rfl (by simp [pz_rf1, pz_ci, pz_cl]) (by decide) (by decide) dX12_beginSum_3 (fun x1 => ?_)
  refine pz_put (ci := 12) (k := 30) ck_12 (by decide) (Or.inl pw_962) (Or.inl rfl) rfl rfl dX12_beginSum_6 ?_
  refine pz_aload_n 0 dX12_beginSum_9 rfl ?_
  refine pz_aload_n 0 dX12_beginSum_10 rfl ?_
  refine pz_lconst 1 dX12_beginSum_11 (by decide) ?_
  refine pz_cvI (st := [va_rf l0]) (md_X12_plainOf X n l0 1) ck_12 rfl mk_X12_plainOf (Or.inl pw_919) pw_921 ps_30 rfl rfl (by simp [pz_rf1, pz_ci, pz_cl]) (by decide) (by decide) dX12_beginSum_12 (fun x2 => ?_)
  refine pz_put (ci := 12) (k := 31) ck_12 (by decide) (Or.inl pw_963) (Or.inl rfl) rfl rfl dX12_beginSum_15 ?_
  exact pz_vret rfl dX12_beginSum_18
set_option maxRecDepth 20000 in
theorem md_X12_beginSum (X : pz_X) (n : Nat) (l0 : Option Nat) : pz_Md X yX12_beginSum J_X12_beginSum pz_vU [va_rf l0] (X12_beginSum n l0) :=
  pz_md [(0, va_rf l0)] (by decide +kernel) rfl rfl (by cases l0 <;> rfl) (by cases l0 <;> exact Nat.le_of_ble_eq_true rfl) (fun X => S_X12_beginSum X n l0)
set_option maxRecDepth 20000 in
theorem S_X12_addTo (X : pz_X) (n : Nat) (l0 : Option Nat) (l1 : Int32) (l2 : Int32) (l3 : Int32) : pz_Sm X (pz_QM X) J_X12_addTo pz_vU 0 [(0, va_rf l0), (1, .int l1), (2, .int l2), (3, .int l3)] [] (X12_addTo n l0 l1 l2 l3) := by
  unfold X12_addTo
  refine pz_aload_n 0 dX12_addTo_0 rfl ?_
  refine pz_aload_n 0 dX12_addTo_1 rfl ?_
  refine pz_aload_n 0 dX12_addTo_2 rfl ?_
  refine pz_getI (ci := 12) (k := 30) ck_12 (by decide) (Or.inl pw_962) dX12_addTo_3 (fun x1 => ?_)
  refine pz_iload_n 3 dX12_addTo_6 rfl ?_
  refine pz_cvI (st := [va_rf l0]) (md_X12_by X n l0 x1 l3) ck_12 rfl mk_X12_by (Or.inl pw_1118) pw_1120 ps_43 rfl rfl (by simp [pz_rf1, pz_ci, pz_cl]) (by decide) (by decide) dX12_addTo_7 (fun x2 => ?_)
  refine pz_aload_n 0 dX12_addTo_10 rfl ?_
  refine pz_aload_n 0 dX12_addTo_11 rfl ?_
  refine pz_iload_n 1 dX12_addTo_12 rfl ?_
  refine pz_iload_n 2 dX12_addTo_13 rfl ?_
  refine pz_cvI (st := [va_rf l0, .int x2, va_rf l0]) (md_X12_by X n l0 l1 l2) ck_12 rfl mk_X12_by (Or.inl pw_1118) pw_1120 ps_43 rfl rfl (by simp [pz_rf1, pz_ci, pz_cl]) (by decide) (by decide) dX12_addTo_14 (fun x3 => ?_)
  refine pz_aload_n 0 dX12_addTo_17 rfl ?_
  refine pz_getI (ci := 12) (k := 31) ck_12 (by decide) (Or.inl pw_963) dX12_addTo_18 (fun x4 => ?_)
  refine pz_cvI (st := [.int x2, va_rf l0]) (md_X12_by X n l0 x3 x4) ck_12 rfl mk_X12_by (Or.inl pw_1118) pw_1120 ps_43 rfl rfl (by simp [pz_rf1, pz_ci, pz_cl]) (by decide) (by decide) dX12_addTo_21 (fun x5 => ?_)
  refine pz_cvI (st := []) (md_X12_plus X n l0 x2 x5) ck_12 rfl mk_X12_plus (Or.inl pw_1126) pw_1128 ps_45 rfl rfl (by decide) (by decide) (by decide) dX12_addTo_24 (fun x6 => ?_)
  refine pz_istore [(4, .int x6), (0, va_rf l0), (1, .int l1), (2, .int l2), (3, .int l3)] dX12_addTo_27 (by decide) rfl ?_
  refine pz_aload_n 1 dX12_addTo_29 rfl ?_
  refine pz_aload_n 1 dX12_addTo_30 rfl ?_
  refine pz_getI (ci := 12) (k := 31) ck_12 (by decide) (Or.inl pw_963) dX12_addTo_31 (fun x7 => ?_)
  refine pz_iload_n 4 dX12_addTo_34 rfl ?_
  refine pz_cvI (st := []) (md_X12_by X n l0 x7 l3) ck_12 rfl mk_X12_by (Or.inl pw_1118) pw_1120 ps_43 rfl rfl (by decide) (by decide) (by decide) dX12_addTo_35 (fun x8 => ?_)
  refine pz_istore [(5, .int x8), (4, .int x6), (0, va_rf l0), (1, .int l1), (2, .int l2), (3, .int l3)] dX12_addTo_38 (by decide) rfl ?_
  refine pz_aload_n 2 dX12_addTo_40 rfl ?_
  refine pz_iload 1 dX12_addTo_41 rfl ?_
  refine pz_iload 0 dX12_addTo_43 rfl ?_
  refine pz_cvI (st := []) (md_X12_gcd X n l0 x6 x8) ck_12 rfl mk_X12_gcd (Or.inl pw_1208) pw_1210 ps_64 rfl rfl (by decide) (by decide) (by decide) dX12_addTo_45 (fun x9 => ?_)
  refine pz_istore [(6, .int x9), (5, .int x8), (4, .int x6), (0, va_rf l0), (1, .int l1), (2, .int l2), (3, .int l3)] dX12_addTo_48 (by decide) rfl ?_
  refine pz_aload_n 3 dX12_addTo_50 rfl ?_
  refine pz_aload_n 3 dX12_addTo_51 rfl ?_
  refine pz_iload 2 dX12_addTo_52 rfl ?_
  refine pz_iload 0 dX12_addTo_54 rfl ?_
  refine pz_cvI (st := [va_rf l0]) (md_X12_over X n l0 x6 x9) ck_12 rfl mk_X12_over (Or.inl pw_1178) pw_1180 ps_57 rfl rfl (by simp [pz_rf1, pz_ci, pz_cl]) (by decide) (by decide) dX12_addTo_56 (fun x10 => ?_)
  refine pz_put (ci := 12) (k := 30) ck_12 (by decide) (Or.inl pw_962) (Or.inl rfl) rfl rfl dX12_addTo_59 ?_
  refine pz_aload_n 3 dX12_addTo_62 rfl ?_
  refine pz_aload_n 3 dX12_addTo_63 rfl ?_
  refine pz_iload 1 dX12_addTo_64 rfl ?_
  refine pz_iload 0 dX12_addTo_66 rfl ?_
  refine pz_cvI (st := [va_rf l0]) (md_X12_over X n l0 x8 x9) ck_12 rfl mk_X12_over (Or.inl pw_1178) pw_1180 ps_57 rfl rfl (by simp [pz_rf1, pz_ci, pz_cl]) (by decide) (by decide) dX12_addTo_68 (fun x11 => ?_)
  refine pz_put (ci := 12) (k := 31) ck_12 (by decide) (Or.inl pw_963) (Or.inl rfl) rfl rfl dX12_addTo_71 ?_
  exact pz_vret rfl dX12_addTo_74
set_option maxRecDepth 20000 in
theorem md_X12_addTo (X : pz_X) (n : Nat) (l0 : Option Nat) (l1 : Int32) (l2 : Int32) (l3 : Int32) : pz_Md X yX12_addTo J_X12_addTo pz_vU [va_rf l0, .int l1, .int l2, .int l3] (X12_addTo n l0 l1 l2 l3) :=
  pz_md [(0, va_rf l0), (1, .int l1), (2, .int l2), (3, .int l3)] (by decide +kernel) rfl rfl (by cases l0 <;> rfl) (by cases l0 <;> exact Nat.le_of_ble_eq_true rfl) (fun X => S_X12_addTo X n l0 l1 l2 l3)
set_option maxRecDepth 20000 in
theorem S_X12_holds_b140 (X : pz_X) (n : Nat) (s0 : Int32) : pz_Sm X (pz_QM X) J_X12_holds pz_vI 140 [] [.int s0] (X12_holds_b140 n s0) := by
  unfold X12_holds_b140
  exact pz_zret rfl dX12_holds_140
set_option maxRecDepth 20000 in
theorem S_X12_holds_L11_body (X : pz_X) (n : Nat) (l0 : Option Nat) (l1 : Int32) (l2 : Int32) (K11 : Int32 → pz_C Int32) (hK11 : ∀ (l3 : Int32), pz_Sm X (pz_QM X) J_X12_holds pz_vI 11 [(0, va_rf l0), (1, .int l1), (2, .int l2), (3, .int l3)] [] (K11 l3)) (l3 : Int32) : pz_Sm X (pz_QM X) J_X12_holds pz_vI 11 [(0, va_rf l0), (1, .int l1), (2, .int l2), (3, .int l3)] [] (X12_holds_L11_body n l0 l1 l2 K11 l3) := by
  unfold X12_holds_L11_body
  refine pz_iload_n 3 dX12_holds_11 rfl ?_
  refine pz_aload_n 0 dX12_holds_12 rfl ?_
  refine pz_getI (ci := 12) (k := 0) ck_12 (by decide) (Or.inl pw_932) dX12_holds_13 (fun x3 => ?_)
  refine pz_icmp_ge 55 dX12_holds_16 (by decide) ?_ ?_
  · refine pz_aload_n 0 dX12_holds_55 rfl ?_
    refine pz_aload_n 0 dX12_holds_56 rfl ?_
    refine pz_getI (ci := 12) (k := 30) ck_12 (by decide) (Or.inl pw_962) dX12_holds_57 (fun x4 => ?_)
    refine pz_aload_n 0 dX12_holds_60 rfl ?_
    refine pz_aload_n 0 dX12_holds_61 rfl ?_
    refine pz_aload_n 0 dX12_holds_62 rfl ?_
    refine pz_getR (ci := 12) (k := 4) ck_12 (by decide) (Or.inl pw_936) dX12_holds_63 (fun x5 => ?_)
    refine pz_iload_n 1 dX12_holds_66 rfl ?_
    refine pz_iald (t := 0) rfl dX12_holds_67 (fun x6 => ?_)
    refine pz_i2l dX12_holds_68 ?_
    refine pz_cvI (st := [va_rf l0, .int x4, va_rf l0]) (md_X12_plainOf X n l0 (Int32.toInt64 x6)) ck_12 rfl mk_X12_plainOf (Or.inl pw_919) pw_921 ps_30 rfl rfl (by simp [pz_rf1, pz_ci, pz_cl]) (by decide) (by decide) dX12_holds_69 (fun x7 => ?_)
    refine pz_aload_n 0 dX12_holds_72 rfl ?_
    refine pz_getI (ci := 12) (k := 31) ck_12 (by decide) (Or.inl pw_963) dX12_holds_73 (fun x8 => ?_)
    refine pz_cvI (st := [.int x4, va_rf l0]) (md_X12_by X n l0 x7 x8) ck_12 rfl mk_X12_by (Or.inl pw_1118) pw_1120 ps_43 rfl rfl (by simp [pz_rf1, pz_ci, pz_cl]) (by decide) (by decide) dX12_holds_76 (fun x9 => ?_)
    refine pz_cvI (st := []) (md_X12_compare X n l0 x4 x9) ck_12 rfl mk_X12_compare (Or.inl pw_1154) pw_1156 ps_51 rfl rfl (by decide) (by decide) (by decide) dX12_holds_79 (fun x10 => ?_)
    refine pz_istore_n [(3, .int x10), (0, va_rf l0), (1, .int l1), (2, .int l2)] dX12_holds_82 (by decide) rfl ?_
    refine pz_aload_n 1 dX12_holds_83 rfl ?_
    refine pz_iload_n 3 dX12_holds_84 rfl ?_
    refine pz_put (ci := 12) (k := 35) ck_12 (by decide) (Or.inl pw_967) (Or.inl rfl) rfl rfl dX12_holds_85 ?_
    refine pz_aload_n 1 dX12_holds_88 rfl ?_
    refine pz_getR (ci := 12) (k := 3) ck_12 (by decide) (Or.inl pw_935) dX12_holds_89 (fun x11 => ?_)
    refine pz_iload_n 2 dX12_holds_92 rfl ?_
    refine pz_iald (t := 0) rfl dX12_holds_93 (fun x12 => ?_)
    refine pz_if_ne 109 dX12_holds_94 (by decide) ?_ ?_
    · refine pz_iload_n 0 dX12_holds_97 rfl ?_
      refine pz_if_gt 105 dX12_holds_98 (by decide) ?_ ?_
      · refine pz_iconst 0 dX12_holds_105 (by decide) ?_
        refine pz_goto 140 dX12_holds_106 (by decide) ?_
        exact pz_sub [] rfl (S_X12_holds_b140 X n 0)
      · refine pz_iconst 1 dX12_holds_101 (by decide) ?_
        refine pz_goto 140 dX12_holds_102 (by decide) ?_
        exact pz_sub [] rfl (S_X12_holds_b140 X n 1)
    · refine pz_aload_n 1 dX12_holds_109 rfl ?_
      refine pz_getR (ci := 12) (k := 3) ck_12 (by decide) (Or.inl pw_935) dX12_holds_110 (fun x13 => ?_)
      refine pz_iload_n 2 dX12_holds_113 rfl ?_
      refine pz_iald (t := 0) rfl dX12_holds_114 (fun x14 => ?_)
      refine pz_iconst 1 dX12_holds_115 (by decide) ?_
      refine pz_icmp_ne 131 dX12_holds_116 (by decide) ?_ ?_
      · refine pz_iload_n 0 dX12_holds_119 rfl ?_
        refine pz_if_lt 127 dX12_holds_120 (by decide) ?_ ?_
        · refine pz_iconst 0 dX12_holds_127 (by decide) ?_
          refine pz_goto 140 dX12_holds_128 (by decide) ?_
          exact pz_sub [] rfl (S_X12_holds_b140 X n 0)
        · refine pz_iconst 1 dX12_holds_123 (by decide) ?_
          refine pz_goto 140 dX12_holds_124 (by decide) ?_
          exact pz_sub [] rfl (S_X12_holds_b140 X n 1)
      · refine pz_iload_n 0 dX12_holds_131 rfl ?_
        refine pz_if_ne 139 dX12_holds_132 (by decide) ?_ ?_
        · refine pz_iconst 1 dX12_holds_135 (by decide) ?_
          refine pz_goto 140 dX12_holds_136 (by decide) ?_
          exact pz_sub [] rfl (S_X12_holds_b140 X n 1)
        · refine pz_iconst 0 dX12_holds_139 (by decide) ?_
          exact pz_sub [] rfl (S_X12_holds_b140 X n 0)
  · refine pz_aload_n 0 dX12_holds_19 rfl ?_
    refine pz_aload_n 0 dX12_holds_20 rfl ?_
    refine pz_aload_n 0 dX12_holds_21 rfl ?_
    refine pz_getR (ci := 12) (k := 2) ck_12 (by decide) (Or.inl pw_934) dX12_holds_22 (fun x15 => ?_)
    refine pz_bipush 10 dX12_holds_25 (by decide) ?_
    refine pz_iload_n 1 dX12_holds_27 rfl ?_
    refine pz_imul dX12_holds_28 ?_
    refine pz_iload_n 3 dX12_holds_29 rfl ?_
    refine pz_iadd dX12_holds_30 ?_
    refine pz_iald (t := 0) rfl dX12_holds_31 (fun x16 => ?_)
    refine pz_i2l dX12_holds_32 ?_
    refine pz_cvI (st := [va_rf l0]) (md_X12_plainOf X n l0 (Int32.toInt64 x16)) ck_12 rfl mk_X12_plainOf (Or.inl pw_919) pw_921 ps_30 rfl rfl (by simp [pz_rf1, pz_ci, pz_cl]) (by decide) (by decide) dX12_holds_33 (fun x17 => ?_)
    refine pz_iload_n 3 dX12_holds_36 rfl ?_
    refine pz_iconst 0 dX12_holds_37 (by decide) ?_
    refine pz_csI (st := [.int x17, va_rf l0]) (md_X12_witnessAt X n l3 0) mk_X12_witnessAt (Or.inl pw_911) pw_912 rfl rfl (by simp [pz_rf1, pz_ci, pz_cl]) (by decide) (by decide) dX12_holds_38 (fun x18 => ?_)
    refine pz_iload_n 3 dX12_holds_41 rfl ?_
    refine pz_iconst 1 dX12_holds_42 (by decide) ?_
    refine pz_csI (st := [.int x18, .int x17, va_rf l0]) (md_X12_witnessAt X n l3 1) mk_X12_witnessAt (Or.inl pw_911) pw_912 rfl rfl (by simp [pz_rf1, pz_ci, pz_cl]) (by decide) (by decide) dX12_holds_43 (fun x19 => ?_)
    refine pz_cvU (st := []) (md_X12_addTo X n l0 x17 x18 x19) ck_12 rfl mk_X12_addTo (Or.inl pw_1286) pw_1288 ps_72 rfl rfl (by decide) (by decide) (by decide) dX12_holds_46 (fun _ => ?_)
    refine pz_iinc 3 1 (fun l3_21 => [(3, .int l3_21), (0, va_rf l0), (1, .int l1), (2, .int l2)]) dX12_holds_49 rfl (by decide) (by decide) (fun l3_21 => rfl) (fun l3_21 => ?_)
    refine pz_goto 11 dX12_holds_52 (by decide) ?_
    exact pz_sub [1, 2, 3, 0] rfl (hK11 l3_21)
set_option maxRecDepth 20000 in
theorem S_X12_holds_L11 (X : pz_X) (n : Nat) (l0 : Option Nat) (l1 : Int32) (l2 : Int32) (l3 : Int32) : pz_Sm X (pz_QM X) J_X12_holds pz_vI 11 [(0, va_rf l0), (1, .int l1), (2, .int l2), (3, .int l3)] [] (X12_holds_L11 n l0 l1 l2 l3) :=
  pz_lp (L := fun (s : Int32) => [(0, va_rf l0), (1, .int l1), (2, .int l2), (3, .int s)]) (fun K hK s => S_X12_holds_L11_body X n l0 l1 l2 (fun l3 => K l3) (fun l3 => hK l3) s) n l3
set_option maxRecDepth 20000 in
theorem S_X12_holds (X : pz_X) (n : Nat) (l0 : Option Nat) (l1 : Int32) : pz_Sm X (pz_QM X) J_X12_holds pz_vI 0 [(0, va_rf l0), (1, .int l1)] [] (X12_holds n l0 l1) := by
  unfold X12_holds
  refine pz_aload_n 0 dX12_holds_0 rfl ?_
  refine pz_getI (ci := 12) (k := 35) ck_12 (by decide) (Or.inl pw_967) dX12_holds_1 (fun x1 => ?_)
  refine pz_istore_n [(2, .int x1), (0, va_rf l0), (1, .int l1)] dX12_holds_4 (by decide) rfl ?_
  refine pz_aload_n 1 dX12_holds_5 rfl ?_
  refine pz_cvU (st := []) (md_X12_beginSum X n l0) ck_12 rfl mk_X12_beginSum (Or.inl pw_1282) pw_1284 ps_71 rfl rfl (by decide) (by decide) (by decide) dX12_holds_6 (fun _ => ?_)
  refine pz_iconst 0 dX12_holds_9 (by decide) ?_
  refine pz_istore_n [(3, .int 0), (2, .int x1), (0, va_rf l0), (1, .int l1)] dX12_holds_10 (by decide) rfl ?_
  exact pz_sub [2, 3, 1, 0] rfl (S_X12_holds_L11 X n l0 l1 x1 0)
set_option maxRecDepth 20000 in
theorem md_X12_holds (X : pz_X) (n : Nat) (l0 : Option Nat) (l1 : Int32) : pz_Md X yX12_holds J_X12_holds pz_vI [va_rf l0, .int l1] (X12_holds n l0 l1) :=
  pz_md [(0, va_rf l0), (1, .int l1)] (by decide +kernel) rfl rfl (by cases l0 <;> rfl) (by cases l0 <;> exact Nat.le_of_ble_eq_true rfl) (fun X => S_X12_holds X n l0 l1)
set_option maxRecDepth 20000 in
theorem S_X12_judgeWitness_b117 (X : pz_X) (n : Nat) (l0 : Option Nat) (K39 : Int32 → pz_C Int32) (hK39 : ∀ (l1 : Int32), pz_Sm X (pz_QM X) J_X12_judgeWitness pz_vI 39 [(0, va_rf l0), (1, .int l1)] [] (K39 l1)) (l1 : Int32) : pz_Sm X (pz_QM X) J_X12_judgeWitness pz_vI 117 [(0, va_rf l0), (1, .int l1)] [] (X12_judgeWitness_b117 n K39 l0 l1) := by
  unfold X12_judgeWitness_b117
  refine pz_iinc 1 1 (fun l1_12 => [(1, .int l1_12), (0, va_rf l0)]) dX12_judgeWitness_117 rfl (by decide) (by decide) (fun l1_12 => (by cases l0 <;> rfl)) (fun l1_12 => ?_)
  refine pz_goto 39 dX12_judgeWitness_120 (by decide) ?_
  exact pz_sub [1, 0] rfl (hK39 l1_12)
set_option maxRecDepth 20000 in
theorem S_X12_judgeWitness_b91 (X : pz_X) (n : Nat) (l0 : Option Nat) (K39 : Int32 → pz_C Int32) (hK39 : ∀ (l1 : Int32), pz_Sm X (pz_QM X) J_X12_judgeWitness pz_vI 39 [(0, va_rf l0), (1, .int l1)] [] (K39 l1)) (l1 : Int32) (l2 : Int32) (s0 : Int32) : pz_Sm X (pz_QM X) J_X12_judgeWitness pz_vI 91 [(0, va_rf l0), (1, .int l1), (2, .int l2)] [.int s0] (X12_judgeWitness_b91 n K39 l0 l1 l2 s0) := by
  unfold X12_judgeWitness_b91
  refine pz_istore [(5, .int s0), (0, va_rf l0), (1, .int l1), (2, .int l2)] dX12_judgeWitness_91 (by decide) rfl ?_
  refine pz_aload_n 1 dX12_judgeWitness_93 rfl ?_
  refine pz_iload_n 3 dX12_judgeWitness_94 rfl ?_
  refine pz_put (ci := 12) (k := 35) ck_12 (by decide) (Or.inl pw_967) (Or.inl rfl) rfl rfl dX12_judgeWitness_95 ?_
  refine pz_aload_n 1 dX12_judgeWitness_98 rfl ?_
  refine pz_getR (ci := 12) (k := 6) ck_12 (by decide) (Or.inl pw_938) dX12_judgeWitness_99 (fun x10 => ?_)
  refine pz_iload_n 2 dX12_judgeWitness_102 rfl ?_
  refine pz_zald (t := 1) rfl dX12_judgeWitness_103 (fun x11 => ?_)
  refine pz_if_eq 117 dX12_judgeWitness_104 (by decide) ?_ ?_
  · exact pz_sub [1, 2] rfl (S_X12_judgeWitness_b117 X n l0 K39 hK39 l1)
  · refine pz_iload 0 dX12_judgeWitness_107 rfl ?_
    refine pz_if_ne 117 dX12_judgeWitness_109 (by decide) ?_ ?_
    · refine pz_bipush 100 dX12_judgeWitness_112 (by decide) ?_
      refine pz_iload_n 2 dX12_judgeWitness_114 rfl ?_
      refine pz_iadd dX12_judgeWitness_115 ?_
      exact pz_iret rfl dX12_judgeWitness_116
    · exact pz_sub [1, 2] rfl (S_X12_judgeWitness_b117 X n l0 K39 hK39 l1)
set_option maxRecDepth 20000 in
theorem S_X12_judgeWitness_L39_body (X : pz_X) (n : Nat) (l0 : Option Nat) (K39 : Int32 → pz_C Int32) (hK39 : ∀ (l1 : Int32), pz_Sm X (pz_QM X) J_X12_judgeWitness pz_vI 39 [(0, va_rf l0), (1, .int l1)] [] (K39 l1)) (l1 : Int32) : pz_Sm X (pz_QM X) J_X12_judgeWitness pz_vI 39 [(0, va_rf l0), (1, .int l1)] [] (X12_judgeWitness_L39_body n l0 K39 l1) := by
  unfold X12_judgeWitness_L39_body
  refine pz_iload_n 1 dX12_judgeWitness_39 rfl ?_
  refine pz_aload_n 0 dX12_judgeWitness_40 rfl ?_
  refine pz_getI (ci := 12) (k := 0) ck_12 (by decide) (Or.inl pw_932) dX12_judgeWitness_41 (fun x3 => ?_)
  refine pz_icmp_ge 123 dX12_judgeWitness_44 (by decide) ?_ ?_
  · refine pz_iconst 0 dX12_judgeWitness_123 (by decide) ?_
    exact pz_iret rfl dX12_judgeWitness_124
  · refine pz_aload_n 0 dX12_judgeWitness_47 rfl ?_
    refine pz_getI (ci := 12) (k := 35) ck_12 (by decide) (Or.inl pw_967) dX12_judgeWitness_48 (fun x4 => ?_)
    refine pz_istore_n [(2, .int x4), (0, va_rf l0), (1, .int l1)] dX12_judgeWitness_51 (by decide) rfl ?_
    refine pz_iload_n 2 dX12_judgeWitness_52 rfl ?_
    refine pz_iconst 0 dX12_judgeWitness_53 (by decide) ?_
    refine pz_csI (st := []) (md_X12_witnessAt X n l1 0) mk_X12_witnessAt (Or.inl pw_911) pw_912 rfl rfl (by decide) (by decide) (by decide) dX12_judgeWitness_54 (fun x5 => ?_)
    refine pz_istore_n [(3, .int x5), (2, .int x4), (0, va_rf l0), (1, .int l1)] dX12_judgeWitness_57 (by decide) rfl ?_
    refine pz_iload_n 3 dX12_judgeWitness_58 rfl ?_
    refine pz_iconst 1 dX12_judgeWitness_59 (by decide) ?_
    refine pz_csI (st := []) (md_X12_witnessAt X n l1 1) mk_X12_witnessAt (Or.inl pw_911) pw_912 rfl rfl (by decide) (by decide) (by decide) dX12_judgeWitness_60 (fun x6 => ?_)
    refine pz_istore [(4, .int x6), (3, .int x5), (2, .int x4), (0, va_rf l0), (1, .int l1)] dX12_judgeWitness_63 (by decide) rfl ?_
    refine pz_aload_n 3 dX12_judgeWitness_65 rfl ?_
    refine pz_aload_n 3 dX12_judgeWitness_66 rfl ?_
    refine pz_aload_n 3 dX12_judgeWitness_67 rfl ?_
    refine pz_iload_n 1 dX12_judgeWitness_68 rfl ?_
    refine pz_iload 0 dX12_judgeWitness_69 rfl ?_
    refine pz_cvI (st := [va_rf l0, va_rf l0]) (md_X12_over X n l0 x5 x6) ck_12 rfl mk_X12_over (Or.inl pw_1178) pw_1180 ps_57 rfl rfl (by simp [pz_rf1, pz_ci, pz_cl]) (by decide) (by decide) dX12_judgeWitness_71 (fun x7 => ?_)
    refine pz_iload 0 dX12_judgeWitness_74 rfl ?_
    refine pz_cvI (st := [va_rf l0]) (md_X12_by X n l0 x7 x6) ck_12 rfl mk_X12_by (Or.inl pw_1118) pw_1120 ps_43 rfl rfl (by simp [pz_rf1, pz_ci, pz_cl]) (by decide) (by decide) dX12_judgeWitness_76 (fun x8 => ?_)
    refine pz_iload_n 1 dX12_judgeWitness_79 rfl ?_
    refine pz_cvI (st := []) (md_X12_compare X n l0 x8 x5) ck_12 rfl mk_X12_compare (Or.inl pw_1154) pw_1156 ps_51 rfl rfl (by decide) (by decide) (by decide) dX12_judgeWitness_80 (fun x9 => ?_)
    refine pz_if_ne 90 dX12_judgeWitness_83 (by decide) ?_ ?_
    · refine pz_iconst 1 dX12_judgeWitness_86 (by decide) ?_
      refine pz_goto 91 dX12_judgeWitness_87 (by decide) ?_
      exact pz_sub [3, 4, 2] rfl (S_X12_judgeWitness_b91 X n l0 K39 hK39 l1 x4 1)
    · refine pz_iconst 0 dX12_judgeWitness_90 (by decide) ?_
      exact pz_sub [3, 4, 2] rfl (S_X12_judgeWitness_b91 X n l0 K39 hK39 l1 x4 0)
set_option maxRecDepth 20000 in
theorem S_X12_judgeWitness_L39 (X : pz_X) (n : Nat) (l0 : Option Nat) (l1 : Int32) : pz_Sm X (pz_QM X) J_X12_judgeWitness pz_vI 39 [(0, va_rf l0), (1, .int l1)] [] (X12_judgeWitness_L39 n l0 l1) :=
  pz_lp (L := fun (s : Int32) => [(0, va_rf l0), (1, .int s)]) (fun K hK s => S_X12_judgeWitness_L39_body X n l0 (fun l1 => K l1) (fun l1 => hK l1) s) n l1
set_option maxRecDepth 20000 in
theorem S_X12_judgeWitness_L11_body (X : pz_X) (n : Nat) (l0 : Option Nat) (K11 : Int32 → pz_C Int32) (hK11 : ∀ (l1 : Int32), pz_Sm X (pz_QM X) J_X12_judgeWitness pz_vI 11 [(0, va_rf l0), (1, .int l1)] [] (K11 l1)) (l1 : Int32) : pz_Sm X (pz_QM X) J_X12_judgeWitness pz_vI 11 [(0, va_rf l0), (1, .int l1)] [] (X12_judgeWitness_L11_body n l0 K11 l1) := by
  unfold X12_judgeWitness_L11_body
  refine pz_iload_n 1 dX12_judgeWitness_11 rfl ?_
  refine pz_aload_n 0 dX12_judgeWitness_12 rfl ?_
  refine pz_getI (ci := 12) (k := 1) ck_12 (by decide) (Or.inl pw_933) dX12_judgeWitness_13 (fun x2 => ?_)
  refine pz_icmp_ge 37 dX12_judgeWitness_16 (by decide) ?_ ?_
  · refine pz_iconst 0 dX12_judgeWitness_37 (by decide) ?_
    refine pz_istore_n [(1, .int 0), (0, va_rf l0)] dX12_judgeWitness_38 (by decide) (by cases l0 <;> rfl) ?_
    exact pz_sub [1, 0] rfl (S_X12_judgeWitness_L39 X n l0 0)
  · refine pz_aload_n 0 dX12_judgeWitness_19 rfl ?_
    refine pz_iload_n 1 dX12_judgeWitness_20 rfl ?_
    refine pz_cvI (st := []) (md_X12_holds X n l0 l1) ck_12 rfl mk_X12_holds (Or.inl pw_1278) pw_1280 ps_70 rfl rfl (by decide) (by decide) (by decide) dX12_judgeWitness_21 (fun x13 => ?_)
    refine pz_if_ne 31 dX12_judgeWitness_24 (by decide) ?_ ?_
    · refine pz_iconst 1 dX12_judgeWitness_27 (by decide) ?_
      refine pz_iload_n 1 dX12_judgeWitness_28 rfl ?_
      refine pz_iadd dX12_judgeWitness_29 ?_
      exact pz_iret rfl dX12_judgeWitness_30
    · refine pz_iinc 1 1 (fun l1_14 => [(1, .int l1_14), (0, va_rf l0)]) dX12_judgeWitness_31 rfl (by decide) (by decide) (fun l1_14 => (by cases l0 <;> rfl)) (fun l1_14 => ?_)
      refine pz_goto 11 dX12_judgeWitness_34 (by decide) ?_
      exact pz_sub [1, 0] rfl (hK11 l1_14)
set_option maxRecDepth 20000 in
theorem S_X12_judgeWitness_L11 (X : pz_X) (n : Nat) (l0 : Option Nat) (l1 : Int32) : pz_Sm X (pz_QM X) J_X12_judgeWitness pz_vI 11 [(0, va_rf l0), (1, .int l1)] [] (X12_judgeWitness_L11 n l0 l1) :=
  pz_lp (L := fun (s : Int32) => [(0, va_rf l0), (1, .int s)]) (fun K hK s => S_X12_judgeWitness_L11_body X n l0 (fun l1 => K l1) (fun l1 => hK l1) s) n l1
set_option maxRecDepth 20000 in
theorem S_X12_judgeWitness (X : pz_X) (n : Nat) (l0 : Option Nat) : pz_Sm X (pz_QM X) J_X12_judgeWitness pz_vI 0 [(0, va_rf l0)] [] (X12_judgeWitness n l0) := by
  unfold X12_judgeWitness
  refine pz_aload_n 0 dX12_judgeWitness_0 rfl ?_
  refine pz_getI (ci := 12) (k := 0) ck_12 (by decide) (Or.inl pw_932) dX12_judgeWitness_1 (fun x1 => ?_)
  refine pz_if_ne 9 dX12_judgeWitness_4 (by decide) ?_ ?_
  · refine pz_iconst (-1) dX12_judgeWitness_7 (by decide) ?_
    exact pz_iret rfl dX12_judgeWitness_8
  · refine pz_iconst 0 dX12_judgeWitness_9 (by decide) ?_
    refine pz_istore_n [(1, .int 0), (0, va_rf l0)] dX12_judgeWitness_10 (by decide) (by cases l0 <;> rfl) ?_
    exact pz_sub [1, 0] rfl (S_X12_judgeWitness_L11 X n l0 0)
set_option maxRecDepth 20000 in
theorem md_X12_judgeWitness (X : pz_X) (n : Nat) (l0 : Option Nat) : pz_Md X yX12_judgeWitness J_X12_judgeWitness pz_vI [va_rf l0] (X12_judgeWitness n l0) :=
  pz_md [(0, va_rf l0)] (by decide +kernel) rfl rfl (by cases l0 <;> rfl) (by cases l0 <;> exact Nat.le_of_ble_eq_true rfl) (fun X => S_X12_judgeWitness X n l0)
set_option maxRecDepth 20000 in
theorem S_X11_node_b89 (X : pz_X) (n : Nat) (s0 : Int32) : pz_Sm X (pz_QM X) J_X11_node pz_vI 89 [] [.int s0] (X11_node_b89 n s0) := by
  unfold X11_node_b89
  exact pz_iret rfl dX11_node_89
set_option maxRecDepth 20000 in
theorem S_X11_node_b108 (X : pz_X) (n : Nat) (s0 : Int32) : pz_Sm X (pz_QM X) J_X11_node pz_vI 108 [] [.int s0] (X11_node_b108 n s0) := by
  unfold X11_node_b108
  exact pz_iret rfl dX11_node_108
set_option maxRecDepth 20000 in
theorem S_X11_node_b140 (X : pz_X) (n : Nat) (s0 : Int32) : pz_Sm X (pz_QM X) J_X11_node pz_vI 140 [] [.int s0] (X11_node_b140 n s0) := by
  unfold X11_node_b140
  exact pz_iret rfl dX11_node_140
set_option maxRecDepth 20000 in
theorem S_X11_node_b159 (X : pz_X) (n : Nat) (s0 : Int32) : pz_Sm X (pz_QM X) J_X11_node pz_vI 159 [] [.int s0] (X11_node_b159 n s0) := by
  unfold X11_node_b159
  exact pz_iret rfl dX11_node_159
set_option maxRecDepth 20000 in
theorem S_X11_node_b178 (X : pz_X) (n : Nat) (s0 : Int32) : pz_Sm X (pz_QM X) J_X11_node pz_vI 178 [] [.int s0] (X11_node_b178 n s0) := by
  unfold X11_node_b178
  exact pz_iret rfl dX11_node_178
set_option maxRecDepth 20000 in
theorem S_X11_node (X : pz_X) (n : Nat) (l0 : Option Nat) (l1 : Int32) (l2 : Int32) : pz_Sm X (pz_QM X) J_X11_node pz_vI 0 [(0, va_rf l0), (1, .int l1), (2, .int l2)] [] (X11_node n l0 l1 l2) := by
  unfold X11_node
  refine pz_aload_n 0 dX11_node_0 rfl ?_
  refine pz_getR (ci := 11) (k := 4) ck_11 (by decide) (Or.inl pw_404) dX11_node_1 (fun x1 => ?_)
  refine pz_iload_n 1 dX11_node_4 rfl ?_
  refine pz_cvI (st := []) (md_X10_has X n x1 l1) ck_10 rfl mk_X10_has (Or.inl pw_852) pw_499 pw_500 rfl rfl (by decide) (by decide) (by decide) dX11_node_5 (fun x2 => ?_)
  refine pz_if_ne 14 dX11_node_8 (by decide) ?_ ?_
  · refine pz_ldc (-2100000000) dX11_node_11 pw_853 ?_
    exact pz_iret rfl dX11_node_13
  · refine pz_aload_n 0 dX11_node_14 rfl ?_
    refine pz_getR (ci := 11) (k := 4) ck_11 (by decide) (Or.inl pw_404) dX11_node_15 (fun x3 => ?_)
    refine pz_iload_n 1 dX11_node_18 rfl ?_
    refine pz_cvI (st := []) (md_X10_isSplit X n x3 l1) ck_10 rfl mk_X10_isSplit (Or.inl pw_854) pw_722 pw_723 rfl rfl (by decide) (by decide) (by decide) dX11_node_19 (fun x4 => ?_)
    refine pz_istore_n [(3, .int x4), (0, va_rf l0), (1, .int l1), (2, .int l2)] dX11_node_22 (by decide) rfl ?_
    refine pz_iload_n 3 dX11_node_23 rfl ?_
    refine pz_table 189 dX11_node_24 (by decide) (by decide) ⟨⟨64, (by decide), ?_⟩, ⟨90, (by decide), ?_⟩, ⟨109, (by decide), ?_⟩, ⟨141, (by decide), ?_⟩, ⟨160, (by decide), ?_⟩, ⟨179, (by decide), ?_⟩, trivial⟩ ?_
    · refine pz_iload_n 0 dX11_node_64 rfl ?_
      refine pz_if_eq 72 dX11_node_65 (by decide) ?_ ?_
      · refine pz_aload_n 1 dX11_node_72 rfl ?_
        refine pz_getR (ci := 11) (k := 4) ck_11 (by decide) (Or.inl pw_404) dX11_node_73 (fun x5 => ?_)
        refine pz_getR (ci := 10) (k := 6) ck_10 (by decide) (Or.inl pw_233) dX11_node_76 (fun x6 => ?_)
        refine pz_iload_n 2 dX11_node_79 rfl ?_
        refine pz_zald (t := 1) rfl dX11_node_80 (fun x7 => ?_)
        refine pz_if_eq 88 dX11_node_81 (by decide) ?_ ?_
        · refine pz_iconst 2 dX11_node_88 (by decide) ?_
          exact pz_sub [] rfl (S_X11_node_b89 X n 2)
        · refine pz_iconst 1 dX11_node_84 (by decide) ?_
          refine pz_goto 89 dX11_node_85 (by decide) ?_
          exact pz_sub [] rfl (S_X11_node_b89 X n 1)
      · refine pz_iconst 0 dX11_node_68 (by decide) ?_
        refine pz_goto 89 dX11_node_69 (by decide) ?_
        exact pz_sub [] rfl (S_X11_node_b89 X n 0)
    · refine pz_iload_n 0 dX11_node_90 rfl ?_
      refine pz_if_eq 106 dX11_node_91 (by decide) ?_ ?_
      · refine pz_bipush (-2) dX11_node_106 (by decide) ?_
        exact pz_sub [] rfl (S_X11_node_b108 X n (-2))
      · refine pz_aload_n 1 dX11_node_94 rfl ?_
        refine pz_getR (ci := 11) (k := 4) ck_11 (by decide) (Or.inl pw_404) dX11_node_95 (fun x8 => ?_)
        refine pz_getR (ci := 10) (k := 3) ck_10 (by decide) (Or.inl pw_225) dX11_node_98 (fun x9 => ?_)
        refine pz_iload_n 2 dX11_node_101 rfl ?_
        refine pz_iald (t := 0) rfl dX11_node_102 (fun x10 => ?_)
        refine pz_goto 108 dX11_node_103 (by decide) ?_
        exact pz_sub [] rfl (S_X11_node_b108 X n x10)
    · refine pz_iload_n 0 dX11_node_109 rfl ?_
      refine pz_if_eq 138 dX11_node_110 (by decide) ?_ ?_
      · refine pz_bipush (-2) dX11_node_138 (by decide) ?_
        exact pz_sub [] rfl (S_X11_node_b140 X n (-2))
      · refine pz_ldc2 (-2000000000) dX11_node_113 pw_855 ?_
        refine pz_ldc2 2000000000 dX11_node_116 pw_856 ?_
        refine pz_aload_n 1 dX11_node_119 rfl ?_
        refine pz_getR (ci := 11) (k := 4) ck_11 (by decide) (Or.inl pw_404) dX11_node_120 (fun x11 => ?_)
        refine pz_getR (ci := 10) (k := 5) ck_10 (by decide) (Or.inl pw_230) dX11_node_123 (fun x12 => ?_)
        refine pz_iload_n 2 dX11_node_126 rfl ?_
        refine pz_lald (t := 2) rfl dX11_node_127 (fun x13 => ?_)
        refine pz_mminL pw_857 pw_541 pw_14 pw_542 (by simp [pz_rf1, pz_ci, pz_cl]) (by decide) (by decide) dX11_node_128 ?_
        refine pz_mmaxL pw_858 pw_548 pw_14 pw_549 (by decide) (by decide) (by decide) dX11_node_131 ?_
        refine pz_l2i dX11_node_134 ?_
        refine pz_goto 140 dX11_node_135 (by decide) ?_
        exact pz_sub [] rfl (S_X11_node_b140 X n (Int64.toInt32 (if (if x13 < 2000000000 then x13 else 2000000000) < (-2000000000) then (-2000000000) else (if x13 < 2000000000 then x13 else 2000000000))))
    · refine pz_iload_n 0 dX11_node_141 rfl ?_
      refine pz_if_eq 157 dX11_node_142 (by decide) ?_ ?_
      · refine pz_bipush (-2) dX11_node_157 (by decide) ?_
        exact pz_sub [] rfl (S_X11_node_b159 X n (-2))
      · refine pz_aload_n 1 dX11_node_145 rfl ?_
        refine pz_getR (ci := 11) (k := 4) ck_11 (by decide) (Or.inl pw_404) dX11_node_146 (fun x14 => ?_)
        refine pz_getR (ci := 10) (k := 1) ck_10 (by decide) (Or.inl pw_217) dX11_node_149 (fun x15 => ?_)
        refine pz_iload_n 2 dX11_node_152 rfl ?_
        refine pz_iald (t := 0) rfl dX11_node_153 (fun x16 => ?_)
        refine pz_goto 159 dX11_node_154 (by decide) ?_
        exact pz_sub [] rfl (S_X11_node_b159 X n x16)
    · refine pz_iload_n 0 dX11_node_160 rfl ?_
      refine pz_if_eq 176 dX11_node_161 (by decide) ?_ ?_
      · refine pz_bipush (-2) dX11_node_176 (by decide) ?_
        exact pz_sub [] rfl (S_X11_node_b178 X n (-2))
      · refine pz_aload_n 1 dX11_node_164 rfl ?_
        refine pz_getR (ci := 11) (k := 4) ck_11 (by decide) (Or.inl pw_404) dX11_node_165 (fun x17 => ?_)
        refine pz_getR (ci := 10) (k := 2) ck_10 (by decide) (Or.inl pw_220) dX11_node_168 (fun x18 => ?_)
        refine pz_iload_n 2 dX11_node_171 rfl ?_
        refine pz_iald (t := 0) rfl dX11_node_172 (fun x19 => ?_)
        refine pz_goto 178 dX11_node_173 (by decide) ?_
        exact pz_sub [] rfl (S_X11_node_b178 X n x19)
    · refine pz_aload_n 1 dX11_node_179 rfl ?_
      refine pz_getR (ci := 11) (k := 4) ck_11 (by decide) (Or.inl pw_404) dX11_node_180 (fun x20 => ?_)
      refine pz_getR (ci := 10) (k := 0) ck_10 (by decide) (Or.inl pw_214) dX11_node_183 (fun x21 => ?_)
      refine pz_iload_n 2 dX11_node_186 rfl ?_
      refine pz_iald (t := 0) rfl dX11_node_187 (fun x22 => ?_)
      exact pz_iret rfl dX11_node_188
    · refine pz_ldc (-2100000000) dX11_node_189 pw_853 ?_
      exact pz_iret rfl dX11_node_191
set_option maxRecDepth 20000 in
theorem md_X11_node (X : pz_X) (n : Nat) (l0 : Option Nat) (l1 : Int32) (l2 : Int32) : pz_Md X yX11_node J_X11_node pz_vI [va_rf l0, .int l1, .int l2] (X11_node n l0 l1 l2) :=
  pz_md [(0, va_rf l0), (1, .int l1), (2, .int l2)] (by decide +kernel) rfl rfl (by cases l0 <;> rfl) (by cases l0 <;> exact Nat.le_of_ble_eq_true rfl) (fun X => S_X11_node X n l0 l1 l2)
set_option maxRecDepth 20000 in
theorem S_X12_isNode_b17 (X : pz_X) (n : Nat) (s0 : Int32) : pz_Sm X (pz_QM X) J_X12_isNode pz_vI 17 [] [.int s0] (X12_isNode_b17 n s0) := by
  unfold X12_isNode_b17
  exact pz_zret rfl dX12_isNode_17
set_option maxRecDepth 20000 in
theorem S_X12_isNode_b16 (X : pz_X) (n : Nat) : pz_Sm X (pz_QM X) J_X12_isNode pz_vI 16 [] [] (X12_isNode_b16 n) := by
  unfold X12_isNode_b16
  refine pz_iconst 0 dX12_isNode_16 (by decide) ?_
  exact pz_sub [] rfl (S_X12_isNode_b17 X n 0)
set_option maxRecDepth 20000 in
theorem S_X12_isNode (X : pz_X) (n : Nat) (l0 : Option Nat) (l1 : Int32) : pz_Sm X (pz_QM X) J_X12_isNode pz_vI 0 [(0, va_rf l0), (1, .int l1)] [] (X12_isNode n l0 l1) := by
  unfold X12_isNode
  refine pz_iload_n 1 dX12_isNode_0 rfl ?_
  refine pz_if_lt 16 dX12_isNode_1 (by decide) ?_ ?_
  · exact pz_sub [] rfl (S_X12_isNode_b16 X n)
  · refine pz_iload_n 1 dX12_isNode_4 rfl ?_
    refine pz_aload_n 0 dX12_isNode_5 rfl ?_
    refine pz_getI (ci := 12) (k := 15) ck_12 (by decide) (Or.inl pw_947) dX12_isNode_6 (fun x1 => ?_)
    refine pz_icmp_ge 16 dX12_isNode_9 (by decide) ?_ ?_
    · exact pz_sub [] rfl (S_X12_isNode_b16 X n)
    · refine pz_iconst 1 dX12_isNode_12 (by decide) ?_
      refine pz_goto 17 dX12_isNode_13 (by decide) ?_
      exact pz_sub [] rfl (S_X12_isNode_b17 X n 1)
set_option maxRecDepth 20000 in
theorem md_X12_isNode (X : pz_X) (n : Nat) (l0 : Option Nat) (l1 : Int32) : pz_Md X yX12_isNode J_X12_isNode pz_vI [va_rf l0, .int l1] (X12_isNode n l0 l1) :=
  pz_md [(0, va_rf l0), (1, .int l1)] (by decide +kernel) rfl rfl (by cases l0 <;> rfl) (by cases l0 <;> exact Nat.le_of_ble_eq_true rfl) (fun X => S_X12_isNode X n l0 l1)
set_option maxRecDepth 20000 in
theorem S_X12_cut_b48 (X : pz_X) (n : Nat) (s0 : Int32) : pz_Sm X (pz_QM X) J_X12_cut pz_vI 48 [] [.int s0] (X12_cut_b48 n s0) := by
  unfold X12_cut_b48
  exact pz_iret rfl dX12_cut_48
set_option maxRecDepth 20000 in
theorem S_X12_cut_b30 (X : pz_X) (n : Nat) (l0 : Option Nat) (l1 : Int32) : pz_Sm X (pz_QM X) J_X12_cut pz_vI 30 [(0, va_rf l0), (1, .int l1)] [] (X12_cut_b30 n l0 l1) := by
  unfold X12_cut_b30
  refine pz_aload_n 0 dX12_cut_30 rfl ?_
  refine pz_getR (ci := 12) (k := 34) ck_12 (by decide) (Or.inl pw_966) dX12_cut_31 (fun x2 => ?_)
  refine pz_iload_n 1 dX12_cut_34 rfl ?_
  refine pz_iald (t := 0) rfl dX12_cut_35 (fun x3 => ?_)
  refine pz_if_ge 45 dX12_cut_36 (by decide) ?_ ?_
  · refine pz_ldcw 2000000000 dX12_cut_45 pw_1304 ?_
    exact pz_sub [] rfl (S_X12_cut_b48 X n 2000000000)
  · refine pz_ldcw (-2000000000) dX12_cut_39 pw_1303 ?_
    refine pz_goto 48 dX12_cut_42 (by decide) ?_
    exact pz_sub [] rfl (S_X12_cut_b48 X n (-2000000000))
set_option maxRecDepth 20000 in
theorem S_X12_cut_b117 (X : pz_X) (n : Nat) (s0 : Int64) : pz_Sm X (pz_QM X) J_X12_cut pz_vI 117 [] [.long s0] (X12_cut_b117 n s0) := by
  unfold X12_cut_b117
  refine pz_l2i dX12_cut_117 ?_
  exact pz_iret rfl dX12_cut_118
set_option maxRecDepth 20000 in
theorem S_X12_cut_b101 (X : pz_X) (n : Nat) (l0 : Option Nat) (l1 : Int32) (s0 : Int64) : pz_Sm X (pz_QM X) J_X12_cut pz_vI 101 [(0, va_rf l0), (1, .int l1)] [.long s0] (X12_cut_b101 n l0 l1 s0) := by
  unfold X12_cut_b101
  refine pz_lstore_n [(2, .long s0), (0, va_rf l0), (1, .int l1)] dX12_cut_101 (by decide) rfl ?_
  refine pz_aload_n 1 dX12_cut_102 rfl ?_
  refine pz_getR (ci := 12) (k := 34) ck_12 (by decide) (Or.inl pw_966) dX12_cut_103 (fun x8 => ?_)
  refine pz_iload_n 2 dX12_cut_106 rfl ?_
  refine pz_iald (t := 0) rfl dX12_cut_107 (fun x9 => ?_)
  refine pz_if_ge 116 dX12_cut_108 (by decide) ?_ ?_
  · refine pz_lload_n 0 dX12_cut_116 rfl ?_
    exact pz_sub [] rfl (S_X12_cut_b117 X n s0)
  · refine pz_lload_n 0 dX12_cut_111 rfl ?_
    refine pz_lneg dX12_cut_112 ?_
    refine pz_goto 117 dX12_cut_113 (by decide) ?_
    exact pz_sub [] rfl (S_X12_cut_b117 X n (-s0))
set_option maxRecDepth 20000 in
theorem S_X12_cut_L58_body (X : pz_X) (n : Nat) (l0 : Option Nat) (l1 : Int32) (K58 : Int64 → Int32 → pz_C Int32) (hK58 : ∀ (l2 : Int64) (l4 : Int32), pz_Sm X (pz_QM X) J_X12_cut pz_vI 58 [(0, va_rf l0), (1, .int l1), (2, .long l2), (4, .int l4)] [] (K58 l2 l4)) (l2 : Int64) (l4 : Int32) : pz_Sm X (pz_QM X) J_X12_cut pz_vI 58 [(0, va_rf l0), (1, .int l1), (2, .long l2), (4, .int l4)] [] (X12_cut_L58_body n l0 l1 K58 l2 l4) := by
  unfold X12_cut_L58_body
  refine pz_iload 3 dX12_cut_58 rfl ?_
  refine pz_if_le 86 dX12_cut_60 (by decide) ?_ ?_
  · refine pz_lload_n 2 dX12_cut_86 rfl ?_
    refine pz_ldc2 2000000000 dX12_cut_87 pw_1305 ?_
    refine pz_lcmp dX12_cut_90 ?_
    refine pz_if_le 100 dX12_cut_91 (by decide) ?_ ?_
    · refine pz_lload_n 2 dX12_cut_100 rfl ?_
      exact pz_sub [0, 1] rfl (S_X12_cut_b101 X n l0 l1 l2)
    · refine pz_ldc2 2000000000 dX12_cut_94 pw_1305 ?_
      refine pz_goto 101 dX12_cut_97 (by decide) ?_
      exact pz_sub [0, 1] rfl (S_X12_cut_b101 X n l0 l1 2000000000)
  · refine pz_lload_n 2 dX12_cut_63 rfl ?_
    refine pz_ldc2 1000000000 dX12_cut_64 pw_923 ?_
    refine pz_lmul dX12_cut_67 ?_
    refine pz_aload_n 0 dX12_cut_68 rfl ?_
    refine pz_getR (ci := 12) (k := 34) ck_12 (by decide) (Or.inl pw_966) dX12_cut_69 (fun x10 => ?_)
    refine pz_iload_n 1 dX12_cut_72 rfl ?_
    refine pz_iload 3 dX12_cut_73 rfl ?_
    refine pz_iadd dX12_cut_75 ?_
    refine pz_iald (t := 0) rfl dX12_cut_76 (fun x11 => ?_)
    refine pz_i2l dX12_cut_77 ?_
    refine pz_ladd dX12_cut_78 ?_
    refine pz_nmL (fun l2_12 => ?_)
    refine pz_lstore_n [(2, .long l2_12), (0, va_rf l0), (1, .int l1), (4, .int l4)] dX12_cut_79 (by decide) rfl ?_
    refine pz_iinc 3 (-1) (fun l4_13 => [(4, .int l4_13), (2, .long l2_12), (0, va_rf l0), (1, .int l1)]) dX12_cut_80 rfl (by decide) (by decide) (fun l4_13 => rfl) (fun l4_13 => ?_)
    refine pz_goto 58 dX12_cut_83 (by decide) ?_
    exact pz_sub [2, 3, 1, 0] rfl (hK58 l2_12 l4_13)
set_option maxRecDepth 20000 in
theorem S_X12_cut_L58 (X : pz_X) (n : Nat) (l0 : Option Nat) (l1 : Int32) (l2 : Int64) (l4 : Int32) : pz_Sm X (pz_QM X) J_X12_cut pz_vI 58 [(0, va_rf l0), (1, .int l1), (2, .long l2), (4, .int l4)] [] (X12_cut_L58 n l0 l1 l2 l4) :=
  pz_lp (L := fun (s : Int64 × Int32) => [(0, va_rf l0), (1, .int l1), (2, .long s.1), (4, .int s.2)]) (fun K hK s => S_X12_cut_L58_body X n l0 l1 (fun l2 l4 => K (l2, l4)) (fun l2 l4 => hK (l2, l4)) s.1 s.2) n (l2, l4)
set_option maxRecDepth 20000 in
theorem S_X12_cut_b49 (X : pz_X) (n : Nat) (l0 : Option Nat) (l1 : Int32) : pz_Sm X (pz_QM X) J_X12_cut pz_vI 49 [(0, va_rf l0), (1, .int l1)] [] (X12_cut_b49 n l0 l1) := by
  unfold X12_cut_b49
  refine pz_lconst 0 dX12_cut_49 (by decide) ?_
  refine pz_lstore_n [(2, .long 0), (0, va_rf l0), (1, .int l1)] dX12_cut_50 (by decide) rfl ?_
  refine pz_aload_n 1 dX12_cut_51 rfl ?_
  refine pz_iload_n 2 dX12_cut_52 rfl ?_
  refine pz_cvI (st := []) (md_X12_limbs X n l0 l1) ck_12 rfl mk_X12_limbs (Or.inl pw_928) pw_930 ps_32 rfl rfl (by decide) (by decide) (by decide) dX12_cut_53 (fun x7 => ?_)
  refine pz_istore [(4, .int x7), (2, .long 0), (0, va_rf l0), (1, .int l1)] dX12_cut_56 (by decide) rfl ?_
  exact pz_sub [2, 3, 1, 0] rfl (S_X12_cut_L58 X n l0 l1 0 x7)
set_option maxRecDepth 20000 in
theorem S_X12_cut (X : pz_X) (n : Nat) (l0 : Option Nat) (l1 : Int32) : pz_Sm X (pz_QM X) J_X12_cut pz_vI 0 [(0, va_rf l0), (1, .int l1)] [] (X12_cut n l0 l1) := by
  unfold X12_cut
  refine pz_aload_n 0 dX12_cut_0 rfl ?_
  refine pz_iload_n 1 dX12_cut_1 rfl ?_
  refine pz_cvI (st := []) (md_X12_limbs X n l0 l1) ck_12 rfl mk_X12_limbs (Or.inl pw_928) pw_930 ps_32 rfl rfl (by decide) (by decide) (by decide) dX12_cut_2 (fun x1 => ?_)
  refine pz_iconst 2 dX12_cut_5 (by decide) ?_
  refine pz_icmp_gt 30 dX12_cut_6 (by decide) ?_ ?_
  · exact pz_sub [0, 1] rfl (S_X12_cut_b30 X n l0 l1)
  · refine pz_aload_n 0 dX12_cut_9 rfl ?_
    refine pz_iload_n 1 dX12_cut_10 rfl ?_
    refine pz_cvI (st := []) (md_X12_limbs X n l0 l1) ck_12 rfl mk_X12_limbs (Or.inl pw_928) pw_930 ps_32 rfl rfl (by decide) (by decide) (by decide) dX12_cut_11 (fun x4 => ?_)
    refine pz_iconst 2 dX12_cut_14 (by decide) ?_
    refine pz_icmp_ne 49 dX12_cut_15 (by decide) ?_ ?_
    · refine pz_aload_n 0 dX12_cut_18 rfl ?_
      refine pz_getR (ci := 12) (k := 34) ck_12 (by decide) (Or.inl pw_966) dX12_cut_19 (fun x5 => ?_)
      refine pz_iload_n 1 dX12_cut_22 rfl ?_
      refine pz_iconst 2 dX12_cut_23 (by decide) ?_
      refine pz_iadd dX12_cut_24 ?_
      refine pz_iald (t := 0) rfl dX12_cut_25 (fun x6 => ?_)
      refine pz_iconst 2 dX12_cut_26 (by decide) ?_
      refine pz_icmp_le 49 dX12_cut_27 (by decide) ?_ ?_
      · exact pz_sub [0, 1] rfl (S_X12_cut_b49 X n l0 l1)
      · exact pz_sub [0, 1] rfl (S_X12_cut_b30 X n l0 l1)
    · exact pz_sub [0, 1] rfl (S_X12_cut_b49 X n l0 l1)
set_option maxRecDepth 20000 in
theorem md_X12_cut (X : pz_X) (n : Nat) (l0 : Option Nat) (l1 : Int32) : pz_Md X yX12_cut J_X12_cut pz_vI [va_rf l0, .int l1] (X12_cut n l0 l1) :=
  pz_md [(0, va_rf l0), (1, .int l1)] (by decide +kernel) rfl rfl (by cases l0 <;> rfl) (by cases l0 <;> exact Nat.le_of_ble_eq_true rfl) (fun X => S_X12_cut X n l0 l1)
set_option maxRecDepth 20000 in
theorem S_X12_node_b17 (X : pz_X) (n : Nat) : pz_Sm X (pz_QM X) J_X12_node pz_vI 17 [] [] (X12_node_b17 n) := by
  unfold X12_node_b17
  refine pz_ldcw (-2100000000) dX12_node_17 pw_1298 ?_
  exact pz_iret rfl dX12_node_20
set_option maxRecDepth 20000 in
theorem S_X12_node_b52 (X : pz_X) (n : Nat) (s0 : Int32) : pz_Sm X (pz_QM X) J_X12_node pz_vI 52 [] [.int s0] (X12_node_b52 n s0) := by
  unfold X12_node_b52
  exact pz_iret rfl dX12_node_52
set_option maxRecDepth 20000 in
theorem S_X12_node_b129 (X : pz_X) (n : Nat) (s0 : Int32) : pz_Sm X (pz_QM X) J_X12_node pz_vI 129 [] [.int s0] (X12_node_b129 n s0) := by
  unfold X12_node_b129
  exact pz_iret rfl dX12_node_129
set_option maxRecDepth 20000 in
theorem S_X12_node (X : pz_X) (n : Nat) (l0 : Option Nat) (l1 : Int32) (l2 : Int32) : pz_Sm X (pz_QM X) J_X12_node pz_vI 0 [(0, va_rf l0), (1, .int l1), (2, .int l2)] [] (X12_node n l0 l1 l2) := by
  unfold X12_node
  refine pz_aload_n 0 dX12_node_0 rfl ?_
  refine pz_iload_n 1 dX12_node_1 rfl ?_
  refine pz_cvI (st := []) (md_X12_isNode X n l0 l1) ck_12 rfl mk_X12_isNode (Or.inl pw_1294) pw_1296 ps_73 rfl rfl (by decide) (by decide) (by decide) dX12_node_2 (fun x1 => ?_)
  refine pz_if_eq 17 dX12_node_5 (by decide) ?_ ?_
  · exact pz_sub [] rfl (S_X12_node_b17 X n)
  · refine pz_iload_n 2 dX12_node_8 rfl ?_
    refine pz_if_lt 17 dX12_node_9 (by decide) ?_ ?_
    · exact pz_sub [] rfl (S_X12_node_b17 X n)
    · refine pz_iload_n 2 dX12_node_12 rfl ?_
      refine pz_iconst 5 dX12_node_13 (by decide) ?_
      refine pz_icmp_le 21 dX12_node_14 (by decide) ?_ ?_
      · refine pz_iload_n 2 dX12_node_21 rfl ?_
        refine pz_if_ne 53 dX12_node_22 (by decide) ?_ ?_
        · refine pz_aload_n 0 dX12_node_25 rfl ?_
          refine pz_getR (ci := 12) (k := 16) ck_12 (by decide) (Or.inl pw_948) dX12_node_26 (fun x2 => ?_)
          refine pz_iload_n 1 dX12_node_29 rfl ?_
          refine pz_zald (t := 1) rfl dX12_node_30 (fun x3 => ?_)
          refine pz_if_eq 38 dX12_node_31 (by decide) ?_ ?_
          · refine pz_aload_n 0 dX12_node_38 rfl ?_
            refine pz_getR (ci := 12) (k := 17) ck_12 (by decide) (Or.inl pw_949) dX12_node_39 (fun x4 => ?_)
            refine pz_iload_n 1 dX12_node_42 rfl ?_
            refine pz_zald (t := 1) rfl dX12_node_43 (fun x5 => ?_)
            refine pz_if_eq 51 dX12_node_44 (by decide) ?_ ?_
            · refine pz_iconst 2 dX12_node_51 (by decide) ?_
              exact pz_sub [] rfl (S_X12_node_b52 X n 2)
            · refine pz_iconst 1 dX12_node_47 (by decide) ?_
              refine pz_goto 52 dX12_node_48 (by decide) ?_
              exact pz_sub [] rfl (S_X12_node_b52 X n 1)
          · refine pz_iconst 0 dX12_node_34 (by decide) ?_
            refine pz_goto 52 dX12_node_35 (by decide) ?_
            exact pz_sub [] rfl (S_X12_node_b52 X n 0)
        · refine pz_iload_n 2 dX12_node_53 rfl ?_
          refine pz_iconst 5 dX12_node_54 (by decide) ?_
          refine pz_icmp_ne 65 dX12_node_55 (by decide) ?_ ?_
          · refine pz_aload_n 0 dX12_node_58 rfl ?_
            refine pz_getR (ci := 12) (k := 21) ck_12 (by decide) (Or.inl pw_953) dX12_node_59 (fun x6 => ?_)
            refine pz_iload_n 1 dX12_node_62 rfl ?_
            refine pz_iald (t := 0) rfl dX12_node_63 (fun x7 => ?_)
            exact pz_iret rfl dX12_node_64
          · refine pz_aload_n 0 dX12_node_65 rfl ?_
            refine pz_getR (ci := 12) (k := 16) ck_12 (by decide) (Or.inl pw_948) dX12_node_66 (fun x8 => ?_)
            refine pz_iload_n 1 dX12_node_69 rfl ?_
            refine pz_zald (t := 1) rfl dX12_node_70 (fun x9 => ?_)
            refine pz_if_ne 79 dX12_node_71 (by decide) ?_ ?_
            · refine pz_bipush (-2) dX12_node_74 (by decide) ?_
              refine pz_goto 129 dX12_node_76 (by decide) ?_
              exact pz_sub [] rfl (S_X12_node_b129 X n (-2))
            · refine pz_iload_n 2 dX12_node_79 rfl ?_
              refine pz_iconst 1 dX12_node_80 (by decide) ?_
              refine pz_icmp_ne 93 dX12_node_81 (by decide) ?_ ?_
              · refine pz_aload_n 0 dX12_node_84 rfl ?_
                refine pz_getR (ci := 12) (k := 18) ck_12 (by decide) (Or.inl pw_950) dX12_node_85 (fun x10 => ?_)
                refine pz_iload_n 1 dX12_node_88 rfl ?_
                refine pz_iald (t := 0) rfl dX12_node_89 (fun x11 => ?_)
                refine pz_goto 129 dX12_node_90 (by decide) ?_
                exact pz_sub [] rfl (S_X12_node_b129 X n x11)
              · refine pz_iload_n 2 dX12_node_93 rfl ?_
                refine pz_iconst 2 dX12_node_94 (by decide) ?_
                refine pz_icmp_ne 109 dX12_node_95 (by decide) ?_ ?_
                · refine pz_aload_n 0 dX12_node_98 rfl ?_
                  refine pz_iload_n 1 dX12_node_99 rfl ?_
                  refine pz_csI (st := [va_rf l0]) (md_X12_splitAt X n l1) mk_X12_splitAt (Or.inl pw_1224) pw_1225 rfl rfl (by simp [pz_rf1, pz_ci, pz_cl]) (by decide) (by decide) dX12_node_100 (fun x12 => ?_)
                  refine pz_cvI (st := []) (md_X12_cut X n l0 x12) ck_12 rfl mk_X12_cut (Or.inl pw_1299) pw_1301 ps_74 rfl rfl (by decide) (by decide) (by decide) dX12_node_103 (fun x13 => ?_)
                  refine pz_goto 129 dX12_node_106 (by decide) ?_
                  exact pz_sub [] rfl (S_X12_node_b129 X n x13)
                · refine pz_iload_n 2 dX12_node_109 rfl ?_
                  refine pz_iconst 3 dX12_node_110 (by decide) ?_
                  refine pz_icmp_ne 123 dX12_node_111 (by decide) ?_ ?_
                  · refine pz_aload_n 0 dX12_node_114 rfl ?_
                    refine pz_getR (ci := 12) (k := 19) ck_12 (by decide) (Or.inl pw_951) dX12_node_115 (fun x14 => ?_)
                    refine pz_iload_n 1 dX12_node_118 rfl ?_
                    refine pz_iald (t := 0) rfl dX12_node_119 (fun x15 => ?_)
                    refine pz_goto 129 dX12_node_120 (by decide) ?_
                    exact pz_sub [] rfl (S_X12_node_b129 X n x15)
                  · refine pz_aload_n 0 dX12_node_123 rfl ?_
                    refine pz_getR (ci := 12) (k := 20) ck_12 (by decide) (Or.inl pw_952) dX12_node_124 (fun x16 => ?_)
                    refine pz_iload_n 1 dX12_node_127 rfl ?_
                    refine pz_iald (t := 0) rfl dX12_node_128 (fun x17 => ?_)
                    exact pz_sub [] rfl (S_X12_node_b129 X n x17)
      · exact pz_sub [] rfl (S_X12_node_b17 X n)
set_option maxRecDepth 20000 in
theorem md_X12_node (X : pz_X) (n : Nat) (l0 : Option Nat) (l1 : Int32) (l2 : Int32) : pz_Md X yX12_node J_X12_node pz_vI [va_rf l0, .int l1, .int l2] (X12_node n l0 l1 l2) :=
  pz_md [(0, va_rf l0), (1, .int l1), (2, .int l2)] (by decide +kernel) rfl rfl (by cases l0 <;> rfl) (by cases l0 <;> exact Nat.le_of_ble_eq_true rfl) (fun X => S_X12_node X n l0 l1 l2)
set_option maxRecDepth 20000 in
theorem S_X6_hasRow_b17 (X : pz_X) (n : Nat) (s0 : Int32) : pz_Sm X (pz_QM X) J_X6_hasRow pz_vI 17 [] [.int s0] (X6_hasRow_b17 n s0) := by
  unfold X6_hasRow_b17
  exact pz_zret rfl dX6_hasRow_17
set_option maxRecDepth 20000 in
theorem S_X6_hasRow_b16 (X : pz_X) (n : Nat) : pz_Sm X (pz_QM X) J_X6_hasRow pz_vI 16 [] [] (X6_hasRow_b16 n) := by
  unfold X6_hasRow_b16
  refine pz_iconst 0 dX6_hasRow_16 (by decide) ?_
  exact pz_sub [] rfl (S_X6_hasRow_b17 X n 0)
set_option maxRecDepth 20000 in
theorem S_X6_hasRow (X : pz_X) (n : Nat) (l0 : Option Nat) (l1 : Int32) : pz_Sm X (pz_QM X) J_X6_hasRow pz_vI 0 [(0, va_rf l0), (1, .int l1)] [] (X6_hasRow n l0 l1) := by
  unfold X6_hasRow
  refine pz_iload_n 1 dX6_hasRow_0 rfl ?_
  refine pz_if_lt 16 dX6_hasRow_1 (by decide) ?_ ?_
  · exact pz_sub [] rfl (S_X6_hasRow_b16 X n)
  · refine pz_iload_n 1 dX6_hasRow_4 rfl ?_
    refine pz_aload_n 0 dX6_hasRow_5 rfl ?_
    refine pz_getI (ci := 6) (k := 6) ck_6 (by decide) (Or.inl pw_54) dX6_hasRow_6 (fun x1 => ?_)
    refine pz_icmp_ge 16 dX6_hasRow_9 (by decide) ?_ ?_
    · exact pz_sub [] rfl (S_X6_hasRow_b16 X n)
    · refine pz_iconst 1 dX6_hasRow_12 (by decide) ?_
      refine pz_goto 17 dX6_hasRow_13 (by decide) ?_
      exact pz_sub [] rfl (S_X6_hasRow_b17 X n 1)
set_option maxRecDepth 20000 in
theorem md_X6_hasRow (X : pz_X) (n : Nat) (l0 : Option Nat) (l1 : Int32) : pz_Md X yX6_hasRow J_X6_hasRow pz_vI [va_rf l0, .int l1] (X6_hasRow n l0 l1) :=
  pz_md [(0, va_rf l0), (1, .int l1)] (by decide +kernel) rfl rfl (by cases l0 <;> rfl) (by cases l0 <;> exact Nat.le_of_ble_eq_true rfl) (fun X => S_X6_hasRow X n l0 l1)
set_option maxRecDepth 20000 in
theorem S_X11_multiplierAt_b43 (X : pz_X) (n : Nat) (s0 : Option Nat) : pz_Sm X (pz_QM X) J_X11_multiplierAt pz_vR 43 [] [va_rf s0] (X11_multiplierAt_b43 n s0) := by
  unfold X11_multiplierAt_b43
  exact pz_aret rfl dX11_multiplierAt_43
set_option maxRecDepth 20000 in
theorem S_X11_multiplierAt_b92 (X : pz_X) (n : Nat) (s0 : Option Nat) : pz_Sm X (pz_QM X) J_X11_multiplierAt pz_vR 92 [] [va_rf s0] (X11_multiplierAt_b92 n s0) := by
  unfold X11_multiplierAt_b92
  exact pz_aret rfl dX11_multiplierAt_92
set_option maxRecDepth 20000 in
theorem S_X11_multiplierAt (X : pz_X) (n : Nat) (l0 : Option Nat) (l1 : Int32) (l2 : Int32) (l3 : Int32) : pz_Sm X (pz_QM X) J_X11_multiplierAt pz_vR 0 [(0, va_rf l0), (1, .int l1), (2, .int l2), (3, .int l3)] [] (X11_multiplierAt n l0 l1 l2 l3) := by
  unfold X11_multiplierAt
  refine pz_aload_n 0 dX11_multiplierAt_0 rfl ?_
  refine pz_getR (ci := 11) (k := 4) ck_11 (by decide) (Or.inl pw_404) dX11_multiplierAt_1 (fun x1 => ?_)
  refine pz_iload_n 1 dX11_multiplierAt_4 rfl ?_
  refine pz_cvR (st := []) (md_X10_leafOf X n x1 l1) ck_10 rfl mk_X10_leafOf (Or.inl pw_867) pw_718 pw_719 rfl rfl (by decide) (by decide) (by decide) dX11_multiplierAt_5 (fun x2 => ?_)
  refine pz_astore [(4, va_rf x2), (0, va_rf l0), (1, .int l1), (2, .int l2), (3, .int l3)] dX11_multiplierAt_8 (by decide) rfl ?_
  refine pz_aload 0 dX11_multiplierAt_10 rfl ?_
  refine pz_ifnonnull 17 dX11_multiplierAt_12 (by decide) ?_ ?_
  · refine pz_null dX11_multiplierAt_15 ?_
    exact pz_aret rfl dX11_multiplierAt_16
  · refine pz_iload_n 3 dX11_multiplierAt_17 rfl ?_
    refine pz_if_ne 44 dX11_multiplierAt_18 (by decide) ?_ ?_
    · refine pz_aload_n 1 dX11_multiplierAt_21 rfl ?_
      refine pz_getR (ci := 11) (k := 0) ck_11 (by decide) (Or.inl pw_400) dX11_multiplierAt_22 (fun x3 => ?_)
      refine pz_iload_n 4 dX11_multiplierAt_25 rfl ?_
      refine pz_cvI (st := []) (md_X6_hasRow X n x3 l3) ck_6 rfl mk_X6_hasRow (Or.inl pw_868) pw_869 pw_870 rfl rfl (by decide) (by decide) (by decide) dX11_multiplierAt_26 (fun x4 => ?_)
      refine pz_if_eq 42 dX11_multiplierAt_29 (by decide) ?_ ?_
      · refine pz_null dX11_multiplierAt_42 ?_
        exact pz_sub [] rfl (S_X11_multiplierAt_b43 X n none)
      · refine pz_aload 0 dX11_multiplierAt_32 rfl ?_
        refine pz_getR (ci := 5) (k := 0) ck_5 (by decide) (Or.inl pw_511) dX11_multiplierAt_34 (fun x5 => ?_)
        refine pz_iload_n 4 dX11_multiplierAt_37 rfl ?_
        refine pz_aald (t := 4) rfl rfl dX11_multiplierAt_38 (fun x6 => ?_)
        refine pz_goto 43 dX11_multiplierAt_39 (by decide) ?_
        exact pz_sub [] rfl (S_X11_multiplierAt_b43 X n x6)
    · refine pz_aload_n 1 dX11_multiplierAt_44 rfl ?_
      refine pz_getR (ci := 11) (k := 0) ck_11 (by decide) (Or.inl pw_400) dX11_multiplierAt_45 (fun x7 => ?_)
      refine pz_iload_n 4 dX11_multiplierAt_48 rfl ?_
      refine pz_cvI (st := []) (md_X6_hasVariable X n x7 l3) ck_6 rfl mk_X6_hasVariable (Or.inl pw_451) pw_452 pw_453 rfl rfl (by decide) (by decide) (by decide) dX11_multiplierAt_49 (fun x8 => ?_)
      refine pz_if_ne 57 dX11_multiplierAt_52 (by decide) ?_ ?_
      · refine pz_null dX11_multiplierAt_55 ?_
        exact pz_aret rfl dX11_multiplierAt_56
      · refine pz_iload_n 3 dX11_multiplierAt_57 rfl ?_
        refine pz_iconst 1 dX11_multiplierAt_58 (by decide) ?_
        refine pz_icmp_ne 73 dX11_multiplierAt_59 (by decide) ?_ ?_
        · refine pz_aload 0 dX11_multiplierAt_62 rfl ?_
          refine pz_getR (ci := 5) (k := 0) ck_5 (by decide) (Or.inl pw_511) dX11_multiplierAt_64 (fun x9 => ?_)
          refine pz_bipush 12 dX11_multiplierAt_67 (by decide) ?_
          refine pz_iload_n 4 dX11_multiplierAt_69 rfl ?_
          refine pz_iadd dX11_multiplierAt_70 ?_
          refine pz_aald (t := 4) rfl rfl dX11_multiplierAt_71 (fun x10 => ?_)
          exact pz_aret rfl dX11_multiplierAt_72
        · refine pz_iload_n 3 dX11_multiplierAt_73 rfl ?_
          refine pz_iconst 2 dX11_multiplierAt_74 (by decide) ?_
          refine pz_icmp_ne 91 dX11_multiplierAt_75 (by decide) ?_ ?_
          · refine pz_aload 0 dX11_multiplierAt_78 rfl ?_
            refine pz_getR (ci := 5) (k := 0) ck_5 (by decide) (Or.inl pw_511) dX11_multiplierAt_80 (fun x11 => ?_)
            refine pz_bipush 22 dX11_multiplierAt_83 (by decide) ?_
            refine pz_iload_n 4 dX11_multiplierAt_85 rfl ?_
            refine pz_iadd dX11_multiplierAt_86 ?_
            refine pz_aald (t := 4) rfl rfl dX11_multiplierAt_87 (fun x12 => ?_)
            refine pz_goto 92 dX11_multiplierAt_88 (by decide) ?_
            exact pz_sub [] rfl (S_X11_multiplierAt_b92 X n x12)
          · refine pz_null dX11_multiplierAt_91 ?_
            exact pz_sub [] rfl (S_X11_multiplierAt_b92 X n none)
set_option maxRecDepth 20000 in
theorem md_X11_multiplierAt (X : pz_X) (n : Nat) (l0 : Option Nat) (l1 : Int32) (l2 : Int32) (l3 : Int32) : pz_Md X yX11_multiplierAt J_X11_multiplierAt pz_vR [va_rf l0, .int l1, .int l2, .int l3] (X11_multiplierAt n l0 l1 l2 l3) :=
  pz_md [(0, va_rf l0), (1, .int l1), (2, .int l2), (3, .int l3)] (by decide +kernel) rfl rfl (by cases l0 <;> rfl) (by cases l0 <;> exact Nat.le_of_ble_eq_true rfl) (fun X => S_X11_multiplierAt X n l0 l1 l2 l3)
set_option maxRecDepth 20000 in
theorem S_X11_multiplier (X : pz_X) (n : Nat) (l0 : Option Nat) (l1 : Int32) (l2 : Int32) (l3 : Int32) : pz_Sm X (pz_QM X) J_X11_multiplier pz_vI 0 [(0, va_rf l0), (1, .int l1), (2, .int l2), (3, .int l3)] [] (X11_multiplier n l0 l1 l2 l3) := by
  unfold X11_multiplier
  refine pz_aload_n 0 dX11_multiplier_0 rfl ?_
  refine pz_iload_n 1 dX11_multiplier_1 rfl ?_
  refine pz_iload_n 2 dX11_multiplier_2 rfl ?_
  refine pz_iload_n 3 dX11_multiplier_3 rfl ?_
  refine pz_cvR (st := []) (md_X11_multiplierAt X n l0 l1 l2 l3) ck_11 rfl mk_X11_multiplierAt (Or.inl pw_863) pw_865 ps_25 rfl rfl (by decide) (by decide) (by decide) dX11_multiplier_4 (fun x1 => ?_)
  refine pz_astore [(4, va_rf x1), (0, va_rf l0), (1, .int l1), (2, .int l2), (3, .int l3)] dX11_multiplier_7 (by decide) rfl ?_
  refine pz_aload 0 dX11_multiplier_9 rfl ?_
  refine pz_ifnonnull 17 dX11_multiplier_11 (by decide) ?_ ?_
  · refine pz_bipush (-4) dX11_multiplier_14 (by decide) ?_
    exact pz_iret rfl dX11_multiplier_16
  · refine pz_aload_n 1 dX11_multiplier_17 rfl ?_
    refine pz_getR (ci := 11) (k := 8) ck_11 (by decide) (Or.inl pw_408) dX11_multiplier_18 (fun x2 => ?_)
    refine pz_aload 0 dX11_multiplier_21 rfl ?_
    refine pz_getR (ci := 3) (k := 0) ck_3 (by decide) (Or.inl pw_390) dX11_multiplier_23 (fun x3 => ?_)
    refine pz_aload 0 dX11_multiplier_26 rfl ?_
    refine pz_getR (ci := 3) (k := 1) ck_3 (by decide) (Or.inl pw_394) dX11_multiplier_28 (fun x4 => ?_)
    refine pz_iconst 1 dX11_multiplier_31 (by decide) ?_
    refine pz_cvU (st := []) (md_X3_setQuotient X n x2 x3 x4 1) ck_3 rfl mk_X3_setQuotient (Or.inl pw_796) pw_730 pw_731 rfl rfl (by decide) (by decide) (by decide) dX11_multiplier_32 (fun _ => ?_)
    refine pz_aload_n 1 dX11_multiplier_35 rfl ?_
    refine pz_cvI (st := []) (md_X11_takeToHand X n l0) ck_11 rfl mk_X11_takeToHand (Or.inl pw_771) pw_773 ps_20 rfl rfl (by decide) (by decide) (by decide) dX11_multiplier_36 (fun x6 => ?_)
    exact pz_iret rfl dX11_multiplier_39
set_option maxRecDepth 20000 in
theorem md_X11_multiplier (X : pz_X) (n : Nat) (l0 : Option Nat) (l1 : Int32) (l2 : Int32) (l3 : Int32) : pz_Md X yX11_multiplier J_X11_multiplier pz_vI [va_rf l0, .int l1, .int l2, .int l3] (X11_multiplier n l0 l1 l2 l3) :=
  pz_md [(0, va_rf l0), (1, .int l1), (2, .int l2), (3, .int l3)] (by decide +kernel) rfl rfl (by cases l0 <;> rfl) (by cases l0 <;> exact Nat.le_of_ble_eq_true rfl) (fun X => S_X11_multiplier X n l0 l1 l2 l3)
set_option maxRecDepth 20000 in
theorem S_X12_numberOf_b61 (X : pz_X) (n : Nat) : pz_Sm X (pz_QM X) J_X12_numberOf pz_vI 61 [] [] (X12_numberOf_b61 n) := by
  unfold X12_numberOf_b61
  refine pz_iconst (-1) dX12_numberOf_61 (by decide) ?_
  exact pz_iret rfl dX12_numberOf_62
set_option maxRecDepth 20000 in
theorem S_X12_numberOf_b87 (X : pz_X) (n : Nat) (s0 : Int32) : pz_Sm X (pz_QM X) J_X12_numberOf pz_vI 87 [] [.int s0] (X12_numberOf_b87 n s0) := by
  unfold X12_numberOf_b87
  exact pz_iret rfl dX12_numberOf_87
set_option maxRecDepth 20000 in
theorem S_X12_numberOf_b58 (X : pz_X) (n : Nat) (l2 : Int32) (l3 : Int32) (s0 : Int32) (s1 : Int32) : pz_Sm X (pz_QM X) J_X12_numberOf pz_vI 58 [(2, .int l2), (3, .int l3)] [.int s1, .int s0] (X12_numberOf_b58 n l2 l3 s0 s1) := by
  unfold X12_numberOf_b58
  refine pz_icmp_lt 63 dX12_numberOf_58 (by decide) ?_ ?_
  · refine pz_iload_n 0 dX12_numberOf_63 rfl ?_
    refine pz_if_ne 71 dX12_numberOf_64 (by decide) ?_ ?_
    · refine pz_iload_n 1 dX12_numberOf_67 rfl ?_
      refine pz_goto 87 dX12_numberOf_68 (by decide) ?_
      exact pz_sub [] rfl (S_X12_numberOf_b87 X n l3)
    · refine pz_iload_n 0 dX12_numberOf_71 rfl ?_
      refine pz_iconst 1 dX12_numberOf_72 (by decide) ?_
      refine pz_icmp_ne 83 dX12_numberOf_73 (by decide) ?_ ?_
      · refine pz_bipush 12 dX12_numberOf_76 (by decide) ?_
        refine pz_iload_n 1 dX12_numberOf_78 rfl ?_
        refine pz_iadd dX12_numberOf_79 ?_
        refine pz_goto 87 dX12_numberOf_80 (by decide) ?_
        exact pz_sub [] rfl (S_X12_numberOf_b87 X n (12 + l3))
      · refine pz_bipush 22 dX12_numberOf_83 (by decide) ?_
        refine pz_iload_n 1 dX12_numberOf_85 rfl ?_
        refine pz_iadd dX12_numberOf_86 ?_
        exact pz_sub [] rfl (S_X12_numberOf_b87 X n (22 + l3))
  · exact pz_sub [] rfl (S_X12_numberOf_b61 X n)
set_option maxRecDepth 20000 in
theorem S_X12_numberOf_b25 (X : pz_X) (n : Nat) (l0 : Option Nat) (l2 : Int32) (l3 : Int32) (s0 : Option Nat) (s1 : Int32) : pz_Sm X (pz_QM X) J_X12_numberOf pz_vI 25 [(0, va_rf l0), (2, .int l2), (3, .int l3)] [.int s1, va_rf s0] (X12_numberOf_b25 n l0 l2 l3 s0 s1) := by
  unfold X12_numberOf_b25
  refine pz_zald (t := 1) rfl dX12_numberOf_25 (fun x4 => ?_)
  refine pz_if_ne 61 dX12_numberOf_26 (by decide) ?_ ?_
  · refine pz_iload_n 1 dX12_numberOf_29 rfl ?_
    refine pz_if_lt 61 dX12_numberOf_30 (by decide) ?_ ?_
    · exact pz_sub [] rfl (S_X12_numberOf_b61 X n)
    · refine pz_iload_n 1 dX12_numberOf_33 rfl ?_
      refine pz_iconst 2 dX12_numberOf_34 (by decide) ?_
      refine pz_icmp_gt 61 dX12_numberOf_35 (by decide) ?_ ?_
      · exact pz_sub [] rfl (S_X12_numberOf_b61 X n)
      · refine pz_iload_n 2 dX12_numberOf_38 rfl ?_
        refine pz_if_lt 61 dX12_numberOf_39 (by decide) ?_ ?_
        · exact pz_sub [] rfl (S_X12_numberOf_b61 X n)
        · refine pz_iload_n 2 dX12_numberOf_42 rfl ?_
          refine pz_iload_n 1 dX12_numberOf_43 rfl ?_
          refine pz_if_ne 54 dX12_numberOf_44 (by decide) ?_ ?_
          · refine pz_aload_n 0 dX12_numberOf_47 rfl ?_
            refine pz_getI (ci := 12) (k := 1) ck_12 (by decide) (Or.inl pw_933) dX12_numberOf_48 (fun x5 => ?_)
            refine pz_goto 58 dX12_numberOf_51 (by decide) ?_
            exact pz_sub [1, 2] rfl (S_X12_numberOf_b58 X n l2 l3 l3 x5)
          · refine pz_aload_n 0 dX12_numberOf_54 rfl ?_
            refine pz_getI (ci := 12) (k := 0) ck_12 (by decide) (Or.inl pw_932) dX12_numberOf_55 (fun x6 => ?_)
            exact pz_sub [1, 2] rfl (S_X12_numberOf_b58 X n l2 l3 l3 x6)
  · exact pz_sub [] rfl (S_X12_numberOf_b61 X n)
set_option maxRecDepth 20000 in
theorem S_X12_numberOf (X : pz_X) (n : Nat) (l0 : Option Nat) (l1 : Int32) (l2 : Int32) (l3 : Int32) : pz_Sm X (pz_QM X) J_X12_numberOf pz_vI 0 [(0, va_rf l0), (1, .int l1), (2, .int l2), (3, .int l3)] [] (X12_numberOf n l0 l1 l2 l3) := by
  unfold X12_numberOf
  refine pz_aload_n 0 dX12_numberOf_0 rfl ?_
  refine pz_iload_n 1 dX12_numberOf_1 rfl ?_
  refine pz_cvI (st := []) (md_X12_isNode X n l0 l1) ck_12 rfl mk_X12_isNode (Or.inl pw_1294) pw_1296 ps_73 rfl rfl (by decide) (by decide) (by decide) dX12_numberOf_2 (fun x1 => ?_)
  refine pz_if_eq 61 dX12_numberOf_5 (by decide) ?_ ?_
  · exact pz_sub [] rfl (S_X12_numberOf_b61 X n)
  · refine pz_aload_n 0 dX12_numberOf_8 rfl ?_
    refine pz_getR (ci := 12) (k := 16) ck_12 (by decide) (Or.inl pw_948) dX12_numberOf_9 (fun x2 => ?_)
    refine pz_aload_n 0 dX12_numberOf_12 rfl ?_
    refine pz_iload_n 1 dX12_numberOf_13 rfl ?_
    refine pz_cvI (st := [va_rf x2]) (md_X12_isNode X n l0 l1) ck_12 rfl mk_X12_isNode (Or.inl pw_1294) pw_1296 ps_73 rfl rfl (by simp [pz_rf1, pz_ci, pz_cl]) (by decide) (by decide) dX12_numberOf_14 (fun x3 => ?_)
    refine pz_if_eq 24 dX12_numberOf_17 (by decide) ?_ ?_
    · refine pz_iconst 0 dX12_numberOf_24 (by decide) ?_
      exact pz_sub [0, 2, 3] rfl (S_X12_numberOf_b25 X n l0 l2 l3 x2 0)
    · refine pz_iload_n 1 dX12_numberOf_20 rfl ?_
      refine pz_goto 25 dX12_numberOf_21 (by decide) ?_
      exact pz_sub [0, 2, 3] rfl (S_X12_numberOf_b25 X n l0 l2 l3 x2 l1)
set_option maxRecDepth 20000 in
theorem md_X12_numberOf (X : pz_X) (n : Nat) (l0 : Option Nat) (l1 : Int32) (l2 : Int32) (l3 : Int32) : pz_Md X yX12_numberOf J_X12_numberOf pz_vI [va_rf l0, .int l1, .int l2, .int l3] (X12_numberOf n l0 l1 l2 l3) :=
  pz_md [(0, va_rf l0), (1, .int l1), (2, .int l2), (3, .int l3)] (by decide +kernel) rfl rfl (by cases l0 <;> rfl) (by cases l0 <;> exact Nat.le_of_ble_eq_true rfl) (fun X => S_X12_numberOf X n l0 l1 l2 l3)
set_option maxRecDepth 20000 in
theorem S_X12_multiplier_b48 (X : pz_X) (n : Nat) (s0 : Int32) : pz_Sm X (pz_QM X) J_X12_multiplier pz_vI 48 [] [.int s0] (X12_multiplier_b48 n s0) := by
  unfold X12_multiplier_b48
  exact pz_iret rfl dX12_multiplier_48
set_option maxRecDepth 20000 in
theorem S_X12_multiplier (X : pz_X) (n : Nat) (l0 : Option Nat) (l1 : Int32) (l2 : Int32) (l3 : Int32) : pz_Sm X (pz_QM X) J_X12_multiplier pz_vI 0 [(0, va_rf l0), (1, .int l1), (2, .int l2), (3, .int l3)] [] (X12_multiplier n l0 l1 l2 l3) := by
  unfold X12_multiplier
  refine pz_aload_n 0 dX12_multiplier_0 rfl ?_
  refine pz_iload_n 1 dX12_multiplier_1 rfl ?_
  refine pz_iload_n 2 dX12_multiplier_2 rfl ?_
  refine pz_iload_n 3 dX12_multiplier_3 rfl ?_
  refine pz_cvI (st := []) (md_X12_numberOf X n l0 l1 l2 l3) ck_12 rfl mk_X12_numberOf (Or.inl pw_1310) pw_1312 ps_75 rfl rfl (by decide) (by decide) (by decide) dX12_multiplier_4 (fun x1 => ?_)
  refine pz_istore [(4, .int x1), (0, va_rf l0), (1, .int l1), (2, .int l2), (3, .int l3)] dX12_multiplier_7 (by decide) rfl ?_
  refine pz_iload 0 dX12_multiplier_9 rfl ?_
  refine pz_iconst (-1) dX12_multiplier_11 (by decide) ?_
  refine pz_icmp_ne 20 dX12_multiplier_12 (by decide) ?_ ?_
  · refine pz_bipush (-4) dX12_multiplier_15 (by decide) ?_
    refine pz_goto 48 dX12_multiplier_17 (by decide) ?_
    exact pz_sub [] rfl (S_X12_multiplier_b48 X n (-4))
  · refine pz_aload_n 1 dX12_multiplier_20 rfl ?_
    refine pz_aload_n 1 dX12_multiplier_21 rfl ?_
    refine pz_getR (ci := 12) (k := 22) ck_12 (by decide) (Or.inl pw_954) dX12_multiplier_22 (fun x2 => ?_)
    refine pz_iload_n 2 dX12_multiplier_25 rfl ?_
    refine pz_iald (t := 0) rfl dX12_multiplier_26 (fun x3 => ?_)
    refine pz_iload 0 dX12_multiplier_27 rfl ?_
    refine pz_iconst 0 dX12_multiplier_29 (by decide) ?_
    refine pz_csI (st := [va_rf l0]) (md_X12_multiplierAt X n x3 x1 0) mk_X12_multiplierAt (Or.inl pw_1090) pw_1091 rfl rfl (by simp [pz_rf1, pz_ci, pz_cl]) (by decide) (by decide) dX12_multiplier_30 (fun x4 => ?_)
    refine pz_aload_n 1 dX12_multiplier_33 rfl ?_
    refine pz_getR (ci := 12) (k := 22) ck_12 (by decide) (Or.inl pw_954) dX12_multiplier_34 (fun x5 => ?_)
    refine pz_iload_n 2 dX12_multiplier_37 rfl ?_
    refine pz_iald (t := 0) rfl dX12_multiplier_38 (fun x6 => ?_)
    refine pz_iload 0 dX12_multiplier_39 rfl ?_
    refine pz_iconst 1 dX12_multiplier_41 (by decide) ?_
    refine pz_csI (st := [.int x4, va_rf l0]) (md_X12_multiplierAt X n x6 x1 1) mk_X12_multiplierAt (Or.inl pw_1090) pw_1091 rfl rfl (by simp [pz_rf1, pz_ci, pz_cl]) (by decide) (by decide) dX12_multiplier_42 (fun x7 => ?_)
    refine pz_cvI (st := []) (md_X12_hand X n l0 x4 x7) ck_12 rfl mk_X12_hand (Or.inl pw_1248) pw_1250 ps_69 rfl rfl (by decide) (by decide) (by decide) dX12_multiplier_45 (fun x8 => ?_)
    exact pz_sub [] rfl (S_X12_multiplier_b48 X n x8)
set_option maxRecDepth 20000 in
theorem md_X12_multiplier (X : pz_X) (n : Nat) (l0 : Option Nat) (l1 : Int32) (l2 : Int32) (l3 : Int32) : pz_Md X yX12_multiplier J_X12_multiplier pz_vI [va_rf l0, .int l1, .int l2, .int l3] (X12_multiplier n l0 l1 l2 l3) :=
  pz_md [(0, va_rf l0), (1, .int l1), (2, .int l2), (3, .int l3)] (by decide +kernel) rfl rfl (by cases l0 <;> rfl) (by cases l0 <;> exact Nat.le_of_ble_eq_true rfl) (fun X => S_X12_multiplier X n l0 l1 l2 l3)
set_option maxRecDepth 20000 in
theorem S_X11_setMultiplier_b24 (X : pz_X) (n : Nat) : pz_Sm X (pz_QM X) J_X11_setMultiplier pz_vI 24 [] [] (X11_setMultiplier_b24 n) := by
  unfold X11_setMultiplier_b24
  refine pz_iconst (-1) dX11_setMultiplier_24 (by decide) ?_
  exact pz_iret rfl dX11_setMultiplier_25
set_option maxRecDepth 20000 in
theorem S_X11_setMultiplier (X : pz_X) (n : Nat) (l0 : Option Nat) (l1 : Int32) (l2 : Int32) (l3 : Int32) (l4 : Int32) (l5 : Int32) : pz_Sm X (pz_QM X) J_X11_setMultiplier pz_vI 0 [(0, va_rf l0), (1, .int l1), (2, .int l2), (3, .int l3), (4, .int l4), (5, .int l5)] [] (X11_setMultiplier n l0 l1 l2 l3 l4 l5) := by
  unfold X11_setMultiplier
  refine pz_aload_n 0 dX11_setMultiplier_0 rfl ?_
  refine pz_iload_n 1 dX11_setMultiplier_1 rfl ?_
  refine pz_iload_n 2 dX11_setMultiplier_2 rfl ?_
  refine pz_iload_n 3 dX11_setMultiplier_3 rfl ?_
  refine pz_cvR (st := []) (md_X11_multiplierAt X n l0 l1 l2 l3) ck_11 rfl mk_X11_multiplierAt (Or.inl pw_863) pw_865 ps_25 rfl rfl (by decide) (by decide) (by decide) dX11_setMultiplier_4 (fun x1 => ?_)
  refine pz_astore [(6, va_rf x1), (0, va_rf l0), (1, .int l1), (2, .int l2), (3, .int l3), (4, .int l4), (5, .int l5)] dX11_setMultiplier_7 (by decide) rfl ?_
  refine pz_aload 0 dX11_setMultiplier_9 rfl ?_
  refine pz_ifnull 24 dX11_setMultiplier_11 (by decide) ?_ ?_
  · exact pz_sub [] rfl (S_X11_setMultiplier_b24 X n)
  · refine pz_iload 5 dX11_setMultiplier_14 rfl ?_
    refine pz_iload 6 dX11_setMultiplier_16 rfl ?_
    refine pz_csI (st := []) (md_X11_isGiven X n l4 l5) mk_X11_isGiven (Or.inl pw_810) pw_811 rfl rfl (by decide) (by decide) (by decide) dX11_setMultiplier_18 (fun x2 => ?_)
    refine pz_if_ne 26 dX11_setMultiplier_21 (by decide) ?_ ?_
    · exact pz_sub [] rfl (S_X11_setMultiplier_b24 X n)
    · refine pz_aload 0 dX11_setMultiplier_26 rfl ?_
      refine pz_iload 5 dX11_setMultiplier_28 rfl ?_
      refine pz_i2l dX11_setMultiplier_30 ?_
      refine pz_iload 6 dX11_setMultiplier_31 rfl ?_
      refine pz_i2l dX11_setMultiplier_33 ?_
      refine pz_cvU (st := []) (md_X3_setSmall X n x1 (Int32.toInt64 l4) (Int32.toInt64 l5)) ck_3 rfl mk_X3_setSmall (Or.inl pw_815) pw_520 pw_521 rfl rfl (by decide) (by decide) (by decide) dX11_setMultiplier_34 (fun _ => ?_)
      refine pz_iconst 0 dX11_setMultiplier_37 (by decide) ?_
      exact pz_iret rfl dX11_setMultiplier_38
set_option maxRecDepth 20000 in
theorem md_X11_setMultiplier (X : pz_X) (n : Nat) (l0 : Option Nat) (l1 : Int32) (l2 : Int32) (l3 : Int32) (l4 : Int32) (l5 : Int32) : pz_Md X yX11_setMultiplier J_X11_setMultiplier pz_vI [va_rf l0, .int l1, .int l2, .int l3, .int l4, .int l5] (X11_setMultiplier n l0 l1 l2 l3 l4 l5) :=
  pz_md [(0, va_rf l0), (1, .int l1), (2, .int l2), (3, .int l3), (4, .int l4), (5, .int l5)] (by decide +kernel) rfl rfl (by cases l0 <;> rfl) (by cases l0 <;> exact Nat.le_of_ble_eq_true rfl) (fun X => S_X11_setMultiplier X n l0 l1 l2 l3 l4 l5)
set_option maxRecDepth 20000 in
theorem S_X12_setMultiplier_b25 (X : pz_X) (n : Nat) : pz_Sm X (pz_QM X) J_X12_setMultiplier pz_vI 25 [] [] (X12_setMultiplier_b25 n) := by
  unfold X12_setMultiplier_b25
  refine pz_iconst (-1) dX12_setMultiplier_25 (by decide) ?_
  exact pz_iret rfl dX12_setMultiplier_26
set_option maxRecDepth 20000 in
theorem S_X12_setMultiplier (X : pz_X) (n : Nat) (l0 : Option Nat) (l1 : Int32) (l2 : Int32) (l3 : Int32) (l4 : Int32) (l5 : Int32) : pz_Sm X (pz_QM X) J_X12_setMultiplier pz_vI 0 [(0, va_rf l0), (1, .int l1), (2, .int l2), (3, .int l3), (4, .int l4), (5, .int l5)] [] (X12_setMultiplier n l0 l1 l2 l3 l4 l5) := by
  unfold X12_setMultiplier
  refine pz_aload_n 0 dX12_setMultiplier_0 rfl ?_
  refine pz_iload_n 1 dX12_setMultiplier_1 rfl ?_
  refine pz_iload_n 2 dX12_setMultiplier_2 rfl ?_
  refine pz_iload_n 3 dX12_setMultiplier_3 rfl ?_
  refine pz_cvI (st := []) (md_X12_numberOf X n l0 l1 l2 l3) ck_12 rfl mk_X12_numberOf (Or.inl pw_1310) pw_1312 ps_75 rfl rfl (by decide) (by decide) (by decide) dX12_setMultiplier_4 (fun x1 => ?_)
  refine pz_istore [(6, .int x1), (0, va_rf l0), (1, .int l1), (2, .int l2), (3, .int l3), (4, .int l4), (5, .int l5)] dX12_setMultiplier_7 (by decide) rfl ?_
  refine pz_iload 0 dX12_setMultiplier_9 rfl ?_
  refine pz_iconst (-1) dX12_setMultiplier_11 (by decide) ?_
  refine pz_icmp_eq 25 dX12_setMultiplier_12 (by decide) ?_ ?_
  · exact pz_sub [] rfl (S_X12_setMultiplier_b25 X n)
  · refine pz_iload 5 dX12_setMultiplier_15 rfl ?_
    refine pz_iload 6 dX12_setMultiplier_17 rfl ?_
    refine pz_csI (st := []) (md_X12_isFraction X n l4 l5) mk_X12_isFraction (Or.inl pw_1270) pw_1271 rfl rfl (by decide) (by decide) (by decide) dX12_setMultiplier_19 (fun x2 => ?_)
    refine pz_if_ne 27 dX12_setMultiplier_22 (by decide) ?_ ?_
    · exact pz_sub [] rfl (S_X12_setMultiplier_b25 X n)
    · refine pz_aload_n 1 dX12_setMultiplier_27 rfl ?_
      refine pz_aload_n 1 dX12_setMultiplier_28 rfl ?_
      refine pz_getR (ci := 12) (k := 22) ck_12 (by decide) (Or.inl pw_954) dX12_setMultiplier_29 (fun x3 => ?_)
      refine pz_iload_n 2 dX12_setMultiplier_32 rfl ?_
      refine pz_iald (t := 0) rfl dX12_setMultiplier_33 (fun x4 => ?_)
      refine pz_iload 0 dX12_setMultiplier_34 rfl ?_
      refine pz_iconst 0 dX12_setMultiplier_36 (by decide) ?_
      refine pz_csI (st := [va_rf l0]) (md_X12_multiplierAt X n x4 x1 0) mk_X12_multiplierAt (Or.inl pw_1090) pw_1091 rfl rfl (by simp [pz_rf1, pz_ci, pz_cl]) (by decide) (by decide) dX12_setMultiplier_37 (fun x5 => ?_)
      refine pz_iload 5 dX12_setMultiplier_40 rfl ?_
      refine pz_i2l dX12_setMultiplier_42 ?_
      refine pz_cvU (st := []) (md_X12_setWhole X n l0 x5 (Int32.toInt64 l4)) ck_12 rfl mk_X12_setWhole (Or.inl pw_915) pw_917 ps_29 rfl rfl (by decide) (by decide) (by decide) dX12_setMultiplier_43 (fun _ => ?_)
      refine pz_aload_n 1 dX12_setMultiplier_46 rfl ?_
      refine pz_aload_n 1 dX12_setMultiplier_47 rfl ?_
      refine pz_getR (ci := 12) (k := 22) ck_12 (by decide) (Or.inl pw_954) dX12_setMultiplier_48 (fun x7 => ?_)
      refine pz_iload_n 2 dX12_setMultiplier_51 rfl ?_
      refine pz_iald (t := 0) rfl dX12_setMultiplier_52 (fun x8 => ?_)
      refine pz_iload 0 dX12_setMultiplier_53 rfl ?_
      refine pz_iconst 1 dX12_setMultiplier_55 (by decide) ?_
      refine pz_csI (st := [va_rf l0]) (md_X12_multiplierAt X n x8 x1 1) mk_X12_multiplierAt (Or.inl pw_1090) pw_1091 rfl rfl (by simp [pz_rf1, pz_ci, pz_cl]) (by decide) (by decide) dX12_setMultiplier_56 (fun x9 => ?_)
      refine pz_iload 6 dX12_setMultiplier_59 rfl ?_
      refine pz_i2l dX12_setMultiplier_61 ?_
      refine pz_cvU (st := []) (md_X12_setWhole X n l0 x9 (Int32.toInt64 l5)) ck_12 rfl mk_X12_setWhole (Or.inl pw_915) pw_917 ps_29 rfl rfl (by decide) (by decide) (by decide) dX12_setMultiplier_62 (fun _ => ?_)
      refine pz_iconst 0 dX12_setMultiplier_65 (by decide) ?_
      exact pz_iret rfl dX12_setMultiplier_66
set_option maxRecDepth 20000 in
theorem md_X12_setMultiplier (X : pz_X) (n : Nat) (l0 : Option Nat) (l1 : Int32) (l2 : Int32) (l3 : Int32) (l4 : Int32) (l5 : Int32) : pz_Md X yX12_setMultiplier J_X12_setMultiplier pz_vI [va_rf l0, .int l1, .int l2, .int l3, .int l4, .int l5] (X12_setMultiplier n l0 l1 l2 l3 l4 l5) :=
  pz_md [(0, va_rf l0), (1, .int l1), (2, .int l2), (3, .int l3), (4, .int l4), (5, .int l5)] (by decide +kernel) rfl rfl (by cases l0 <;> rfl) (by cases l0 <;> exact Nat.le_of_ble_eq_true rfl) (fun X => S_X12_setMultiplier X n l0 l1 l2 l3 l4 l5)
set_option maxRecDepth 20000 in
theorem S_X11_setSplit_b34 (X : pz_X) (n : Nat) : pz_Sm X (pz_QM X) J_X11_setSplit pz_vI 34 [] [] (X11_setSplit_b34 n) := by
  unfold X11_setSplit_b34
  refine pz_iconst (-1) dX11_setSplit_34 (by decide) ?_
  exact pz_iret rfl dX11_setSplit_35
set_option maxRecDepth 20000 in
theorem S_X11_setSplit (X : pz_X) (n : Nat) (l0 : Option Nat) (l1 : Int32) (l2 : Int32) : pz_Sm X (pz_QM X) J_X11_setSplit pz_vI 0 [(0, va_rf l0), (1, .int l1), (2, .int l2)] [] (X11_setSplit n l0 l1 l2) := by
  unfold X11_setSplit
  refine pz_aload_n 0 dX11_setSplit_0 rfl ?_
  refine pz_getR (ci := 11) (k := 4) ck_11 (by decide) (Or.inl pw_404) dX11_setSplit_1 (fun x1 => ?_)
  refine pz_iload_n 1 dX11_setSplit_4 rfl ?_
  refine pz_cvI (st := []) (md_X10_has X n x1 l1) ck_10 rfl mk_X10_has (Or.inl pw_852) pw_499 pw_500 rfl rfl (by decide) (by decide) (by decide) dX11_setSplit_5 (fun x2 => ?_)
  refine pz_if_eq 34 dX11_setSplit_8 (by decide) ?_ ?_
  · exact pz_sub [] rfl (S_X11_setSplit_b34 X n)
  · refine pz_aload_n 0 dX11_setSplit_11 rfl ?_
    refine pz_getR (ci := 11) (k := 4) ck_11 (by decide) (Or.inl pw_404) dX11_setSplit_12 (fun x3 => ?_)
    refine pz_iload_n 1 dX11_setSplit_15 rfl ?_
    refine pz_cvI (st := []) (md_X10_isSplit X n x3 l1) ck_10 rfl mk_X10_isSplit (Or.inl pw_854) pw_722 pw_723 rfl rfl (by decide) (by decide) (by decide) dX11_setSplit_16 (fun x4 => ?_)
    refine pz_if_eq 34 dX11_setSplit_19 (by decide) ?_ ?_
    · exact pz_sub [] rfl (S_X11_setSplit_b34 X n)
    · refine pz_iload_n 2 dX11_setSplit_22 rfl ?_
      refine pz_ldc (-1000000000) dX11_setSplit_23 pw_813 ?_
      refine pz_icmp_lt 34 dX11_setSplit_25 (by decide) ?_ ?_
      · exact pz_sub [] rfl (S_X11_setSplit_b34 X n)
      · refine pz_iload_n 2 dX11_setSplit_28 rfl ?_
        refine pz_ldc 1000000000 dX11_setSplit_29 pw_814 ?_
        refine pz_icmp_le 36 dX11_setSplit_31 (by decide) ?_ ?_
        · refine pz_aload_n 0 dX11_setSplit_36 rfl ?_
          refine pz_getR (ci := 11) (k := 4) ck_11 (by decide) (Or.inl pw_404) dX11_setSplit_37 (fun x5 => ?_)
          refine pz_getR (ci := 10) (k := 5) ck_10 (by decide) (Or.inl pw_230) dX11_setSplit_40 (fun x6 => ?_)
          refine pz_iload_n 1 dX11_setSplit_43 rfl ?_
          refine pz_iload_n 2 dX11_setSplit_44 rfl ?_
          refine pz_i2l dX11_setSplit_45 ?_
          refine pz_last (t := 2) rfl dX11_setSplit_46 ?_
          refine pz_iconst 0 dX11_setSplit_47 (by decide) ?_
          exact pz_iret rfl dX11_setSplit_48
        · exact pz_sub [] rfl (S_X11_setSplit_b34 X n)
set_option maxRecDepth 20000 in
theorem md_X11_setSplit (X : pz_X) (n : Nat) (l0 : Option Nat) (l1 : Int32) (l2 : Int32) : pz_Md X yX11_setSplit J_X11_setSplit pz_vI [va_rf l0, .int l1, .int l2] (X11_setSplit n l0 l1 l2) :=
  pz_md [(0, va_rf l0), (1, .int l1), (2, .int l2)] (by decide +kernel) rfl rfl (by cases l0 <;> rfl) (by cases l0 <;> exact Nat.le_of_ble_eq_true rfl) (fun X => S_X11_setSplit X n l0 l1 l2)
set_option maxRecDepth 20000 in
theorem S_X12_setSplit_b39 (X : pz_X) (n : Nat) : pz_Sm X (pz_QM X) J_X12_setSplit pz_vI 39 [] [] (X12_setSplit_b39 n) := by
  unfold X12_setSplit_b39
  refine pz_iconst (-1) dX12_setSplit_39 (by decide) ?_
  exact pz_iret rfl dX12_setSplit_40
set_option maxRecDepth 20000 in
theorem S_X12_setSplit_b25 (X : pz_X) (n : Nat) (l0 : Option Nat) (l1 : Int32) (l2 : Int32) (s0 : Option Nat) (s1 : Int32) : pz_Sm X (pz_QM X) J_X12_setSplit pz_vI 25 [(0, va_rf l0), (1, .int l1), (2, .int l2)] [.int s1, va_rf s0] (X12_setSplit_b25 n l0 l1 l2 s0 s1) := by
  unfold X12_setSplit_b25
  refine pz_zald (t := 1) rfl dX12_setSplit_25 (fun x4 => ?_)
  refine pz_if_eq 39 dX12_setSplit_26 (by decide) ?_ ?_
  · exact pz_sub [] rfl (S_X12_setSplit_b39 X n)
  · refine pz_iload_n 2 dX12_setSplit_29 rfl ?_
    refine pz_ldcw 1000000000 dX12_setSplit_30 pw_1273 ?_
    refine pz_csI (st := []) (md_X12_within X n l2 1000000000) mk_X12_within (Or.inl pw_1061) pw_1062 rfl rfl (by decide) (by decide) (by decide) dX12_setSplit_33 (fun x5 => ?_)
    refine pz_if_ne 41 dX12_setSplit_36 (by decide) ?_ ?_
    · exact pz_sub [] rfl (S_X12_setSplit_b39 X n)
    · refine pz_aload_n 0 dX12_setSplit_41 rfl ?_
      refine pz_iload_n 1 dX12_setSplit_42 rfl ?_
      refine pz_csI (st := [va_rf l0]) (md_X12_splitAt X n l1) mk_X12_splitAt (Or.inl pw_1224) pw_1225 rfl rfl (by simp [pz_rf1, pz_ci, pz_cl]) (by decide) (by decide) dX12_setSplit_43 (fun x6 => ?_)
      refine pz_iload_n 2 dX12_setSplit_46 rfl ?_
      refine pz_i2l dX12_setSplit_47 ?_
      refine pz_cvU (st := []) (md_X12_setWhole X n l0 x6 (Int32.toInt64 l2)) ck_12 rfl mk_X12_setWhole (Or.inl pw_915) pw_917 ps_29 rfl rfl (by decide) (by decide) (by decide) dX12_setSplit_48 (fun _ => ?_)
      refine pz_iconst 0 dX12_setSplit_51 (by decide) ?_
      exact pz_iret rfl dX12_setSplit_52
set_option maxRecDepth 20000 in
theorem S_X12_setSplit (X : pz_X) (n : Nat) (l0 : Option Nat) (l1 : Int32) (l2 : Int32) : pz_Sm X (pz_QM X) J_X12_setSplit pz_vI 0 [(0, va_rf l0), (1, .int l1), (2, .int l2)] [] (X12_setSplit n l0 l1 l2) := by
  unfold X12_setSplit
  refine pz_aload_n 0 dX12_setSplit_0 rfl ?_
  refine pz_iload_n 1 dX12_setSplit_1 rfl ?_
  refine pz_cvI (st := []) (md_X12_isNode X n l0 l1) ck_12 rfl mk_X12_isNode (Or.inl pw_1294) pw_1296 ps_73 rfl rfl (by decide) (by decide) (by decide) dX12_setSplit_2 (fun x1 => ?_)
  refine pz_if_eq 39 dX12_setSplit_5 (by decide) ?_ ?_
  · exact pz_sub [] rfl (S_X12_setSplit_b39 X n)
  · refine pz_aload_n 0 dX12_setSplit_8 rfl ?_
    refine pz_getR (ci := 12) (k := 16) ck_12 (by decide) (Or.inl pw_948) dX12_setSplit_9 (fun x2 => ?_)
    refine pz_aload_n 0 dX12_setSplit_12 rfl ?_
    refine pz_iload_n 1 dX12_setSplit_13 rfl ?_
    refine pz_cvI (st := [va_rf x2]) (md_X12_isNode X n l0 l1) ck_12 rfl mk_X12_isNode (Or.inl pw_1294) pw_1296 ps_73 rfl rfl (by simp [pz_rf1, pz_ci, pz_cl]) (by decide) (by decide) dX12_setSplit_14 (fun x3 => ?_)
    refine pz_if_eq 24 dX12_setSplit_17 (by decide) ?_ ?_
    · refine pz_iconst 0 dX12_setSplit_24 (by decide) ?_
      exact pz_sub [0, 1, 2] rfl (S_X12_setSplit_b25 X n l0 l1 l2 x2 0)
    · refine pz_iload_n 1 dX12_setSplit_20 rfl ?_
      refine pz_goto 25 dX12_setSplit_21 (by decide) ?_
      exact pz_sub [0, 1, 2] rfl (S_X12_setSplit_b25 X n l0 l1 l2 x2 l1)
set_option maxRecDepth 20000 in
theorem md_X12_setSplit (X : pz_X) (n : Nat) (l0 : Option Nat) (l1 : Int32) (l2 : Int32) : pz_Md X yX12_setSplit J_X12_setSplit pz_vI [va_rf l0, .int l1, .int l2] (X12_setSplit n l0 l1 l2) :=
  pz_md [(0, va_rf l0), (1, .int l1), (2, .int l2)] (by decide +kernel) rfl rfl (by cases l0 <;> rfl) (by cases l0 <;> exact Nat.le_of_ble_eq_true rfl) (fun X => S_X12_setSplit X n l0 l1 l2)
set_option maxRecDepth 20000 in
theorem S_X4_haveRightSigns_b155 (X : pz_X) (n : Nat) : pz_Sm X (pz_QM X) J_X4_haveRightSigns pz_vI 155 [] [] (X4_haveRightSigns_b155 n) := by
  unfold X4_haveRightSigns_b155
  refine pz_iconst 0 dX4_haveRightSigns_155 (by decide) ?_
  exact pz_zret rfl dX4_haveRightSigns_156
set_option maxRecDepth 20000 in
theorem S_X4_haveRightSigns_b157 (X : pz_X) (n : Nat) (l0 : Option Nat) (l1 : Option Nat) (K69 : Int32 → pz_C Int32) (hK69 : ∀ (l2 : Int32), pz_Sm X (pz_QM X) J_X4_haveRightSigns pz_vI 69 [(0, va_rf l0), (1, va_rf l1), (2, .int l2)] [] (K69 l2)) (l2 : Int32) : pz_Sm X (pz_QM X) J_X4_haveRightSigns pz_vI 157 [(0, va_rf l0), (1, va_rf l1), (2, .int l2)] [] (X4_haveRightSigns_b157 n K69 l0 l1 l2) := by
  unfold X4_haveRightSigns_b157
  refine pz_iinc 2 1 (fun l2_13 => [(2, .int l2_13), (0, va_rf l0), (1, va_rf l1)]) dX4_haveRightSigns_157 rfl (by decide) (by decide) (fun l2_13 => (by cases l1 <;> rfl)) (fun l2_13 => ?_)
  refine pz_goto 69 dX4_haveRightSigns_160 (by decide) ?_
  exact pz_sub [1, 2, 0] rfl (hK69 l2_13)
set_option maxRecDepth 20000 in
theorem S_X4_haveRightSigns_b133 (X : pz_X) (n : Nat) (l0 : Option Nat) (l1 : Option Nat) (K69 : Int32 → pz_C Int32) (hK69 : ∀ (l2 : Int32), pz_Sm X (pz_QM X) J_X4_haveRightSigns pz_vI 69 [(0, va_rf l0), (1, va_rf l1), (2, .int l2)] [] (K69 l2)) (l2 : Int32) (l4 : Int32) : pz_Sm X (pz_QM X) J_X4_haveRightSigns pz_vI 133 [(0, va_rf l0), (1, va_rf l1), (2, .int l2), (4, .int l4)] [] (X4_haveRightSigns_b133 n K69 l0 l1 l2 l4) := by
  unfold X4_haveRightSigns_b133
  refine pz_iload 3 dX4_haveRightSigns_133 rfl ?_
  refine pz_if_gt 155 dX4_haveRightSigns_135 (by decide) ?_ ?_
  · exact pz_sub [] rfl (S_X4_haveRightSigns_b155 X n)
  · refine pz_iload 3 dX4_haveRightSigns_138 rfl ?_
    refine pz_if_ge 157 dX4_haveRightSigns_140 (by decide) ?_ ?_
    · exact pz_sub [0, 1, 2] rfl (S_X4_haveRightSigns_b157 X n l0 l1 K69 hK69 l2)
    · refine pz_aload_n 0 dX4_haveRightSigns_143 rfl ?_
      refine pz_getR (ci := 4) (k := 5) ck_4 (by decide) (Or.inl pw_350) dX4_haveRightSigns_144 (fun x14 => ?_)
      refine pz_getR (ci := 1) (k := 1) ck_1 (by decide) (Or.inl pw_283) dX4_haveRightSigns_147 (fun x15 => ?_)
      refine pz_iload_n 2 dX4_haveRightSigns_150 rfl ?_
      refine pz_zald (t := 1) rfl dX4_haveRightSigns_151 (fun x16 => ?_)
      refine pz_if_ne 157 dX4_haveRightSigns_152 (by decide) ?_ ?_
      · exact pz_sub [] rfl (S_X4_haveRightSigns_b155 X n)
      · exact pz_sub [0, 1, 2] rfl (S_X4_haveRightSigns_b157 X n l0 l1 K69 hK69 l2)
set_option maxRecDepth 20000 in
theorem S_X4_haveRightSigns_L69_body (X : pz_X) (n : Nat) (l0 : Option Nat) (l1 : Option Nat) (K69 : Int32 → pz_C Int32) (hK69 : ∀ (l2 : Int32), pz_Sm X (pz_QM X) J_X4_haveRightSigns pz_vI 69 [(0, va_rf l0), (1, va_rf l1), (2, .int l2)] [] (K69 l2)) (l2 : Int32) : pz_Sm X (pz_QM X) J_X4_haveRightSigns pz_vI 69 [(0, va_rf l0), (1, va_rf l1), (2, .int l2)] [] (X4_haveRightSigns_L69_body n l0 l1 K69 l2) := by
  unfold X4_haveRightSigns_L69_body
  refine pz_iload_n 2 dX4_haveRightSigns_69 rfl ?_
  refine pz_aload_n 0 dX4_haveRightSigns_70 rfl ?_
  refine pz_getR (ci := 4) (k := 0) ck_4 (by decide) (Or.inl pw_345) dX4_haveRightSigns_71 (fun x3 => ?_)
  refine pz_getI (ci := 6) (k := 5) ck_6 (by decide) (Or.inl pw_49) dX4_haveRightSigns_74 (fun x4 => ?_)
  refine pz_icmp_ge 163 dX4_haveRightSigns_77 (by decide) ?_ ?_
  · refine pz_iconst 1 dX4_haveRightSigns_163 (by decide) ?_
    exact pz_zret rfl dX4_haveRightSigns_164
  · refine pz_aload_n 1 dX4_haveRightSigns_80 rfl ?_
    refine pz_getR (ci := 5) (k := 0) ck_5 (by decide) (Or.inl pw_510) dX4_haveRightSigns_81 (fun x5 => ?_)
    refine pz_bipush 12 dX4_haveRightSigns_84 (by decide) ?_
    refine pz_iload_n 2 dX4_haveRightSigns_86 rfl ?_
    refine pz_iadd dX4_haveRightSigns_87 ?_
    refine pz_aald (t := 4) rfl rfl dX4_haveRightSigns_88 (fun x6 => ?_)
    refine pz_getR (ci := 3) (k := 0) ck_3 (by decide) (Or.inl pw_388) dX4_haveRightSigns_89 (fun x7 => ?_)
    refine pz_getI (ci := 0) (k := 2) ck_0 (by decide) (Or.inl pw_97) dX4_haveRightSigns_92 (fun x8 => ?_)
    refine pz_istore_n [(3, .int x8), (0, va_rf l0), (1, va_rf l1), (2, .int l2)] dX4_haveRightSigns_95 (by decide) rfl ?_
    refine pz_aload_n 2 dX4_haveRightSigns_96 rfl ?_
    refine pz_getR (ci := 5) (k := 0) ck_5 (by decide) (Or.inl pw_510) dX4_haveRightSigns_97 (fun x9 => ?_)
    refine pz_bipush 22 dX4_haveRightSigns_100 (by decide) ?_
    refine pz_iload_n 3 dX4_haveRightSigns_102 rfl ?_
    refine pz_iadd dX4_haveRightSigns_103 ?_
    refine pz_aald (t := 4) rfl rfl dX4_haveRightSigns_104 (fun x10 => ?_)
    refine pz_getR (ci := 3) (k := 0) ck_3 (by decide) (Or.inl pw_388) dX4_haveRightSigns_105 (fun x11 => ?_)
    refine pz_getI (ci := 0) (k := 2) ck_0 (by decide) (Or.inl pw_97) dX4_haveRightSigns_108 (fun x12 => ?_)
    refine pz_istore [(4, .int x12), (3, .int x8), (0, va_rf l0), (1, va_rf l1), (2, .int l2)] dX4_haveRightSigns_111 (by decide) rfl ?_
    refine pz_iload_n 1 dX4_haveRightSigns_113 rfl ?_
    refine pz_if_lt 155 dX4_haveRightSigns_114 (by decide) ?_ ?_
    · exact pz_sub [] rfl (S_X4_haveRightSigns_b155 X n)
    · refine pz_iload_n 1 dX4_haveRightSigns_117 rfl ?_
      refine pz_if_le 133 dX4_haveRightSigns_118 (by decide) ?_ ?_
      · exact pz_sub [2, 3, 4, 0] rfl (S_X4_haveRightSigns_b133 X n l0 l1 K69 hK69 l2 x12)
      · refine pz_aload_n 2 dX4_haveRightSigns_121 rfl ?_
        refine pz_getR (ci := 4) (k := 5) ck_4 (by decide) (Or.inl pw_350) dX4_haveRightSigns_122 (fun x17 => ?_)
        refine pz_getR (ci := 1) (k := 0) ck_1 (by decide) (Or.inl pw_280) dX4_haveRightSigns_125 (fun x18 => ?_)
        refine pz_iload_n 4 dX4_haveRightSigns_128 rfl ?_
        refine pz_zald (t := 1) rfl dX4_haveRightSigns_129 (fun x19 => ?_)
        refine pz_if_eq 155 dX4_haveRightSigns_130 (by decide) ?_ ?_
        · exact pz_sub [] rfl (S_X4_haveRightSigns_b155 X n)
        · exact pz_sub [2, 3, 4, 0] rfl (S_X4_haveRightSigns_b133 X n l0 l1 K69 hK69 l2 x12)
set_option maxRecDepth 20000 in
theorem S_X4_haveRightSigns_L69 (X : pz_X) (n : Nat) (l0 : Option Nat) (l1 : Option Nat) (l2 : Int32) : pz_Sm X (pz_QM X) J_X4_haveRightSigns pz_vI 69 [(0, va_rf l0), (1, va_rf l1), (2, .int l2)] [] (X4_haveRightSigns_L69 n l0 l1 l2) :=
  pz_lp (L := fun (s : Int32) => [(0, va_rf l0), (1, va_rf l1), (2, .int s)]) (fun K hK s => S_X4_haveRightSigns_L69_body X n l0 l1 (fun l2 => K l2) (fun l2 => hK l2) s) n l2
set_option maxRecDepth 20000 in
theorem S_X4_haveRightSigns_b61 (X : pz_X) (n : Nat) (l0 : Option Nat) (l1 : Option Nat) (K2 : Int32 → pz_C Int32) (hK2 : ∀ (l2 : Int32), pz_Sm X (pz_QM X) J_X4_haveRightSigns pz_vI 2 [(0, va_rf l0), (1, va_rf l1), (2, .int l2)] [] (K2 l2)) (l2 : Int32) : pz_Sm X (pz_QM X) J_X4_haveRightSigns pz_vI 61 [(0, va_rf l0), (1, va_rf l1), (2, .int l2)] [] (X4_haveRightSigns_b61 n K2 l0 l1 l2) := by
  unfold X4_haveRightSigns_b61
  refine pz_iinc 2 1 (fun l2_24 => [(2, .int l2_24), (0, va_rf l0), (1, va_rf l1)]) dX4_haveRightSigns_61 rfl (by decide) (by decide) (fun l2_24 => (by cases l1 <;> rfl)) (fun l2_24 => ?_)
  refine pz_goto 2 dX4_haveRightSigns_64 (by decide) ?_
  exact pz_sub [1, 2, 0] rfl (hK2 l2_24)
set_option maxRecDepth 20000 in
theorem S_X4_haveRightSigns_b59 (X : pz_X) (n : Nat) : pz_Sm X (pz_QM X) J_X4_haveRightSigns pz_vI 59 [] [] (X4_haveRightSigns_b59 n) := by
  unfold X4_haveRightSigns_b59
  refine pz_iconst 0 dX4_haveRightSigns_59 (by decide) ?_
  exact pz_zret rfl dX4_haveRightSigns_60
set_option maxRecDepth 20000 in
theorem S_X4_haveRightSigns_b42 (X : pz_X) (n : Nat) (l0 : Option Nat) (l1 : Option Nat) (K2 : Int32 → pz_C Int32) (hK2 : ∀ (l2 : Int32), pz_Sm X (pz_QM X) J_X4_haveRightSigns pz_vI 2 [(0, va_rf l0), (1, va_rf l1), (2, .int l2)] [] (K2 l2)) (l2 : Int32) (l3 : Int32) : pz_Sm X (pz_QM X) J_X4_haveRightSigns pz_vI 42 [(0, va_rf l0), (1, va_rf l1), (2, .int l2), (3, .int l3)] [] (X4_haveRightSigns_b42 n K2 l0 l1 l2 l3) := by
  unfold X4_haveRightSigns_b42
  refine pz_iload_n 3 dX4_haveRightSigns_42 rfl ?_
  refine pz_if_le 61 dX4_haveRightSigns_43 (by decide) ?_ ?_
  · exact pz_sub [0, 1, 2] rfl (S_X4_haveRightSigns_b61 X n l0 l1 K2 hK2 l2)
  · refine pz_aload_n 0 dX4_haveRightSigns_46 rfl ?_
    refine pz_getR (ci := 4) (k := 0) ck_4 (by decide) (Or.inl pw_345) dX4_haveRightSigns_47 (fun x25 => ?_)
    refine pz_getR (ci := 6) (k := 1) ck_6 (by decide) (Or.inl pw_36) dX4_haveRightSigns_50 (fun x26 => ?_)
    refine pz_iload_n 2 dX4_haveRightSigns_53 rfl ?_
    refine pz_iald (t := 0) rfl dX4_haveRightSigns_54 (fun x27 => ?_)
    refine pz_iconst 1 dX4_haveRightSigns_55 (by decide) ?_
    refine pz_icmp_ne 61 dX4_haveRightSigns_56 (by decide) ?_ ?_
    · exact pz_sub [] rfl (S_X4_haveRightSigns_b59 X n)
    · exact pz_sub [0, 1, 2] rfl (S_X4_haveRightSigns_b61 X n l0 l1 K2 hK2 l2)
set_option maxRecDepth 20000 in
theorem S_X4_haveRightSigns_L2_body (X : pz_X) (n : Nat) (l0 : Option Nat) (l1 : Option Nat) (K2 : Int32 → pz_C Int32) (hK2 : ∀ (l2 : Int32), pz_Sm X (pz_QM X) J_X4_haveRightSigns pz_vI 2 [(0, va_rf l0), (1, va_rf l1), (2, .int l2)] [] (K2 l2)) (l2 : Int32) : pz_Sm X (pz_QM X) J_X4_haveRightSigns pz_vI 2 [(0, va_rf l0), (1, va_rf l1), (2, .int l2)] [] (X4_haveRightSigns_L2_body n l0 l1 K2 l2) := by
  unfold X4_haveRightSigns_L2_body
  refine pz_iload_n 2 dX4_haveRightSigns_2 rfl ?_
  refine pz_aload_n 0 dX4_haveRightSigns_3 rfl ?_
  refine pz_getR (ci := 4) (k := 0) ck_4 (by decide) (Or.inl pw_345) dX4_haveRightSigns_4 (fun x1 => ?_)
  refine pz_getI (ci := 6) (k := 6) ck_6 (by decide) (Or.inl pw_55) dX4_haveRightSigns_7 (fun x2 => ?_)
  refine pz_icmp_ge 67 dX4_haveRightSigns_10 (by decide) ?_ ?_
  · refine pz_iconst 0 dX4_haveRightSigns_67 (by decide) ?_
    refine pz_istore_n [(2, .int 0), (0, va_rf l0), (1, va_rf l1)] dX4_haveRightSigns_68 (by decide) (by cases l1 <;> rfl) ?_
    exact pz_sub [1, 2, 0] rfl (S_X4_haveRightSigns_L69 X n l0 l1 0)
  · refine pz_aload_n 1 dX4_haveRightSigns_13 rfl ?_
    refine pz_getR (ci := 5) (k := 0) ck_5 (by decide) (Or.inl pw_510) dX4_haveRightSigns_14 (fun x20 => ?_)
    refine pz_iload_n 2 dX4_haveRightSigns_17 rfl ?_
    refine pz_aald (t := 4) rfl rfl dX4_haveRightSigns_18 (fun x21 => ?_)
    refine pz_getR (ci := 3) (k := 0) ck_3 (by decide) (Or.inl pw_388) dX4_haveRightSigns_19 (fun x22 => ?_)
    refine pz_getI (ci := 0) (k := 2) ck_0 (by decide) (Or.inl pw_97) dX4_haveRightSigns_22 (fun x23 => ?_)
    refine pz_istore_n [(3, .int x23), (0, va_rf l0), (1, va_rf l1), (2, .int l2)] dX4_haveRightSigns_25 (by decide) rfl ?_
    refine pz_iload_n 0 dX4_haveRightSigns_26 rfl ?_
    refine pz_if_ge 42 dX4_haveRightSigns_27 (by decide) ?_ ?_
    · exact pz_sub [1, 2, 3, 0] rfl (S_X4_haveRightSigns_b42 X n l0 l1 K2 hK2 l2 x23)
    · refine pz_aload_n 1 dX4_haveRightSigns_30 rfl ?_
      refine pz_getR (ci := 4) (k := 0) ck_4 (by decide) (Or.inl pw_345) dX4_haveRightSigns_31 (fun x28 => ?_)
      refine pz_getR (ci := 6) (k := 1) ck_6 (by decide) (Or.inl pw_36) dX4_haveRightSigns_34 (fun x29 => ?_)
      refine pz_iload_n 3 dX4_haveRightSigns_37 rfl ?_
      refine pz_iald (t := 0) rfl dX4_haveRightSigns_38 (fun x30 => ?_)
      refine pz_if_eq 59 dX4_haveRightSigns_39 (by decide) ?_ ?_
      · exact pz_sub [] rfl (S_X4_haveRightSigns_b59 X n)
      · exact pz_sub [1, 2, 3, 0] rfl (S_X4_haveRightSigns_b42 X n l0 l1 K2 hK2 l2 x23)
set_option maxRecDepth 20000 in
theorem S_X4_haveRightSigns_L2 (X : pz_X) (n : Nat) (l0 : Option Nat) (l1 : Option Nat) (l2 : Int32) : pz_Sm X (pz_QM X) J_X4_haveRightSigns pz_vI 2 [(0, va_rf l0), (1, va_rf l1), (2, .int l2)] [] (X4_haveRightSigns_L2 n l0 l1 l2) :=
  pz_lp (L := fun (s : Int32) => [(0, va_rf l0), (1, va_rf l1), (2, .int s)]) (fun K hK s => S_X4_haveRightSigns_L2_body X n l0 l1 (fun l2 => K l2) (fun l2 => hK l2) s) n l2
set_option maxRecDepth 20000 in
theorem S_X4_haveRightSigns (X : pz_X) (n : Nat) (l0 : Option Nat) (l1 : Option Nat) : pz_Sm X (pz_QM X) J_X4_haveRightSigns pz_vI 0 [(0, va_rf l0), (1, va_rf l1)] [] (X4_haveRightSigns n l0 l1) := by
  unfold X4_haveRightSigns
  refine pz_iconst 0 dX4_haveRightSigns_0 (by decide) ?_
  refine pz_istore_n [(2, .int 0), (0, va_rf l0), (1, va_rf l1)] dX4_haveRightSigns_1 (by decide) (by cases l1 <;> rfl) ?_
  exact pz_sub [1, 2, 0] rfl (S_X4_haveRightSigns_L2 X n l0 l1 0)
set_option maxRecDepth 20000 in
theorem md_X4_haveRightSigns (X : pz_X) (n : Nat) (l0 : Option Nat) (l1 : Option Nat) : pz_Md X yX4_haveRightSigns J_X4_haveRightSigns pz_vI [va_rf l0, va_rf l1] (X4_haveRightSigns n l0 l1) :=
  pz_md [(0, va_rf l0), (1, va_rf l1)] (by decide +kernel) rfl rfl (by cases l0 <;> cases l1 <;> rfl) (by cases l0 <;> cases l1 <;> exact Nat.le_of_ble_eq_true rfl) (fun X => S_X4_haveRightSigns X n l0 l1)
