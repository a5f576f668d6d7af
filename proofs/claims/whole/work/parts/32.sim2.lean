set_option maxRecDepth 20000 in
theorem S_X0_isOne_b30 (X : pz_X) (n : Nat) (s0 : Int32) : pz_Sm X (pz_QM X) J_X0_isOne pz_vI 30 [] [.int s0] (X0_isOne_b30 n s0) := by
  unfold X0_isOne_b30
  exact pz_zret rfl dX0_isOne_30
set_option maxRecDepth 20000 in
theorem S_X0_isOne_b29 (X : pz_X) (n : Nat) : pz_Sm X (pz_QM X) J_X0_isOne pz_vI 29 [] [] (X0_isOne_b29 n) := by
  unfold X0_isOne_b29
  refine pz_iconst 0 dX0_isOne_29 (by decide) ?_
  exact pz_sub [] rfl (S_X0_isOne_b30 X n 0)
set_option maxRecDepth 20000 in
theorem S_X0_isOne (X : pz_X) (n : Nat) (l0 : Option Nat) : pz_Sm X (pz_QM X) J_X0_isOne pz_vI 0 [(0, va_rf l0)] [] (X0_isOne n l0) := by
  unfold X0_isOne
  refine pz_aload_n 0 dX0_isOne_0 rfl ?_
  refine pz_getI (ci := 0) (k := 1) ck_0 (by decide) (Or.inl pw_90) dX0_isOne_1 (fun x1 => ?_)
  refine pz_iconst 1 dX0_isOne_4 (by decide) ?_
  refine pz_icmp_ne 29 dX0_isOne_5 (by decide) ?_ ?_
  · refine pz_aload_n 0 dX0_isOne_8 rfl ?_
    refine pz_getR (ci := 0) (k := 0) ck_0 (by decide) (Or.inl pw_86) dX0_isOne_9 (fun x2 => ?_)
    refine pz_iconst 0 dX0_isOne_12 (by decide) ?_
    refine pz_iald (t := 0) rfl dX0_isOne_13 (fun x3 => ?_)
    refine pz_iconst 1 dX0_isOne_14 (by decide) ?_
    refine pz_icmp_ne 29 dX0_isOne_15 (by decide) ?_ ?_
    · refine pz_aload_n 0 dX0_isOne_18 rfl ?_
      refine pz_getI (ci := 0) (k := 2) ck_0 (by decide) (Or.inl pw_94) dX0_isOne_19 (fun x4 => ?_)
      refine pz_if_le 29 dX0_isOne_22 (by decide) ?_ ?_
      · exact pz_sub [] rfl (S_X0_isOne_b29 X n)
      · refine pz_iconst 1 dX0_isOne_25 (by decide) ?_
        refine pz_goto 30 dX0_isOne_26 (by decide) ?_
        exact pz_sub [] rfl (S_X0_isOne_b30 X n 1)
    · exact pz_sub [] rfl (S_X0_isOne_b29 X n)
  · exact pz_sub [] rfl (S_X0_isOne_b29 X n)
set_option maxRecDepth 20000 in
theorem md_X0_isOne (X : pz_X) (n : Nat) (l0 : Option Nat) : pz_Md X yX0_isOne J_X0_isOne pz_vI [va_rf l0] (X0_isOne n l0) :=
  pz_md [(0, va_rf l0)] (by decide +kernel) rfl rfl (by cases l0 <;> rfl) (by cases l0 <;> exact Nat.le_of_ble_eq_true rfl) (fun X => S_X0_isOne X n l0)
set_option maxRecDepth 20000 in
theorem S_X0_compareSize_b74 (X : pz_X) (n : Nat) (s0 : Int32) : pz_Sm X (pz_QM X) J_X0_compareSize pz_vI 74 [] [.int s0] (X0_compareSize_b74 n s0) := by
  unfold X0_compareSize_b74
  exact pz_iret rfl dX0_compareSize_74
set_option maxRecDepth 20000 in
theorem S_X0_compareSize_L35_body (X : pz_X) (n : Nat) (l0 : Option Nat) (l1 : Option Nat) (K35 : Int32 → pz_C Int32) (hK35 : ∀ (l2 : Int32), pz_Sm X (pz_QM X) J_X0_compareSize pz_vI 35 [(0, va_rf l0), (1, va_rf l1), (2, .int l2)] [] (K35 l2)) (l2 : Int32) : pz_Sm X (pz_QM X) J_X0_compareSize pz_vI 35 [(0, va_rf l0), (1, va_rf l1), (2, .int l2)] [] (X0_compareSize_L35_body n l0 l1 K35 l2) := by
  unfold X0_compareSize_L35_body
  refine pz_iload_n 2 dX0_compareSize_35 rfl ?_
  refine pz_if_lt 81 dX0_compareSize_36 (by decide) ?_ ?_
  · refine pz_iconst 0 dX0_compareSize_81 (by decide) ?_
    exact pz_iret rfl dX0_compareSize_82
  · refine pz_aload_n 0 dX0_compareSize_39 rfl ?_
    refine pz_getR (ci := 0) (k := 0) ck_0 (by decide) (Or.inl pw_86) dX0_compareSize_40 (fun x5 => ?_)
    refine pz_iload_n 2 dX0_compareSize_43 rfl ?_
    refine pz_iald (t := 0) rfl dX0_compareSize_44 (fun x6 => ?_)
    refine pz_aload_n 1 dX0_compareSize_45 rfl ?_
    refine pz_getR (ci := 0) (k := 0) ck_0 (by decide) (Or.inl pw_86) dX0_compareSize_46 (fun x7 => ?_)
    refine pz_iload_n 2 dX0_compareSize_49 rfl ?_
    refine pz_iald (t := 0) rfl dX0_compareSize_50 (fun x8 => ?_)
    refine pz_icmp_eq 75 dX0_compareSize_51 (by decide) ?_ ?_
    · refine pz_iinc 2 (-1) (fun l2_9 => [(2, .int l2_9), (0, va_rf l0), (1, va_rf l1)]) dX0_compareSize_75 rfl (by decide) (by decide) (fun l2_9 => (by cases l1 <;> rfl)) (fun l2_9 => ?_)
      refine pz_goto 35 dX0_compareSize_78 (by decide) ?_
      exact pz_sub [1, 2, 0] rfl (hK35 l2_9)
    · refine pz_aload_n 0 dX0_compareSize_54 rfl ?_
      refine pz_getR (ci := 0) (k := 0) ck_0 (by decide) (Or.inl pw_86) dX0_compareSize_55 (fun x10 => ?_)
      refine pz_iload_n 2 dX0_compareSize_58 rfl ?_
      refine pz_iald (t := 0) rfl dX0_compareSize_59 (fun x11 => ?_)
      refine pz_aload_n 1 dX0_compareSize_60 rfl ?_
      refine pz_getR (ci := 0) (k := 0) ck_0 (by decide) (Or.inl pw_86) dX0_compareSize_61 (fun x12 => ?_)
      refine pz_iload_n 2 dX0_compareSize_64 rfl ?_
      refine pz_iald (t := 0) rfl dX0_compareSize_65 (fun x13 => ?_)
      refine pz_icmp_ge 73 dX0_compareSize_66 (by decide) ?_ ?_
      · refine pz_iconst 1 dX0_compareSize_73 (by decide) ?_
        exact pz_sub [] rfl (S_X0_compareSize_b74 X n 1)
      · refine pz_iconst (-1) dX0_compareSize_69 (by decide) ?_
        refine pz_goto 74 dX0_compareSize_70 (by decide) ?_
        exact pz_sub [] rfl (S_X0_compareSize_b74 X n (-1))
set_option maxRecDepth 20000 in
theorem S_X0_compareSize_L35 (X : pz_X) (n : Nat) (l0 : Option Nat) (l1 : Option Nat) (l2 : Int32) : pz_Sm X (pz_QM X) J_X0_compareSize pz_vI 35 [(0, va_rf l0), (1, va_rf l1), (2, .int l2)] [] (X0_compareSize_L35 n l0 l1 l2) :=
  pz_lp (L := fun (s : Int32) => [(0, va_rf l0), (1, va_rf l1), (2, .int s)]) (fun K hK s => S_X0_compareSize_L35_body X n l0 l1 (fun l2 => K l2) (fun l2 => hK l2) s) n l2
set_option maxRecDepth 20000 in
theorem S_X0_compareSize_b27 (X : pz_X) (n : Nat) (s0 : Int32) : pz_Sm X (pz_QM X) J_X0_compareSize pz_vI 27 [] [.int s0] (X0_compareSize_b27 n s0) := by
  unfold X0_compareSize_b27
  exact pz_iret rfl dX0_compareSize_27
set_option maxRecDepth 20000 in
theorem S_X0_compareSize (X : pz_X) (n : Nat) (l0 : Option Nat) (l1 : Option Nat) : pz_Sm X (pz_QM X) J_X0_compareSize pz_vI 0 [(0, va_rf l0), (1, va_rf l1)] [] (X0_compareSize n l0 l1) := by
  unfold X0_compareSize
  refine pz_aload_n 0 dX0_compareSize_0 rfl ?_
  refine pz_getI (ci := 0) (k := 1) ck_0 (by decide) (Or.inl pw_90) dX0_compareSize_1 (fun x1 => ?_)
  refine pz_aload_n 1 dX0_compareSize_4 rfl ?_
  refine pz_getI (ci := 0) (k := 1) ck_0 (by decide) (Or.inl pw_90) dX0_compareSize_5 (fun x2 => ?_)
  refine pz_icmp_eq 28 dX0_compareSize_8 (by decide) ?_ ?_
  · refine pz_aload_n 0 dX0_compareSize_28 rfl ?_
    refine pz_getI (ci := 0) (k := 1) ck_0 (by decide) (Or.inl pw_90) dX0_compareSize_29 (fun x3 => ?_)
    refine pz_iconst 1 dX0_compareSize_32 (by decide) ?_
    refine pz_isub dX0_compareSize_33 ?_
    refine pz_nmI (fun l2_4 => ?_)
    refine pz_istore_n [(2, .int l2_4), (0, va_rf l0), (1, va_rf l1)] dX0_compareSize_34 (by decide) (by cases l1 <;> rfl) ?_
    exact pz_sub [1, 2, 0] rfl (S_X0_compareSize_L35 X n l0 l1 l2_4)
  · refine pz_aload_n 0 dX0_compareSize_11 rfl ?_
    refine pz_getI (ci := 0) (k := 1) ck_0 (by decide) (Or.inl pw_90) dX0_compareSize_12 (fun x14 => ?_)
    refine pz_aload_n 1 dX0_compareSize_15 rfl ?_
    refine pz_getI (ci := 0) (k := 1) ck_0 (by decide) (Or.inl pw_90) dX0_compareSize_16 (fun x15 => ?_)
    refine pz_icmp_ge 26 dX0_compareSize_19 (by decide) ?_ ?_
    · refine pz_iconst 1 dX0_compareSize_26 (by decide) ?_
      exact pz_sub [] rfl (S_X0_compareSize_b27 X n 1)
    · refine pz_iconst (-1) dX0_compareSize_22 (by decide) ?_
      refine pz_goto 27 dX0_compareSize_23 (by decide) ?_
      exact pz_sub [] rfl (S_X0_compareSize_b27 X n (-1))
set_option maxRecDepth 20000 in
theorem md_X0_compareSize (X : pz_X) (n : Nat) (l0 : Option Nat) (l1 : Option Nat) : pz_Md X yX0_compareSize J_X0_compareSize pz_vI [va_rf l0, va_rf l1] (X0_compareSize n l0 l1) :=
  pz_md [(0, va_rf l0), (1, va_rf l1)] (by decide +kernel) rfl rfl (by cases l0 <;> cases l1 <;> rfl) (by cases l0 <;> cases l1 <;> exact Nat.le_of_ble_eq_true rfl) (fun X => S_X0_compareSize X n l0 l1)
set_option maxRecDepth 20000 in
theorem S_X0_set_L18_body (X : pz_X) (n : Nat) (l0 : Option Nat) (l1 : Option Nat) (l2 : Int32) (K18 : Int32 → pz_C Unit) (hK18 : ∀ (l3 : Int32), pz_Sm X (pz_QM X) J_X0_set pz_vU 18 [(0, va_rf l0), (1, va_rf l1), (2, .int l2), (3, .int l3)] [] (K18 l3)) (l3 : Int32) : pz_Sm X (pz_QM X) J_X0_set pz_vU 18 [(0, va_rf l0), (1, va_rf l1), (2, .int l2), (3, .int l3)] [] (X0_set_L18_body n l0 l1 l2 K18 l3) := by
  unfold X0_set_L18_body
  refine pz_iload_n 3 dX0_set_18 rfl ?_
  refine pz_aload_n 0 dX0_set_19 rfl ?_
  refine pz_getI (ci := 0) (k := 1) ck_0 (by decide) (Or.inl pw_90) dX0_set_20 (fun x4 => ?_)
  refine pz_icmp_ge 44 dX0_set_23 (by decide) ?_ ?_
  · refine pz_aload_n 0 dX0_set_44 rfl ?_
    refine pz_aload_n 1 dX0_set_45 rfl ?_
    refine pz_getI (ci := 0) (k := 2) ck_0 (by decide) (Or.inl pw_94) dX0_set_46 (fun x5 => ?_)
    refine pz_iload_n 2 dX0_set_49 rfl ?_
    refine pz_imul dX0_set_50 ?_
    refine pz_put (ci := 0) (k := 2) ck_0 (by decide) (Or.inl pw_94) (Or.inl rfl) rfl rfl dX0_set_51 ?_
    exact pz_vret rfl dX0_set_54
  · refine pz_aload_n 0 dX0_set_26 rfl ?_
    refine pz_getR (ci := 0) (k := 0) ck_0 (by decide) (Or.inl pw_86) dX0_set_27 (fun x6 => ?_)
    refine pz_iload_n 3 dX0_set_30 rfl ?_
    refine pz_aload_n 1 dX0_set_31 rfl ?_
    refine pz_getR (ci := 0) (k := 0) ck_0 (by decide) (Or.inl pw_86) dX0_set_32 (fun x7 => ?_)
    refine pz_iload_n 3 dX0_set_35 rfl ?_
    refine pz_iald (t := 0) rfl dX0_set_36 (fun x8 => ?_)
    refine pz_iast (t := 0) rfl dX0_set_37 ?_
    refine pz_iinc 3 1 (fun l3_9 => [(3, .int l3_9), (0, va_rf l0), (1, va_rf l1), (2, .int l2)]) dX0_set_38 rfl (by decide) (by decide) (fun l3_9 => rfl) (fun l3_9 => ?_)
    refine pz_goto 18 dX0_set_41 (by decide) ?_
    exact pz_sub [1, 2, 3, 0] rfl (hK18 l3_9)
set_option maxRecDepth 20000 in
theorem S_X0_set_L18 (X : pz_X) (n : Nat) (l0 : Option Nat) (l1 : Option Nat) (l2 : Int32) (l3 : Int32) : pz_Sm X (pz_QM X) J_X0_set pz_vU 18 [(0, va_rf l0), (1, va_rf l1), (2, .int l2), (3, .int l3)] [] (X0_set_L18 n l0 l1 l2 l3) :=
  pz_lp (L := fun (s : Int32) => [(0, va_rf l0), (1, va_rf l1), (2, .int l2), (3, .int s)]) (fun K hK s => S_X0_set_L18_body X n l0 l1 l2 (fun l3 => K l3) (fun l3 => hK l3) s) n l3
set_option maxRecDepth 20000 in
theorem S_X0_set (X : pz_X) (n : Nat) (l0 : Option Nat) (l1 : Option Nat) (l2 : Int32) : pz_Sm X (pz_QM X) J_X0_set pz_vU 0 [(0, va_rf l0), (1, va_rf l1), (2, .int l2)] [] (X0_set n l0 l1 l2) := by
  unfold X0_set
  refine pz_aload_n 0 dX0_set_0 rfl ?_
  refine pz_aload_n 1 dX0_set_1 rfl ?_
  refine pz_getI (ci := 0) (k := 1) ck_0 (by decide) (Or.inl pw_90) dX0_set_2 (fun x1 => ?_)
  refine pz_aload_n 0 dX0_set_5 rfl ?_
  refine pz_getR (ci := 0) (k := 0) ck_0 (by decide) (Or.inl pw_86) dX0_set_6 (fun x2 => ?_)
  refine pz_alen (t := 0) rfl dX0_set_9 (fun x3 => ?_)
  refine pz_mmin pw_616 pw_617 pw_14 pw_618 (by simp [pz_rf1, pz_ci, pz_cl]) (by decide) (by decide) dX0_set_10 ?_
  refine pz_put (ci := 0) (k := 1) ck_0 (by decide) (Or.inl pw_90) (Or.inl rfl) rfl rfl dX0_set_13 ?_
  refine pz_iconst 0 dX0_set_16 (by decide) ?_
  refine pz_istore_n [(3, .int 0), (0, va_rf l0), (1, va_rf l1), (2, .int l2)] dX0_set_17 (by decide) rfl ?_
  exact pz_sub [1, 2, 3, 0] rfl (S_X0_set_L18 X n l0 l1 l2 0)
set_option maxRecDepth 20000 in
theorem md_X0_set (X : pz_X) (n : Nat) (l0 : Option Nat) (l1 : Option Nat) (l2 : Int32) : pz_Md X yX0_set J_X0_set pz_vU [va_rf l0, va_rf l1, .int l2] (X0_set n l0 l1 l2) :=
  pz_md [(0, va_rf l0), (1, va_rf l1), (2, .int l2)] (by decide +kernel) rfl rfl (by cases l0 <;> cases l1 <;> rfl) (by cases l0 <;> cases l1 <;> exact Nat.le_of_ble_eq_true rfl) (fun X => S_X0_set X n l0 l1 l2)
set_option maxRecDepth 20000 in
theorem S_X2_trim_b46 (X : pz_X) (n : Nat) (s0 : Option Nat) (s1 : Int32) : pz_Sm X (pz_QM X) J_X2_trim pz_vU 46 [] [.int s1, va_rf s0] (X2_trim_b46 n s0 s1) := by
  unfold X2_trim_b46
  refine pz_put (ci := 0) (k := 2) ck_0 (by decide) (Or.inl pw_95) (Or.inl rfl) rfl rfl dX2_trim_46 ?_
  exact pz_vret rfl dX2_trim_49
set_option maxRecDepth 20000 in
theorem S_X2_trim_b31 (X : pz_X) (n : Nat) (l0 : Option Nat) (l2 : Int32) : pz_Sm X (pz_QM X) J_X2_trim pz_vU 31 [(0, va_rf l0), (2, .int l2)] [] (X2_trim_b31 n l0 l2) := by
  unfold X2_trim_b31
  refine pz_aload_n 0 dX2_trim_31 rfl ?_
  refine pz_iload_n 1 dX2_trim_32 rfl ?_
  refine pz_put (ci := 0) (k := 1) ck_0 (by decide) (Or.inl pw_89) (Or.inl rfl) rfl rfl dX2_trim_33 ?_
  refine pz_aload_n 0 dX2_trim_36 rfl ?_
  refine pz_iload_n 1 dX2_trim_37 rfl ?_
  refine pz_if_ne 45 dX2_trim_38 (by decide) ?_ ?_
  · refine pz_iconst 0 dX2_trim_41 (by decide) ?_
    refine pz_goto 46 dX2_trim_42 (by decide) ?_
    exact pz_sub [] rfl (S_X2_trim_b46 X n l0 0)
  · refine pz_iconst 1 dX2_trim_45 (by decide) ?_
    exact pz_sub [] rfl (S_X2_trim_b46 X n l0 1)
set_option maxRecDepth 20000 in
theorem S_X2_trim_L10_body (X : pz_X) (n : Nat) (l0 : Option Nat) (K10 : Int32 → pz_C Unit) (hK10 : ∀ (l2 : Int32), pz_Sm X (pz_QM X) J_X2_trim pz_vU 10 [(0, va_rf l0), (2, .int l2)] [] (K10 l2)) (l2 : Int32) : pz_Sm X (pz_QM X) J_X2_trim pz_vU 10 [(0, va_rf l0), (2, .int l2)] [] (X2_trim_L10_body n l0 K10 l2) := by
  unfold X2_trim_L10_body
  refine pz_iload_n 1 dX2_trim_10 rfl ?_
  refine pz_if_le 31 dX2_trim_11 (by decide) ?_ ?_
  · exact pz_sub [0, 1] rfl (S_X2_trim_b31 X n l0 l2)
  · refine pz_aload_n 0 dX2_trim_14 rfl ?_
    refine pz_getR (ci := 0) (k := 0) ck_0 (by decide) (Or.inl pw_87) dX2_trim_15 (fun x4 => ?_)
    refine pz_iload_n 1 dX2_trim_18 rfl ?_
    refine pz_iconst 1 dX2_trim_19 (by decide) ?_
    refine pz_isub dX2_trim_20 ?_
    refine pz_iald (t := 0) rfl dX2_trim_21 (fun x5 => ?_)
    refine pz_if_ne 31 dX2_trim_22 (by decide) ?_ ?_
    · refine pz_iinc 1 (-1) (fun l2_6 => [(2, .int l2_6), (0, va_rf l0)]) dX2_trim_25 rfl (by decide) (by decide) (fun l2_6 => rfl) (fun l2_6 => ?_)
      refine pz_goto 10 dX2_trim_28 (by decide) ?_
      exact pz_sub [1, 0] rfl (hK10 l2_6)
    · exact pz_sub [0, 1] rfl (S_X2_trim_b31 X n l0 l2)
set_option maxRecDepth 20000 in
theorem S_X2_trim_L10 (X : pz_X) (n : Nat) (l0 : Option Nat) (l2 : Int32) : pz_Sm X (pz_QM X) J_X2_trim pz_vU 10 [(0, va_rf l0), (2, .int l2)] [] (X2_trim_L10 n l0 l2) :=
  pz_lp (L := fun (s : Int32) => [(0, va_rf l0), (2, .int s)]) (fun K hK s => S_X2_trim_L10_body X n l0 (fun l2 => K l2) (fun l2 => hK l2) s) n l2
set_option maxRecDepth 20000 in
theorem S_X2_trim (X : pz_X) (n : Nat) (l0 : Option Nat) (l1 : Int32) : pz_Sm X (pz_QM X) J_X2_trim pz_vU 0 [(0, va_rf l0), (1, .int l1)] [] (X2_trim n l0 l1) := by
  unfold X2_trim
  refine pz_iload_n 1 dX2_trim_0 rfl ?_
  refine pz_aload_n 0 dX2_trim_1 rfl ?_
  refine pz_getR (ci := 0) (k := 0) ck_0 (by decide) (Or.inl pw_87) dX2_trim_2 (fun x1 => ?_)
  refine pz_alen (t := 0) rfl dX2_trim_5 (fun x2 => ?_)
  refine pz_mmin pw_623 pw_617 pw_14 pw_618 (by decide) (by decide) (by decide) dX2_trim_6 ?_
  refine pz_nmI (fun l2_3 => ?_)
  refine pz_istore_n [(2, .int l2_3), (0, va_rf l0), (1, .int l1)] dX2_trim_9 (by decide) rfl ?_
  exact pz_sub [1, 0] rfl (S_X2_trim_L10 X n l0 l2_3)
set_option maxRecDepth 20000 in
theorem md_X2_trim (X : pz_X) (n : Nat) (l0 : Option Nat) (l1 : Int32) : pz_Md X yX2_trim J_X2_trim pz_vU [va_rf l0, .int l1] (X2_trim n l0 l1) :=
  pz_md [(0, va_rf l0), (1, .int l1)] (by decide +kernel) rfl rfl (by cases l0 <;> rfl) (by cases l0 <;> exact Nat.le_of_ble_eq_true rfl) (fun X => S_X2_trim X n l0 l1)
set_option maxRecDepth 20000 in
theorem S_X2_divideByLimb_L29_body (X : pz_X) (n : Nat) (l0 : Option Nat) (l1 : Option Nat) (l2 : Int64) (K29 : Int64 → Int32 → pz_C Unit) (hK29 : ∀ (l4 : Int64) (l6 : Int32), pz_Sm X (pz_QM X) J_X2_divideByLimb pz_vU 29 [(0, va_rf l0), (1, va_rf l1), (2, .long l2), (4, .long l4), (6, .int l6)] [] (K29 l4 l6)) (l4 : Int64) (l6 : Int32) : pz_Sm X (pz_QM X) J_X2_divideByLimb pz_vU 29 [(0, va_rf l0), (1, va_rf l1), (2, .long l2), (4, .long l4), (6, .int l6)] [] (X2_divideByLimb_L29_body n l0 l1 l2 K29 l4 l6) := by
  unfold X2_divideByLimb_L29_body
  refine pz_iload 4 dX2_divideByLimb_29 rfl ?_
  refine pz_if_lt 85 dX2_divideByLimb_31 (by decide) ?_ ?_
  · refine pz_aload_n 0 dX2_divideByLimb_85 rfl ?_
    refine pz_getR (ci := 2) (k := 0) ck_2 (by decide) (Or.inl pw_108) dX2_divideByLimb_86 (fun x6 => ?_)
    refine pz_aload_n 1 dX2_divideByLimb_89 rfl ?_
    refine pz_getI (ci := 0) (k := 1) ck_0 (by decide) (Or.inl pw_89) dX2_divideByLimb_90 (fun x7 => ?_)
    refine pz_csU (st := []) (md_X2_trim X n x6 x7) mk_X2_trim (Or.inl pw_625) pw_626 rfl rfl (by decide) (by decide) (by decide) dX2_divideByLimb_93 (fun _ => ?_)
    refine pz_aload_n 0 dX2_divideByLimb_96 rfl ?_
    refine pz_getR (ci := 2) (k := 1) ck_2 (by decide) (Or.inl pw_110) dX2_divideByLimb_97 (fun x9 => ?_)
    refine pz_lload 3 dX2_divideByLimb_100 rfl ?_
    refine pz_cvU (st := []) (md_X0_setLong X n x9 l4) ck_0 rfl mk_X0_setLong (Or.inl pw_607) pw_383 pw_384 rfl rfl (by decide) (by decide) (by decide) dX2_divideByLimb_102 (fun _ => ?_)
    exact pz_vret rfl dX2_divideByLimb_105
  · refine pz_lload 3 dX2_divideByLimb_34 rfl ?_
    refine pz_ldc2 1000000000 dX2_divideByLimb_36 pw_624 ?_
    refine pz_lmul dX2_divideByLimb_39 ?_
    refine pz_aload_n 1 dX2_divideByLimb_40 rfl ?_
    refine pz_getR (ci := 0) (k := 0) ck_0 (by decide) (Or.inl pw_87) dX2_divideByLimb_41 (fun x11 => ?_)
    refine pz_iload 4 dX2_divideByLimb_44 rfl ?_
    refine pz_iald (t := 0) rfl dX2_divideByLimb_46 (fun x12 => ?_)
    refine pz_i2l dX2_divideByLimb_47 ?_
    refine pz_ladd dX2_divideByLimb_48 ?_
    refine pz_nmL (fun l7_13 => ?_)
    refine pz_lstore [(7, .long l7_13), (0, va_rf l0), (1, va_rf l1), (2, .long l2), (4, .long l4), (6, .int l6)] dX2_divideByLimb_49 (by decide) rfl ?_
    refine pz_lload 0 dX2_divideByLimb_51 rfl ?_
    refine pz_lload_n 3 dX2_divideByLimb_53 rfl ?_
    refine pz_ldiv dX2_divideByLimb_54 (fun x14 => ?_)
    refine pz_lstore [(9, .long x14), (7, .long l7_13), (0, va_rf l0), (1, va_rf l1), (2, .long l2), (4, .long l4), (6, .int l6)] dX2_divideByLimb_55 (by decide) rfl ?_
    refine pz_aload_n 2 dX2_divideByLimb_57 rfl ?_
    refine pz_getR (ci := 2) (k := 0) ck_2 (by decide) (Or.inl pw_108) dX2_divideByLimb_58 (fun x15 => ?_)
    refine pz_getR (ci := 0) (k := 0) ck_0 (by decide) (Or.inl pw_87) dX2_divideByLimb_61 (fun x16 => ?_)
    refine pz_iload 6 dX2_divideByLimb_64 rfl ?_
    refine pz_lload 0 dX2_divideByLimb_66 rfl ?_
    refine pz_l2i dX2_divideByLimb_68 ?_
    refine pz_iast (t := 0) rfl dX2_divideByLimb_69 ?_
    refine pz_lload 1 dX2_divideByLimb_70 rfl ?_
    refine pz_lload 0 dX2_divideByLimb_72 rfl ?_
    refine pz_lload_n 4 dX2_divideByLimb_74 rfl ?_
    refine pz_lmul dX2_divideByLimb_75 ?_
    refine pz_lsub dX2_divideByLimb_76 ?_
    refine pz_nmL (fun l4_17 => ?_)
    refine pz_lstore [(4, .long l4_17), (9, .long x14), (7, .long l7_13), (0, va_rf l0), (1, va_rf l1), (2, .long l2), (6, .int l6)] dX2_divideByLimb_77 (by decide) rfl ?_
    refine pz_iinc 6 (-1) (fun l6_18 => [(6, .int l6_18), (4, .long l4_17), (9, .long x14), (7, .long l7_13), (0, va_rf l0), (1, va_rf l1), (2, .long l2)]) dX2_divideByLimb_79 rfl (by decide) (by decide) (fun l6_18 => rfl) (fun l6_18 => ?_)
    refine pz_goto 29 dX2_divideByLimb_82 (by decide) ?_
    exact pz_sub [4, 5, 6, 1, 0] rfl (hK29 l4_17 l6_18)
set_option maxRecDepth 20000 in
theorem S_X2_divideByLimb_L29 (X : pz_X) (n : Nat) (l0 : Option Nat) (l1 : Option Nat) (l2 : Int64) (l4 : Int64) (l6 : Int32) : pz_Sm X (pz_QM X) J_X2_divideByLimb pz_vU 29 [(0, va_rf l0), (1, va_rf l1), (2, .long l2), (4, .long l4), (6, .int l6)] [] (X2_divideByLimb_L29 n l0 l1 l2 l4 l6) :=
  pz_lp (L := fun (s : Int64 × Int32) => [(0, va_rf l0), (1, va_rf l1), (2, .long l2), (4, .long s.1), (6, .int s.2)]) (fun K hK s => S_X2_divideByLimb_L29_body X n l0 l1 l2 (fun l4 l6 => K (l4, l6)) (fun l4 l6 => hK (l4, l6)) s.1 s.2) n (l4, l6)
set_option maxRecDepth 20000 in
theorem S_X2_divideByLimb (X : pz_X) (n : Nat) (l0 : Option Nat) (l1 : Option Nat) (l2 : Int64) : pz_Sm X (pz_QM X) J_X2_divideByLimb pz_vU 0 [(0, va_rf l0), (1, va_rf l1), (2, .long l2)] [] (X2_divideByLimb n l0 l1 l2) := by
  unfold X2_divideByLimb
  refine pz_lload_n 2 dX2_divideByLimb_0 rfl ?_
  refine pz_lconst 0 dX2_divideByLimb_1 (by decide) ?_
  refine pz_lcmp dX2_divideByLimb_2 ?_
  refine pz_if_gt 7 dX2_divideByLimb_3 (by decide) ?_ ?_
  · refine pz_lconst 0 dX2_divideByLimb_7 (by decide) ?_
    refine pz_lstore [(4, .long 0), (0, va_rf l0), (1, va_rf l1), (2, .long l2)] dX2_divideByLimb_8 (by decide) rfl ?_
    refine pz_aload_n 2 dX2_divideByLimb_10 rfl ?_
    refine pz_getI (ci := 0) (k := 1) ck_0 (by decide) (Or.inl pw_89) dX2_divideByLimb_11 (fun x1 => ?_)
    refine pz_aload_n 1 dX2_divideByLimb_14 rfl ?_
    refine pz_getR (ci := 2) (k := 0) ck_2 (by decide) (Or.inl pw_108) dX2_divideByLimb_15 (fun x2 => ?_)
    refine pz_getR (ci := 0) (k := 0) ck_0 (by decide) (Or.inl pw_87) dX2_divideByLimb_18 (fun x3 => ?_)
    refine pz_alen (t := 0) rfl dX2_divideByLimb_21 (fun x4 => ?_)
    refine pz_mmin pw_623 pw_617 pw_14 pw_618 (by decide) (by decide) (by decide) dX2_divideByLimb_22 ?_
    refine pz_iconst 1 dX2_divideByLimb_25 (by decide) ?_
    refine pz_isub dX2_divideByLimb_26 ?_
    refine pz_nmI (fun l6_5 => ?_)
    refine pz_istore [(6, .int l6_5), (4, .long 0), (0, va_rf l0), (1, va_rf l1), (2, .long l2)] dX2_divideByLimb_27 (by decide) rfl ?_
    exact pz_sub [2, 3, 4, 1, 0] rfl (S_X2_divideByLimb_L29 X n l0 l1 l2 0 l6_5)
  · exact pz_vret rfl dX2_divideByLimb_6
set_option maxRecDepth 20000 in
theorem md_X2_divideByLimb (X : pz_X) (n : Nat) (l0 : Option Nat) (l1 : Option Nat) (l2 : Int64) : pz_Md X yX2_divideByLimb J_X2_divideByLimb pz_vU [va_rf l0, va_rf l1, .long l2] (X2_divideByLimb n l0 l1 l2) :=
  pz_md [(0, va_rf l0), (1, va_rf l1), (2, .long l2)] (by decide +kernel) rfl rfl (by cases l0 <;> cases l1 <;> rfl) (by cases l0 <;> cases l1 <;> exact Nat.le_of_ble_eq_true rfl) (fun X => S_X2_divideByLimb X n l0 l1 l2)
set_option maxRecDepth 20000 in
theorem S_X2_scaleInto_b81 (X : pz_X) (n : Nat) : pz_Sm X (pz_QM X) J_X2_scaleInto pz_vU 81 [] [] (X2_scaleInto_b81 n) := by
  unfold X2_scaleInto_b81
  exact pz_vret rfl dX2_scaleInto_81
set_option maxRecDepth 20000 in
theorem S_X2_scaleInto_b64 (X : pz_X) (n : Nat) (l0 : Option Nat) (l1 : Option Nat) (l4 : Int64) : pz_Sm X (pz_QM X) J_X2_scaleInto pz_vU 64 [(0, va_rf l0), (1, va_rf l1), (4, .long l4)] [] (X2_scaleInto_b64 n l0 l1 l4) := by
  unfold X2_scaleInto_b64
  refine pz_aload_n 1 dX2_scaleInto_64 rfl ?_
  refine pz_getI (ci := 0) (k := 1) ck_0 (by decide) (Or.inl pw_89) dX2_scaleInto_65 (fun x2 => ?_)
  refine pz_aload_n 0 dX2_scaleInto_68 rfl ?_
  refine pz_alen (t := 2) rfl dX2_scaleInto_69 (fun x3 => ?_)
  refine pz_icmp_ge 81 dX2_scaleInto_70 (by decide) ?_ ?_
  · exact pz_sub [] rfl (S_X2_scaleInto_b81 X n)
  · refine pz_aload_n 0 dX2_scaleInto_73 rfl ?_
    refine pz_aload_n 1 dX2_scaleInto_74 rfl ?_
    refine pz_getI (ci := 0) (k := 1) ck_0 (by decide) (Or.inl pw_89) dX2_scaleInto_75 (fun x4 => ?_)
    refine pz_lload 2 dX2_scaleInto_78 rfl ?_
    refine pz_last (t := 2) rfl dX2_scaleInto_80 ?_
    exact pz_sub [] rfl (S_X2_scaleInto_b81 X n)
set_option maxRecDepth 20000 in
theorem S_X2_scaleInto_L6_body (X : pz_X) (n : Nat) (l0 : Option Nat) (l1 : Option Nat) (l2 : Int64) (K6 : Int64 → Int32 → pz_C Unit) (hK6 : ∀ (l4 : Int64) (l6 : Int32), pz_Sm X (pz_QM X) J_X2_scaleInto pz_vU 6 [(0, va_rf l0), (1, va_rf l1), (2, .long l2), (4, .long l4), (6, .int l6)] [] (K6 l4 l6)) (l4 : Int64) (l6 : Int32) : pz_Sm X (pz_QM X) J_X2_scaleInto pz_vU 6 [(0, va_rf l0), (1, va_rf l1), (2, .long l2), (4, .long l4), (6, .int l6)] [] (X2_scaleInto_L6_body n l0 l1 l2 K6 l4 l6) := by
  unfold X2_scaleInto_L6_body
  refine pz_iload 4 dX2_scaleInto_6 rfl ?_
  refine pz_aload_n 1 dX2_scaleInto_8 rfl ?_
  refine pz_getI (ci := 0) (k := 1) ck_0 (by decide) (Or.inl pw_89) dX2_scaleInto_9 (fun x1 => ?_)
  refine pz_icmp_ge 64 dX2_scaleInto_12 (by decide) ?_ ?_
  · exact pz_sub [0, 1, 3] rfl (S_X2_scaleInto_b64 X n l0 l1 l4)
  · refine pz_iload 4 dX2_scaleInto_15 rfl ?_
    refine pz_aload_n 0 dX2_scaleInto_17 rfl ?_
    refine pz_alen (t := 2) rfl dX2_scaleInto_18 (fun x5 => ?_)
    refine pz_icmp_ge 64 dX2_scaleInto_19 (by decide) ?_ ?_
    · exact pz_sub [0, 1, 3] rfl (S_X2_scaleInto_b64 X n l0 l1 l4)
    · refine pz_aload_n 1 dX2_scaleInto_22 rfl ?_
      refine pz_getR (ci := 0) (k := 0) ck_0 (by decide) (Or.inl pw_87) dX2_scaleInto_23 (fun x6 => ?_)
      refine pz_iload 4 dX2_scaleInto_26 rfl ?_
      refine pz_iald (t := 0) rfl dX2_scaleInto_28 (fun x7 => ?_)
      refine pz_i2l dX2_scaleInto_29 ?_
      refine pz_lload_n 2 dX2_scaleInto_30 rfl ?_
      refine pz_lmul dX2_scaleInto_31 ?_
      refine pz_lload 3 dX2_scaleInto_32 rfl ?_
      refine pz_ladd dX2_scaleInto_34 ?_
      refine pz_nmL (fun l7_8 => ?_)
      refine pz_lstore [(7, .long l7_8), (0, va_rf l0), (1, va_rf l1), (2, .long l2), (4, .long l4), (6, .int l6)] dX2_scaleInto_35 (by decide) rfl ?_
      refine pz_lload 0 dX2_scaleInto_37 rfl ?_
      refine pz_ldc2 1000000000 dX2_scaleInto_39 pw_624 ?_
      refine pz_ldiv dX2_scaleInto_42 (fun x9 => ?_)
      refine pz_lstore [(4, .long x9), (7, .long l7_8), (0, va_rf l0), (1, va_rf l1), (2, .long l2), (6, .int l6)] dX2_scaleInto_43 (by decide) rfl ?_
      refine pz_aload_n 2 dX2_scaleInto_45 rfl ?_
      refine pz_iload 5 dX2_scaleInto_46 rfl ?_
      refine pz_lload 1 dX2_scaleInto_48 rfl ?_
      refine pz_lload 0 dX2_scaleInto_50 rfl ?_
      refine pz_ldc2 1000000000 dX2_scaleInto_52 pw_624 ?_
      refine pz_lmul dX2_scaleInto_55 ?_
      refine pz_lsub dX2_scaleInto_56 ?_
      refine pz_last (t := 2) rfl dX2_scaleInto_57 ?_
      refine pz_iinc 5 1 (fun l6_10 => [(6, .int l6_10), (4, .long x9), (7, .long l7_8), (0, va_rf l0), (1, va_rf l1), (2, .long l2)]) dX2_scaleInto_58 rfl (by decide) (by decide) (fun l6_10 => rfl) (fun l6_10 => ?_)
      refine pz_goto 6 dX2_scaleInto_61 (by decide) ?_
      exact pz_sub [3, 4, 5, 1, 0] rfl (hK6 x9 l6_10)
set_option maxRecDepth 20000 in
theorem S_X2_scaleInto_L6 (X : pz_X) (n : Nat) (l0 : Option Nat) (l1 : Option Nat) (l2 : Int64) (l4 : Int64) (l6 : Int32) : pz_Sm X (pz_QM X) J_X2_scaleInto pz_vU 6 [(0, va_rf l0), (1, va_rf l1), (2, .long l2), (4, .long l4), (6, .int l6)] [] (X2_scaleInto_L6 n l0 l1 l2 l4 l6) :=
  pz_lp (L := fun (s : Int64 × Int32) => [(0, va_rf l0), (1, va_rf l1), (2, .long l2), (4, .long s.1), (6, .int s.2)]) (fun K hK s => S_X2_scaleInto_L6_body X n l0 l1 l2 (fun l4 l6 => K (l4, l6)) (fun l4 l6 => hK (l4, l6)) s.1 s.2) n (l4, l6)
set_option maxRecDepth 20000 in
theorem S_X2_scaleInto (X : pz_X) (n : Nat) (l0 : Option Nat) (l1 : Option Nat) (l2 : Int64) : pz_Sm X (pz_QM X) J_X2_scaleInto pz_vU 0 [(0, va_rf l0), (1, va_rf l1), (2, .long l2)] [] (X2_scaleInto n l0 l1 l2) := by
  unfold X2_scaleInto
  refine pz_lconst 0 dX2_scaleInto_0 (by decide) ?_
  refine pz_lstore [(4, .long 0), (0, va_rf l0), (1, va_rf l1), (2, .long l2)] dX2_scaleInto_1 (by decide) rfl ?_
  refine pz_iconst 0 dX2_scaleInto_3 (by decide) ?_
  refine pz_istore [(6, .int 0), (4, .long 0), (0, va_rf l0), (1, va_rf l1), (2, .long l2)] dX2_scaleInto_4 (by decide) rfl ?_
  exact pz_sub [2, 3, 4, 1, 0] rfl (S_X2_scaleInto_L6 X n l0 l1 l2 0 0)
set_option maxRecDepth 20000 in
theorem md_X2_scaleInto (X : pz_X) (n : Nat) (l0 : Option Nat) (l1 : Option Nat) (l2 : Int64) : pz_Md X yX2_scaleInto J_X2_scaleInto pz_vU [va_rf l0, va_rf l1, .long l2] (X2_scaleInto n l0 l1 l2) :=
  pz_md [(0, va_rf l0), (1, va_rf l1), (2, .long l2)] (by decide +kernel) rfl rfl (by cases l0 <;> cases l1 <;> rfl) (by cases l0 <;> cases l1 <;> exact Nat.le_of_ble_eq_true rfl) (fun X => S_X2_scaleInto X n l0 l1 l2)
set_option maxRecDepth 20000 in
theorem S_X2_guessDigit_b137 (X : pz_X) (n : Nat) (l7 : Int64) : pz_Sm X (pz_QM X) J_X2_guessDigit pz_vL 137 [(7, .long l7)] [] (X2_guessDigit_b137 n l7) := by
  unfold X2_guessDigit_b137
  refine pz_lload 0 dX2_guessDigit_137 rfl ?_
  exact pz_lret rfl dX2_guessDigit_139
set_option maxRecDepth 20000 in
theorem S_X2_guessDigit_b119 (X : pz_X) (n : Nat) (l0 : Option Nat) (l1 : Int32) (l2 : Int32) (l3 : Int64) (K60 : Int64 → Int64 → Int32 → pz_C Int64) (hK60 : ∀ (l7 : Int64) (l9 : Int64) (l11 : Int32), pz_Sm X (pz_QM X) J_X2_guessDigit pz_vL 60 [(0, va_rf l0), (1, .int l1), (2, .int l2), (3, .long l3), (7, .long l7), (9, .long l9), (11, .int l11)] [] (K60 l7 l9 l11)) (l7 : Int64) (l9 : Int64) (l11 : Int32) : pz_Sm X (pz_QM X) J_X2_guessDigit pz_vL 119 [(0, va_rf l0), (1, .int l1), (2, .int l2), (3, .long l3), (7, .long l7), (9, .long l9), (11, .int l11)] [] (X2_guessDigit_b119 n K60 l0 l1 l2 l3 l7 l9 l11) := by
  unfold X2_guessDigit_b119
  refine pz_lload 4 dX2_guessDigit_119 rfl ?_
  refine pz_lconst 1 dX2_guessDigit_121 (by decide) ?_
  refine pz_lsub dX2_guessDigit_122 ?_
  refine pz_nmL (fun l7_10 => ?_)
  refine pz_lstore [(7, .long l7_10), (0, va_rf l0), (1, .int l1), (2, .int l2), (3, .long l3), (9, .long l9), (11, .int l11)] dX2_guessDigit_123 (by decide) rfl ?_
  refine pz_lload 5 dX2_guessDigit_125 rfl ?_
  refine pz_lload_n 4 dX2_guessDigit_127 rfl ?_
  refine pz_ladd dX2_guessDigit_128 ?_
  refine pz_nmL (fun l9_11 => ?_)
  refine pz_lstore [(9, .long l9_11), (7, .long l7_10), (0, va_rf l0), (1, .int l1), (2, .int l2), (3, .long l3), (11, .int l11)] dX2_guessDigit_129 (by decide) rfl ?_
  refine pz_iinc 6 1 (fun l11_12 => [(11, .int l11_12), (9, .long l9_11), (7, .long l7_10), (0, va_rf l0), (1, .int l1), (2, .int l2), (3, .long l3)]) dX2_guessDigit_131 rfl (by decide) (by decide) (fun l11_12 => rfl) (fun l11_12 => ?_)
  refine pz_goto 60 dX2_guessDigit_134 (by decide) ?_
  exact pz_sub [3, 4, 5, 6, 2, 1, 0] rfl (hK60 l7_10 l9_11 l11_12)
set_option maxRecDepth 20000 in
theorem S_X2_guessDigit_L60_body (X : pz_X) (n : Nat) (l0 : Option Nat) (l1 : Int32) (l2 : Int32) (l3 : Int64) (K60 : Int64 → Int64 → Int32 → pz_C Int64) (hK60 : ∀ (l7 : Int64) (l9 : Int64) (l11 : Int32), pz_Sm X (pz_QM X) J_X2_guessDigit pz_vL 60 [(0, va_rf l0), (1, .int l1), (2, .int l2), (3, .long l3), (7, .long l7), (9, .long l9), (11, .int l11)] [] (K60 l7 l9 l11)) (l7 : Int64) (l9 : Int64) (l11 : Int32) : pz_Sm X (pz_QM X) J_X2_guessDigit pz_vL 60 [(0, va_rf l0), (1, .int l1), (2, .int l2), (3, .long l3), (7, .long l7), (9, .long l9), (11, .int l11)] [] (X2_guessDigit_L60_body n l0 l1 l2 l3 K60 l7 l9 l11) := by
  unfold X2_guessDigit_L60_body
  refine pz_iload 6 dX2_guessDigit_60 rfl ?_
  refine pz_iconst 2 dX2_guessDigit_62 (by decide) ?_
  refine pz_icmp_ge 137 dX2_guessDigit_63 (by decide) ?_ ?_
  · exact pz_sub [4] rfl (S_X2_guessDigit_b137 X n l7)
  · refine pz_lload 5 dX2_guessDigit_66 rfl ?_
    refine pz_ldc2 1000000000 dX2_guessDigit_68 pw_624 ?_
    refine pz_lcmp dX2_guessDigit_71 ?_
    refine pz_if_ge 137 dX2_guessDigit_72 (by decide) ?_ ?_
    · exact pz_sub [4] rfl (S_X2_guessDigit_b137 X n l7)
    · refine pz_lload 4 dX2_guessDigit_75 rfl ?_
      refine pz_ldc2 1000000000 dX2_guessDigit_77 pw_624 ?_
      refine pz_lcmp dX2_guessDigit_80 ?_
      refine pz_if_ge 119 dX2_guessDigit_81 (by decide) ?_ ?_
      · exact pz_sub [0, 1, 2, 3, 4, 5, 6] rfl (S_X2_guessDigit_b119 X n l0 l1 l2 l3 K60 hK60 l7 l9 l11)
      · refine pz_lload 4 dX2_guessDigit_84 rfl ?_
        refine pz_aload_n 0 dX2_guessDigit_86 rfl ?_
        refine pz_getR (ci := 2) (k := 5) ck_2 (by decide) (Or.inl pw_116) dX2_guessDigit_87 (fun x13 => ?_)
        refine pz_iload_n 2 dX2_guessDigit_90 rfl ?_
        refine pz_iconst 2 dX2_guessDigit_91 (by decide) ?_
        refine pz_isub dX2_guessDigit_92 ?_
        refine pz_lald (t := 2) rfl dX2_guessDigit_93 (fun x14 => ?_)
        refine pz_lmul dX2_guessDigit_94 ?_
        refine pz_lload 5 dX2_guessDigit_95 rfl ?_
        refine pz_ldc2 1000000000 dX2_guessDigit_97 pw_624 ?_
        refine pz_lmul dX2_guessDigit_100 ?_
        refine pz_aload_n 0 dX2_guessDigit_101 rfl ?_
        refine pz_getR (ci := 2) (k := 4) ck_2 (by decide) (Or.inl pw_115) dX2_guessDigit_102 (fun x15 => ?_)
        refine pz_iload_n 1 dX2_guessDigit_105 rfl ?_
        refine pz_iload_n 2 dX2_guessDigit_106 rfl ?_
        refine pz_iadd dX2_guessDigit_107 ?_
        refine pz_iconst 2 dX2_guessDigit_108 (by decide) ?_
        refine pz_isub dX2_guessDigit_109 ?_
        refine pz_lald (t := 2) rfl dX2_guessDigit_110 (fun x16 => ?_)
        refine pz_ladd dX2_guessDigit_111 ?_
        refine pz_lcmp dX2_guessDigit_112 ?_
        refine pz_if_gt 119 dX2_guessDigit_113 (by decide) ?_ ?_
        · exact pz_sub [0, 1, 2, 3, 4, 5, 6] rfl (S_X2_guessDigit_b119 X n l0 l1 l2 l3 K60 hK60 l7 l9 l11)
        · refine pz_goto 137 dX2_guessDigit_116 (by decide) ?_
          exact pz_sub [4] rfl (S_X2_guessDigit_b137 X n l7)
set_option maxRecDepth 20000 in
theorem S_X2_guessDigit_L60 (X : pz_X) (n : Nat) (l0 : Option Nat) (l1 : Int32) (l2 : Int32) (l3 : Int64) (l7 : Int64) (l9 : Int64) (l11 : Int32) : pz_Sm X (pz_QM X) J_X2_guessDigit pz_vL 60 [(0, va_rf l0), (1, .int l1), (2, .int l2), (3, .long l3), (7, .long l7), (9, .long l9), (11, .int l11)] [] (X2_guessDigit_L60 n l0 l1 l2 l3 l7 l9 l11) :=
  pz_lp (L := fun (s : Int64 × Int64 × Int32) => [(0, va_rf l0), (1, .int l1), (2, .int l2), (3, .long l3), (7, .long s.1), (9, .long s.2.1), (11, .int s.2.2)]) (fun K hK s => S_X2_guessDigit_L60_body X n l0 l1 l2 l3 (fun l7 l9 l11 => K (l7, l9, l11)) (fun l7 l9 l11 => hK (l7, l9, l11)) s.1 s.2.1 s.2.2) n (l7, l9, l11)
set_option maxRecDepth 20000 in
theorem S_X2_guessDigit (X : pz_X) (n : Nat) (l0 : Option Nat) (l1 : Int32) (l2 : Int32) : pz_Sm X (pz_QM X) J_X2_guessDigit pz_vL 0 [(0, va_rf l0), (1, .int l1), (2, .int l2)] [] (X2_guessDigit n l0 l1 l2) := by
  unfold X2_guessDigit
  refine pz_aload_n 0 dX2_guessDigit_0 rfl ?_
  refine pz_getR (ci := 2) (k := 5) ck_2 (by decide) (Or.inl pw_116) dX2_guessDigit_1 (fun x1 => ?_)
  refine pz_iload_n 2 dX2_guessDigit_4 rfl ?_
  refine pz_iconst 1 dX2_guessDigit_5 (by decide) ?_
  refine pz_isub dX2_guessDigit_6 ?_
  refine pz_lald (t := 2) rfl dX2_guessDigit_7 (fun x2 => ?_)
  refine pz_lstore_n [(3, .long x2), (0, va_rf l0), (1, .int l1), (2, .int l2)] dX2_guessDigit_8 (by decide) rfl ?_
  refine pz_lload_n 0 dX2_guessDigit_9 rfl ?_
  refine pz_lconst 0 dX2_guessDigit_10 (by decide) ?_
  refine pz_lcmp dX2_guessDigit_11 ?_
  refine pz_if_gt 17 dX2_guessDigit_12 (by decide) ?_ ?_
  · refine pz_aload_n 1 dX2_guessDigit_17 rfl ?_
    refine pz_getR (ci := 2) (k := 4) ck_2 (by decide) (Or.inl pw_115) dX2_guessDigit_18 (fun x3 => ?_)
    refine pz_iload_n 2 dX2_guessDigit_21 rfl ?_
    refine pz_iload_n 3 dX2_guessDigit_22 rfl ?_
    refine pz_iadd dX2_guessDigit_23 ?_
    refine pz_lald (t := 2) rfl dX2_guessDigit_24 (fun x4 => ?_)
    refine pz_ldc2 1000000000 dX2_guessDigit_25 pw_624 ?_
    refine pz_lmul dX2_guessDigit_28 ?_
    refine pz_aload_n 1 dX2_guessDigit_29 rfl ?_
    refine pz_getR (ci := 2) (k := 4) ck_2 (by decide) (Or.inl pw_115) dX2_guessDigit_30 (fun x5 => ?_)
    refine pz_iload_n 2 dX2_guessDigit_33 rfl ?_
    refine pz_iload_n 3 dX2_guessDigit_34 rfl ?_
    refine pz_iadd dX2_guessDigit_35 ?_
    refine pz_iconst 1 dX2_guessDigit_36 (by decide) ?_
    refine pz_isub dX2_guessDigit_37 ?_
    refine pz_lald (t := 2) rfl dX2_guessDigit_38 (fun x6 => ?_)
    refine pz_ladd dX2_guessDigit_39 ?_
    refine pz_nmL (fun l5_7 => ?_)
    refine pz_lstore [(5, .long l5_7), (3, .long x2), (0, va_rf l0), (1, .int l1), (2, .int l2)] dX2_guessDigit_40 (by decide) rfl ?_
    refine pz_lload 0 dX2_guessDigit_42 rfl ?_
    refine pz_lload_n 1 dX2_guessDigit_44 rfl ?_
    refine pz_ldiv dX2_guessDigit_45 (fun x8 => ?_)
    refine pz_lstore [(7, .long x8), (5, .long l5_7), (3, .long x2), (0, va_rf l0), (1, .int l1), (2, .int l2)] dX2_guessDigit_46 (by decide) rfl ?_
    refine pz_lload 1 dX2_guessDigit_48 rfl ?_
    refine pz_lload 0 dX2_guessDigit_50 rfl ?_
    refine pz_lload_n 2 dX2_guessDigit_52 rfl ?_
    refine pz_lmul dX2_guessDigit_53 ?_
    refine pz_lsub dX2_guessDigit_54 ?_
    refine pz_nmL (fun l9_9 => ?_)
    refine pz_lstore [(9, .long l9_9), (7, .long x8), (5, .long l5_7), (3, .long x2), (0, va_rf l0), (1, .int l1), (2, .int l2)] dX2_guessDigit_55 (by decide) rfl ?_
    refine pz_iconst 0 dX2_guessDigit_57 (by decide) ?_
    refine pz_istore [(11, .int 0), (9, .long l9_9), (7, .long x8), (5, .long l5_7), (3, .long x2), (0, va_rf l0), (1, .int l1), (2, .int l2)] dX2_guessDigit_58 (by decide) rfl ?_
    exact pz_sub [5, 6, 7, 4, 2, 1, 0] rfl (S_X2_guessDigit_L60 X n l0 l1 l2 x2 x8 l9_9 0)
  · refine pz_lconst 0 dX2_guessDigit_15 (by decide) ?_
    exact pz_lret rfl dX2_guessDigit_16
set_option maxRecDepth 20000 in
theorem md_X2_guessDigit (X : pz_X) (n : Nat) (l0 : Option Nat) (l1 : Int32) (l2 : Int32) : pz_Md X yX2_guessDigit J_X2_guessDigit pz_vL [va_rf l0, .int l1, .int l2] (X2_guessDigit n l0 l1 l2) :=
  pz_md [(0, va_rf l0), (1, .int l1), (2, .int l2)] (by decide +kernel) rfl rfl (by cases l0 <;> rfl) (by cases l0 <;> exact Nat.le_of_ble_eq_true rfl) (fun X => S_X2_guessDigit X n l0 l1 l2)
set_option maxRecDepth 20000 in
theorem S_X2_takeAway_b159 (X : pz_X) (n : Nat) (l0 : Option Nat) (l1 : Int32) (l2 : Int32) (l3 : Int64) (K117 : Int64 → Int32 → pz_C Int64) (hK117 : ∀ (l7 : Int64) (l9 : Int32), pz_Sm X (pz_QM X) J_X2_takeAway pz_vL 117 [(0, va_rf l0), (1, .int l1), (2, .int l2), (3, .long l3), (7, .long l7), (9, .int l9)] [] (K117 l7 l9)) (l9 : Int32) (l10 : Int64) (s0 : Int64) : pz_Sm X (pz_QM X) J_X2_takeAway pz_vL 159 [(0, va_rf l0), (1, .int l1), (2, .int l2), (3, .long l3), (9, .int l9), (10, .long l10)] [.long s0] (X2_takeAway_b159 n K117 l0 l1 l2 l3 l9 l10 s0) := by
  unfold X2_takeAway_b159
  refine pz_lstore [(7, .long s0), (0, va_rf l0), (1, .int l1), (2, .int l2), (3, .long l3), (9, .int l9), (10, .long l10)] dX2_takeAway_159 (by decide) rfl ?_
  refine pz_aload_n 1 dX2_takeAway_161 rfl ?_
  refine pz_getR (ci := 2) (k := 4) ck_2 (by decide) (Or.inl pw_115) dX2_takeAway_162 (fun x12 => ?_)
  refine pz_iload_n 2 dX2_takeAway_165 rfl ?_
  refine pz_iload 5 dX2_takeAway_166 rfl ?_
  refine pz_iadd dX2_takeAway_168 ?_
  refine pz_lload 6 dX2_takeAway_169 rfl ?_
  refine pz_lload 0 dX2_takeAway_171 rfl ?_
  refine pz_ldc2 1000000000 dX2_takeAway_173 pw_624 ?_
  refine pz_lmul dX2_takeAway_176 ?_
  refine pz_lsub dX2_takeAway_177 ?_
  refine pz_last (t := 2) rfl dX2_takeAway_178 ?_
  refine pz_iinc 5 1 (fun l9_13 => [(9, .int l9_13), (7, .long s0), (0, va_rf l0), (1, .int l1), (2, .int l2), (3, .long l3), (10, .long l10)]) dX2_takeAway_179 rfl (by decide) (by decide) (fun l9_13 => rfl) (fun l9_13 => ?_)
  refine pz_goto 117 dX2_takeAway_182 (by decide) ?_
  exact pz_sub [2, 3, 4, 5, 1, 0] rfl (hK117 s0 l9_13)
set_option maxRecDepth 20000 in
theorem S_X2_takeAway_L117_body (X : pz_X) (n : Nat) (l0 : Option Nat) (l1 : Int32) (l2 : Int32) (l3 : Int64) (K117 : Int64 → Int32 → pz_C Int64) (hK117 : ∀ (l7 : Int64) (l9 : Int32), pz_Sm X (pz_QM X) J_X2_takeAway pz_vL 117 [(0, va_rf l0), (1, .int l1), (2, .int l2), (3, .long l3), (7, .long l7), (9, .int l9)] [] (K117 l7 l9)) (l7 : Int64) (l9 : Int32) : pz_Sm X (pz_QM X) J_X2_takeAway pz_vL 117 [(0, va_rf l0), (1, .int l1), (2, .int l2), (3, .long l3), (7, .long l7), (9, .int l9)] [] (X2_takeAway_L117_body n l0 l1 l2 l3 K117 l7 l9) := by
  unfold X2_takeAway_L117_body
  refine pz_iload 5 dX2_takeAway_117 rfl ?_
  refine pz_iload_n 2 dX2_takeAway_119 rfl ?_
  refine pz_icmp_ge 185 dX2_takeAway_120 (by decide) ?_ ?_
  · refine pz_aload_n 0 dX2_takeAway_185 rfl ?_
    refine pz_getR (ci := 2) (k := 4) ck_2 (by decide) (Or.inl pw_115) dX2_takeAway_186 (fun x5 => ?_)
    refine pz_iload_n 1 dX2_takeAway_189 rfl ?_
    refine pz_iload_n 2 dX2_takeAway_190 rfl ?_
    refine pz_iadd dX2_takeAway_191 ?_
    refine pz_dup2_11 dX2_takeAway_192 rfl (pz_rf1 _) ?_
    refine pz_lald (t := 2) rfl dX2_takeAway_193 (fun x6 => ?_)
    refine pz_lload 4 dX2_takeAway_194 rfl ?_
    refine pz_ladd dX2_takeAway_196 ?_
    refine pz_last (t := 2) rfl dX2_takeAway_197 ?_
    refine pz_lload_n 3 dX2_takeAway_198 rfl ?_
    refine pz_lconst 1 dX2_takeAway_199 (by decide) ?_
    refine pz_lsub dX2_takeAway_200 ?_
    exact pz_lret rfl dX2_takeAway_201
  · refine pz_aload_n 0 dX2_takeAway_123 rfl ?_
    refine pz_getR (ci := 2) (k := 4) ck_2 (by decide) (Or.inl pw_115) dX2_takeAway_124 (fun x7 => ?_)
    refine pz_iload_n 1 dX2_takeAway_127 rfl ?_
    refine pz_iload 5 dX2_takeAway_128 rfl ?_
    refine pz_iadd dX2_takeAway_130 ?_
    refine pz_lald (t := 2) rfl dX2_takeAway_131 (fun x8 => ?_)
    refine pz_aload_n 0 dX2_takeAway_132 rfl ?_
    refine pz_getR (ci := 2) (k := 5) ck_2 (by decide) (Or.inl pw_116) dX2_takeAway_133 (fun x9 => ?_)
    refine pz_iload 5 dX2_takeAway_136 rfl ?_
    refine pz_lald (t := 2) rfl dX2_takeAway_138 (fun x10 => ?_)
    refine pz_ladd dX2_takeAway_139 ?_
    refine pz_lload 4 dX2_takeAway_140 rfl ?_
    refine pz_ladd dX2_takeAway_142 ?_
    refine pz_nmL (fun l10_11 => ?_)
    refine pz_lstore [(10, .long l10_11), (0, va_rf l0), (1, .int l1), (2, .int l2), (3, .long l3), (7, .long l7), (9, .int l9)] dX2_takeAway_143 (by decide) rfl ?_
    refine pz_lload 0 dX2_takeAway_145 rfl ?_
    refine pz_ldc2 1000000000 dX2_takeAway_147 pw_624 ?_
    refine pz_lcmp dX2_takeAway_150 ?_
    refine pz_if_lt 158 dX2_takeAway_151 (by decide) ?_ ?_
    · refine pz_lconst 0 dX2_takeAway_158 (by decide) ?_
      exact pz_sub [1, 2, 3, 4, 6, 0] rfl (S_X2_takeAway_b159 X n l0 l1 l2 l3 K117 hK117 l9 l10_11 0)
    · refine pz_lconst 1 dX2_takeAway_154 (by decide) ?_
      refine pz_goto 159 dX2_takeAway_155 (by decide) ?_
      exact pz_sub [1, 2, 3, 4, 6, 0] rfl (S_X2_takeAway_b159 X n l0 l1 l2 l3 K117 hK117 l9 l10_11 1)
set_option maxRecDepth 20000 in
theorem S_X2_takeAway_L117 (X : pz_X) (n : Nat) (l0 : Option Nat) (l1 : Int32) (l2 : Int32) (l3 : Int64) (l7 : Int64) (l9 : Int32) : pz_Sm X (pz_QM X) J_X2_takeAway pz_vL 117 [(0, va_rf l0), (1, .int l1), (2, .int l2), (3, .long l3), (7, .long l7), (9, .int l9)] [] (X2_takeAway_L117 n l0 l1 l2 l3 l7 l9) :=
  pz_lp (L := fun (s : Int64 × Int32) => [(0, va_rf l0), (1, .int l1), (2, .int l2), (3, .long l3), (7, .long s.1), (9, .int s.2)]) (fun K hK s => S_X2_takeAway_L117_body X n l0 l1 l2 l3 (fun l7 l9 => K (l7, l9)) (fun l7 l9 => hK (l7, l9)) s.1 s.2) n (l7, l9)
set_option maxRecDepth 20000 in
theorem S_X2_takeAway_b57 (X : pz_X) (n : Nat) (l0 : Option Nat) (l1 : Int32) (l2 : Int32) (l3 : Int64) (K6 : Int64 → Int32 → pz_C Int64) (hK6 : ∀ (l5 : Int64) (l7 : Int32), pz_Sm X (pz_QM X) J_X2_takeAway pz_vL 6 [(0, va_rf l0), (1, .int l1), (2, .int l2), (3, .long l3), (5, .long l5), (7, .int l7)] [] (K6 l5 l7)) (l7 : Int32) (l8 : Int64) (s0 : Int64) : pz_Sm X (pz_QM X) J_X2_takeAway pz_vL 57 [(0, va_rf l0), (1, .int l1), (2, .int l2), (3, .long l3), (7, .int l7), (8, .long l8)] [.long s0] (X2_takeAway_b57 n K6 l0 l1 l2 l3 l7 l8 s0) := by
  unfold X2_takeAway_b57
  refine pz_lstore [(5, .long s0), (0, va_rf l0), (1, .int l1), (2, .int l2), (3, .long l3), (7, .int l7), (8, .long l8)] dX2_takeAway_57 (by decide) rfl ?_
  refine pz_aload_n 1 dX2_takeAway_59 rfl ?_
  refine pz_getR (ci := 2) (k := 4) ck_2 (by decide) (Or.inl pw_115) dX2_takeAway_60 (fun x19 => ?_)
  refine pz_iload_n 2 dX2_takeAway_63 rfl ?_
  refine pz_iload 5 dX2_takeAway_64 rfl ?_
  refine pz_iadd dX2_takeAway_66 ?_
  refine pz_lload 6 dX2_takeAway_67 rfl ?_
  refine pz_lload 0 dX2_takeAway_69 rfl ?_
  refine pz_ldc2 1000000000 dX2_takeAway_71 pw_624 ?_
  refine pz_lmul dX2_takeAway_74 ?_
  refine pz_ladd dX2_takeAway_75 ?_
  refine pz_last (t := 2) rfl dX2_takeAway_76 ?_
  refine pz_iinc 5 1 (fun l7_20 => [(7, .int l7_20), (5, .long s0), (0, va_rf l0), (1, .int l1), (2, .int l2), (3, .long l3), (8, .long l8)]) dX2_takeAway_77 rfl (by decide) (by decide) (fun l7_20 => rfl) (fun l7_20 => ?_)
  refine pz_goto 6 dX2_takeAway_80 (by decide) ?_
  exact pz_sub [2, 3, 4, 5, 1, 0] rfl (hK6 s0 l7_20)
set_option maxRecDepth 20000 in
theorem S_X2_takeAway_L6_body (X : pz_X) (n : Nat) (l0 : Option Nat) (l1 : Int32) (l2 : Int32) (l3 : Int64) (K6 : Int64 → Int32 → pz_C Int64) (hK6 : ∀ (l5 : Int64) (l7 : Int32), pz_Sm X (pz_QM X) J_X2_takeAway pz_vL 6 [(0, va_rf l0), (1, .int l1), (2, .int l2), (3, .long l3), (5, .long l5), (7, .int l7)] [] (K6 l5 l7)) (l5 : Int64) (l7 : Int32) : pz_Sm X (pz_QM X) J_X2_takeAway pz_vL 6 [(0, va_rf l0), (1, .int l1), (2, .int l2), (3, .long l3), (5, .long l5), (7, .int l7)] [] (X2_takeAway_L6_body n l0 l1 l2 l3 K6 l5 l7) := by
  unfold X2_takeAway_L6_body
  refine pz_iload 5 dX2_takeAway_6 rfl ?_
  refine pz_iload_n 2 dX2_takeAway_8 rfl ?_
  refine pz_icmp_ge 83 dX2_takeAway_9 (by decide) ?_ ?_
  · refine pz_aload_n 0 dX2_takeAway_83 rfl ?_
    refine pz_getR (ci := 2) (k := 4) ck_2 (by decide) (Or.inl pw_115) dX2_takeAway_84 (fun x1 => ?_)
    refine pz_iload_n 1 dX2_takeAway_87 rfl ?_
    refine pz_iload_n 2 dX2_takeAway_88 rfl ?_
    refine pz_iadd dX2_takeAway_89 ?_
    refine pz_dup2_11 dX2_takeAway_90 rfl (pz_rf1 _) ?_
    refine pz_lald (t := 2) rfl dX2_takeAway_91 (fun x2 => ?_)
    refine pz_lload 4 dX2_takeAway_92 rfl ?_
    refine pz_lsub dX2_takeAway_94 ?_
    refine pz_last (t := 2) rfl dX2_takeAway_95 ?_
    refine pz_aload_n 0 dX2_takeAway_96 rfl ?_
    refine pz_getR (ci := 2) (k := 4) ck_2 (by decide) (Or.inl pw_115) dX2_takeAway_97 (fun x3 => ?_)
    refine pz_iload_n 1 dX2_takeAway_100 rfl ?_
    refine pz_iload_n 2 dX2_takeAway_101 rfl ?_
    refine pz_iadd dX2_takeAway_102 ?_
    refine pz_lald (t := 2) rfl dX2_takeAway_103 (fun x4 => ?_)
    refine pz_lconst 0 dX2_takeAway_104 (by decide) ?_
    refine pz_lcmp dX2_takeAway_105 ?_
    refine pz_if_lt 111 dX2_takeAway_106 (by decide) ?_ ?_
    · refine pz_lconst 0 dX2_takeAway_111 (by decide) ?_
      refine pz_lstore [(7, .long 0), (0, va_rf l0), (1, .int l1), (2, .int l2), (3, .long l3), (5, .long l5)] dX2_takeAway_112 (by decide) rfl ?_
      refine pz_iconst 0 dX2_takeAway_114 (by decide) ?_
      refine pz_istore [(9, .int 0), (7, .long 0), (0, va_rf l0), (1, .int l1), (2, .int l2), (3, .long l3), (5, .long l5)] dX2_takeAway_115 (by decide) rfl ?_
      exact pz_sub [2, 3, 4, 5, 1, 0] rfl (S_X2_takeAway_L117 X n l0 l1 l2 l3 0 0)
    · refine pz_lload_n 3 dX2_takeAway_109 rfl ?_
      exact pz_lret rfl dX2_takeAway_110
  · refine pz_aload_n 0 dX2_takeAway_12 rfl ?_
    refine pz_getR (ci := 2) (k := 4) ck_2 (by decide) (Or.inl pw_115) dX2_takeAway_13 (fun x14 => ?_)
    refine pz_iload_n 1 dX2_takeAway_16 rfl ?_
    refine pz_iload 5 dX2_takeAway_17 rfl ?_
    refine pz_iadd dX2_takeAway_19 ?_
    refine pz_lald (t := 2) rfl dX2_takeAway_20 (fun x15 => ?_)
    refine pz_lload_n 3 dX2_takeAway_21 rfl ?_
    refine pz_aload_n 0 dX2_takeAway_22 rfl ?_
    refine pz_getR (ci := 2) (k := 5) ck_2 (by decide) (Or.inl pw_116) dX2_takeAway_23 (fun x16 => ?_)
    refine pz_iload 5 dX2_takeAway_26 rfl ?_
    refine pz_lald (t := 2) rfl dX2_takeAway_28 (fun x17 => ?_)
    refine pz_lmul dX2_takeAway_29 ?_
    refine pz_lsub dX2_takeAway_30 ?_
    refine pz_lload 4 dX2_takeAway_31 rfl ?_
    refine pz_lsub dX2_takeAway_33 ?_
    refine pz_nmL (fun l8_18 => ?_)
    refine pz_lstore [(8, .long l8_18), (0, va_rf l0), (1, .int l1), (2, .int l2), (3, .long l3), (5, .long l5), (7, .int l7)] dX2_takeAway_34 (by decide) rfl ?_
    refine pz_lload 0 dX2_takeAway_36 rfl ?_
    refine pz_lconst 0 dX2_takeAway_38 (by decide) ?_
    refine pz_lcmp dX2_takeAway_39 ?_
    refine pz_if_ge 56 dX2_takeAway_40 (by decide) ?_ ?_
    · refine pz_lconst 0 dX2_takeAway_56 (by decide) ?_
      exact pz_sub [1, 2, 3, 4, 6, 0] rfl (S_X2_takeAway_b57 X n l0 l1 l2 l3 K6 hK6 l7 l8_18 0)
    · refine pz_ldc2 999999999 dX2_takeAway_43 pw_643 ?_
      refine pz_lload 0 dX2_takeAway_46 rfl ?_
      refine pz_lsub dX2_takeAway_48 ?_
      refine pz_ldc2 1000000000 dX2_takeAway_49 pw_624 ?_
      refine pz_ldiv dX2_takeAway_52 (fun x21 => ?_)
      refine pz_goto 57 dX2_takeAway_53 (by decide) ?_
      exact pz_sub [1, 2, 3, 4, 6, 0] rfl (S_X2_takeAway_b57 X n l0 l1 l2 l3 K6 hK6 l7 l8_18 x21)
set_option maxRecDepth 20000 in
theorem S_X2_takeAway_L6 (X : pz_X) (n : Nat) (l0 : Option Nat) (l1 : Int32) (l2 : Int32) (l3 : Int64) (l5 : Int64) (l7 : Int32) : pz_Sm X (pz_QM X) J_X2_takeAway pz_vL 6 [(0, va_rf l0), (1, .int l1), (2, .int l2), (3, .long l3), (5, .long l5), (7, .int l7)] [] (X2_takeAway_L6 n l0 l1 l2 l3 l5 l7) :=
  pz_lp (L := fun (s : Int64 × Int32) => [(0, va_rf l0), (1, .int l1), (2, .int l2), (3, .long l3), (5, .long s.1), (7, .int s.2)]) (fun K hK s => S_X2_takeAway_L6_body X n l0 l1 l2 l3 (fun l5 l7 => K (l5, l7)) (fun l5 l7 => hK (l5, l7)) s.1 s.2) n (l5, l7)
set_option maxRecDepth 20000 in
theorem S_X2_takeAway (X : pz_X) (n : Nat) (l0 : Option Nat) (l1 : Int32) (l2 : Int32) (l3 : Int64) : pz_Sm X (pz_QM X) J_X2_takeAway pz_vL 0 [(0, va_rf l0), (1, .int l1), (2, .int l2), (3, .long l3)] [] (X2_takeAway n l0 l1 l2 l3) := by
  unfold X2_takeAway
  refine pz_lconst 0 dX2_takeAway_0 (by decide) ?_
  refine pz_lstore [(5, .long 0), (0, va_rf l0), (1, .int l1), (2, .int l2), (3, .long l3)] dX2_takeAway_1 (by decide) rfl ?_
  refine pz_iconst 0 dX2_takeAway_3 (by decide) ?_
  refine pz_istore [(7, .int 0), (5, .long 0), (0, va_rf l0), (1, .int l1), (2, .int l2), (3, .long l3)] dX2_takeAway_4 (by decide) rfl ?_
  exact pz_sub [2, 3, 4, 5, 1, 0] rfl (S_X2_takeAway_L6 X n l0 l1 l2 l3 0 0)
set_option maxRecDepth 20000 in
theorem md_X2_takeAway (X : pz_X) (n : Nat) (l0 : Option Nat) (l1 : Int32) (l2 : Int32) (l3 : Int64) : pz_Md X yX2_takeAway J_X2_takeAway pz_vL [va_rf l0, .int l1, .int l2, .long l3] (X2_takeAway n l0 l1 l2 l3) :=
  pz_md [(0, va_rf l0), (1, .int l1), (2, .int l2), (3, .long l3)] (by decide +kernel) rfl rfl (by cases l0 <;> rfl) (by cases l0 <;> exact Nat.le_of_ble_eq_true rfl) (fun X => S_X2_takeAway X n l0 l1 l2 l3)
set_option maxRecDepth 20000 in
theorem S_X2_divideByLimbs_b166 (X : pz_X) (n : Nat) (l0 : Option Nat) (l3 : Int32) : pz_Sm X (pz_QM X) J_X2_divideByLimbs pz_vU 166 [(0, va_rf l0), (3, .int l3)] [] (X2_divideByLimbs_b166 n l0 l3) := by
  unfold X2_divideByLimbs_b166
  refine pz_aload_n 0 dX2_divideByLimbs_166 rfl ?_
  refine pz_getR (ci := 2) (k := 1) ck_2 (by decide) (Or.inl pw_110) dX2_divideByLimbs_167 (fun x14 => ?_)
  refine pz_iload_n 1 dX2_divideByLimbs_170 rfl ?_
  refine pz_csU (st := []) (md_X2_trim X n x14 l3) mk_X2_trim (Or.inl pw_625) pw_626 rfl rfl (by decide) (by decide) (by decide) dX2_divideByLimbs_171 (fun _ => ?_)
  exact pz_vret rfl dX2_divideByLimbs_174
set_option maxRecDepth 20000 in
theorem S_X2_divideByLimbs_L109_body (X : pz_X) (n : Nat) (l0 : Option Nat) (l3 : Int32) (l5 : Int64) (K109 : Int64 → Int32 → pz_C Unit) (hK109 : ∀ (l7 : Int64) (l9 : Int32), pz_Sm X (pz_QM X) J_X2_divideByLimbs pz_vU 109 [(0, va_rf l0), (3, .int l3), (5, .long l5), (7, .long l7), (9, .int l9)] [] (K109 l7 l9)) (l7 : Int64) (l9 : Int32) : pz_Sm X (pz_QM X) J_X2_divideByLimbs pz_vU 109 [(0, va_rf l0), (3, .int l3), (5, .long l5), (7, .long l7), (9, .int l9)] [] (X2_divideByLimbs_L109_body n l0 l3 l5 K109 l7 l9) := by
  unfold X2_divideByLimbs_L109_body
  refine pz_iload 4 dX2_divideByLimbs_109 rfl ?_
  refine pz_if_lt 166 dX2_divideByLimbs_111 (by decide) ?_ ?_
  · exact pz_sub [0, 1] rfl (S_X2_divideByLimbs_b166 X n l0 l3)
  · refine pz_lload 2 dX2_divideByLimbs_114 rfl ?_
    refine pz_lconst 0 dX2_divideByLimbs_116 (by decide) ?_
    refine pz_lcmp dX2_divideByLimbs_117 ?_
    refine pz_if_le 166 dX2_divideByLimbs_118 (by decide) ?_ ?_
    · exact pz_sub [0, 1] rfl (S_X2_divideByLimbs_b166 X n l0 l3)
    · refine pz_lload 3 dX2_divideByLimbs_121 rfl ?_
      refine pz_ldc2 1000000000 dX2_divideByLimbs_123 pw_624 ?_
      refine pz_lmul dX2_divideByLimbs_126 ?_
      refine pz_aload_n 0 dX2_divideByLimbs_127 rfl ?_
      refine pz_getR (ci := 2) (k := 4) ck_2 (by decide) (Or.inl pw_115) dX2_divideByLimbs_128 (fun x16 => ?_)
      refine pz_iload 4 dX2_divideByLimbs_131 rfl ?_
      refine pz_lald (t := 2) rfl dX2_divideByLimbs_133 (fun x17 => ?_)
      refine pz_ladd dX2_divideByLimbs_134 ?_
      refine pz_nmL (fun l10_18 => ?_)
      refine pz_lstore [(10, .long l10_18), (0, va_rf l0), (3, .int l3), (5, .long l5), (7, .long l7), (9, .int l9)] dX2_divideByLimbs_135 (by decide) rfl ?_
      refine pz_aload_n 1 dX2_divideByLimbs_137 rfl ?_
      refine pz_getR (ci := 2) (k := 1) ck_2 (by decide) (Or.inl pw_110) dX2_divideByLimbs_138 (fun x19 => ?_)
      refine pz_getR (ci := 0) (k := 0) ck_0 (by decide) (Or.inl pw_87) dX2_divideByLimbs_141 (fun x20 => ?_)
      refine pz_iload 5 dX2_divideByLimbs_144 rfl ?_
      refine pz_lload 0 dX2_divideByLimbs_146 rfl ?_
      refine pz_lload 3 dX2_divideByLimbs_148 rfl ?_
      refine pz_ldiv dX2_divideByLimbs_150 (fun x21 => ?_)
      refine pz_l2i dX2_divideByLimbs_151 ?_
      refine pz_iast (t := 0) rfl dX2_divideByLimbs_152 ?_
      refine pz_lload 0 dX2_divideByLimbs_153 rfl ?_
      refine pz_lload 3 dX2_divideByLimbs_155 rfl ?_
      refine pz_lrem dX2_divideByLimbs_157 (fun x22 => ?_)
      refine pz_lstore [(7, .long x22), (10, .long l10_18), (0, va_rf l0), (3, .int l3), (5, .long l5), (9, .int l9)] dX2_divideByLimbs_158 (by decide) rfl ?_
      refine pz_iinc 5 (-1) (fun l9_23 => [(9, .int l9_23), (7, .long x22), (10, .long l10_18), (0, va_rf l0), (3, .int l3), (5, .long l5)]) dX2_divideByLimbs_160 rfl (by decide) (by decide) (fun l9_23 => rfl) (fun l9_23 => ?_)
      refine pz_goto 109 dX2_divideByLimbs_163 (by decide) ?_
      exact pz_sub [3, 4, 5, 1, 0] rfl (hK109 x22 l9_23)
set_option maxRecDepth 20000 in
theorem S_X2_divideByLimbs_L109 (X : pz_X) (n : Nat) (l0 : Option Nat) (l3 : Int32) (l5 : Int64) (l7 : Int64) (l9 : Int32) : pz_Sm X (pz_QM X) J_X2_divideByLimbs pz_vU 109 [(0, va_rf l0), (3, .int l3), (5, .long l5), (7, .long l7), (9, .int l9)] [] (X2_divideByLimbs_L109 n l0 l3 l5 l7 l9) :=
  pz_lp (L := fun (s : Int64 × Int32) => [(0, va_rf l0), (3, .int l3), (5, .long l5), (7, .long s.1), (9, .int s.2)]) (fun K hK s => S_X2_divideByLimbs_L109_body X n l0 l3 l5 (fun l7 l9 => K (l7, l9)) (fun l7 l9 => hK (l7, l9)) s.1 s.2) n (l7, l9)
set_option maxRecDepth 20000 in
theorem S_X2_divideByLimbs_L54_body (X : pz_X) (n : Nat) (l0 : Option Nat) (l3 : Int32) (l4 : Int32) (l5 : Int64) (K54 : Int32 → pz_C Unit) (hK54 : ∀ (l7 : Int32), pz_Sm X (pz_QM X) J_X2_divideByLimbs pz_vU 54 [(0, va_rf l0), (3, .int l3), (4, .int l4), (5, .long l5), (7, .int l7)] [] (K54 l7)) (l7 : Int32) : pz_Sm X (pz_QM X) J_X2_divideByLimbs pz_vU 54 [(0, va_rf l0), (3, .int l3), (4, .int l4), (5, .long l5), (7, .int l7)] [] (X2_divideByLimbs_L54_body n l0 l3 l4 l5 K54 l7) := by
  unfold X2_divideByLimbs_L54_body
  refine pz_iload 4 dX2_divideByLimbs_54 rfl ?_
  refine pz_if_lt 90 dX2_divideByLimbs_56 (by decide) ?_ ?_
  · refine pz_aload_n 0 dX2_divideByLimbs_90 rfl ?_
    refine pz_getR (ci := 2) (k := 0) ck_2 (by decide) (Or.inl pw_108) dX2_divideByLimbs_91 (fun x11 => ?_)
    refine pz_iload 2 dX2_divideByLimbs_94 rfl ?_
    refine pz_iconst 1 dX2_divideByLimbs_96 (by decide) ?_
    refine pz_iadd dX2_divideByLimbs_97 ?_
    refine pz_csU (st := []) (md_X2_trim X n x11 (l4 + 1)) mk_X2_trim (Or.inl pw_625) pw_626 rfl rfl (by decide) (by decide) (by decide) dX2_divideByLimbs_98 (fun _ => ?_)
    refine pz_lconst 0 dX2_divideByLimbs_101 (by decide) ?_
    refine pz_lstore [(7, .long 0), (0, va_rf l0), (3, .int l3), (4, .int l4), (5, .long l5)] dX2_divideByLimbs_102 (by decide) rfl ?_
    refine pz_iload_n 2 dX2_divideByLimbs_104 rfl ?_
    refine pz_iconst 1 dX2_divideByLimbs_105 (by decide) ?_
    refine pz_isub dX2_divideByLimbs_106 ?_
    refine pz_nmI (fun l9_13 => ?_)
    refine pz_istore [(9, .int l9_13), (7, .long 0), (0, va_rf l0), (3, .int l3), (4, .int l4), (5, .long l5)] dX2_divideByLimbs_107 (by decide) rfl ?_
    exact pz_sub [2, 3, 5, 1, 0] rfl (S_X2_divideByLimbs_L109 X n l0 l3 l5 0 l9_13)
  · refine pz_aload_n 0 dX2_divideByLimbs_59 rfl ?_
    refine pz_getR (ci := 2) (k := 0) ck_2 (by decide) (Or.inl pw_108) dX2_divideByLimbs_60 (fun x24 => ?_)
    refine pz_getR (ci := 0) (k := 0) ck_0 (by decide) (Or.inl pw_87) dX2_divideByLimbs_63 (fun x25 => ?_)
    refine pz_iload 4 dX2_divideByLimbs_66 rfl ?_
    refine pz_aload_n 0 dX2_divideByLimbs_68 rfl ?_
    refine pz_iload 4 dX2_divideByLimbs_69 rfl ?_
    refine pz_iload_n 1 dX2_divideByLimbs_71 rfl ?_
    refine pz_aload_n 0 dX2_divideByLimbs_72 rfl ?_
    refine pz_iload 4 dX2_divideByLimbs_73 rfl ?_
    refine pz_iload_n 1 dX2_divideByLimbs_75 rfl ?_
    refine pz_cvL (st := [.int l3, .int l7, va_rf l0, .int l7, va_rf x25]) (md_X2_guessDigit X n l0 l7 l3) ck_2 rfl mk_X2_guessDigit (Or.inl pw_635) pw_637 ps_11 rfl rfl (by simp [pz_rf1, pz_ci, pz_cl]) (by decide) (by decide) dX2_divideByLimbs_76 (fun x26 => ?_)
    refine pz_cvL (st := [.int l7, va_rf x25]) (md_X2_takeAway X n l0 l7 l3 x26) ck_2 rfl mk_X2_takeAway (Or.inl pw_639) pw_641 ps_12 rfl rfl (by simp [pz_rf1, pz_ci, pz_cl]) (by decide) (by decide) dX2_divideByLimbs_79 (fun x27 => ?_)
    refine pz_l2i dX2_divideByLimbs_82 ?_
    refine pz_iast (t := 0) rfl dX2_divideByLimbs_83 ?_
    refine pz_iinc 4 (-1) (fun l7_28 => [(7, .int l7_28), (0, va_rf l0), (3, .int l3), (4, .int l4), (5, .long l5)]) dX2_divideByLimbs_84 rfl (by decide) (by decide) (fun l7_28 => rfl) (fun l7_28 => ?_)
    refine pz_goto 54 dX2_divideByLimbs_87 (by decide) ?_
    exact pz_sub [1, 2, 3, 4, 0] rfl (hK54 l7_28)
set_option maxRecDepth 20000 in
theorem S_X2_divideByLimbs_L54 (X : pz_X) (n : Nat) (l0 : Option Nat) (l3 : Int32) (l4 : Int32) (l5 : Int64) (l7 : Int32) : pz_Sm X (pz_QM X) J_X2_divideByLimbs pz_vU 54 [(0, va_rf l0), (3, .int l3), (4, .int l4), (5, .long l5), (7, .int l7)] [] (X2_divideByLimbs_L54 n l0 l3 l4 l5 l7) :=
  pz_lp (L := fun (s : Int32) => [(0, va_rf l0), (3, .int l3), (4, .int l4), (5, .long l5), (7, .int s)]) (fun K hK s => S_X2_divideByLimbs_L54_body X n l0 l3 l4 l5 (fun l7 => K l7) (fun l7 => hK l7) s) n l7
set_option maxRecDepth 20000 in
theorem S_X2_divideByLimbs (X : pz_X) (n : Nat) (l0 : Option Nat) (l1 : Option Nat) (l2 : Option Nat) : pz_Sm X (pz_QM X) J_X2_divideByLimbs pz_vU 0 [(0, va_rf l0), (1, va_rf l1), (2, va_rf l2)] [] (X2_divideByLimbs n l0 l1 l2) := by
  unfold X2_divideByLimbs
  refine pz_aload_n 2 dX2_divideByLimbs_0 rfl ?_
  refine pz_getI (ci := 0) (k := 1) ck_0 (by decide) (Or.inl pw_89) dX2_divideByLimbs_1 (fun x1 => ?_)
  refine pz_istore_n [(3, .int x1), (0, va_rf l0), (1, va_rf l1), (2, va_rf l2)] dX2_divideByLimbs_4 (by decide) (by cases l2 <;> rfl) ?_
  refine pz_aload_n 2 dX2_divideByLimbs_5 rfl ?_
  refine pz_getI (ci := 0) (k := 1) ck_0 (by decide) (Or.inl pw_89) dX2_divideByLimbs_6 (fun x2 => ?_)
  refine pz_iload_n 0 dX2_divideByLimbs_9 rfl ?_
  refine pz_isub dX2_divideByLimbs_10 ?_
  refine pz_nmI (fun l4_3 => ?_)
  refine pz_istore [(4, .int l4_3), (3, .int x1), (0, va_rf l0), (1, va_rf l1), (2, va_rf l2)] dX2_divideByLimbs_11 (by decide) rfl ?_
  refine pz_ldc2 1000000000 dX2_divideByLimbs_13 pw_624 ?_
  refine pz_aload_n 4 dX2_divideByLimbs_16 rfl ?_
  refine pz_getR (ci := 0) (k := 0) ck_0 (by decide) (Or.inl pw_87) dX2_divideByLimbs_17 (fun x4 => ?_)
  refine pz_iload_n 1 dX2_divideByLimbs_20 rfl ?_
  refine pz_iconst 1 dX2_divideByLimbs_21 (by decide) ?_
  refine pz_isub dX2_divideByLimbs_22 ?_
  refine pz_iald (t := 0) rfl dX2_divideByLimbs_23 (fun x5 => ?_)
  refine pz_i2l dX2_divideByLimbs_24 ?_
  refine pz_lconst 1 dX2_divideByLimbs_25 (by decide) ?_
  refine pz_ladd dX2_divideByLimbs_26 ?_
  refine pz_ldiv dX2_divideByLimbs_27 (fun x6 => ?_)
  refine pz_lstore [(5, .long x6), (4, .int l4_3), (3, .int x1), (0, va_rf l0), (1, va_rf l1), (2, va_rf l2)] dX2_divideByLimbs_28 (by decide) rfl ?_
  refine pz_aload_n 3 dX2_divideByLimbs_30 rfl ?_
  refine pz_getR (ci := 2) (k := 4) ck_2 (by decide) (Or.inl pw_115) dX2_divideByLimbs_31 (fun x7 => ?_)
  refine pz_aload_n 4 dX2_divideByLimbs_34 rfl ?_
  refine pz_lload 0 dX2_divideByLimbs_35 rfl ?_
  refine pz_csU (st := []) (md_X2_scaleInto X n x7 l1 x6) mk_X2_scaleInto (Or.inl pw_632) pw_633 rfl rfl (by decide) (by decide) (by decide) dX2_divideByLimbs_37 (fun _ => ?_)
  refine pz_aload_n 3 dX2_divideByLimbs_40 rfl ?_
  refine pz_getR (ci := 2) (k := 5) ck_2 (by decide) (Or.inl pw_116) dX2_divideByLimbs_41 (fun x9 => ?_)
  refine pz_aload_n 5 dX2_divideByLimbs_44 rfl ?_
  refine pz_lload 0 dX2_divideByLimbs_45 rfl ?_
  refine pz_csU (st := []) (md_X2_scaleInto X n x9 l2 x6) mk_X2_scaleInto (Or.inl pw_632) pw_633 rfl rfl (by decide) (by decide) (by decide) dX2_divideByLimbs_47 (fun _ => ?_)
  refine pz_iload 1 dX2_divideByLimbs_50 rfl ?_
  refine pz_istore [(7, .int l4_3), (5, .long x6), (4, .int l4_3), (3, .int x1), (0, va_rf l0), (1, va_rf l1), (2, va_rf l2)] dX2_divideByLimbs_52 (by decide) rfl ?_
  exact pz_sub [4, 3, 2, 1, 0] rfl (S_X2_divideByLimbs_L54 X n l0 x1 l4_3 x6 l4_3)
set_option maxRecDepth 20000 in
theorem md_X2_divideByLimbs (X : pz_X) (n : Nat) (l0 : Option Nat) (l1 : Option Nat) (l2 : Option Nat) : pz_Md X yX2_divideByLimbs J_X2_divideByLimbs pz_vU [va_rf l0, va_rf l1, va_rf l2] (X2_divideByLimbs n l0 l1 l2) :=
  pz_md [(0, va_rf l0), (1, va_rf l1), (2, va_rf l2)] (by decide +kernel) rfl rfl (by cases l0 <;> cases l1 <;> cases l2 <;> rfl) (by cases l0 <;> cases l1 <;> cases l2 <;> exact Nat.le_of_ble_eq_true rfl) (fun X => S_X2_divideByLimbs X n l0 l1 l2)
set_option maxRecDepth 20000 in
theorem S_X2_divide_b75 (X : pz_X) (n : Nat) : pz_Sm X (pz_QM X) J_X2_divide pz_vU 75 [] [] (X2_divide_b75 n) := by
  unfold X2_divide_b75
  exact pz_vret rfl dX2_divide_75
set_option maxRecDepth 20000 in
theorem S_X2_divide_b31 (X : pz_X) (n : Nat) (l0 : Option Nat) (l1 : Option Nat) : pz_Sm X (pz_QM X) J_X2_divide pz_vU 31 [(0, va_rf l0), (1, va_rf l1)] [] (X2_divide_b31 n l0 l1) := by
  unfold X2_divide_b31
  refine pz_aload_n 0 dX2_divide_31 rfl ?_
  refine pz_getR (ci := 2) (k := 1) ck_2 (by decide) (Or.inl pw_110) dX2_divide_32 (fun x6 => ?_)
  refine pz_aload_n 1 dX2_divide_35 rfl ?_
  refine pz_aload_n 1 dX2_divide_36 rfl ?_
  refine pz_getI (ci := 0) (k := 2) ck_0 (by decide) (Or.inl pw_95) dX2_divide_37 (fun x7 => ?_)
  refine pz_cvU (st := []) (md_X0_set X n x6 l1 x7) ck_0 rfl mk_X0_set (Or.inl pw_612) pw_613 pw_614 rfl rfl (by decide) (by decide) (by decide) dX2_divide_40 (fun _ => ?_)
  refine pz_goto 75 dX2_divide_43 (by decide) ?_
  exact pz_sub [] rfl (S_X2_divide_b75 X n)
set_option maxRecDepth 20000 in
theorem S_X2_divide (X : pz_X) (n : Nat) (l0 : Option Nat) (l1 : Option Nat) (l2 : Option Nat) : pz_Sm X (pz_QM X) J_X2_divide pz_vU 0 [(0, va_rf l0), (1, va_rf l1), (2, va_rf l2)] [] (X2_divide n l0 l1 l2) := by
  unfold X2_divide
  refine pz_aload_n 0 dX2_divide_0 rfl ?_
  refine pz_getR (ci := 2) (k := 0) ck_2 (by decide) (Or.inl pw_108) dX2_divide_1 (fun x1 => ?_)
  refine pz_lconst 0 dX2_divide_4 (by decide) ?_
  refine pz_cvU (st := []) (md_X0_setLong X n x1 0) ck_0 rfl mk_X0_setLong (Or.inl pw_607) pw_383 pw_384 rfl rfl (by decide) (by decide) (by decide) dX2_divide_5 (fun _ => ?_)
  refine pz_aload_n 0 dX2_divide_8 rfl ?_
  refine pz_getR (ci := 2) (k := 1) ck_2 (by decide) (Or.inl pw_110) dX2_divide_9 (fun x3 => ?_)
  refine pz_lconst 0 dX2_divide_12 (by decide) ?_
  refine pz_cvU (st := []) (md_X0_setLong X n x3 0) ck_0 rfl mk_X0_setLong (Or.inl pw_607) pw_383 pw_384 rfl rfl (by decide) (by decide) (by decide) dX2_divide_13 (fun _ => ?_)
  refine pz_aload_n 2 dX2_divide_16 rfl ?_
  refine pz_getI (ci := 0) (k := 1) ck_0 (by decide) (Or.inl pw_89) dX2_divide_17 (fun x5 => ?_)
  refine pz_if_eq 31 dX2_divide_20 (by decide) ?_ ?_
  · exact pz_sub [0, 1] rfl (S_X2_divide_b31 X n l0 l1)
  · refine pz_aload_n 1 dX2_divide_23 rfl ?_
    refine pz_aload_n 2 dX2_divide_24 rfl ?_
    refine pz_cvI (st := []) (md_X0_compareSize X n l1 l2) ck_0 rfl mk_X0_compareSize (Or.inl pw_608) pw_609 pw_610 rfl rfl (by decide) (by decide) (by decide) dX2_divide_25 (fun x9 => ?_)
    refine pz_if_ge 46 dX2_divide_28 (by decide) ?_ ?_
    · refine pz_aload_n 2 dX2_divide_46 rfl ?_
      refine pz_getI (ci := 0) (k := 1) ck_0 (by decide) (Or.inl pw_89) dX2_divide_47 (fun x10 => ?_)
      refine pz_iconst 1 dX2_divide_50 (by decide) ?_
      refine pz_icmp_ne 69 dX2_divide_51 (by decide) ?_ ?_
      · refine pz_aload_n 0 dX2_divide_54 rfl ?_
        refine pz_aload_n 1 dX2_divide_55 rfl ?_
        refine pz_aload_n 2 dX2_divide_56 rfl ?_
        refine pz_getR (ci := 0) (k := 0) ck_0 (by decide) (Or.inl pw_87) dX2_divide_57 (fun x11 => ?_)
        refine pz_iconst 0 dX2_divide_60 (by decide) ?_
        refine pz_iald (t := 0) rfl dX2_divide_61 (fun x12 => ?_)
        refine pz_i2l dX2_divide_62 ?_
        refine pz_cvU (st := []) (md_X2_divideByLimb X n l0 l1 (Int32.toInt64 x12)) ck_2 rfl mk_X2_divideByLimb (Or.inl pw_619) pw_621 ps_9 rfl rfl (by decide) (by decide) (by decide) dX2_divide_63 (fun _ => ?_)
        refine pz_goto 75 dX2_divide_66 (by decide) ?_
        exact pz_sub [] rfl (S_X2_divide_b75 X n)
      · refine pz_aload_n 0 dX2_divide_69 rfl ?_
        refine pz_aload_n 1 dX2_divide_70 rfl ?_
        refine pz_aload_n 2 dX2_divide_71 rfl ?_
        refine pz_cvU (st := []) (md_X2_divideByLimbs X n l0 l1 l2) ck_2 rfl mk_X2_divideByLimbs (Or.inl pw_628) pw_630 ps_10 rfl rfl (by decide) (by decide) (by decide) dX2_divide_72 (fun _ => ?_)
        exact pz_sub [] rfl (S_X2_divide_b75 X n)
    · exact pz_sub [0, 1] rfl (S_X2_divide_b31 X n l0 l1)
set_option maxRecDepth 20000 in
theorem md_X2_divide (X : pz_X) (n : Nat) (l0 : Option Nat) (l1 : Option Nat) (l2 : Option Nat) : pz_Md X yX2_divide J_X2_divide pz_vU [va_rf l0, va_rf l1, va_rf l2] (X2_divide n l0 l1 l2) :=
  pz_md [(0, va_rf l0), (1, va_rf l1), (2, va_rf l2)] (by decide +kernel) rfl rfl (by cases l0 <;> cases l1 <;> cases l2 <;> rfl) (by cases l0 <;> cases l1 <;> cases l2 <;> exact Nat.le_of_ble_eq_true rfl) (fun X => S_X2_divide X n l0 l1 l2)
set_option maxRecDepth 20000 in
theorem S_X9_isAmountWhole_b47 (X : pz_X) (n : Nat) (s0 : Int32) : pz_Sm X (pz_QM X) J_X9_isAmountWhole pz_vI 47 [] [.int s0] (X9_isAmountWhole_b47 n s0) := by
  unfold X9_isAmountWhole_b47
  exact pz_zret rfl dX9_isAmountWhole_47
set_option maxRecDepth 20000 in
theorem S_X9_isAmountWhole (X : pz_X) (n : Nat) (l0 : Option Nat) (l1 : Int32) : pz_Sm X (pz_QM X) J_X9_isAmountWhole pz_vI 0 [(0, va_rf l0), (1, .int l1)] [] (X9_isAmountWhole n l0 l1) := by
  unfold X9_isAmountWhole
  refine pz_aload_n 0 dX9_isAmountWhole_0 rfl ?_
  refine pz_getR (ci := 9) (k := 9) ck_9 (by decide) (Or.inl pw_165) dX9_isAmountWhole_1 (fun x1 => ?_)
  refine pz_cvI (st := []) (md_X0_isOne X n x1) ck_0 rfl mk_X0_isOne (Or.inl pw_599) pw_600 pw_601 rfl rfl (by decide) (by decide) (by decide) dX9_isAmountWhole_4 (fun x2 => ?_)
  refine pz_if_eq 12 dX9_isAmountWhole_7 (by decide) ?_ ?_
  · refine pz_aload_n 0 dX9_isAmountWhole_12 rfl ?_
    refine pz_getR (ci := 9) (k := 1) ck_9 (by decide) (Or.inl pw_154) dX9_isAmountWhole_13 (fun x3 => ?_)
    refine pz_aload_n 0 dX9_isAmountWhole_16 rfl ?_
    refine pz_getR (ci := 9) (k := 3) ck_9 (by decide) (Or.inl pw_156) dX9_isAmountWhole_17 (fun x4 => ?_)
    refine pz_iload_n 1 dX9_isAmountWhole_20 rfl ?_
    refine pz_aald (t := 3) rfl rfl dX9_isAmountWhole_21 (fun x5 => ?_)
    refine pz_aload_n 0 dX9_isAmountWhole_22 rfl ?_
    refine pz_getR (ci := 9) (k := 9) ck_9 (by decide) (Or.inl pw_165) dX9_isAmountWhole_23 (fun x6 => ?_)
    refine pz_cvU (st := []) (md_X2_divide X n x3 x5 x6) ck_2 rfl mk_X2_divide (Or.inl pw_603) pw_604 pw_605 rfl rfl (by decide) (by decide) (by decide) dX9_isAmountWhole_26 (fun _ => ?_)
    refine pz_aload_n 0 dX9_isAmountWhole_29 rfl ?_
    refine pz_getR (ci := 9) (k := 1) ck_9 (by decide) (Or.inl pw_154) dX9_isAmountWhole_30 (fun x8 => ?_)
    refine pz_getR (ci := 2) (k := 1) ck_2 (by decide) (Or.inl pw_112) dX9_isAmountWhole_33 (fun x9 => ?_)
    refine pz_getI (ci := 0) (k := 1) ck_0 (by decide) (Or.inl pw_93) dX9_isAmountWhole_36 (fun x10 => ?_)
    refine pz_if_ne 46 dX9_isAmountWhole_39 (by decide) ?_ ?_
    · refine pz_iconst 1 dX9_isAmountWhole_42 (by decide) ?_
      refine pz_goto 47 dX9_isAmountWhole_43 (by decide) ?_
      exact pz_sub [] rfl (S_X9_isAmountWhole_b47 X n 1)
    · refine pz_iconst 0 dX9_isAmountWhole_46 (by decide) ?_
      exact pz_sub [] rfl (S_X9_isAmountWhole_b47 X n 0)
  · refine pz_iconst 1 dX9_isAmountWhole_10 (by decide) ?_
    exact pz_zret rfl dX9_isAmountWhole_11
set_option maxRecDepth 20000 in
theorem md_X9_isAmountWhole (X : pz_X) (n : Nat) (l0 : Option Nat) (l1 : Int32) : pz_Md X yX9_isAmountWhole J_X9_isAmountWhole pz_vI [va_rf l0, .int l1] (X9_isAmountWhole n l0 l1) :=
  pz_md [(0, va_rf l0), (1, .int l1)] (by decide +kernel) rfl rfl (by cases l0 <;> rfl) (by cases l0 <;> exact Nat.le_of_ble_eq_true rfl) (fun X => S_X9_isAmountWhole X n l0 l1)
set_option maxRecDepth 20000 in
theorem S_X7_firstNotWhole_b51 (X : pz_X) (n : Nat) (l0 : Option Nat) (K2 : Int32 → pz_C Int32) (hK2 : ∀ (l1 : Int32), pz_Sm X (pz_QM X) J_X7_firstNotWhole pz_vI 2 [(0, va_rf l0), (1, .int l1)] [] (K2 l1)) (l1 : Int32) : pz_Sm X (pz_QM X) J_X7_firstNotWhole pz_vI 51 [(0, va_rf l0), (1, .int l1)] [] (X7_firstNotWhole_b51 n K2 l0 l1) := by
  unfold X7_firstNotWhole_b51
  refine pz_iinc 1 1 (fun l1_8 => [(1, .int l1_8), (0, va_rf l0)]) dX7_firstNotWhole_51 rfl (by decide) (by decide) (fun l1_8 => (by cases l0 <;> rfl)) (fun l1_8 => ?_)
  refine pz_goto 2 dX7_firstNotWhole_54 (by decide) ?_
  exact pz_sub [1, 0] rfl (hK2 l1_8)
set_option maxRecDepth 20000 in
theorem S_X7_firstNotWhole_L2_body (X : pz_X) (n : Nat) (l0 : Option Nat) (K2 : Int32 → pz_C Int32) (hK2 : ∀ (l1 : Int32), pz_Sm X (pz_QM X) J_X7_firstNotWhole pz_vI 2 [(0, va_rf l0), (1, .int l1)] [] (K2 l1)) (l1 : Int32) : pz_Sm X (pz_QM X) J_X7_firstNotWhole pz_vI 2 [(0, va_rf l0), (1, .int l1)] [] (X7_firstNotWhole_L2_body n l0 K2 l1) := by
  unfold X7_firstNotWhole_L2_body
  refine pz_iload_n 1 dX7_firstNotWhole_2 rfl ?_
  refine pz_aload_n 0 dX7_firstNotWhole_3 rfl ?_
  refine pz_getR (ci := 7) (k := 0) ck_7 (by decide) (Or.inl pw_300) dX7_firstNotWhole_4 (fun x1 => ?_)
  refine pz_getI (ci := 6) (k := 5) ck_6 (by decide) (Or.inl pw_51) dX7_firstNotWhole_7 (fun x2 => ?_)
  refine pz_icmp_ge 57 dX7_firstNotWhole_10 (by decide) ?_ ?_
  · refine pz_bipush (-2) dX7_firstNotWhole_57 (by decide) ?_
    exact pz_iret rfl dX7_firstNotWhole_59
  · refine pz_aload_n 0 dX7_firstNotWhole_13 rfl ?_
    refine pz_getR (ci := 7) (k := 1) ck_7 (by decide) (Or.inl pw_301) dX7_firstNotWhole_14 (fun x3 => ?_)
    refine pz_iload_n 1 dX7_firstNotWhole_17 rfl ?_
    refine pz_cvI (st := []) (md_X9_rowOf X n x3 l1) ck_9 rfl mk_X9_rowOf (Or.inl pw_562) pw_563 pw_564 rfl rfl (by decide) (by decide) (by decide) dX7_firstNotWhole_18 (fun x4 => ?_)
    refine pz_istore_n [(2, .int x4), (0, va_rf l0), (1, .int l1)] dX7_firstNotWhole_21 (by decide) rfl ?_
    refine pz_aload_n 1 dX7_firstNotWhole_22 rfl ?_
    refine pz_getR (ci := 7) (k := 0) ck_7 (by decide) (Or.inl pw_300) dX7_firstNotWhole_23 (fun x5 => ?_)
    refine pz_getR (ci := 6) (k := 3) ck_6 (by decide) (Or.inl pw_43) dX7_firstNotWhole_26 (fun x6 => ?_)
    refine pz_iload_n 2 dX7_firstNotWhole_29 rfl ?_
    refine pz_zald (t := 1) rfl dX7_firstNotWhole_30 (fun x7 => ?_)
    refine pz_if_eq 51 dX7_firstNotWhole_31 (by decide) ?_ ?_
    · exact pz_sub [1, 2] rfl (S_X7_firstNotWhole_b51 X n l0 K2 hK2 l1)
    · refine pz_iload_n 0 dX7_firstNotWhole_34 rfl ?_
      refine pz_if_lt 51 dX7_firstNotWhole_35 (by decide) ?_ ?_
      · exact pz_sub [1, 2] rfl (S_X7_firstNotWhole_b51 X n l0 K2 hK2 l1)
      · refine pz_aload_n 1 dX7_firstNotWhole_38 rfl ?_
        refine pz_getR (ci := 7) (k := 1) ck_7 (by decide) (Or.inl pw_301) dX7_firstNotWhole_39 (fun x9 => ?_)
        refine pz_iload_n 0 dX7_firstNotWhole_42 rfl ?_
        refine pz_cvI (st := []) (md_X9_isAmountWhole X n x9 x4) ck_9 rfl mk_X9_isAmountWhole (Or.inl pw_595) pw_596 pw_597 rfl rfl (by decide) (by decide) (by decide) dX7_firstNotWhole_43 (fun x10 => ?_)
        refine pz_if_ne 51 dX7_firstNotWhole_46 (by decide) ?_ ?_
        · refine pz_iload_n 2 dX7_firstNotWhole_49 rfl ?_
          exact pz_iret rfl dX7_firstNotWhole_50
        · exact pz_sub [1, 2] rfl (S_X7_firstNotWhole_b51 X n l0 K2 hK2 l1)
set_option maxRecDepth 20000 in
theorem S_X7_firstNotWhole_L2 (X : pz_X) (n : Nat) (l0 : Option Nat) (l1 : Int32) : pz_Sm X (pz_QM X) J_X7_firstNotWhole pz_vI 2 [(0, va_rf l0), (1, .int l1)] [] (X7_firstNotWhole_L2 n l0 l1) :=
  pz_lp (L := fun (s : Int32) => [(0, va_rf l0), (1, .int s)]) (fun K hK s => S_X7_firstNotWhole_L2_body X n l0 (fun l1 => K l1) (fun l1 => hK l1) s) n l1
set_option maxRecDepth 20000 in
theorem S_X7_firstNotWhole (X : pz_X) (n : Nat) (l0 : Option Nat) : pz_Sm X (pz_QM X) J_X7_firstNotWhole pz_vI 0 [(0, va_rf l0)] [] (X7_firstNotWhole n l0) := by
  unfold X7_firstNotWhole
  refine pz_iconst 0 dX7_firstNotWhole_0 (by decide) ?_
  refine pz_istore_n [(1, .int 0), (0, va_rf l0)] dX7_firstNotWhole_1 (by decide) (by cases l0 <;> rfl) ?_
  exact pz_sub [1, 0] rfl (S_X7_firstNotWhole_L2 X n l0 0)
set_option maxRecDepth 20000 in
theorem md_X7_firstNotWhole (X : pz_X) (n : Nat) (l0 : Option Nat) : pz_Md X yX7_firstNotWhole J_X7_firstNotWhole pz_vI [va_rf l0] (X7_firstNotWhole n l0) :=
  pz_md [(0, va_rf l0)] (by decide +kernel) rfl rfl (by cases l0 <;> rfl) (by cases l0 <;> exact Nat.le_of_ble_eq_true rfl) (fun X => S_X7_firstNotWhole X n l0)
set_option maxRecDepth 20000 in
theorem S_X0_limbAt_b22 (X : pz_X) (n : Nat) (s0 : Int32) : pz_Sm X (pz_QM X) J_X0_limbAt pz_vI 22 [] [.int s0] (X0_limbAt_b22 n s0) := by
  unfold X0_limbAt_b22
  exact pz_iret rfl dX0_limbAt_22
set_option maxRecDepth 20000 in
theorem S_X0_limbAt_b21 (X : pz_X) (n : Nat) : pz_Sm X (pz_QM X) J_X0_limbAt pz_vI 21 [] [] (X0_limbAt_b21 n) := by
  unfold X0_limbAt_b21
  refine pz_iconst 0 dX0_limbAt_21 (by decide) ?_
  exact pz_sub [] rfl (S_X0_limbAt_b22 X n 0)
set_option maxRecDepth 20000 in
theorem S_X0_limbAt (X : pz_X) (n : Nat) (l0 : Option Nat) (l1 : Int32) : pz_Sm X (pz_QM X) J_X0_limbAt pz_vI 0 [(0, va_rf l0), (1, .int l1)] [] (X0_limbAt n l0 l1) := by
  unfold X0_limbAt
  refine pz_iload_n 1 dX0_limbAt_0 rfl ?_
  refine pz_if_lt 21 dX0_limbAt_1 (by decide) ?_ ?_
  · exact pz_sub [] rfl (S_X0_limbAt_b21 X n)
  · refine pz_iload_n 1 dX0_limbAt_4 rfl ?_
    refine pz_aload_n 0 dX0_limbAt_5 rfl ?_
    refine pz_getI (ci := 0) (k := 1) ck_0 (by decide) (Or.inl pw_90) dX0_limbAt_6 (fun x1 => ?_)
    refine pz_icmp_ge 21 dX0_limbAt_9 (by decide) ?_ ?_
    · exact pz_sub [] rfl (S_X0_limbAt_b21 X n)
    · refine pz_aload_n 0 dX0_limbAt_12 rfl ?_
      refine pz_getR (ci := 0) (k := 0) ck_0 (by decide) (Or.inl pw_86) dX0_limbAt_13 (fun x2 => ?_)
      refine pz_iload_n 1 dX0_limbAt_16 rfl ?_
      refine pz_iald (t := 0) rfl dX0_limbAt_17 (fun x3 => ?_)
      refine pz_goto 22 dX0_limbAt_18 (by decide) ?_
      exact pz_sub [] rfl (S_X0_limbAt_b22 X n x3)
set_option maxRecDepth 20000 in
theorem md_X0_limbAt (X : pz_X) (n : Nat) (l0 : Option Nat) (l1 : Int32) : pz_Md X yX0_limbAt J_X0_limbAt pz_vI [va_rf l0, .int l1] (X0_limbAt n l0 l1) :=
  pz_md [(0, va_rf l0), (1, .int l1)] (by decide +kernel) rfl rfl (by cases l0 <;> rfl) (by cases l0 <;> exact Nat.le_of_ble_eq_true rfl) (fun X => S_X0_limbAt X n l0 l1)
set_option maxRecDepth 20000 in
theorem S_X0_lowPair (X : pz_X) (n : Nat) (l0 : Option Nat) : pz_Sm X (pz_QM X) J_X0_lowPair pz_vL 0 [(0, va_rf l0)] [] (X0_lowPair n l0) := by
  unfold X0_lowPair
  refine pz_aload_n 0 dX0_lowPair_0 rfl ?_
  refine pz_iconst 1 dX0_lowPair_1 (by decide) ?_
  refine pz_cvI (st := []) (md_X0_limbAt X n l0 1) ck_0 rfl mk_X0_limbAt (Or.inl pw_662) pw_653 pw_654 rfl rfl (by decide) (by decide) (by decide) dX0_lowPair_2 (fun x1 => ?_)
  refine pz_i2l dX0_lowPair_5 ?_
  refine pz_ldc2 1000000000 dX0_lowPair_6 pw_386 ?_
  refine pz_lmul dX0_lowPair_9 ?_
  refine pz_aload_n 0 dX0_lowPair_10 rfl ?_
  refine pz_iconst 0 dX0_lowPair_11 (by decide) ?_
  refine pz_cvI (st := [.long ((Int32.toInt64 x1) * 1000000000)]) (md_X0_limbAt X n l0 0) ck_0 rfl mk_X0_limbAt (Or.inl pw_662) pw_653 pw_654 rfl rfl (by simp [pz_rf1, pz_ci, pz_cl]) (by decide) (by decide) dX0_lowPair_12 (fun x2 => ?_)
  refine pz_i2l dX0_lowPair_15 ?_
  refine pz_ladd dX0_lowPair_16 ?_
  exact pz_lret rfl dX0_lowPair_17
set_option maxRecDepth 20000 in
theorem md_X0_lowPair (X : pz_X) (n : Nat) (l0 : Option Nat) : pz_Md X yX0_lowPair J_X0_lowPair pz_vL [va_rf l0] (X0_lowPair n l0) :=
  pz_md [(0, va_rf l0)] (by decide +kernel) rfl rfl (by cases l0 <;> rfl) (by cases l0 <;> exact Nat.le_of_ble_eq_true rfl) (fun X => S_X0_lowPair X n l0)
set_option maxRecDepth 20000 in
theorem S_X9_floorOfAmount_b42 (X : pz_X) (n : Nat) : pz_Sm X (pz_QM X) J_X9_floorOfAmount pz_vL 42 [] [] (X9_floorOfAmount_b42 n) := by
  unfold X9_floorOfAmount_b42
  refine pz_ldc2 4000000000000000000 dX9_floorOfAmount_42 pw_656 ?_
  exact pz_lret rfl dX9_floorOfAmount_45
set_option maxRecDepth 20000 in
theorem S_X9_floorOfAmount_b82 (X : pz_X) (n : Nat) (s0 : Int64) : pz_Sm X (pz_QM X) J_X9_floorOfAmount pz_vL 82 [] [.long s0] (X9_floorOfAmount_b82 n s0) := by
  unfold X9_floorOfAmount_b82
  exact pz_lret rfl dX9_floorOfAmount_82
set_option maxRecDepth 20000 in
theorem S_X9_floorOfAmount (X : pz_X) (n : Nat) (l0 : Option Nat) (l1 : Int32) : pz_Sm X (pz_QM X) J_X9_floorOfAmount pz_vL 0 [(0, va_rf l0), (1, .int l1)] [] (X9_floorOfAmount n l0 l1) := by
  unfold X9_floorOfAmount
  refine pz_aload_n 0 dX9_floorOfAmount_0 rfl ?_
  refine pz_getR (ci := 9) (k := 1) ck_9 (by decide) (Or.inl pw_154) dX9_floorOfAmount_1 (fun x1 => ?_)
  refine pz_aload_n 0 dX9_floorOfAmount_4 rfl ?_
  refine pz_getR (ci := 9) (k := 3) ck_9 (by decide) (Or.inl pw_156) dX9_floorOfAmount_5 (fun x2 => ?_)
  refine pz_iload_n 1 dX9_floorOfAmount_8 rfl ?_
  refine pz_aald (t := 3) rfl rfl dX9_floorOfAmount_9 (fun x3 => ?_)
  refine pz_aload_n 0 dX9_floorOfAmount_10 rfl ?_
  refine pz_getR (ci := 9) (k := 9) ck_9 (by decide) (Or.inl pw_165) dX9_floorOfAmount_11 (fun x4 => ?_)
  refine pz_cvU (st := []) (md_X2_divide X n x1 x3 x4) ck_2 rfl mk_X2_divide (Or.inl pw_603) pw_604 pw_605 rfl rfl (by decide) (by decide) (by decide) dX9_floorOfAmount_14 (fun _ => ?_)
  refine pz_aload_n 0 dX9_floorOfAmount_17 rfl ?_
  refine pz_getR (ci := 9) (k := 1) ck_9 (by decide) (Or.inl pw_154) dX9_floorOfAmount_18 (fun x6 => ?_)
  refine pz_getR (ci := 2) (k := 0) ck_2 (by decide) (Or.inl pw_109) dX9_floorOfAmount_21 (fun x7 => ?_)
  refine pz_astore_n [(2, va_rf x7), (0, va_rf l0), (1, .int l1)] dX9_floorOfAmount_24 (by decide) rfl ?_
  refine pz_aload_n 0 dX9_floorOfAmount_25 rfl ?_
  refine pz_getI (ci := 0) (k := 1) ck_0 (by decide) (Or.inl pw_93) dX9_floorOfAmount_26 (fun x8 => ?_)
  refine pz_iconst 3 dX9_floorOfAmount_29 (by decide) ?_
  refine pz_icmp_gt 42 dX9_floorOfAmount_30 (by decide) ?_ ?_
  · exact pz_sub [] rfl (S_X9_floorOfAmount_b42 X n)
  · refine pz_aload_n 0 dX9_floorOfAmount_33 rfl ?_
    refine pz_iconst 2 dX9_floorOfAmount_34 (by decide) ?_
    refine pz_cvI (st := []) (md_X0_limbAt X n x7 2) ck_0 rfl mk_X0_limbAt (Or.inl pw_652) pw_653 pw_654 rfl rfl (by decide) (by decide) (by decide) dX9_floorOfAmount_35 (fun x9 => ?_)
    refine pz_iconst 1 dX9_floorOfAmount_38 (by decide) ?_
    refine pz_icmp_le 46 dX9_floorOfAmount_39 (by decide) ?_ ?_
    · refine pz_aload_n 0 dX9_floorOfAmount_46 rfl ?_
      refine pz_iconst 2 dX9_floorOfAmount_47 (by decide) ?_
      refine pz_cvI (st := []) (md_X0_limbAt X n x7 2) ck_0 rfl mk_X0_limbAt (Or.inl pw_652) pw_653 pw_654 rfl rfl (by decide) (by decide) (by decide) dX9_floorOfAmount_48 (fun x10 => ?_)
      refine pz_i2l dX9_floorOfAmount_51 ?_
      refine pz_ldc2 1000000000000000000 dX9_floorOfAmount_52 pw_657 ?_
      refine pz_lmul dX9_floorOfAmount_55 ?_
      refine pz_aload_n 0 dX9_floorOfAmount_56 rfl ?_
      refine pz_cvL (st := [.long ((Int32.toInt64 x10) * 1000000000000000000)]) (md_X0_lowPair X n x7) ck_0 rfl mk_X0_lowPair (Or.inl pw_658) pw_659 pw_660 rfl rfl (by simp [pz_rf1, pz_ci, pz_cl]) (by decide) (by decide) dX9_floorOfAmount_57 (fun x11 => ?_)
      refine pz_ladd dX9_floorOfAmount_60 ?_
      refine pz_nmL (fun l3_12 => ?_)
      refine pz_lstore_n [(3, .long l3_12), (2, va_rf x7), (0, va_rf l0), (1, .int l1)] dX9_floorOfAmount_61 (by decide) (by cases x7 <;> rfl) ?_
      refine pz_aload_n 2 dX9_floorOfAmount_62 rfl ?_
      refine pz_getR (ci := 9) (k := 3) ck_9 (by decide) (Or.inl pw_156) dX9_floorOfAmount_63 (fun x13 => ?_)
      refine pz_iload_n 3 dX9_floorOfAmount_66 rfl ?_
      refine pz_aald (t := 3) rfl rfl dX9_floorOfAmount_67 (fun x14 => ?_)
      refine pz_getI (ci := 0) (k := 2) ck_0 (by decide) (Or.inl pw_99) dX9_floorOfAmount_68 (fun x15 => ?_)
      refine pz_if_ge 81 dX9_floorOfAmount_71 (by decide) ?_ ?_
      · refine pz_lload_n 0 dX9_floorOfAmount_81 rfl ?_
        exact pz_sub [] rfl (S_X9_floorOfAmount_b82 X n l3_12)
      · refine pz_lload_n 0 dX9_floorOfAmount_74 rfl ?_
        refine pz_lneg dX9_floorOfAmount_75 ?_
        refine pz_lconst 1 dX9_floorOfAmount_76 (by decide) ?_
        refine pz_lsub dX9_floorOfAmount_77 ?_
        refine pz_goto 82 dX9_floorOfAmount_78 (by decide) ?_
        exact pz_sub [] rfl (S_X9_floorOfAmount_b82 X n ((-l3_12) - 1))
    · exact pz_sub [] rfl (S_X9_floorOfAmount_b42 X n)
set_option maxRecDepth 20000 in
theorem md_X9_floorOfAmount (X : pz_X) (n : Nat) (l0 : Option Nat) (l1 : Int32) : pz_Md X yX9_floorOfAmount J_X9_floorOfAmount pz_vL [va_rf l0, .int l1] (X9_floorOfAmount n l0 l1) :=
  pz_md [(0, va_rf l0), (1, .int l1)] (by decide +kernel) rfl rfl (by cases l0 <;> rfl) (by cases l0 <;> exact Nat.le_of_ble_eq_true rfl) (fun X => S_X9_floorOfAmount X n l0 l1)
set_option maxRecDepth 20000 in
theorem S_X10_splitsAbove_b46 (X : pz_X) (n : Nat) (l2 : Int32) : pz_Sm X (pz_QM X) J_X10_splitsAbove pz_vI 46 [(2, .int l2)] [] (X10_splitsAbove_b46 n l2) := by
  unfold X10_splitsAbove_b46
  refine pz_iload_n 0 dX10_splitsAbove_46 rfl ?_
  exact pz_iret rfl dX10_splitsAbove_47
set_option maxRecDepth 20000 in
theorem S_X10_splitsAbove_L22_body (X : pz_X) (n : Nat) (l0 : Option Nat) (K22 : Int32 → Int32 → pz_C Int32) (hK22 : ∀ (l2 : Int32) (l3 : Int32), pz_Sm X (pz_QM X) J_X10_splitsAbove pz_vI 22 [(0, va_rf l0), (2, .int l2), (3, .int l3)] [] (K22 l2 l3)) (l2 : Int32) (l3 : Int32) : pz_Sm X (pz_QM X) J_X10_splitsAbove pz_vI 22 [(0, va_rf l0), (2, .int l2), (3, .int l3)] [] (X10_splitsAbove_L22_body n l0 K22 l2 l3) := by
  unfold X10_splitsAbove_L22_body
  refine pz_iload_n 2 dX10_splitsAbove_22 rfl ?_
  refine pz_if_lt 46 dX10_splitsAbove_23 (by decide) ?_ ?_
  · exact pz_sub [1] rfl (S_X10_splitsAbove_b46 X n l2)
  · refine pz_iload_n 1 dX10_splitsAbove_26 rfl ?_
    refine pz_sipush 301 dX10_splitsAbove_27 (by decide) ?_
    refine pz_icmp_ge 46 dX10_splitsAbove_30 (by decide) ?_ ?_
    · exact pz_sub [1] rfl (S_X10_splitsAbove_b46 X n l2)
    · refine pz_iinc 1 1 (fun l2_2 => [(2, .int l2_2), (0, va_rf l0), (3, .int l3)]) dX10_splitsAbove_33 rfl (by decide) (by decide) (fun l2_2 => rfl) (fun l2_2 => ?_)
      refine pz_aload_n 1 dX10_splitsAbove_36 rfl ?_
      refine pz_getR (ci := 10) (k := 0) ck_10 (by decide) (Or.inl pw_212) dX10_splitsAbove_37 (fun x3 => ?_)
      refine pz_iload_n 2 dX10_splitsAbove_40 rfl ?_
      refine pz_iald (t := 0) rfl dX10_splitsAbove_41 (fun x4 => ?_)
      refine pz_istore_n [(3, .int x4), (2, .int l2_2), (0, va_rf l0)] dX10_splitsAbove_42 (by decide) rfl ?_
      refine pz_goto 22 dX10_splitsAbove_43 (by decide) ?_
      exact pz_sub [2, 1, 0] rfl (hK22 l2_2 x4)
set_option maxRecDepth 20000 in
theorem S_X10_splitsAbove_L22 (X : pz_X) (n : Nat) (l0 : Option Nat) (l2 : Int32) (l3 : Int32) : pz_Sm X (pz_QM X) J_X10_splitsAbove pz_vI 22 [(0, va_rf l0), (2, .int l2), (3, .int l3)] [] (X10_splitsAbove_L22 n l0 l2 l3) :=
  pz_lp (L := fun (s : Int32 × Int32) => [(0, va_rf l0), (2, .int s.1), (3, .int s.2)]) (fun K hK s => S_X10_splitsAbove_L22_body X n l0 (fun l2 l3 => K (l2, l3)) (fun l2 l3 => hK (l2, l3)) s.1 s.2) n (l2, l3)
set_option maxRecDepth 20000 in
theorem S_X10_splitsAbove_b21 (X : pz_X) (n : Nat) (l0 : Option Nat) (l2 : Int32) (s0 : Int32) : pz_Sm X (pz_QM X) J_X10_splitsAbove pz_vI 21 [(0, va_rf l0), (2, .int l2)] [.int s0] (X10_splitsAbove_b21 n l0 l2 s0) := by
  unfold X10_splitsAbove_b21
  refine pz_istore_n [(3, .int s0), (0, va_rf l0), (2, .int l2)] dX10_splitsAbove_21 (by decide) rfl ?_
  exact pz_sub [1, 2, 0] rfl (S_X10_splitsAbove_L22 X n l0 l2 s0)
set_option maxRecDepth 20000 in
theorem S_X10_splitsAbove (X : pz_X) (n : Nat) (l0 : Option Nat) (l1 : Int32) : pz_Sm X (pz_QM X) J_X10_splitsAbove pz_vI 0 [(0, va_rf l0), (1, .int l1)] [] (X10_splitsAbove n l0 l1) := by
  unfold X10_splitsAbove
  refine pz_iconst 0 dX10_splitsAbove_0 (by decide) ?_
  refine pz_istore_n [(2, .int 0), (0, va_rf l0), (1, .int l1)] dX10_splitsAbove_1 (by decide) rfl ?_
  refine pz_aload_n 1 dX10_splitsAbove_2 rfl ?_
  refine pz_iload_n 2 dX10_splitsAbove_3 rfl ?_
  refine pz_cvI (st := []) (md_X10_has X n l0 l1) ck_10 rfl mk_X10_has (Or.inl pw_498) pw_499 pw_500 rfl rfl (by decide) (by decide) (by decide) dX10_splitsAbove_4 (fun x1 => ?_)
  refine pz_if_eq 19 dX10_splitsAbove_7 (by decide) ?_ ?_
  · refine pz_bipush (-2) dX10_splitsAbove_19 (by decide) ?_
    exact pz_sub [1, 0] rfl (S_X10_splitsAbove_b21 X n l0 0 (-2))
  · refine pz_aload_n 1 dX10_splitsAbove_10 rfl ?_
    refine pz_getR (ci := 10) (k := 0) ck_10 (by decide) (Or.inl pw_212) dX10_splitsAbove_11 (fun x5 => ?_)
    refine pz_iload_n 2 dX10_splitsAbove_14 rfl ?_
    refine pz_iald (t := 0) rfl dX10_splitsAbove_15 (fun x6 => ?_)
    refine pz_goto 21 dX10_splitsAbove_16 (by decide) ?_
    exact pz_sub [1, 0] rfl (S_X10_splitsAbove_b21 X n l0 0 x6)
set_option maxRecDepth 20000 in
theorem md_X10_splitsAbove (X : pz_X) (n : Nat) (l0 : Option Nat) (l1 : Int32) : pz_Md X yX10_splitsAbove J_X10_splitsAbove pz_vI [va_rf l0, .int l1] (X10_splitsAbove n l0 l1) :=
  pz_md [(0, va_rf l0), (1, .int l1)] (by decide +kernel) rfl rfl (by cases l0 <;> rfl) (by cases l0 <;> exact Nat.le_of_ble_eq_true rfl) (fun X => S_X10_splitsAbove X n l0 l1)
set_option maxRecDepth 20000 in
theorem S_X10_setSplitAt_b29 (X : pz_X) (n : Nat) : pz_Sm X (pz_QM X) J_X10_setSplitAt pz_vU 29 [] [] (X10_setSplitAt_b29 n) := by
  unfold X10_setSplitAt_b29
  exact pz_vret rfl dX10_setSplitAt_29
set_option maxRecDepth 20000 in
theorem S_X10_setSplitAt (X : pz_X) (n : Nat) (l0 : Option Nat) (l1 : Int32) (l2 : Int32) (l3 : Int64) : pz_Sm X (pz_QM X) J_X10_setSplitAt pz_vU 0 [(0, va_rf l0), (1, .int l1), (2, .int l2), (3, .long l3)] [] (X10_setSplitAt n l0 l1 l2 l3) := by
  unfold X10_setSplitAt
  refine pz_aload_n 0 dX10_setSplitAt_0 rfl ?_
  refine pz_iload_n 1 dX10_setSplitAt_1 rfl ?_
  refine pz_cvI (st := []) (md_X10_has X n l0 l1) ck_10 rfl mk_X10_has (Or.inl pw_498) pw_499 pw_500 rfl rfl (by decide) (by decide) (by decide) dX10_setSplitAt_2 (fun x1 => ?_)
  refine pz_if_eq 29 dX10_setSplitAt_5 (by decide) ?_ ?_
  · exact pz_sub [] rfl (S_X10_setSplitAt_b29 X n)
  · refine pz_aload_n 0 dX10_setSplitAt_8 rfl ?_
    refine pz_getR (ci := 10) (k := 3) ck_10 (by decide) (Or.inl pw_221) dX10_setSplitAt_9 (fun x2 => ?_)
    refine pz_iload_n 1 dX10_setSplitAt_12 rfl ?_
    refine pz_iload_n 2 dX10_setSplitAt_13 rfl ?_
    refine pz_iast (t := 0) rfl dX10_setSplitAt_14 ?_
    refine pz_aload_n 0 dX10_setSplitAt_15 rfl ?_
    refine pz_getR (ci := 10) (k := 4) ck_10 (by decide) (Or.inl pw_226) dX10_setSplitAt_16 (fun x3 => ?_)
    refine pz_iload_n 1 dX10_setSplitAt_19 rfl ?_
    refine pz_lload_n 3 dX10_setSplitAt_20 rfl ?_
    refine pz_last (t := 2) rfl dX10_setSplitAt_21 ?_
    refine pz_aload_n 0 dX10_setSplitAt_22 rfl ?_
    refine pz_getR (ci := 10) (k := 5) ck_10 (by decide) (Or.inl pw_228) dX10_setSplitAt_23 (fun x4 => ?_)
    refine pz_iload_n 1 dX10_setSplitAt_26 rfl ?_
    refine pz_lload_n 3 dX10_setSplitAt_27 rfl ?_
    refine pz_last (t := 2) rfl dX10_setSplitAt_28 ?_
    exact pz_sub [] rfl (S_X10_setSplitAt_b29 X n)
set_option maxRecDepth 20000 in
theorem md_X10_setSplitAt (X : pz_X) (n : Nat) (l0 : Option Nat) (l1 : Int32) (l2 : Int32) (l3 : Int64) : pz_Md X yX10_setSplitAt J_X10_setSplitAt pz_vU [va_rf l0, .int l1, .int l2, .long l3] (X10_setSplitAt n l0 l1 l2 l3) :=
  pz_md [(0, va_rf l0), (1, .int l1), (2, .int l2), (3, .long l3)] (by decide +kernel) rfl rfl (by cases l0 <;> rfl) (by cases l0 <;> exact Nat.le_of_ble_eq_true rfl) (fun X => S_X10_setSplitAt X n l0 l1 l2 l3)
set_option maxRecDepth 20000 in
theorem S_X7_split_b73 (X : pz_X) (n : Nat) (l0 : Option Nat) : pz_Sm X (pz_QM X) J_X7_split pz_vU 73 [(0, va_rf l0)] [] (X7_split_b73 n l0) := by
  unfold X7_split_b73
  refine pz_aload_n 0 dX7_split_73 rfl ?_
  refine pz_iconst 4 dX7_split_74 (by decide) ?_
  refine pz_put (ci := 7) (k := 4) ck_7 (by decide) (Or.inl pw_304) (Or.inl rfl) rfl rfl dX7_split_75 ?_
  exact pz_vret rfl dX7_split_78
set_option maxRecDepth 20000 in
theorem S_X7_split_b37 (X : pz_X) (n : Nat) (l0 : Option Nat) (l1 : Int32) (l2 : Int64) (s0 : Int32) : pz_Sm X (pz_QM X) J_X7_split pz_vU 37 [(0, va_rf l0), (1, .int l1), (2, .long l2)] [.int s0] (X7_split_b37 n l0 l1 l2 s0) := by
  unfold X7_split_b37
  refine pz_istore [(4, .int s0), (0, va_rf l0), (1, .int l1), (2, .long l2)] dX7_split_37 (by decide) rfl ?_
  refine pz_iload 0 dX7_split_39 rfl ?_
  refine pz_if_ne 73 dX7_split_41 (by decide) ?_ ?_
  · refine pz_aload_n 1 dX7_split_44 rfl ?_
    refine pz_getI (ci := 7) (k := 8) ck_7 (by decide) (Or.inl pw_312) dX7_split_45 (fun x5 => ?_)
    refine pz_sipush 150 dX7_split_48 (by decide) ?_
    refine pz_icmp_ge 73 dX7_split_51 (by decide) ?_ ?_
    · exact pz_sub [1] rfl (S_X7_split_b73 X n l0)
    · refine pz_aload_n 1 dX7_split_54 rfl ?_
      refine pz_getR (ci := 7) (k := 2) ck_7 (by decide) (Or.inl pw_302) dX7_split_55 (fun x6 => ?_)
      refine pz_aload_n 1 dX7_split_58 rfl ?_
      refine pz_getR (ci := 7) (k := 2) ck_7 (by decide) (Or.inl pw_302) dX7_split_59 (fun x7 => ?_)
      refine pz_getI (ci := 10) (k := 11) ck_10 (by decide) (Or.inl pw_240) dX7_split_62 (fun x8 => ?_)
      refine pz_cvI (st := []) (md_X10_splitsAbove X n x6 x8) ck_10 rfl mk_X10_splitsAbove (Or.inl pw_665) pw_666 pw_667 rfl rfl (by decide) (by decide) (by decide) dX7_split_65 (fun x9 => ?_)
      refine pz_bipush 24 dX7_split_68 (by decide) ?_
      refine pz_icmp_lt 79 dX7_split_70 (by decide) ?_ ?_
      · refine pz_aload_n 1 dX7_split_79 rfl ?_
        refine pz_dup dX7_split_80 (pz_rf1 _) ?_
        refine pz_getI (ci := 7) (k := 8) ck_7 (by decide) (Or.inl pw_312) dX7_split_81 (fun x10 => ?_)
        refine pz_iconst 1 dX7_split_84 (by decide) ?_
        refine pz_iadd dX7_split_85 ?_
        refine pz_put (ci := 7) (k := 8) ck_7 (by decide) (Or.inl pw_312) (Or.inl rfl) rfl rfl dX7_split_86 ?_
        refine pz_aload_n 1 dX7_split_89 rfl ?_
        refine pz_getR (ci := 7) (k := 2) ck_7 (by decide) (Or.inl pw_302) dX7_split_90 (fun x11 => ?_)
        refine pz_aload_n 1 dX7_split_93 rfl ?_
        refine pz_getR (ci := 7) (k := 2) ck_7 (by decide) (Or.inl pw_302) dX7_split_94 (fun x12 => ?_)
        refine pz_getI (ci := 10) (k := 11) ck_10 (by decide) (Or.inl pw_240) dX7_split_97 (fun x13 => ?_)
        refine pz_iload_n 2 dX7_split_100 rfl ?_
        refine pz_lload_n 3 dX7_split_101 rfl ?_
        refine pz_cvU (st := []) (md_X10_setSplitAt X n x11 x13 l1 l2) ck_10 rfl mk_X10_setSplitAt (Or.inl pw_669) pw_670 pw_671 rfl rfl (by decide) (by decide) (by decide) dX7_split_102 (fun _ => ?_)
        refine pz_aload_n 1 dX7_split_105 rfl ?_
        refine pz_getR (ci := 7) (k := 2) ck_7 (by decide) (Or.inl pw_302) dX7_split_106 (fun x15 => ?_)
        refine pz_aload_n 1 dX7_split_109 rfl ?_
        refine pz_getR (ci := 7) (k := 2) ck_7 (by decide) (Or.inl pw_302) dX7_split_110 (fun x16 => ?_)
        refine pz_getI (ci := 10) (k := 11) ck_10 (by decide) (Or.inl pw_240) dX7_split_113 (fun x17 => ?_)
        refine pz_cvU (st := []) (md_X10_addLeaf X n x15 x17) ck_10 rfl mk_X10_addLeaf (Or.inl pw_494) pw_495 pw_496 rfl rfl (by decide) (by decide) (by decide) dX7_split_116 (fun _ => ?_)
        refine pz_aload_n 1 dX7_split_119 rfl ?_
        refine pz_cvU (st := []) (md_X7_setSplitBounds X n l0) ck_7 rfl mk_X7_setSplitBounds (Or.inl pw_527) pw_529 ps_2 rfl rfl (by decide) (by decide) (by decide) dX7_split_120 (fun _ => ?_)
        exact pz_vret rfl dX7_split_123
      · exact pz_sub [1] rfl (S_X7_split_b73 X n l0)
  · exact pz_sub [1] rfl (S_X7_split_b73 X n l0)
set_option maxRecDepth 20000 in
theorem S_X7_split_b32 (X : pz_X) (n : Nat) (l0 : Option Nat) (l1 : Int32) (l2 : Int64) : pz_Sm X (pz_QM X) J_X7_split pz_vU 32 [(0, va_rf l0), (1, .int l1), (2, .long l2)] [] (X7_split_b32 n l0 l1 l2) := by
  unfold X7_split_b32
  refine pz_iconst 1 dX7_split_32 (by decide) ?_
  refine pz_goto 37 dX7_split_33 (by decide) ?_
  exact pz_sub [0, 1, 2] rfl (S_X7_split_b37 X n l0 l1 l2 1)
set_option maxRecDepth 20000 in
theorem S_X7_split (X : pz_X) (n : Nat) (l0 : Option Nat) (l1 : Int32) : pz_Sm X (pz_QM X) J_X7_split pz_vU 0 [(0, va_rf l0), (1, .int l1)] [] (X7_split n l0 l1) := by
  unfold X7_split
  refine pz_aload_n 0 dX7_split_0 rfl ?_
  refine pz_getR (ci := 7) (k := 1) ck_7 (by decide) (Or.inl pw_301) dX7_split_1 (fun x1 => ?_)
  refine pz_aload_n 0 dX7_split_4 rfl ?_
  refine pz_getR (ci := 7) (k := 1) ck_7 (by decide) (Or.inl pw_301) dX7_split_5 (fun x2 => ?_)
  refine pz_iload_n 1 dX7_split_8 rfl ?_
  refine pz_cvI (st := [va_rf x1]) (md_X9_rowOf X n x2 l1) ck_9 rfl mk_X9_rowOf (Or.inl pw_562) pw_563 pw_564 rfl rfl (by simp [pz_rf1, pz_ci, pz_cl]) (by decide) (by decide) dX7_split_9 (fun x3 => ?_)
  refine pz_cvL (st := []) (md_X9_floorOfAmount X n x1 x3) ck_9 rfl mk_X9_floorOfAmount (Or.inl pw_648) pw_649 pw_650 rfl rfl (by decide) (by decide) (by decide) dX7_split_12 (fun x4 => ?_)
  refine pz_lstore_n [(2, .long x4), (0, va_rf l0), (1, .int l1)] dX7_split_15 (by decide) rfl ?_
  refine pz_lload_n 0 dX7_split_16 rfl ?_
  refine pz_ldc2 1000000000000000000 dX7_split_17 pw_663 ?_
  refine pz_lcmp dX7_split_20 ?_
  refine pz_if_gt 32 dX7_split_21 (by decide) ?_ ?_
  · exact pz_sub [1, 2, 0] rfl (S_X7_split_b32 X n l0 l1 x4)
  · refine pz_lload_n 0 dX7_split_24 rfl ?_
    refine pz_ldc2 (-1000000000000000000) dX7_split_25 pw_664 ?_
    refine pz_lcmp dX7_split_28 ?_
    refine pz_if_ge 36 dX7_split_29 (by decide) ?_ ?_
    · refine pz_iconst 0 dX7_split_36 (by decide) ?_
      exact pz_sub [1, 2, 0] rfl (S_X7_split_b37 X n l0 l1 x4 0)
    · exact pz_sub [1, 2, 0] rfl (S_X7_split_b32 X n l0 l1 x4)
set_option maxRecDepth 20000 in
theorem md_X7_split (X : pz_X) (n : Nat) (l0 : Option Nat) (l1 : Int32) : pz_Md X yX7_split J_X7_split pz_vU [va_rf l0, .int l1] (X7_split n l0 l1) :=
  pz_md [(0, va_rf l0), (1, .int l1)] (by decide +kernel) rfl rfl (by cases l0 <;> rfl) (by cases l0 <;> exact Nat.le_of_ble_eq_true rfl) (fun X => S_X7_split X n l0 l1)
set_option maxRecDepth 20000 in
theorem S_X9_columnOf_b20 (X : pz_X) (n : Nat) (s0 : Int32) : pz_Sm X (pz_QM X) J_X9_columnOf pz_vI 20 [] [.int s0] (X9_columnOf_b20 n s0) := by
  unfold X9_columnOf_b20
  exact pz_iret rfl dX9_columnOf_20
set_option maxRecDepth 20000 in
theorem S_X9_columnOf (X : pz_X) (n : Nat) (l0 : Option Nat) (l1 : Int32) : pz_Sm X (pz_QM X) J_X9_columnOf pz_vI 0 [(0, va_rf l0), (1, .int l1)] [] (X9_columnOf n l0 l1) := by
  unfold X9_columnOf
  refine pz_aload_n 0 dX9_columnOf_0 rfl ?_
  refine pz_getR (ci := 9) (k := 8) ck_9 (by decide) (Or.inl pw_164) dX9_columnOf_1 (fun x1 => ?_)
  refine pz_iload_n 1 dX9_columnOf_4 rfl ?_
  refine pz_zald (t := 1) rfl dX9_columnOf_5 (fun x2 => ?_)
  refine pz_if_eq 14 dX9_columnOf_6 (by decide) ?_ ?_
  · refine pz_aload_n 0 dX9_columnOf_14 rfl ?_
    refine pz_getR (ci := 9) (k := 7) ck_9 (by decide) (Or.inl pw_163) dX9_columnOf_15 (fun x3 => ?_)
    refine pz_iload_n 1 dX9_columnOf_18 rfl ?_
    refine pz_iald (t := 0) rfl dX9_columnOf_19 (fun x4 => ?_)
    exact pz_sub [] rfl (S_X9_columnOf_b20 X n x4)
  · refine pz_bipush (-2) dX9_columnOf_9 (by decide) ?_
    refine pz_goto 20 dX9_columnOf_11 (by decide) ?_
    exact pz_sub [] rfl (S_X9_columnOf_b20 X n (-2))
set_option maxRecDepth 20000 in
theorem md_X9_columnOf (X : pz_X) (n : Nat) (l0 : Option Nat) (l1 : Int32) : pz_Md X yX9_columnOf J_X9_columnOf pz_vI [va_rf l0, .int l1] (X9_columnOf n l0 l1) :=
  pz_md [(0, va_rf l0), (1, .int l1)] (by decide +kernel) rfl rfl (by cases l0 <;> rfl) (by cases l0 <;> exact Nat.le_of_ble_eq_true rfl) (fun X => S_X9_columnOf X n l0 l1)
set_option maxRecDepth 20000 in
theorem S_X7_enteringColumn_b136 (X : pz_X) (n : Nat) (l0 : Option Nat) (l1 : Int32) (l2 : Int32) (K2 : Int32 → pz_C Int32) (hK2 : ∀ (l3 : Int32), pz_Sm X (pz_QM X) J_X7_enteringColumn pz_vI 2 [(0, va_rf l0), (1, .int l1), (2, .int l2), (3, .int l3)] [] (K2 l3)) (l3 : Int32) : pz_Sm X (pz_QM X) J_X7_enteringColumn pz_vI 136 [(0, va_rf l0), (1, .int l1), (2, .int l2), (3, .int l3)] [] (X7_enteringColumn_b136 n K2 l0 l1 l2 l3) := by
  unfold X7_enteringColumn_b136
  refine pz_iinc 3 1 (fun l3_5 => [(3, .int l3_5), (0, va_rf l0), (1, .int l1), (2, .int l2)]) dX7_enteringColumn_136 rfl (by decide) (by decide) (fun l3_5 => rfl) (fun l3_5 => ?_)
  refine pz_goto 2 dX7_enteringColumn_139 (by decide) ?_
  exact pz_sub [1, 2, 3, 0] rfl (hK2 l3_5)
set_option maxRecDepth 20000 in
theorem S_X7_enteringColumn_b133 (X : pz_X) (n : Nat) (l4 : Int32) : pz_Sm X (pz_QM X) J_X7_enteringColumn pz_vI 133 [(4, .int l4)] [] (X7_enteringColumn_b133 n l4) := by
  unfold X7_enteringColumn_b133
  refine pz_iload 0 dX7_enteringColumn_133 rfl ?_
  exact pz_iret rfl dX7_enteringColumn_135
set_option maxRecDepth 20000 in
theorem S_X7_enteringColumn_b93 (X : pz_X) (n : Nat) (l0 : Option Nat) (l1 : Int32) (l2 : Int32) (K2 : Int32 → pz_C Int32) (hK2 : ∀ (l3 : Int32), pz_Sm X (pz_QM X) J_X7_enteringColumn pz_vI 2 [(0, va_rf l0), (1, .int l1), (2, .int l2), (3, .int l3)] [] (K2 l3)) (l3 : Int32) (l4 : Int32) (l5 : Int32) : pz_Sm X (pz_QM X) J_X7_enteringColumn pz_vI 93 [(0, va_rf l0), (1, .int l1), (2, .int l2), (3, .int l3), (4, .int l4), (5, .int l5)] [] (X7_enteringColumn_b93 n K2 l0 l1 l2 l3 l4 l5) := by
  unfold X7_enteringColumn_b93
  refine pz_iload 5 dX7_enteringColumn_93 rfl ?_
  refine pz_if_ge 136 dX7_enteringColumn_95 (by decide) ?_ ?_
  · exact pz_sub [0, 1, 2, 3] rfl (S_X7_enteringColumn_b136 X n l0 l1 l2 K2 hK2 l3)
  · refine pz_aload_n 0 dX7_enteringColumn_98 rfl ?_
    refine pz_getR (ci := 7) (k := 3) ck_7 (by decide) (Or.inl pw_303) dX7_enteringColumn_99 (fun x6 => ?_)
    refine pz_getR (ci := 1) (k := 1) ck_1 (by decide) (Or.inl pw_284) dX7_enteringColumn_102 (fun x7 => ?_)
    refine pz_iload_n 3 dX7_enteringColumn_105 rfl ?_
    refine pz_zald (t := 1) rfl dX7_enteringColumn_106 (fun x8 => ?_)
    refine pz_if_eq 133 dX7_enteringColumn_107 (by decide) ?_ ?_
    · exact pz_sub [4] rfl (S_X7_enteringColumn_b133 X n l4)
    · refine pz_aload_n 0 dX7_enteringColumn_110 rfl ?_
      refine pz_getR (ci := 7) (k := 1) ck_7 (by decide) (Or.inl pw_301) dX7_enteringColumn_111 (fun x9 => ?_)
      refine pz_getR (ci := 9) (k := 4) ck_9 (by decide) (Or.inl pw_158) dX7_enteringColumn_114 (fun x10 => ?_)
      refine pz_iload 4 dX7_enteringColumn_117 rfl ?_
      refine pz_lald (t := 2) rfl dX7_enteringColumn_119 (fun x11 => ?_)
      refine pz_aload_n 0 dX7_enteringColumn_120 rfl ?_
      refine pz_getR (ci := 7) (k := 3) ck_7 (by decide) (Or.inl pw_303) dX7_enteringColumn_121 (fun x12 => ?_)
      refine pz_getR (ci := 1) (k := 3) ck_1 (by decide) (Or.inl pw_289) dX7_enteringColumn_124 (fun x13 => ?_)
      refine pz_iload_n 3 dX7_enteringColumn_127 rfl ?_
      refine pz_lald (t := 2) rfl dX7_enteringColumn_128 (fun x14 => ?_)
      refine pz_lcmp dX7_enteringColumn_129 ?_
      refine pz_if_le 136 dX7_enteringColumn_130 (by decide) ?_ ?_
      · exact pz_sub [0, 1, 2, 3] rfl (S_X7_enteringColumn_b136 X n l0 l1 l2 K2 hK2 l3)
      · exact pz_sub [4] rfl (S_X7_enteringColumn_b133 X n l4)
set_option maxRecDepth 20000 in
theorem S_X7_enteringColumn_b90 (X : pz_X) (n : Nat) (l4 : Int32) : pz_Sm X (pz_QM X) J_X7_enteringColumn pz_vI 90 [(4, .int l4)] [] (X7_enteringColumn_b90 n l4) := by
  unfold X7_enteringColumn_b90
  refine pz_iload 0 dX7_enteringColumn_90 rfl ?_
  exact pz_iret rfl dX7_enteringColumn_92
set_option maxRecDepth 20000 in
theorem S_X7_enteringColumn_b48 (X : pz_X) (n : Nat) (l0 : Option Nat) (l1 : Int32) (l2 : Int32) (K2 : Int32 → pz_C Int32) (hK2 : ∀ (l3 : Int32), pz_Sm X (pz_QM X) J_X7_enteringColumn pz_vI 2 [(0, va_rf l0), (1, .int l1), (2, .int l2), (3, .int l3)] [] (K2 l3)) (l3 : Int32) (l4 : Int32) (s0 : Int32) : pz_Sm X (pz_QM X) J_X7_enteringColumn pz_vI 48 [(0, va_rf l0), (1, .int l1), (2, .int l2), (3, .int l3), (4, .int l4)] [.int s0] (X7_enteringColumn_b48 n K2 l0 l1 l2 l3 l4 s0) := by
  unfold X7_enteringColumn_b48
  refine pz_istore [(5, .int s0), (0, va_rf l0), (1, .int l1), (2, .int l2), (3, .int l3), (4, .int l4)] dX7_enteringColumn_48 (by decide) rfl ?_
  refine pz_iload 0 dX7_enteringColumn_50 rfl ?_
  refine pz_if_le 93 dX7_enteringColumn_52 (by decide) ?_ ?_
  · exact pz_sub [1, 2, 3, 4, 5, 0] rfl (S_X7_enteringColumn_b93 X n l0 l1 l2 K2 hK2 l3 l4 s0)
  · refine pz_aload_n 1 dX7_enteringColumn_55 rfl ?_
    refine pz_getR (ci := 7) (k := 3) ck_7 (by decide) (Or.inl pw_303) dX7_enteringColumn_56 (fun x15 => ?_)
    refine pz_getR (ci := 1) (k := 0) ck_1 (by decide) (Or.inl pw_281) dX7_enteringColumn_59 (fun x16 => ?_)
    refine pz_iload_n 4 dX7_enteringColumn_62 rfl ?_
    refine pz_zald (t := 1) rfl dX7_enteringColumn_63 (fun x17 => ?_)
    refine pz_if_eq 90 dX7_enteringColumn_64 (by decide) ?_ ?_
    · exact pz_sub [5] rfl (S_X7_enteringColumn_b90 X n l4)
    · refine pz_aload_n 1 dX7_enteringColumn_67 rfl ?_
      refine pz_getR (ci := 7) (k := 1) ck_7 (by decide) (Or.inl pw_301) dX7_enteringColumn_68 (fun x18 => ?_)
      refine pz_getR (ci := 9) (k := 4) ck_9 (by decide) (Or.inl pw_158) dX7_enteringColumn_71 (fun x19 => ?_)
      refine pz_iload 5 dX7_enteringColumn_74 rfl ?_
      refine pz_lald (t := 2) rfl dX7_enteringColumn_76 (fun x20 => ?_)
      refine pz_aload_n 1 dX7_enteringColumn_77 rfl ?_
      refine pz_getR (ci := 7) (k := 3) ck_7 (by decide) (Or.inl pw_303) dX7_enteringColumn_78 (fun x21 => ?_)
      refine pz_getR (ci := 1) (k := 2) ck_1 (by decide) (Or.inl pw_286) dX7_enteringColumn_81 (fun x22 => ?_)
      refine pz_iload_n 4 dX7_enteringColumn_84 rfl ?_
      refine pz_lald (t := 2) rfl dX7_enteringColumn_85 (fun x23 => ?_)
      refine pz_lcmp dX7_enteringColumn_86 ?_
      refine pz_if_ge 93 dX7_enteringColumn_87 (by decide) ?_ ?_
      · exact pz_sub [1, 2, 3, 4, 5, 0] rfl (S_X7_enteringColumn_b93 X n l0 l1 l2 K2 hK2 l3 l4 s0)
      · exact pz_sub [5] rfl (S_X7_enteringColumn_b90 X n l4)
set_option maxRecDepth 20000 in
theorem S_X7_enteringColumn_L2_body (X : pz_X) (n : Nat) (l0 : Option Nat) (l1 : Int32) (l2 : Int32) (K2 : Int32 → pz_C Int32) (hK2 : ∀ (l3 : Int32), pz_Sm X (pz_QM X) J_X7_enteringColumn pz_vI 2 [(0, va_rf l0), (1, .int l1), (2, .int l2), (3, .int l3)] [] (K2 l3)) (l3 : Int32) : pz_Sm X (pz_QM X) J_X7_enteringColumn pz_vI 2 [(0, va_rf l0), (1, .int l1), (2, .int l2), (3, .int l3)] [] (X7_enteringColumn_L2_body n l0 l1 l2 K2 l3) := by
  unfold X7_enteringColumn_L2_body
  refine pz_iload_n 3 dX7_enteringColumn_2 rfl ?_
  refine pz_aload_n 0 dX7_enteringColumn_3 rfl ?_
  refine pz_getR (ci := 7) (k := 1) ck_7 (by decide) (Or.inl pw_301) dX7_enteringColumn_4 (fun x1 => ?_)
  refine pz_cvI (st := [.int l3]) (md_X9_places X n x1) ck_9 rfl mk_X9_places (Or.inl pw_558) pw_559 pw_560 rfl rfl (by simp [pz_rf1, pz_ci, pz_cl]) (by decide) (by decide) dX7_enteringColumn_7 (fun x2 => ?_)
  refine pz_icmp_ge 142 dX7_enteringColumn_10 (by decide) ?_ ?_
  · refine pz_bipush (-2) dX7_enteringColumn_142 (by decide) ?_
    exact pz_iret rfl dX7_enteringColumn_144
  · refine pz_aload_n 0 dX7_enteringColumn_13 rfl ?_
    refine pz_getR (ci := 7) (k := 1) ck_7 (by decide) (Or.inl pw_301) dX7_enteringColumn_14 (fun x3 => ?_)
    refine pz_iload_n 3 dX7_enteringColumn_17 rfl ?_
    refine pz_cvI (st := []) (md_X9_columnOf X n x3 l3) ck_9 rfl mk_X9_columnOf (Or.inl pw_677) pw_678 pw_679 rfl rfl (by decide) (by decide) (by decide) dX7_enteringColumn_18 (fun x4 => ?_)
    refine pz_istore [(4, .int x4), (0, va_rf l0), (1, .int l1), (2, .int l2), (3, .int l3)] dX7_enteringColumn_21 (by decide) rfl ?_
    refine pz_iload 0 dX7_enteringColumn_23 rfl ?_
    refine pz_if_lt 47 dX7_enteringColumn_25 (by decide) ?_ ?_
    · refine pz_iconst 0 dX7_enteringColumn_47 (by decide) ?_
      exact pz_sub [1, 2, 3, 4, 0] rfl (S_X7_enteringColumn_b48 X n l0 l1 l2 K2 hK2 l3 x4 0)
    · refine pz_iload_n 3 dX7_enteringColumn_28 rfl ?_
      refine pz_ineg dX7_enteringColumn_29 ?_
      refine pz_aload_n 1 dX7_enteringColumn_30 rfl ?_
      refine pz_getR (ci := 7) (k := 1) ck_7 (by decide) (Or.inl pw_301) dX7_enteringColumn_31 (fun x24 => ?_)
      refine pz_iload_n 2 dX7_enteringColumn_34 rfl ?_
      refine pz_iload 0 dX7_enteringColumn_35 rfl ?_
      refine pz_cvR (st := [.int (-l2)]) (md_X9_cell X n x24 l1 x4) ck_9 rfl mk_X9_cell (Or.inl pw_681) pw_491 pw_492 rfl rfl (by simp [pz_rf1, pz_ci, pz_cl]) (by decide) (by decide) dX7_enteringColumn_37 (fun x25 => ?_)
      refine pz_getI (ci := 0) (k := 2) ck_0 (by decide) (Or.inl pw_98) dX7_enteringColumn_40 (fun x26 => ?_)
      refine pz_imul dX7_enteringColumn_43 ?_
      refine pz_goto 48 dX7_enteringColumn_44 (by decide) ?_
      exact pz_sub [1, 2, 3, 4, 0] rfl (S_X7_enteringColumn_b48 X n l0 l1 l2 K2 hK2 l3 x4 ((-l2) * x26))
set_option maxRecDepth 20000 in
theorem S_X7_enteringColumn_L2 (X : pz_X) (n : Nat) (l0 : Option Nat) (l1 : Int32) (l2 : Int32) (l3 : Int32) : pz_Sm X (pz_QM X) J_X7_enteringColumn pz_vI 2 [(0, va_rf l0), (1, .int l1), (2, .int l2), (3, .int l3)] [] (X7_enteringColumn_L2 n l0 l1 l2 l3) :=
  pz_lp (L := fun (s : Int32) => [(0, va_rf l0), (1, .int l1), (2, .int l2), (3, .int s)]) (fun K hK s => S_X7_enteringColumn_L2_body X n l0 l1 l2 (fun l3 => K l3) (fun l3 => hK l3) s) n l3
set_option maxRecDepth 20000 in
theorem S_X7_enteringColumn (X : pz_X) (n : Nat) (l0 : Option Nat) (l1 : Int32) (l2 : Int32) : pz_Sm X (pz_QM X) J_X7_enteringColumn pz_vI 0 [(0, va_rf l0), (1, .int l1), (2, .int l2)] [] (X7_enteringColumn n l0 l1 l2) := by
  unfold X7_enteringColumn
  refine pz_iconst 0 dX7_enteringColumn_0 (by decide) ?_
  refine pz_istore_n [(3, .int 0), (0, va_rf l0), (1, .int l1), (2, .int l2)] dX7_enteringColumn_1 (by decide) rfl ?_
  exact pz_sub [1, 2, 3, 0] rfl (S_X7_enteringColumn_L2 X n l0 l1 l2 0)
set_option maxRecDepth 20000 in
theorem md_X7_enteringColumn (X : pz_X) (n : Nat) (l0 : Option Nat) (l1 : Int32) (l2 : Int32) : pz_Md X yX7_enteringColumn J_X7_enteringColumn pz_vI [va_rf l0, .int l1, .int l2] (X7_enteringColumn n l0 l1 l2) :=
  pz_md [(0, va_rf l0), (1, .int l1), (2, .int l2)] (by decide +kernel) rfl rfl (by cases l0 <;> rfl) (by cases l0 <;> exact Nat.le_of_ble_eq_true rfl) (fun X => S_X7_enteringColumn X n l0 l1 l2)
set_option maxRecDepth 20000 in
theorem S_X8_store_b115 (X : pz_X) (n : Nat) (s0 : Option Nat) (s1 : Int32) : pz_Sm X (pz_QM X) J_X8_store pz_vU 115 [] [.int s1, va_rf s0] (X8_store_b115 n s0 s1) := by
  unfold X8_store_b115
  refine pz_put (ci := 0) (k := 2) ck_0 (by decide) (Or.inl pw_96) (Or.inl rfl) rfl rfl dX8_store_115 ?_
  exact pz_vret rfl dX8_store_118
set_option maxRecDepth 20000 in
theorem S_X8_store_b98 (X : pz_X) (n : Nat) (l1 : Option Nat) (l2 : Int32) (l5 : Int32) : pz_Sm X (pz_QM X) J_X8_store pz_vU 98 [(1, va_rf l1), (2, .int l2), (5, .int l5)] [] (X8_store_b98 n l1 l2 l5) := by
  unfold X8_store_b98
  refine pz_aload_n 0 dX8_store_98 rfl ?_
  refine pz_iload 2 dX8_store_99 rfl ?_
  refine pz_put (ci := 0) (k := 1) ck_0 (by decide) (Or.inl pw_92) (Or.inl rfl) rfl rfl dX8_store_101 ?_
  refine pz_aload_n 0 dX8_store_104 rfl ?_
  refine pz_iload 2 dX8_store_105 rfl ?_
  refine pz_if_ne 114 dX8_store_107 (by decide) ?_ ?_
  · refine pz_iconst 0 dX8_store_110 (by decide) ?_
    refine pz_goto 115 dX8_store_111 (by decide) ?_
    exact pz_sub [] rfl (S_X8_store_b115 X n l1 0)
  · refine pz_iload_n 1 dX8_store_114 rfl ?_
    exact pz_sub [] rfl (S_X8_store_b115 X n l1 l2)
set_option maxRecDepth 20000 in
theorem S_X8_store_b92 (X : pz_X) (n : Nat) (l0 : Option Nat) (l1 : Option Nat) (l2 : Int32) (K13 : Int64 → Int32 → Int32 → pz_C Unit) (hK13 : ∀ (l3 : Int64) (l5 : Int32) (l6 : Int32), pz_Sm X (pz_QM X) J_X8_store pz_vU 13 [(0, va_rf l0), (1, va_rf l1), (2, .int l2), (3, .long l3), (5, .int l5), (6, .int l6)] [] (K13 l3 l5 l6)) (l3 : Int64) (l5 : Int32) (l6 : Int32) : pz_Sm X (pz_QM X) J_X8_store pz_vU 92 [(0, va_rf l0), (1, va_rf l1), (2, .int l2), (3, .long l3), (5, .int l5), (6, .int l6)] [] (X8_store_b92 n K13 l0 l1 l2 l3 l5 l6) := by
  unfold X8_store_b92
  refine pz_iinc 5 1 (fun l6_10 => [(6, .int l6_10), (0, va_rf l0), (1, va_rf l1), (2, .int l2), (3, .long l3), (5, .int l5)]) dX8_store_92 rfl (by decide) (by decide) (fun l6_10 => rfl) (fun l6_10 => ?_)
  refine pz_goto 13 dX8_store_95 (by decide) ?_
  exact pz_sub [1, 2, 3, 4, 5, 0] rfl (hK13 l3 l5 l6_10)
set_option maxRecDepth 20000 in
theorem S_X8_store_b58 (X : pz_X) (n : Nat) (l0 : Option Nat) (l1 : Option Nat) (l2 : Int32) (K13 : Int64 → Int32 → Int32 → pz_C Unit) (hK13 : ∀ (l3 : Int64) (l5 : Int32) (l6 : Int32), pz_Sm X (pz_QM X) J_X8_store pz_vU 13 [(0, va_rf l0), (1, va_rf l1), (2, .int l2), (3, .long l3), (5, .int l5), (6, .int l6)] [] (K13 l3 l5 l6)) (l5 : Int32) (l6 : Int32) (l7 : Int64) (s0 : Int64) : pz_Sm X (pz_QM X) J_X8_store pz_vU 58 [(0, va_rf l0), (1, va_rf l1), (2, .int l2), (5, .int l5), (6, .int l6), (7, .long l7)] [.long s0] (X8_store_b58 n K13 l0 l1 l2 l5 l6 l7 s0) := by
  unfold X8_store_b58
  refine pz_lstore_n [(3, .long s0), (0, va_rf l0), (1, va_rf l1), (2, .int l2), (5, .int l5), (6, .int l6), (7, .long l7)] dX8_store_58 (by decide) rfl ?_
  refine pz_lload 6 dX8_store_59 rfl ?_
  refine pz_lload_n 0 dX8_store_61 rfl ?_
  refine pz_ldc2 1000000000 dX8_store_62 pw_582 ?_
  refine pz_lmul dX8_store_65 ?_
  refine pz_ladd dX8_store_66 ?_
  refine pz_nmL (fun l7_8 => ?_)
  refine pz_lstore [(7, .long l7_8), (3, .long s0), (0, va_rf l0), (1, va_rf l1), (2, .int l2), (5, .int l5), (6, .int l6)] dX8_store_67 (by decide) rfl ?_
  refine pz_aload_n 3 dX8_store_69 rfl ?_
  refine pz_getR (ci := 0) (k := 0) ck_0 (by decide) (Or.inl pw_88) dX8_store_70 (fun x9 => ?_)
  refine pz_iload 6 dX8_store_73 rfl ?_
  refine pz_lload 0 dX8_store_75 rfl ?_
  refine pz_l2i dX8_store_77 ?_
  refine pz_iast (t := 0) rfl dX8_store_78 ?_
  refine pz_lload 0 dX8_store_79 rfl ?_
  refine pz_lconst 0 dX8_store_81 (by decide) ?_
  refine pz_lcmp dX8_store_82 ?_
  refine pz_if_eq 92 dX8_store_83 (by decide) ?_ ?_
  · exact pz_sub [2, 3, 4, 1, 5, 6] rfl (S_X8_store_b92 X n l0 l1 l2 K13 hK13 s0 l5 l6)
  · refine pz_iload 6 dX8_store_86 rfl ?_
    refine pz_iconst 1 dX8_store_88 (by decide) ?_
    refine pz_iadd dX8_store_89 ?_
    refine pz_nmI (fun l5_11 => ?_)
    refine pz_istore [(5, .int l5_11), (7, .long l7_8), (3, .long s0), (0, va_rf l0), (1, va_rf l1), (2, .int l2), (6, .int l6)] dX8_store_90 (by decide) rfl ?_
    exact pz_sub [3, 4, 5, 2, 0, 6] rfl (S_X8_store_b92 X n l0 l1 l2 K13 hK13 s0 l5_11 l6)
set_option maxRecDepth 20000 in
theorem S_X8_store_L13_body (X : pz_X) (n : Nat) (l0 : Option Nat) (l1 : Option Nat) (l2 : Int32) (K13 : Int64 → Int32 → Int32 → pz_C Unit) (hK13 : ∀ (l3 : Int64) (l5 : Int32) (l6 : Int32), pz_Sm X (pz_QM X) J_X8_store pz_vU 13 [(0, va_rf l0), (1, va_rf l1), (2, .int l2), (3, .long l3), (5, .int l5), (6, .int l6)] [] (K13 l3 l5 l6)) (l3 : Int64) (l5 : Int32) (l6 : Int32) : pz_Sm X (pz_QM X) J_X8_store pz_vU 13 [(0, va_rf l0), (1, va_rf l1), (2, .int l2), (3, .long l3), (5, .int l5), (6, .int l6)] [] (X8_store_L13_body n l0 l1 l2 K13 l3 l5 l6) := by
  unfold X8_store_L13_body
  refine pz_iload 5 dX8_store_13 rfl ?_
  refine pz_aload_n 0 dX8_store_15 rfl ?_
  refine pz_getI (ci := 8) (k := 1) ck_8 (by decide) (Or.inl pw_138) dX8_store_16 (fun x2 => ?_)
  refine pz_icmp_ge 98 dX8_store_19 (by decide) ?_ ?_
  · exact pz_sub [1, 2, 4] rfl (S_X8_store_b98 X n l1 l2 l5)
  · refine pz_iload 5 dX8_store_22 rfl ?_
    refine pz_aload_n 1 dX8_store_24 rfl ?_
    refine pz_getR (ci := 0) (k := 0) ck_0 (by decide) (Or.inl pw_88) dX8_store_25 (fun x3 => ?_)
    refine pz_alen (t := 0) rfl dX8_store_28 (fun x4 => ?_)
    refine pz_icmp_ge 98 dX8_store_29 (by decide) ?_ ?_
    · exact pz_sub [1, 2, 4] rfl (S_X8_store_b98 X n l1 l2 l5)
    · refine pz_iload_n 2 dX8_store_32 rfl ?_
      refine pz_i2l dX8_store_33 ?_
      refine pz_aload_n 0 dX8_store_34 rfl ?_
      refine pz_getR (ci := 8) (k := 0) ck_8 (by decide) (Or.inl pw_137) dX8_store_35 (fun x5 => ?_)
      refine pz_iload 5 dX8_store_38 rfl ?_
      refine pz_lald (t := 2) rfl dX8_store_40 (fun x6 => ?_)
      refine pz_lmul dX8_store_41 ?_
      refine pz_lload_n 3 dX8_store_42 rfl ?_
      refine pz_lsub dX8_store_43 ?_
      refine pz_nmL (fun l7_7 => ?_)
      refine pz_lstore [(7, .long l7_7), (0, va_rf l0), (1, va_rf l1), (2, .int l2), (3, .long l3), (5, .int l5), (6, .int l6)] dX8_store_44 (by decide) rfl ?_
      refine pz_lload 0 dX8_store_46 rfl ?_
      refine pz_lconst 0 dX8_store_48 (by decide) ?_
      refine pz_lcmp dX8_store_49 ?_
      refine pz_if_ge 57 dX8_store_50 (by decide) ?_ ?_
      · refine pz_lconst 0 dX8_store_57 (by decide) ?_
        exact pz_sub [1, 2, 3, 5, 6, 0] rfl (S_X8_store_b58 X n l0 l1 l2 K13 hK13 l5 l6 l7_7 0)
      · refine pz_lconst 1 dX8_store_53 (by decide) ?_
        refine pz_goto 58 dX8_store_54 (by decide) ?_
        exact pz_sub [1, 2, 3, 5, 6, 0] rfl (S_X8_store_b58 X n l0 l1 l2 K13 hK13 l5 l6 l7_7 1)
set_option maxRecDepth 20000 in
theorem S_X8_store_L13 (X : pz_X) (n : Nat) (l0 : Option Nat) (l1 : Option Nat) (l2 : Int32) (l3 : Int64) (l5 : Int32) (l6 : Int32) : pz_Sm X (pz_QM X) J_X8_store pz_vU 13 [(0, va_rf l0), (1, va_rf l1), (2, .int l2), (3, .long l3), (5, .int l5), (6, .int l6)] [] (X8_store_L13 n l0 l1 l2 l3 l5 l6) :=
  pz_lp (L := fun (s : Int64 × Int32 × Int32) => [(0, va_rf l0), (1, va_rf l1), (2, .int l2), (3, .long s.1), (5, .int s.2.1), (6, .int s.2.2)]) (fun K hK s => S_X8_store_L13_body X n l0 l1 l2 (fun l3 l5 l6 => K (l3, l5, l6)) (fun l3 l5 l6 => hK (l3, l5, l6)) s.1 s.2.1 s.2.2) n (l3, l5, l6)
set_option maxRecDepth 20000 in
theorem S_X8_store (X : pz_X) (n : Nat) (l0 : Option Nat) (l1 : Option Nat) : pz_Sm X (pz_QM X) J_X8_store pz_vU 0 [(0, va_rf l0), (1, va_rf l1)] [] (X8_store n l0 l1) := by
  unfold X8_store
  refine pz_aload_n 0 dX8_store_0 rfl ?_
  refine pz_cvI (st := []) (md_X8_signNow X n l0) ck_8 rfl mk_X8_signNow (Or.inl pw_691) pw_588 pw_589 rfl rfl (by decide) (by decide) (by decide) dX8_store_1 (fun x1 => ?_)
  refine pz_istore_n [(2, .int x1), (0, va_rf l0), (1, va_rf l1)] dX8_store_4 (by decide) (by cases l1 <;> rfl) ?_
  refine pz_lconst 0 dX8_store_5 (by decide) ?_
  refine pz_lstore_n [(3, .long 0), (2, .int x1), (0, va_rf l0), (1, va_rf l1)] dX8_store_6 (by decide) rfl ?_
  refine pz_iconst 0 dX8_store_7 (by decide) ?_
  refine pz_istore [(5, .int 0), (3, .long 0), (2, .int x1), (0, va_rf l0), (1, va_rf l1)] dX8_store_8 (by decide) rfl ?_
  refine pz_iconst 0 dX8_store_10 (by decide) ?_
  refine pz_istore [(6, .int 0), (5, .int 0), (3, .long 0), (2, .int x1), (0, va_rf l0), (1, va_rf l1)] dX8_store_11 (by decide) rfl ?_
  exact pz_sub [4, 5, 3, 2, 1, 0] rfl (S_X8_store_L13 X n l0 l1 x1 0 0 0)
set_option maxRecDepth 20000 in
theorem md_X8_store (X : pz_X) (n : Nat) (l0 : Option Nat) (l1 : Option Nat) : pz_Md X yX8_store J_X8_store pz_vU [va_rf l0, va_rf l1] (X8_store n l0 l1) :=
  pz_md [(0, va_rf l0), (1, va_rf l1)] (by decide +kernel) rfl rfl (by cases l0 <;> cases l1 <;> rfl) (by cases l0 <;> cases l1 <;> exact Nat.le_of_ble_eq_true rfl) (fun X => S_X8_store X n l0 l1)
