set_option maxRecDepth 20000 in
theorem S_X11_row_b22 (X : pz_X) (n : Nat) : pz_Sm X (pz_QM X) J_X11_row pz_vI 22 [] [] (X11_row_b22 n) := by
  unfold X11_row_b22
  refine pz_iconst (-1) dX11_row_22 (by decide) ?_
  exact pz_iret rfl dX11_row_23
set_option maxRecDepth 20000 in
theorem S_X11_row_b45 (X : pz_X) (n : Nat) : pz_Sm X (pz_QM X) J_X11_row pz_vI 45 [] [] (X11_row_b45 n) := by
  unfold X11_row_b45
  refine pz_iconst (-1) dX11_row_45 (by decide) ?_
  exact pz_iret rfl dX11_row_46
set_option maxRecDepth 20000 in
theorem S_X11_row (X : pz_X) (n : Nat) (l0 : Option Nat) (l1 : Int32) (l2 : Int32) : pz_Sm X (pz_QM X) J_X11_row pz_vI 0 [(0, va_rf l0), (1, .int l1), (2, .int l2)] [] (X11_row n l0 l1 l2) := by
  unfold X11_row
  refine pz_aload_n 0 dX11_row_0 rfl ?_
  refine pz_getR (ci := 11) (k := 0) ck_11 (by decide) (Or.inl pw_400) dX11_row_1 (fun x1 => ?_)
  refine pz_getI (ci := 6) (k := 5) ck_6 (by decide) (Or.inl pw_50) dX11_row_4 (fun x2 => ?_)
  refine pz_if_eq 22 dX11_row_7 (by decide) ?_ ?_
  · exact pz_sub [] rfl (S_X11_row_b22 X n)
  · refine pz_aload_n 0 dX11_row_10 rfl ?_
    refine pz_getR (ci := 11) (k := 0) ck_11 (by decide) (Or.inl pw_400) dX11_row_11 (fun x3 => ?_)
    refine pz_getI (ci := 6) (k := 6) ck_6 (by decide) (Or.inl pw_56) dX11_row_14 (fun x4 => ?_)
    refine pz_bipush 12 dX11_row_17 (by decide) ?_
    refine pz_icmp_lt 24 dX11_row_19 (by decide) ?_ ?_
    · refine pz_iload_n 1 dX11_row_24 rfl ?_
      refine pz_if_lt 45 dX11_row_25 (by decide) ?_ ?_
      · exact pz_sub [] rfl (S_X11_row_b45 X n)
      · refine pz_iload_n 1 dX11_row_28 rfl ?_
        refine pz_iconst 2 dX11_row_29 (by decide) ?_
        refine pz_icmp_gt 45 dX11_row_30 (by decide) ?_ ?_
        · exact pz_sub [] rfl (S_X11_row_b45 X n)
        · refine pz_iload_n 2 dX11_row_33 rfl ?_
          refine pz_ldc (-1000000) dX11_row_34 pw_455 ?_
          refine pz_icmp_lt 45 dX11_row_36 (by decide) ?_ ?_
          · exact pz_sub [] rfl (S_X11_row_b45 X n)
          · refine pz_iload_n 2 dX11_row_39 rfl ?_
            refine pz_ldc 1000000 dX11_row_40 pw_456 ?_
            refine pz_icmp_le 47 dX11_row_42 (by decide) ?_ ?_
            · refine pz_aload_n 0 dX11_row_47 rfl ?_
              refine pz_getR (ci := 11) (k := 5) ck_11 (by decide) (Or.inl pw_405) dX11_row_48 (fun x5 => ?_)
              refine pz_cvU (st := []) (md_X7_forget X n x5) ck_7 rfl mk_X7_forget (Or.inl pw_439) pw_440 pw_441 rfl rfl (by decide) (by decide) (by decide) dX11_row_51 (fun _ => ?_)
              refine pz_aload_n 0 dX11_row_54 rfl ?_
              refine pz_getR (ci := 11) (k := 0) ck_11 (by decide) (Or.inl pw_400) dX11_row_55 (fun x7 => ?_)
              refine pz_iload_n 1 dX11_row_58 rfl ?_
              refine pz_iload_n 2 dX11_row_59 rfl ?_
              refine pz_cvI (st := []) (md_X6_endDraft X n x7 l1 l2) ck_6 rfl mk_X6_endDraft (Or.inl pw_461) pw_462 pw_463 rfl rfl (by decide) (by decide) (by decide) dX11_row_60 (fun x8 => ?_)
              exact pz_iret rfl dX11_row_63
            · exact pz_sub [] rfl (S_X11_row_b45 X n)
    · exact pz_sub [] rfl (S_X11_row_b22 X n)
set_option maxRecDepth 20000 in
theorem md_X11_row (X : pz_X) (n : Nat) (l0 : Option Nat) (l1 : Int32) (l2 : Int32) : pz_Md X yX11_row J_X11_row pz_vI [va_rf l0, .int l1, .int l2] (X11_row n l0 l1 l2) :=
  pz_md [(0, va_rf l0), (1, .int l1), (2, .int l2)] (by decide +kernel) rfl rfl (by cases l0 <;> rfl) (by cases l0 <;> exact Nat.le_of_ble_eq_true rfl) (fun X => S_X11_row X n l0 l1 l2)
set_option maxRecDepth 20000 in
theorem S_X12_row_b34 (X : pz_X) (n : Nat) : pz_Sm X (pz_QM X) J_X12_row pz_vI 34 [] [] (X12_row_b34 n) := by
  unfold X12_row_b34
  refine pz_iconst (-1) dX12_row_34 (by decide) ?_
  exact pz_iret rfl dX12_row_35
set_option maxRecDepth 20000 in
theorem S_X12_row_L38_body (X : pz_X) (n : Nat) (l0 : Option Nat) (l1 : Int32) (l2 : Int32) (K38 : Int32 → pz_C Int32) (hK38 : ∀ (l3 : Int32), pz_Sm X (pz_QM X) J_X12_row pz_vI 38 [(0, va_rf l0), (1, .int l1), (2, .int l2), (3, .int l3)] [] (K38 l3)) (l3 : Int32) : pz_Sm X (pz_QM X) J_X12_row pz_vI 38 [(0, va_rf l0), (1, .int l1), (2, .int l2), (3, .int l3)] [] (X12_row_L38_body n l0 l1 l2 K38 l3) := by
  unfold X12_row_L38_body
  refine pz_iload_n 3 dX12_row_38 rfl ?_
  refine pz_bipush 10 dX12_row_39 (by decide) ?_
  refine pz_icmp_ge 77 dX12_row_41 (by decide) ?_ ?_
  · refine pz_aload_n 0 dX12_row_77 rfl ?_
    refine pz_getR (ci := 12) (k := 3) ck_12 (by decide) (Or.inl pw_935) dX12_row_78 (fun x4 => ?_)
    refine pz_aload_n 0 dX12_row_81 rfl ?_
    refine pz_getI (ci := 12) (k := 1) ck_12 (by decide) (Or.inl pw_933) dX12_row_82 (fun x5 => ?_)
    refine pz_iload_n 1 dX12_row_85 rfl ?_
    refine pz_iast (t := 0) rfl dX12_row_86 ?_
    refine pz_aload_n 0 dX12_row_87 rfl ?_
    refine pz_getR (ci := 12) (k := 4) ck_12 (by decide) (Or.inl pw_936) dX12_row_88 (fun x6 => ?_)
    refine pz_aload_n 0 dX12_row_91 rfl ?_
    refine pz_getI (ci := 12) (k := 1) ck_12 (by decide) (Or.inl pw_933) dX12_row_92 (fun x7 => ?_)
    refine pz_iload_n 2 dX12_row_95 rfl ?_
    refine pz_iast (t := 0) rfl dX12_row_96 ?_
    refine pz_aload_n 0 dX12_row_97 rfl ?_
    refine pz_dup dX12_row_98 (pz_rf1 _) ?_
    refine pz_getI (ci := 12) (k := 1) ck_12 (by decide) (Or.inl pw_933) dX12_row_99 (fun x8 => ?_)
    refine pz_iconst 1 dX12_row_102 (by decide) ?_
    refine pz_iadd dX12_row_103 ?_
    refine pz_put (ci := 12) (k := 1) ck_12 (by decide) (Or.inl pw_933) (Or.inl rfl) rfl rfl dX12_row_104 ?_
    refine pz_aload_n 0 dX12_row_107 rfl ?_
    refine pz_cvU (st := []) (md_X12_forget X n l0) ck_12 rfl mk_X12_forget (Or.inl pw_1048) pw_1050 ps_33 rfl rfl (by decide) (by decide) (by decide) dX12_row_108 (fun _ => ?_)
    refine pz_aload_n 0 dX12_row_111 rfl ?_
    refine pz_getI (ci := 12) (k := 1) ck_12 (by decide) (Or.inl pw_933) dX12_row_112 (fun x10 => ?_)
    refine pz_iconst 1 dX12_row_115 (by decide) ?_
    refine pz_isub dX12_row_116 ?_
    exact pz_iret rfl dX12_row_117
  · refine pz_aload_n 0 dX12_row_44 rfl ?_
    refine pz_getR (ci := 12) (k := 2) ck_12 (by decide) (Or.inl pw_934) dX12_row_45 (fun x11 => ?_)
    refine pz_bipush 10 dX12_row_48 (by decide) ?_
    refine pz_aload_n 0 dX12_row_50 rfl ?_
    refine pz_getI (ci := 12) (k := 1) ck_12 (by decide) (Or.inl pw_933) dX12_row_51 (fun x12 => ?_)
    refine pz_imul dX12_row_54 ?_
    refine pz_iload_n 3 dX12_row_55 rfl ?_
    refine pz_iadd dX12_row_56 ?_
    refine pz_aload_n 0 dX12_row_57 rfl ?_
    refine pz_getR (ci := 12) (k := 5) ck_12 (by decide) (Or.inl pw_937) dX12_row_58 (fun x13 => ?_)
    refine pz_iload_n 3 dX12_row_61 rfl ?_
    refine pz_iald (t := 0) rfl dX12_row_62 (fun x14 => ?_)
    refine pz_iast (t := 0) rfl dX12_row_63 ?_
    refine pz_aload_n 0 dX12_row_64 rfl ?_
    refine pz_getR (ci := 12) (k := 5) ck_12 (by decide) (Or.inl pw_937) dX12_row_65 (fun x15 => ?_)
    refine pz_iload_n 3 dX12_row_68 rfl ?_
    refine pz_iconst 0 dX12_row_69 (by decide) ?_
    refine pz_iast (t := 0) rfl dX12_row_70 ?_
    refine pz_iinc 3 1 (fun l3_16 => [(3, .int l3_16), (0, va_rf l0), (1, .int l1), (2, .int l2)]) dX12_row_71 rfl (by decide) (by decide) (fun l3_16 => rfl) (fun l3_16 => ?_)
    refine pz_goto 38 dX12_row_74 (by decide) ?_
    exact pz_sub [1, 2, 3, 0] rfl (hK38 l3_16)
set_option maxRecDepth 20000 in
theorem S_X12_row_L38 (X : pz_X) (n : Nat) (l0 : Option Nat) (l1 : Int32) (l2 : Int32) (l3 : Int32) : pz_Sm X (pz_QM X) J_X12_row pz_vI 38 [(0, va_rf l0), (1, .int l1), (2, .int l2), (3, .int l3)] [] (X12_row_L38 n l0 l1 l2 l3) :=
  pz_lp (L := fun (s : Int32) => [(0, va_rf l0), (1, .int l1), (2, .int l2), (3, .int s)]) (fun K hK s => S_X12_row_L38_body X n l0 l1 l2 (fun l3 => K l3) (fun l3 => hK l3) s) n l3
set_option maxRecDepth 20000 in
theorem S_X12_row (X : pz_X) (n : Nat) (l0 : Option Nat) (l1 : Int32) (l2 : Int32) : pz_Sm X (pz_QM X) J_X12_row pz_vI 0 [(0, va_rf l0), (1, .int l1), (2, .int l2)] [] (X12_row n l0 l1 l2) := by
  unfold X12_row
  refine pz_aload_n 0 dX12_row_0 rfl ?_
  refine pz_getI (ci := 12) (k := 0) ck_12 (by decide) (Or.inl pw_932) dX12_row_1 (fun x1 => ?_)
  refine pz_if_eq 34 dX12_row_4 (by decide) ?_ ?_
  · exact pz_sub [] rfl (S_X12_row_b34 X n)
  · refine pz_iload_n 1 dX12_row_7 rfl ?_
    refine pz_if_lt 34 dX12_row_8 (by decide) ?_ ?_
    · exact pz_sub [] rfl (S_X12_row_b34 X n)
    · refine pz_iload_n 1 dX12_row_11 rfl ?_
      refine pz_iconst 2 dX12_row_12 (by decide) ?_
      refine pz_icmp_gt 34 dX12_row_13 (by decide) ?_ ?_
      · exact pz_sub [] rfl (S_X12_row_b34 X n)
      · refine pz_iload_n 2 dX12_row_16 rfl ?_
        refine pz_ldc 1000000 dX12_row_17 pw_1060 ?_
        refine pz_csI (st := []) (md_X12_within X n l2 1000000) mk_X12_within (Or.inl pw_1061) pw_1062 rfl rfl (by decide) (by decide) (by decide) dX12_row_19 (fun x2 => ?_)
        refine pz_if_eq 34 dX12_row_22 (by decide) ?_ ?_
        · exact pz_sub [] rfl (S_X12_row_b34 X n)
        · refine pz_aload_n 0 dX12_row_25 rfl ?_
          refine pz_getI (ci := 12) (k := 1) ck_12 (by decide) (Or.inl pw_933) dX12_row_26 (fun x3 => ?_)
          refine pz_bipush 12 dX12_row_29 (by decide) ?_
          refine pz_icmp_ne 36 dX12_row_31 (by decide) ?_ ?_
          · exact pz_sub [] rfl (S_X12_row_b34 X n)
          · refine pz_iconst 0 dX12_row_36 (by decide) ?_
            refine pz_istore_n [(3, .int 0), (0, va_rf l0), (1, .int l1), (2, .int l2)] dX12_row_37 (by decide) rfl ?_
            exact pz_sub [1, 2, 3, 0] rfl (S_X12_row_L38 X n l0 l1 l2 0)
set_option maxRecDepth 20000 in
theorem md_X12_row (X : pz_X) (n : Nat) (l0 : Option Nat) (l1 : Int32) (l2 : Int32) : pz_Md X yX12_row J_X12_row pz_vI [va_rf l0, .int l1, .int l2] (X12_row n l0 l1 l2) :=
  pz_md [(0, va_rf l0), (1, .int l1), (2, .int l2)] (by decide +kernel) rfl rfl (by cases l0 <;> rfl) (by cases l0 <;> exact Nat.le_of_ble_eq_true rfl) (fun X => S_X12_row X n l0 l1 l2)
set_option maxRecDepth 20000 in
theorem S_X11_whole_b30 (X : pz_X) (n : Nat) (l0 : Option Nat) (l1 : Int32) (l2 : Int32) (s0 : Int32) : pz_Sm X (pz_QM X) J_X11_whole pz_vI 30 [(0, va_rf l0), (1, .int l1), (2, .int l2)] [.int s0] (X11_whole_b30 n l0 l1 l2 s0) := by
  unfold X11_whole_b30
  refine pz_istore_n [(3, .int s0), (0, va_rf l0), (1, .int l1), (2, .int l2)] dX11_whole_30 (by decide) rfl ?_
  refine pz_aload_n 1 dX11_whole_31 rfl ?_
  refine pz_getR (ci := 11) (k := 0) ck_11 (by decide) (Or.inl pw_400) dX11_whole_32 (fun x6 => ?_)
  refine pz_getR (ci := 6) (k := 3) ck_6 (by decide) (Or.inl pw_42) dX11_whole_35 (fun x7 => ?_)
  refine pz_iload_n 2 dX11_whole_38 rfl ?_
  refine pz_iload_n 3 dX11_whole_39 rfl ?_
  refine pz_zast (t := 1) rfl dX11_whole_40 ?_
  refine pz_aload_n 1 dX11_whole_41 rfl ?_
  refine pz_getR (ci := 11) (k := 5) ck_11 (by decide) (Or.inl pw_405) dX11_whole_42 (fun x8 => ?_)
  refine pz_cvU (st := []) (md_X7_forget X n x8) ck_7 rfl mk_X7_forget (Or.inl pw_439) pw_440 pw_441 rfl rfl (by decide) (by decide) (by decide) dX11_whole_45 (fun _ => ?_)
  refine pz_iload_n 0 dX11_whole_48 rfl ?_
  exact pz_iret rfl dX11_whole_49
set_option maxRecDepth 20000 in
theorem S_X11_whole (X : pz_X) (n : Nat) (l0 : Option Nat) (l1 : Int32) (l2 : Int32) : pz_Sm X (pz_QM X) J_X11_whole pz_vI 0 [(0, va_rf l0), (1, .int l1), (2, .int l2)] [] (X11_whole n l0 l1 l2) := by
  unfold X11_whole
  refine pz_aload_n 0 dX11_whole_0 rfl ?_
  refine pz_getR (ci := 11) (k := 0) ck_11 (by decide) (Or.inl pw_400) dX11_whole_1 (fun x1 => ?_)
  refine pz_iload_n 1 dX11_whole_4 rfl ?_
  refine pz_cvI (st := []) (md_X6_hasVariable X n x1 l1) ck_6 rfl mk_X6_hasVariable (Or.inl pw_451) pw_452 pw_453 rfl rfl (by decide) (by decide) (by decide) dX11_whole_5 (fun x2 => ?_)
  refine pz_if_ne 13 dX11_whole_8 (by decide) ?_ ?_
  · refine pz_iconst (-1) dX11_whole_11 (by decide) ?_
    exact pz_iret rfl dX11_whole_12
  · refine pz_aload_n 0 dX11_whole_13 rfl ?_
    refine pz_getR (ci := 11) (k := 0) ck_11 (by decide) (Or.inl pw_400) dX11_whole_14 (fun x3 => ?_)
    refine pz_getR (ci := 6) (k := 3) ck_6 (by decide) (Or.inl pw_42) dX11_whole_17 (fun x4 => ?_)
    refine pz_iload_n 1 dX11_whole_20 rfl ?_
    refine pz_zald (t := 1) rfl dX11_whole_21 (fun x5 => ?_)
    refine pz_if_eq 29 dX11_whole_22 (by decide) ?_ ?_
    · refine pz_iconst 0 dX11_whole_29 (by decide) ?_
      exact pz_sub [0, 1, 2] rfl (S_X11_whole_b30 X n l0 l1 l2 0)
    · refine pz_iconst 1 dX11_whole_25 (by decide) ?_
      refine pz_goto 30 dX11_whole_26 (by decide) ?_
      exact pz_sub [0, 1, 2] rfl (S_X11_whole_b30 X n l0 l1 l2 1)
set_option maxRecDepth 20000 in
theorem md_X11_whole (X : pz_X) (n : Nat) (l0 : Option Nat) (l1 : Int32) (l2 : Int32) : pz_Md X yX11_whole J_X11_whole pz_vI [va_rf l0, .int l1, .int l2] (X11_whole n l0 l1 l2) :=
  pz_md [(0, va_rf l0), (1, .int l1), (2, .int l2)] (by decide +kernel) rfl rfl (by cases l0 <;> rfl) (by cases l0 <;> exact Nat.le_of_ble_eq_true rfl) (fun X => S_X11_whole X n l0 l1 l2)
set_option maxRecDepth 20000 in
theorem S_X12_whole_b24 (X : pz_X) (n : Nat) (l0 : Option Nat) (l1 : Int32) (l2 : Int32) (s0 : Int32) : pz_Sm X (pz_QM X) J_X12_whole pz_vI 24 [(0, va_rf l0), (1, .int l1), (2, .int l2)] [.int s0] (X12_whole_b24 n l0 l1 l2 s0) := by
  unfold X12_whole_b24
  refine pz_istore_n [(3, .int s0), (0, va_rf l0), (1, .int l1), (2, .int l2)] dX12_whole_24 (by decide) rfl ?_
  refine pz_aload_n 1 dX12_whole_25 rfl ?_
  refine pz_getR (ci := 12) (k := 6) ck_12 (by decide) (Or.inl pw_938) dX12_whole_26 (fun x4 => ?_)
  refine pz_iload_n 2 dX12_whole_29 rfl ?_
  refine pz_iload_n 3 dX12_whole_30 rfl ?_
  refine pz_zast (t := 1) rfl dX12_whole_31 ?_
  refine pz_aload_n 1 dX12_whole_32 rfl ?_
  refine pz_cvU (st := []) (md_X12_forget X n l0) ck_12 rfl mk_X12_forget (Or.inl pw_1048) pw_1050 ps_33 rfl rfl (by decide) (by decide) (by decide) dX12_whole_33 (fun _ => ?_)
  refine pz_iload_n 0 dX12_whole_36 rfl ?_
  exact pz_iret rfl dX12_whole_37
set_option maxRecDepth 20000 in
theorem S_X12_whole (X : pz_X) (n : Nat) (l0 : Option Nat) (l1 : Int32) (l2 : Int32) : pz_Sm X (pz_QM X) J_X12_whole pz_vI 0 [(0, va_rf l0), (1, .int l1), (2, .int l2)] [] (X12_whole n l0 l1 l2) := by
  unfold X12_whole
  refine pz_aload_n 0 dX12_whole_0 rfl ?_
  refine pz_iload_n 1 dX12_whole_1 rfl ?_
  refine pz_cvI (st := []) (md_X12_isVariable X n l0 l1) ck_12 rfl mk_X12_isVariable (Or.inl pw_1056) pw_1058 ps_34 rfl rfl (by decide) (by decide) (by decide) dX12_whole_2 (fun x1 => ?_)
  refine pz_if_ne 10 dX12_whole_5 (by decide) ?_ ?_
  · refine pz_iconst (-1) dX12_whole_8 (by decide) ?_
    exact pz_iret rfl dX12_whole_9
  · refine pz_aload_n 0 dX12_whole_10 rfl ?_
    refine pz_getR (ci := 12) (k := 6) ck_12 (by decide) (Or.inl pw_938) dX12_whole_11 (fun x2 => ?_)
    refine pz_iload_n 1 dX12_whole_14 rfl ?_
    refine pz_zald (t := 1) rfl dX12_whole_15 (fun x3 => ?_)
    refine pz_if_eq 23 dX12_whole_16 (by decide) ?_ ?_
    · refine pz_iconst 0 dX12_whole_23 (by decide) ?_
      exact pz_sub [0, 1, 2] rfl (S_X12_whole_b24 X n l0 l1 l2 0)
    · refine pz_iconst 1 dX12_whole_19 (by decide) ?_
      refine pz_goto 24 dX12_whole_20 (by decide) ?_
      exact pz_sub [0, 1, 2] rfl (S_X12_whole_b24 X n l0 l1 l2 1)
set_option maxRecDepth 20000 in
theorem md_X12_whole (X : pz_X) (n : Nat) (l0 : Option Nat) (l1 : Int32) (l2 : Int32) : pz_Md X yX12_whole J_X12_whole pz_vI [va_rf l0, .int l1, .int l2] (X12_whole n l0 l1 l2) :=
  pz_md [(0, va_rf l0), (1, .int l1), (2, .int l2)] (by decide +kernel) rfl rfl (by cases l0 <;> rfl) (by cases l0 <;> exact Nat.le_of_ble_eq_true rfl) (fun X => S_X12_whole X n l0 l1 l2)
set_option maxRecDepth 20000 in
theorem S_X9_seatColumn (X : pz_X) (n : Nat) (l0 : Option Nat) (l1 : Int32) (l2 : Int32) : pz_Sm X (pz_QM X) J_X9_seatColumn pz_vU 0 [(0, va_rf l0), (1, .int l1), (2, .int l2)] [] (X9_seatColumn n l0 l1 l2) := by
  unfold X9_seatColumn
  refine pz_aload_n 0 dX9_seatColumn_0 rfl ?_
  refine pz_getR (ci := 9) (k := 6) ck_9 (by decide) (Or.inl pw_161) dX9_seatColumn_1 (fun x1 => ?_)
  refine pz_iload_n 1 dX9_seatColumn_4 rfl ?_
  refine pz_iload_n 2 dX9_seatColumn_5 rfl ?_
  refine pz_iast (t := 0) rfl dX9_seatColumn_6 ?_
  refine pz_aload_n 0 dX9_seatColumn_7 rfl ?_
  refine pz_getR (ci := 9) (k := 7) ck_9 (by decide) (Or.inl pw_163) dX9_seatColumn_8 (fun x2 => ?_)
  refine pz_iload_n 2 dX9_seatColumn_11 rfl ?_
  refine pz_iload_n 1 dX9_seatColumn_12 rfl ?_
  refine pz_iast (t := 0) rfl dX9_seatColumn_13 ?_
  refine pz_aload_n 0 dX9_seatColumn_14 rfl ?_
  refine pz_getR (ci := 9) (k := 8) ck_9 (by decide) (Or.inl pw_164) dX9_seatColumn_15 (fun x3 => ?_)
  refine pz_iload_n 2 dX9_seatColumn_18 rfl ?_
  refine pz_iconst 0 dX9_seatColumn_19 (by decide) ?_
  refine pz_zast (t := 1) rfl dX9_seatColumn_20 ?_
  exact pz_vret rfl dX9_seatColumn_21
set_option maxRecDepth 20000 in
theorem md_X9_seatColumn (X : pz_X) (n : Nat) (l0 : Option Nat) (l1 : Int32) (l2 : Int32) : pz_Md X yX9_seatColumn J_X9_seatColumn pz_vU [va_rf l0, .int l1, .int l2] (X9_seatColumn n l0 l1 l2) :=
  pz_md [(0, va_rf l0), (1, .int l1), (2, .int l2)] (by decide +kernel) rfl rfl (by cases l0 <;> rfl) (by cases l0 <;> exact Nat.le_of_ble_eq_true rfl) (fun X => S_X9_seatColumn X n l0 l1 l2)
set_option maxRecDepth 20000 in
theorem S_X9_seatRow (X : pz_X) (n : Nat) (l0 : Option Nat) (l1 : Int32) (l2 : Int32) : pz_Sm X (pz_QM X) J_X9_seatRow pz_vU 0 [(0, va_rf l0), (1, .int l1), (2, .int l2)] [] (X9_seatRow n l0 l1 l2) := by
  unfold X9_seatRow
  refine pz_aload_n 0 dX9_seatRow_0 rfl ?_
  refine pz_getR (ci := 9) (k := 5) ck_9 (by decide) (Or.inl pw_159) dX9_seatRow_1 (fun x1 => ?_)
  refine pz_iload_n 1 dX9_seatRow_4 rfl ?_
  refine pz_iload_n 2 dX9_seatRow_5 rfl ?_
  refine pz_iast (t := 0) rfl dX9_seatRow_6 ?_
  refine pz_aload_n 0 dX9_seatRow_7 rfl ?_
  refine pz_getR (ci := 9) (k := 7) ck_9 (by decide) (Or.inl pw_163) dX9_seatRow_8 (fun x2 => ?_)
  refine pz_iload_n 2 dX9_seatRow_11 rfl ?_
  refine pz_iload_n 1 dX9_seatRow_12 rfl ?_
  refine pz_iast (t := 0) rfl dX9_seatRow_13 ?_
  refine pz_aload_n 0 dX9_seatRow_14 rfl ?_
  refine pz_getR (ci := 9) (k := 8) ck_9 (by decide) (Or.inl pw_164) dX9_seatRow_15 (fun x3 => ?_)
  refine pz_iload_n 2 dX9_seatRow_18 rfl ?_
  refine pz_iconst 1 dX9_seatRow_19 (by decide) ?_
  refine pz_zast (t := 1) rfl dX9_seatRow_20 ?_
  exact pz_vret rfl dX9_seatRow_21
set_option maxRecDepth 20000 in
theorem md_X9_seatRow (X : pz_X) (n : Nat) (l0 : Option Nat) (l1 : Int32) (l2 : Int32) : pz_Md X yX9_seatRow J_X9_seatRow pz_vU [va_rf l0, .int l1, .int l2] (X9_seatRow n l0 l1 l2) :=
  pz_md [(0, va_rf l0), (1, .int l1), (2, .int l2)] (by decide +kernel) rfl rfl (by cases l0 <;> rfl) (by cases l0 <;> exact Nat.le_of_ble_eq_true rfl) (fun X => S_X9_seatRow X n l0 l1 l2)
set_option maxRecDepth 20000 in
theorem S_X9_cell (X : pz_X) (n : Nat) (l0 : Option Nat) (l1 : Int32) (l2 : Int32) : pz_Sm X (pz_QM X) J_X9_cell pz_vR 0 [(0, va_rf l0), (1, .int l1), (2, .int l2)] [] (X9_cell n l0 l1 l2) := by
  unfold X9_cell
  refine pz_aload_n 0 dX9_cell_0 rfl ?_
  refine pz_getR (ci := 9) (k := 2) ck_9 (by decide) (Or.inl pw_155) dX9_cell_1 (fun x1 => ?_)
  refine pz_iload_n 1 dX9_cell_4 rfl ?_
  refine pz_bipush 10 dX9_cell_5 (by decide) ?_
  refine pz_imul dX9_cell_7 ?_
  refine pz_iload_n 2 dX9_cell_8 rfl ?_
  refine pz_iadd dX9_cell_9 ?_
  refine pz_aald (t := 3) rfl rfl dX9_cell_10 (fun x2 => ?_)
  exact pz_aret rfl dX9_cell_11
set_option maxRecDepth 20000 in
theorem md_X9_cell (X : pz_X) (n : Nat) (l0 : Option Nat) (l1 : Int32) (l2 : Int32) : pz_Md X yX9_cell J_X9_cell pz_vR [va_rf l0, .int l1, .int l2] (X9_cell n l0 l1 l2) :=
  pz_md [(0, va_rf l0), (1, .int l1), (2, .int l2)] (by decide +kernel) rfl rfl (by cases l0 <;> rfl) (by cases l0 <;> exact Nat.le_of_ble_eq_true rfl) (fun X => S_X9_cell X n l0 l1 l2)
set_option maxRecDepth 20000 in
theorem S_X9_begin_L86_body (X : pz_X) (n : Nat) (l0 : Option Nat) (l1 : Option Nat) (K55 : Int32 → pz_C Unit) (hK55 : ∀ (l2 : Int32), pz_Sm X (pz_QM X) J_X9_begin pz_vU 55 [(0, va_rf l0), (1, va_rf l1), (2, .int l2)] [] (K55 l2)) (l2 : Int32) (K86 : Int32 → pz_C Unit) (hK86 : ∀ (l3 : Int32), pz_Sm X (pz_QM X) J_X9_begin pz_vU 86 [(0, va_rf l0), (1, va_rf l1), (2, .int l2), (3, .int l3)] [] (K86 l3)) (l3 : Int32) : pz_Sm X (pz_QM X) J_X9_begin pz_vU 86 [(0, va_rf l0), (1, va_rf l1), (2, .int l2), (3, .int l3)] [] (X9_begin_L86_body n K55 l0 l1 l2 K86 l3) := by
  unfold X9_begin_L86_body
  refine pz_iload_n 3 dX9_begin_86 rfl ?_
  refine pz_aload_n 0 dX9_begin_87 rfl ?_
  refine pz_getI (ci := 9) (k := 14) ck_9 (by decide) (Or.inl pw_172) dX9_begin_88 (fun x12 => ?_)
  refine pz_icmp_ge 118 dX9_begin_91 (by decide) ?_ ?_
  · refine pz_iinc 2 1 (fun l2_13 => [(2, .int l2_13), (0, va_rf l0), (1, va_rf l1), (3, .int l3)]) dX9_begin_118 rfl (by decide) (by decide) (fun l2_13 => (by cases l1 <;> rfl)) (fun l2_13 => ?_)
    refine pz_goto 55 dX9_begin_121 (by decide) ?_
    exact pz_sub [1, 2, 0] rfl (hK55 l2_13)
  · refine pz_aload_n 0 dX9_begin_94 rfl ?_
    refine pz_iload_n 2 dX9_begin_95 rfl ?_
    refine pz_iload_n 3 dX9_begin_96 rfl ?_
    refine pz_cvR (st := []) (md_X9_cell X n l0 l2 l3) ck_9 rfl mk_X9_cell (Or.inl pw_490) pw_491 pw_492 rfl rfl (by decide) (by decide) (by decide) dX9_begin_97 (fun x14 => ?_)
    refine pz_aload_n 1 dX9_begin_100 rfl ?_
    refine pz_getR (ci := 6) (k := 0) ck_6 (by decide) (Or.inl pw_33) dX9_begin_101 (fun x15 => ?_)
    refine pz_iload_n 2 dX9_begin_104 rfl ?_
    refine pz_aald (t := 6) rfl rfl dX9_begin_105 (fun x16 => ?_)
    refine pz_iload_n 3 dX9_begin_106 rfl ?_
    refine pz_iald (t := 0) rfl dX9_begin_107 (fun x17 => ?_)
    refine pz_i2l dX9_begin_108 ?_
    refine pz_cvU (st := []) (md_X0_setLong X n x14 (Int32.toInt64 x17)) ck_0 rfl mk_X0_setLong (Or.inl pw_481) pw_383 pw_384 rfl rfl (by decide) (by decide) (by decide) dX9_begin_109 (fun _ => ?_)
    refine pz_iinc 3 1 (fun l3_19 => [(3, .int l3_19), (0, va_rf l0), (1, va_rf l1), (2, .int l2)]) dX9_begin_112 rfl (by decide) (by decide) (fun l3_19 => rfl) (fun l3_19 => ?_)
    refine pz_goto 86 dX9_begin_115 (by decide) ?_
    exact pz_sub [1, 2, 3, 0] rfl (hK86 l3_19)
set_option maxRecDepth 20000 in
theorem S_X9_begin_L86 (X : pz_X) (n : Nat) (l0 : Option Nat) (l1 : Option Nat) (K55 : Int32 → pz_C Unit) (hK55 : ∀ (l2 : Int32), pz_Sm X (pz_QM X) J_X9_begin pz_vU 55 [(0, va_rf l0), (1, va_rf l1), (2, .int l2)] [] (K55 l2)) (l2 : Int32) (l3 : Int32) : pz_Sm X (pz_QM X) J_X9_begin pz_vU 86 [(0, va_rf l0), (1, va_rf l1), (2, .int l2), (3, .int l3)] [] (X9_begin_L86 n K55 l0 l1 l2 l3) :=
  pz_lp (L := fun (s : Int32) => [(0, va_rf l0), (1, va_rf l1), (2, .int l2), (3, .int s)]) (fun K hK s => S_X9_begin_L86_body X n l0 l1 K55 hK55 l2 (fun l3 => K l3) (fun l3 => hK l3) s) n l3
set_option maxRecDepth 20000 in
theorem S_X9_begin_L55_body (X : pz_X) (n : Nat) (l0 : Option Nat) (l1 : Option Nat) (K55 : Int32 → pz_C Unit) (hK55 : ∀ (l2 : Int32), pz_Sm X (pz_QM X) J_X9_begin pz_vU 55 [(0, va_rf l0), (1, va_rf l1), (2, .int l2)] [] (K55 l2)) (l2 : Int32) : pz_Sm X (pz_QM X) J_X9_begin pz_vU 55 [(0, va_rf l0), (1, va_rf l1), (2, .int l2)] [] (X9_begin_L55_body n l0 l1 K55 l2) := by
  unfold X9_begin_L55_body
  refine pz_iload_n 2 dX9_begin_55 rfl ?_
  refine pz_aload_n 0 dX9_begin_56 rfl ?_
  refine pz_getI (ci := 9) (k := 13) ck_9 (by decide) (Or.inl pw_171) dX9_begin_57 (fun x6 => ?_)
  refine pz_icmp_ge 124 dX9_begin_60 (by decide) ?_ ?_
  · exact pz_vret rfl dX9_begin_124
  · refine pz_aload_n 0 dX9_begin_63 rfl ?_
    refine pz_getR (ci := 9) (k := 3) ck_9 (by decide) (Or.inl pw_156) dX9_begin_64 (fun x7 => ?_)
    refine pz_iload_n 2 dX9_begin_67 rfl ?_
    refine pz_aald (t := 3) rfl rfl dX9_begin_68 (fun x8 => ?_)
    refine pz_lconst 0 dX9_begin_69 (by decide) ?_
    refine pz_cvU (st := []) (md_X0_setLong X n x8 0) ck_0 rfl mk_X0_setLong (Or.inl pw_481) pw_383 pw_384 rfl rfl (by decide) (by decide) (by decide) dX9_begin_70 (fun _ => ?_)
    refine pz_aload_n 0 dX9_begin_73 rfl ?_
    refine pz_iload_n 2 dX9_begin_74 rfl ?_
    refine pz_aload_n 0 dX9_begin_75 rfl ?_
    refine pz_getI (ci := 9) (k := 14) ck_9 (by decide) (Or.inl pw_172) dX9_begin_76 (fun x10 => ?_)
    refine pz_iload_n 2 dX9_begin_79 rfl ?_
    refine pz_iadd dX9_begin_80 ?_
    refine pz_cvU (st := []) (md_X9_seatRow X n l0 l2 (x10 + l2)) ck_9 rfl mk_X9_seatRow (Or.inl pw_486) pw_488 ps_1 rfl rfl (by decide) (by decide) (by decide) dX9_begin_81 (fun _ => ?_)
    refine pz_iconst 0 dX9_begin_84 (by decide) ?_
    refine pz_istore_n [(3, .int 0), (0, va_rf l0), (1, va_rf l1), (2, .int l2)] dX9_begin_85 (by decide) rfl ?_
    exact pz_sub [1, 2, 3, 0] rfl (S_X9_begin_L86 X n l0 l1 K55 hK55 l2 0)
set_option maxRecDepth 20000 in
theorem S_X9_begin_L55 (X : pz_X) (n : Nat) (l0 : Option Nat) (l1 : Option Nat) (l2 : Int32) : pz_Sm X (pz_QM X) J_X9_begin pz_vU 55 [(0, va_rf l0), (1, va_rf l1), (2, .int l2)] [] (X9_begin_L55 n l0 l1 l2) :=
  pz_lp (L := fun (s : Int32) => [(0, va_rf l0), (1, va_rf l1), (2, .int s)]) (fun K hK s => S_X9_begin_L55_body X n l0 l1 (fun l2 => K l2) (fun l2 => hK l2) s) n l2
set_option maxRecDepth 20000 in
theorem S_X9_begin_L26_body (X : pz_X) (n : Nat) (l0 : Option Nat) (l1 : Option Nat) (K26 : Int32 → pz_C Unit) (hK26 : ∀ (l2 : Int32), pz_Sm X (pz_QM X) J_X9_begin pz_vU 26 [(0, va_rf l0), (1, va_rf l1), (2, .int l2)] [] (K26 l2)) (l2 : Int32) : pz_Sm X (pz_QM X) J_X9_begin pz_vU 26 [(0, va_rf l0), (1, va_rf l1), (2, .int l2)] [] (X9_begin_L26_body n l0 l1 K26 l2) := by
  unfold X9_begin_L26_body
  refine pz_iload_n 2 dX9_begin_26 rfl ?_
  refine pz_aload_n 0 dX9_begin_27 rfl ?_
  refine pz_getI (ci := 9) (k := 14) ck_9 (by decide) (Or.inl pw_172) dX9_begin_28 (fun x5 => ?_)
  refine pz_icmp_ge 53 dX9_begin_31 (by decide) ?_ ?_
  · refine pz_iconst 0 dX9_begin_53 (by decide) ?_
    refine pz_istore_n [(2, .int 0), (0, va_rf l0), (1, va_rf l1)] dX9_begin_54 (by decide) (by cases l1 <;> rfl) ?_
    exact pz_sub [1, 2, 0] rfl (S_X9_begin_L55 X n l0 l1 0)
  · refine pz_aload_n 0 dX9_begin_34 rfl ?_
    refine pz_getR (ci := 9) (k := 4) ck_9 (by decide) (Or.inl pw_157) dX9_begin_35 (fun x20 => ?_)
    refine pz_iload_n 2 dX9_begin_38 rfl ?_
    refine pz_lconst 0 dX9_begin_39 (by decide) ?_
    refine pz_last (t := 2) rfl dX9_begin_40 ?_
    refine pz_aload_n 0 dX9_begin_41 rfl ?_
    refine pz_iload_n 2 dX9_begin_42 rfl ?_
    refine pz_iload_n 2 dX9_begin_43 rfl ?_
    refine pz_cvU (st := []) (md_X9_seatColumn X n l0 l2 l2) ck_9 rfl mk_X9_seatColumn (Or.inl pw_482) pw_484 ps_0 rfl rfl (by decide) (by decide) (by decide) dX9_begin_44 (fun _ => ?_)
    refine pz_iinc 2 1 (fun l2_22 => [(2, .int l2_22), (0, va_rf l0), (1, va_rf l1)]) dX9_begin_47 rfl (by decide) (by decide) (fun l2_22 => (by cases l1 <;> rfl)) (fun l2_22 => ?_)
    refine pz_goto 26 dX9_begin_50 (by decide) ?_
    exact pz_sub [1, 2, 0] rfl (hK26 l2_22)
set_option maxRecDepth 20000 in
theorem S_X9_begin_L26 (X : pz_X) (n : Nat) (l0 : Option Nat) (l1 : Option Nat) (l2 : Int32) : pz_Sm X (pz_QM X) J_X9_begin pz_vU 26 [(0, va_rf l0), (1, va_rf l1), (2, .int l2)] [] (X9_begin_L26 n l0 l1 l2) :=
  pz_lp (L := fun (s : Int32) => [(0, va_rf l0), (1, va_rf l1), (2, .int s)]) (fun K hK s => S_X9_begin_L26_body X n l0 l1 (fun l2 => K l2) (fun l2 => hK l2) s) n l2
set_option maxRecDepth 20000 in
theorem S_X9_begin (X : pz_X) (n : Nat) (l0 : Option Nat) (l1 : Option Nat) : pz_Sm X (pz_QM X) J_X9_begin pz_vU 0 [(0, va_rf l0), (1, va_rf l1)] [] (X9_begin n l0 l1) := by
  unfold X9_begin
  refine pz_aload_n 0 dX9_begin_0 rfl ?_
  refine pz_aload_n 1 dX9_begin_1 rfl ?_
  refine pz_getI (ci := 6) (k := 6) ck_6 (by decide) (Or.inl pw_52) dX9_begin_2 (fun x1 => ?_)
  refine pz_put (ci := 9) (k := 13) ck_9 (by decide) (Or.inl pw_171) (Or.inl rfl) rfl rfl dX9_begin_5 ?_
  refine pz_aload_n 0 dX9_begin_8 rfl ?_
  refine pz_aload_n 1 dX9_begin_9 rfl ?_
  refine pz_getI (ci := 6) (k := 5) ck_6 (by decide) (Or.inl pw_47) dX9_begin_10 (fun x2 => ?_)
  refine pz_put (ci := 9) (k := 14) ck_9 (by decide) (Or.inl pw_172) (Or.inl rfl) rfl rfl dX9_begin_13 ?_
  refine pz_aload_n 0 dX9_begin_16 rfl ?_
  refine pz_getR (ci := 9) (k := 9) ck_9 (by decide) (Or.inl pw_165) dX9_begin_17 (fun x3 => ?_)
  refine pz_lconst 1 dX9_begin_20 (by decide) ?_
  refine pz_cvU (st := []) (md_X0_setLong X n x3 1) ck_0 rfl mk_X0_setLong (Or.inl pw_481) pw_383 pw_384 rfl rfl (by decide) (by decide) (by decide) dX9_begin_21 (fun _ => ?_)
  refine pz_iconst 0 dX9_begin_24 (by decide) ?_
  refine pz_istore_n [(2, .int 0), (0, va_rf l0), (1, va_rf l1)] dX9_begin_25 (by decide) (by cases l1 <;> rfl) ?_
  exact pz_sub [1, 2, 0] rfl (S_X9_begin_L26 X n l0 l1 0)
set_option maxRecDepth 20000 in
theorem md_X9_begin (X : pz_X) (n : Nat) (l0 : Option Nat) (l1 : Option Nat) : pz_Md X yX9_begin J_X9_begin pz_vU [va_rf l0, va_rf l1] (X9_begin n l0 l1) :=
  pz_md [(0, va_rf l0), (1, va_rf l1)] (by decide +kernel) rfl rfl (by cases l0 <;> cases l1 <;> rfl) (by cases l0 <;> cases l1 <;> exact Nat.le_of_ble_eq_true rfl) (fun X => S_X9_begin X n l0 l1)
set_option maxRecDepth 20000 in
theorem S_X10_has_b17 (X : pz_X) (n : Nat) (s0 : Int32) : pz_Sm X (pz_QM X) J_X10_has pz_vI 17 [] [.int s0] (X10_has_b17 n s0) := by
  unfold X10_has_b17
  exact pz_zret rfl dX10_has_17
set_option maxRecDepth 20000 in
theorem S_X10_has_b16 (X : pz_X) (n : Nat) : pz_Sm X (pz_QM X) J_X10_has pz_vI 16 [] [] (X10_has_b16 n) := by
  unfold X10_has_b16
  refine pz_iconst 0 dX10_has_16 (by decide) ?_
  exact pz_sub [] rfl (S_X10_has_b17 X n 0)
set_option maxRecDepth 20000 in
theorem S_X10_has (X : pz_X) (n : Nat) (l0 : Option Nat) (l1 : Int32) : pz_Sm X (pz_QM X) J_X10_has pz_vI 0 [(0, va_rf l0), (1, .int l1)] [] (X10_has n l0 l1) := by
  unfold X10_has
  refine pz_iload_n 1 dX10_has_0 rfl ?_
  refine pz_if_lt 16 dX10_has_1 (by decide) ?_ ?_
  · exact pz_sub [] rfl (S_X10_has_b16 X n)
  · refine pz_iload_n 1 dX10_has_4 rfl ?_
    refine pz_aload_n 0 dX10_has_5 rfl ?_
    refine pz_getI (ci := 10) (k := 10) ck_10 (by decide) (Or.inl pw_237) dX10_has_6 (fun x1 => ?_)
    refine pz_icmp_ge 16 dX10_has_9 (by decide) ?_ ?_
    · exact pz_sub [] rfl (S_X10_has_b16 X n)
    · refine pz_iconst 1 dX10_has_12 (by decide) ?_
      refine pz_goto 17 dX10_has_13 (by decide) ?_
      exact pz_sub [] rfl (S_X10_has_b17 X n 1)
set_option maxRecDepth 20000 in
theorem md_X10_has (X : pz_X) (n : Nat) (l0 : Option Nat) (l1 : Int32) : pz_Md X yX10_has J_X10_has pz_vI [va_rf l0, .int l1] (X10_has n l0 l1) :=
  pz_md [(0, va_rf l0), (1, .int l1)] (by decide +kernel) rfl rfl (by cases l0 <;> rfl) (by cases l0 <;> exact Nat.le_of_ble_eq_true rfl) (fun X => S_X10_has X n l0 l1)
set_option maxRecDepth 20000 in
theorem S_X5_init_L15_body (X : pz_X) (n : Nat) (l0 : Option Nat) (K15 : Int32 → pz_C Unit) (hK15 : ∀ (l1 : Int32), pz_Sm X (pz_QM X) J_X5_init pz_vU 15 [(0, va_rf l0), (1, .int l1)] [] (K15 l1)) (l1 : Int32) : pz_Sm X (pz_QM X) J_X5_init pz_vU 15 [(0, va_rf l0), (1, .int l1)] [] (X5_init_L15_body n l0 K15 l1) := by
  unfold X5_init_L15_body
  refine pz_iload_n 1 dX5_init_15 rfl ?_
  refine pz_aload_n 0 dX5_init_16 rfl ?_
  refine pz_getR (ci := 5) (k := 0) ck_5 (by decide) (Or.inl pw_509) dX5_init_17 (fun x2 => ?_)
  refine pz_alen (t := 4) rfl dX5_init_20 (fun x3 => ?_)
  refine pz_icmp_ge 45 dX5_init_21 (by decide) ?_ ?_
  · exact pz_vret rfl dX5_init_45
  · refine pz_aload_n 0 dX5_init_24 rfl ?_
    refine pz_getR (ci := 5) (k := 0) ck_5 (by decide) (Or.inl pw_509) dX5_init_25 (fun x4 => ?_)
    refine pz_iload_n 1 dX5_init_28 rfl ?_
    refine pz_newo (ci := 3) ck_3 pw_507 pw_375 pw_11 df_3 dX5_init_29 (fun x5 => ?_)
    refine pz_dup dX5_init_32 (pz_rf1 _) ?_
    refine pz_bipush 8 dX5_init_33 (by decide) ?_
    refine pz_callI (st := [va_rf x5, .int l1, va_rf x4]) (md_X3_init X n x5 8) mk_X3_init rfl (Or.inl pw_508) pw_377 rfl rfl rfl (by simp [pz_rf1, pz_ci, pz_cl]) (by decide) (by decide) dX5_init_35 (fun _ => ?_)
    refine pz_aast (t := 4) ck_3 rfl dX5_init_38 ?_
    refine pz_iinc 1 1 (fun l1_7 => [(1, .int l1_7), (0, va_rf l0)]) dX5_init_39 rfl (by decide) (by decide) (fun l1_7 => (by cases l0 <;> rfl)) (fun l1_7 => ?_)
    refine pz_goto 15 dX5_init_42 (by decide) ?_
    exact pz_sub [1, 0] rfl (hK15 l1_7)
set_option maxRecDepth 20000 in
theorem S_X5_init_L15 (X : pz_X) (n : Nat) (l0 : Option Nat) (l1 : Int32) : pz_Sm X (pz_QM X) J_X5_init pz_vU 15 [(0, va_rf l0), (1, .int l1)] [] (X5_init_L15 n l0 l1) :=
  pz_lp (L := fun (s : Int32) => [(0, va_rf l0), (1, .int s)]) (fun K hK s => S_X5_init_L15_body X n l0 (fun l1 => K l1) (fun l1 => hK l1) s) n l1
set_option maxRecDepth 20000 in
theorem S_X5_init (X : pz_X) (n : Nat) (l0 : Option Nat) : pz_Sm X (pz_QM X) J_X5_init pz_vU 0 [(0, va_rf l0)] [] (X5_init n l0) := by
  unfold X5_init
  refine pz_aload_n 0 dX5_init_0 rfl ?_
  refine pz_objInit pw_506 pw_21 pw_22 rfl (by decide) (by decide) dX5_init_1 ?_
  refine pz_aload_n 0 dX5_init_4 rfl ?_
  refine pz_bipush 32 dX5_init_5 (by decide) ?_
  refine pz_newaR (t := 4) rfl pw_507 (by decide) dX5_init_7 (fun x1 => ?_)
  refine pz_put (ci := 5) (k := 0) ck_5 (by decide) (Or.inl pw_509) (Or.inr ⟨rfl, rfl, rfl, pw_509⟩) pz_na pz_fa dX5_init_10 ?_
  refine pz_iconst 0 dX5_init_13 (by decide) ?_
  refine pz_istore_n [(1, .int 0), (0, va_rf l0)] dX5_init_14 (by decide) (by cases l0 <;> rfl) ?_
  exact pz_sub [1, 0] rfl (S_X5_init_L15 X n l0 0)
set_option maxRecDepth 20000 in
theorem md_X5_init (X : pz_X) (n : Nat) (l0 : Option Nat) : pz_Md X yX5_init J_X5_init pz_vU [va_rf l0] (X5_init n l0) :=
  pz_md [(0, va_rf l0)] (by decide +kernel) rfl rfl (by cases l0 <;> rfl) (by cases l0 <;> exact Nat.le_of_ble_eq_true rfl) (fun X => S_X5_init X n l0)
set_option maxRecDepth 20000 in
theorem S_X3_setSmall (X : pz_X) (n : Nat) (l0 : Option Nat) (l1 : Int64) (l3 : Int64) : pz_Sm X (pz_QM X) J_X3_setSmall pz_vU 0 [(0, va_rf l0), (1, .long l1), (3, .long l3)] [] (X3_setSmall n l0 l1 l3) := by
  unfold X3_setSmall
  refine pz_aload_n 0 dX3_setSmall_0 rfl ?_
  refine pz_getR (ci := 3) (k := 0) ck_3 (by decide) (Or.inl pw_387) dX3_setSmall_1 (fun x1 => ?_)
  refine pz_lload_n 1 dX3_setSmall_4 rfl ?_
  refine pz_cvU (st := []) (md_X0_setLong X n x1 l1) ck_0 rfl mk_X0_setLong (Or.inl pw_382) pw_383 pw_384 rfl rfl (by decide) (by decide) (by decide) dX3_setSmall_5 (fun _ => ?_)
  refine pz_aload_n 0 dX3_setSmall_8 rfl ?_
  refine pz_getR (ci := 3) (k := 1) ck_3 (by decide) (Or.inl pw_391) dX3_setSmall_9 (fun x3 => ?_)
  refine pz_lload_n 2 dX3_setSmall_12 rfl ?_
  refine pz_cvU (st := []) (md_X0_setLong X n x3 l3) ck_0 rfl mk_X0_setLong (Or.inl pw_382) pw_383 pw_384 rfl rfl (by decide) (by decide) (by decide) dX3_setSmall_13 (fun _ => ?_)
  exact pz_vret rfl dX3_setSmall_16
set_option maxRecDepth 20000 in
theorem md_X3_setSmall (X : pz_X) (n : Nat) (l0 : Option Nat) (l1 : Int64) (l3 : Int64) : pz_Md X yX3_setSmall J_X3_setSmall pz_vU [va_rf l0, .long l1, .long l3] (X3_setSmall n l0 l1 l3) :=
  pz_md [(0, va_rf l0), (1, .long l1), (3, .long l3)] (by decide +kernel) rfl rfl (by cases l0 <;> rfl) (by cases l0 <;> exact Nat.le_of_ble_eq_true rfl) (fun X => S_X3_setSmall X n l0 l1 l3)
set_option maxRecDepth 20000 in
theorem S_X5_clear_L2_body (X : pz_X) (n : Nat) (l0 : Option Nat) (K2 : Int32 → pz_C Unit) (hK2 : ∀ (l1 : Int32), pz_Sm X (pz_QM X) J_X5_clear pz_vU 2 [(0, va_rf l0), (1, .int l1)] [] (K2 l1)) (l1 : Int32) : pz_Sm X (pz_QM X) J_X5_clear pz_vU 2 [(0, va_rf l0), (1, .int l1)] [] (X5_clear_L2_body n l0 K2 l1) := by
  unfold X5_clear_L2_body
  refine pz_iload_n 1 dX5_clear_2 rfl ?_
  refine pz_aload_n 0 dX5_clear_3 rfl ?_
  refine pz_getR (ci := 5) (k := 0) ck_5 (by decide) (Or.inl pw_509) dX5_clear_4 (fun x1 => ?_)
  refine pz_alen (t := 4) rfl dX5_clear_7 (fun x2 => ?_)
  refine pz_icmp_ge 28 dX5_clear_8 (by decide) ?_ ?_
  · exact pz_vret rfl dX5_clear_28
  · refine pz_aload_n 0 dX5_clear_11 rfl ?_
    refine pz_getR (ci := 5) (k := 0) ck_5 (by decide) (Or.inl pw_509) dX5_clear_12 (fun x3 => ?_)
    refine pz_iload_n 1 dX5_clear_15 rfl ?_
    refine pz_aald (t := 4) rfl rfl dX5_clear_16 (fun x4 => ?_)
    refine pz_lconst 0 dX5_clear_17 (by decide) ?_
    refine pz_lconst 1 dX5_clear_18 (by decide) ?_
    refine pz_cvU (st := []) (md_X3_setSmall X n x4 0 1) ck_3 rfl mk_X3_setSmall (Or.inl pw_519) pw_520 pw_521 rfl rfl (by decide) (by decide) (by decide) dX5_clear_19 (fun _ => ?_)
    refine pz_iinc 1 1 (fun l1_6 => [(1, .int l1_6), (0, va_rf l0)]) dX5_clear_22 rfl (by decide) (by decide) (fun l1_6 => (by cases l0 <;> rfl)) (fun l1_6 => ?_)
    refine pz_goto 2 dX5_clear_25 (by decide) ?_
    exact pz_sub [1, 0] rfl (hK2 l1_6)
set_option maxRecDepth 20000 in
theorem S_X5_clear_L2 (X : pz_X) (n : Nat) (l0 : Option Nat) (l1 : Int32) : pz_Sm X (pz_QM X) J_X5_clear pz_vU 2 [(0, va_rf l0), (1, .int l1)] [] (X5_clear_L2 n l0 l1) :=
  pz_lp (L := fun (s : Int32) => [(0, va_rf l0), (1, .int s)]) (fun K hK s => S_X5_clear_L2_body X n l0 (fun l1 => K l1) (fun l1 => hK l1) s) n l1
set_option maxRecDepth 20000 in
theorem S_X5_clear (X : pz_X) (n : Nat) (l0 : Option Nat) : pz_Sm X (pz_QM X) J_X5_clear pz_vU 0 [(0, va_rf l0)] [] (X5_clear n l0) := by
  unfold X5_clear
  refine pz_iconst 0 dX5_clear_0 (by decide) ?_
  refine pz_istore_n [(1, .int 0), (0, va_rf l0)] dX5_clear_1 (by decide) (by cases l0 <;> rfl) ?_
  exact pz_sub [1, 0] rfl (S_X5_clear_L2 X n l0 0)
set_option maxRecDepth 20000 in
theorem md_X5_clear (X : pz_X) (n : Nat) (l0 : Option Nat) : pz_Md X yX5_clear J_X5_clear pz_vU [va_rf l0] (X5_clear n l0) :=
  pz_md [(0, va_rf l0)] (by decide +kernel) rfl rfl (by cases l0 <;> rfl) (by cases l0 <;> exact Nat.le_of_ble_eq_true rfl) (fun X => S_X5_clear X n l0)
set_option maxRecDepth 20000 in
theorem S_X10_addLeaf_b58 (X : pz_X) (n : Nat) : pz_Sm X (pz_QM X) J_X10_addLeaf pz_vU 58 [] [] (X10_addLeaf_b58 n) := by
  unfold X10_addLeaf_b58
  exact pz_vret rfl dX10_addLeaf_58
set_option maxRecDepth 20000 in
theorem S_X10_addLeaf_b203 (X : pz_X) (n : Nat) : pz_Sm X (pz_QM X) J_X10_addLeaf pz_vU 203 [] [] (X10_addLeaf_b203 n) := by
  unfold X10_addLeaf_b203
  exact pz_vret rfl dX10_addLeaf_203
set_option maxRecDepth 20000 in
theorem S_X10_addLeaf_b81 (X : pz_X) (n : Nat) (l0 : Option Nat) (l1 : Int32) (l2 : Int32) (l3 : Int32) : pz_Sm X (pz_QM X) J_X10_addLeaf pz_vU 81 [(0, va_rf l0), (1, .int l1), (2, .int l2), (3, .int l3)] [] (X10_addLeaf_b81 n l0 l1 l2 l3) := by
  unfold X10_addLeaf_b81
  refine pz_aload_n 0 dX10_addLeaf_81 rfl ?_
  refine pz_getR (ci := 10) (k := 8) ck_10 (by decide) (Or.inl pw_235) dX10_addLeaf_82 (fun x9 => ?_)
  refine pz_iload_n 3 dX10_addLeaf_85 rfl ?_
  refine pz_aald (t := 5) rfl rfl dX10_addLeaf_86 (fun x10 => ?_)
  refine pz_cvU (st := []) (md_X5_clear X n x10) ck_5 rfl mk_X5_clear (Or.inl pw_515) pw_516 pw_517 rfl rfl (by decide) (by decide) (by decide) dX10_addLeaf_87 (fun _ => ?_)
  refine pz_aload_n 0 dX10_addLeaf_90 rfl ?_
  refine pz_aload_n 0 dX10_addLeaf_91 rfl ?_
  refine pz_getI (ci := 10) (k := 10) ck_10 (by decide) (Or.inl pw_237) dX10_addLeaf_92 (fun x12 => ?_)
  refine pz_put (ci := 10) (k := 11) ck_10 (by decide) (Or.inl pw_239) (Or.inl rfl) rfl rfl dX10_addLeaf_95 ?_
  refine pz_aload_n 0 dX10_addLeaf_98 rfl ?_
  refine pz_dup dX10_addLeaf_99 (pz_rf1 _) ?_
  refine pz_getI (ci := 10) (k := 10) ck_10 (by decide) (Or.inl pw_237) dX10_addLeaf_100 (fun x13 => ?_)
  refine pz_iconst 1 dX10_addLeaf_103 (by decide) ?_
  refine pz_iadd dX10_addLeaf_104 ?_
  refine pz_put (ci := 10) (k := 10) ck_10 (by decide) (Or.inl pw_237) (Or.inl rfl) rfl rfl dX10_addLeaf_105 ?_
  refine pz_aload_n 0 dX10_addLeaf_108 rfl ?_
  refine pz_getR (ci := 10) (k := 0) ck_10 (by decide) (Or.inl pw_212) dX10_addLeaf_109 (fun x14 => ?_)
  refine pz_aload_n 0 dX10_addLeaf_112 rfl ?_
  refine pz_getI (ci := 10) (k := 11) ck_10 (by decide) (Or.inl pw_239) dX10_addLeaf_113 (fun x15 => ?_)
  refine pz_iload_n 1 dX10_addLeaf_116 rfl ?_
  refine pz_iast (t := 0) rfl dX10_addLeaf_117 ?_
  refine pz_aload_n 0 dX10_addLeaf_118 rfl ?_
  refine pz_getR (ci := 10) (k := 1) ck_10 (by decide) (Or.inl pw_215) dX10_addLeaf_119 (fun x16 => ?_)
  refine pz_aload_n 0 dX10_addLeaf_122 rfl ?_
  refine pz_getI (ci := 10) (k := 11) ck_10 (by decide) (Or.inl pw_239) dX10_addLeaf_123 (fun x17 => ?_)
  refine pz_bipush (-2) dX10_addLeaf_126 (by decide) ?_
  refine pz_iast (t := 0) rfl dX10_addLeaf_128 ?_
  refine pz_aload_n 0 dX10_addLeaf_129 rfl ?_
  refine pz_getR (ci := 10) (k := 2) ck_10 (by decide) (Or.inl pw_218) dX10_addLeaf_130 (fun x18 => ?_)
  refine pz_aload_n 0 dX10_addLeaf_133 rfl ?_
  refine pz_getI (ci := 10) (k := 11) ck_10 (by decide) (Or.inl pw_239) dX10_addLeaf_134 (fun x19 => ?_)
  refine pz_bipush (-2) dX10_addLeaf_137 (by decide) ?_
  refine pz_iast (t := 0) rfl dX10_addLeaf_139 ?_
  refine pz_aload_n 0 dX10_addLeaf_140 rfl ?_
  refine pz_getR (ci := 10) (k := 6) ck_10 (by decide) (Or.inl pw_231) dX10_addLeaf_141 (fun x20 => ?_)
  refine pz_aload_n 0 dX10_addLeaf_144 rfl ?_
  refine pz_getI (ci := 10) (k := 11) ck_10 (by decide) (Or.inl pw_239) dX10_addLeaf_145 (fun x21 => ?_)
  refine pz_iconst 0 dX10_addLeaf_148 (by decide) ?_
  refine pz_zast (t := 1) rfl dX10_addLeaf_149 ?_
  refine pz_aload_n 0 dX10_addLeaf_150 rfl ?_
  refine pz_getR (ci := 10) (k := 7) ck_10 (by decide) (Or.inl pw_234) dX10_addLeaf_151 (fun x22 => ?_)
  refine pz_aload_n 0 dX10_addLeaf_154 rfl ?_
  refine pz_getI (ci := 10) (k := 11) ck_10 (by decide) (Or.inl pw_239) dX10_addLeaf_155 (fun x23 => ?_)
  refine pz_iload_n 3 dX10_addLeaf_158 rfl ?_
  refine pz_iast (t := 0) rfl dX10_addLeaf_159 ?_
  refine pz_iload_n 2 dX10_addLeaf_160 rfl ?_
  refine pz_if_eq 175 dX10_addLeaf_161 (by decide) ?_ ?_
  · refine pz_aload_n 0 dX10_addLeaf_175 rfl ?_
    refine pz_dup dX10_addLeaf_176 (pz_rf1 _) ?_
    refine pz_getI (ci := 10) (k := 9) ck_10 (by decide) (Or.inl pw_236) dX10_addLeaf_177 (fun x24 => ?_)
    refine pz_iconst 1 dX10_addLeaf_180 (by decide) ?_
    refine pz_iadd dX10_addLeaf_181 ?_
    refine pz_put (ci := 10) (k := 9) ck_10 (by decide) (Or.inl pw_236) (Or.inl rfl) rfl rfl dX10_addLeaf_182 ?_
    refine pz_aload_n 0 dX10_addLeaf_185 rfl ?_
    refine pz_iload_n 1 dX10_addLeaf_186 rfl ?_
    refine pz_cvI (st := []) (md_X10_has X n l0 l1) ck_10 rfl mk_X10_has (Or.inl pw_498) pw_499 pw_500 rfl rfl (by decide) (by decide) (by decide) dX10_addLeaf_187 (fun x25 => ?_)
    refine pz_if_eq 203 dX10_addLeaf_190 (by decide) ?_ ?_
    · exact pz_sub [] rfl (S_X10_addLeaf_b203 X n)
    · refine pz_aload_n 0 dX10_addLeaf_193 rfl ?_
      refine pz_getR (ci := 10) (k := 2) ck_10 (by decide) (Or.inl pw_218) dX10_addLeaf_194 (fun x26 => ?_)
      refine pz_iload_n 1 dX10_addLeaf_197 rfl ?_
      refine pz_aload_n 0 dX10_addLeaf_198 rfl ?_
      refine pz_getI (ci := 10) (k := 11) ck_10 (by decide) (Or.inl pw_239) dX10_addLeaf_199 (fun x27 => ?_)
      refine pz_iast (t := 0) rfl dX10_addLeaf_202 ?_
      exact pz_sub [] rfl (S_X10_addLeaf_b203 X n)
  · refine pz_aload_n 0 dX10_addLeaf_164 rfl ?_
    refine pz_getR (ci := 10) (k := 1) ck_10 (by decide) (Or.inl pw_215) dX10_addLeaf_165 (fun x28 => ?_)
    refine pz_iload_n 1 dX10_addLeaf_168 rfl ?_
    refine pz_aload_n 0 dX10_addLeaf_169 rfl ?_
    refine pz_getI (ci := 10) (k := 11) ck_10 (by decide) (Or.inl pw_239) dX10_addLeaf_170 (fun x29 => ?_)
    refine pz_iast (t := 0) rfl dX10_addLeaf_173 ?_
    exact pz_vret rfl dX10_addLeaf_174
set_option maxRecDepth 20000 in
theorem S_X10_addLeaf_b40 (X : pz_X) (n : Nat) (l0 : Option Nat) (l1 : Int32) (l2 : Int32) (s0 : Int32) : pz_Sm X (pz_QM X) J_X10_addLeaf pz_vU 40 [(0, va_rf l0), (1, .int l1), (2, .int l2)] [.int s0] (X10_addLeaf_b40 n l0 l1 l2 s0) := by
  unfold X10_addLeaf_b40
  refine pz_istore_n [(3, .int s0), (0, va_rf l0), (1, .int l1), (2, .int l2)] dX10_addLeaf_40 (by decide) rfl ?_
  refine pz_aload_n 1 dX10_addLeaf_41 rfl ?_
  refine pz_getI (ci := 10) (k := 10) ck_10 (by decide) (Or.inl pw_237) dX10_addLeaf_42 (fun x3 => ?_)
  refine pz_sipush 301 dX10_addLeaf_45 (by decide) ?_
  refine pz_icmp_ge 58 dX10_addLeaf_48 (by decide) ?_ ?_
  · exact pz_sub [] rfl (S_X10_addLeaf_b58 X n)
  · refine pz_iload_n 0 dX10_addLeaf_51 rfl ?_
    refine pz_sipush 151 dX10_addLeaf_52 (by decide) ?_
    refine pz_icmp_lt 59 dX10_addLeaf_55 (by decide) ?_ ?_
    · refine pz_aload_n 1 dX10_addLeaf_59 rfl ?_
      refine pz_getR (ci := 10) (k := 8) ck_10 (by decide) (Or.inl pw_235) dX10_addLeaf_60 (fun x4 => ?_)
      refine pz_iload_n 0 dX10_addLeaf_63 rfl ?_
      refine pz_aald (t := 5) rfl rfl dX10_addLeaf_64 (fun x5 => ?_)
      refine pz_ifnonnull 81 dX10_addLeaf_65 (by decide) ?_ ?_
      · refine pz_aload_n 1 dX10_addLeaf_68 rfl ?_
        refine pz_getR (ci := 10) (k := 8) ck_10 (by decide) (Or.inl pw_235) dX10_addLeaf_69 (fun x6 => ?_)
        refine pz_iload_n 0 dX10_addLeaf_72 rfl ?_
        refine pz_newo (ci := 5) ck_5 pw_210 pw_502 pw_13 df_5 dX10_addLeaf_73 (fun x7 => ?_)
        refine pz_dup dX10_addLeaf_76 (pz_rf1 _) ?_
        refine pz_callI (st := [va_rf x7, .int s0, va_rf x6]) (md_X5_init X n x7) mk_X5_init rfl (Or.inl pw_503) pw_504 rfl rfl rfl (by simp [pz_rf1, pz_ci, pz_cl]) (by decide) (by decide) dX10_addLeaf_77 (fun _ => ?_)
        refine pz_aast (t := 5) ck_5 rfl dX10_addLeaf_80 ?_
        exact pz_sub [1, 2, 3, 0] rfl (S_X10_addLeaf_b81 X n l0 l1 l2 s0)
      · exact pz_sub [1, 2, 3, 0] rfl (S_X10_addLeaf_b81 X n l0 l1 l2 s0)
    · exact pz_sub [] rfl (S_X10_addLeaf_b58 X n)
set_option maxRecDepth 20000 in
theorem S_X10_addLeaf_b22 (X : pz_X) (n : Nat) (l0 : Option Nat) (l1 : Int32) (s0 : Int32) : pz_Sm X (pz_QM X) J_X10_addLeaf pz_vU 22 [(0, va_rf l0), (1, .int l1)] [.int s0] (X10_addLeaf_b22 n l0 l1 s0) := by
  unfold X10_addLeaf_b22
  refine pz_istore_n [(2, .int s0), (0, va_rf l0), (1, .int l1)] dX10_addLeaf_22 (by decide) rfl ?_
  refine pz_iload_n 0 dX10_addLeaf_23 rfl ?_
  refine pz_if_eq 36 dX10_addLeaf_24 (by decide) ?_ ?_
  · refine pz_aload_n 1 dX10_addLeaf_36 rfl ?_
    refine pz_getI (ci := 10) (k := 9) ck_10 (by decide) (Or.inl pw_236) dX10_addLeaf_37 (fun x2 => ?_)
    exact pz_sub [1, 2, 0] rfl (S_X10_addLeaf_b40 X n l0 l1 s0 x2)
  · refine pz_aload_n 1 dX10_addLeaf_27 rfl ?_
    refine pz_getR (ci := 10) (k := 7) ck_10 (by decide) (Or.inl pw_234) dX10_addLeaf_28 (fun x30 => ?_)
    refine pz_iload_n 2 dX10_addLeaf_31 rfl ?_
    refine pz_iald (t := 0) rfl dX10_addLeaf_32 (fun x31 => ?_)
    refine pz_goto 40 dX10_addLeaf_33 (by decide) ?_
    exact pz_sub [1, 2, 0] rfl (S_X10_addLeaf_b40 X n l0 l1 s0 x31)
set_option maxRecDepth 20000 in
theorem S_X10_addLeaf_b21 (X : pz_X) (n : Nat) (l0 : Option Nat) (l1 : Int32) : pz_Sm X (pz_QM X) J_X10_addLeaf pz_vU 21 [(0, va_rf l0), (1, .int l1)] [] (X10_addLeaf_b21 n l0 l1) := by
  unfold X10_addLeaf_b21
  refine pz_iconst 0 dX10_addLeaf_21 (by decide) ?_
  exact pz_sub [0, 1] rfl (S_X10_addLeaf_b22 X n l0 l1 0)
set_option maxRecDepth 20000 in
theorem S_X10_addLeaf (X : pz_X) (n : Nat) (l0 : Option Nat) (l1 : Int32) : pz_Sm X (pz_QM X) J_X10_addLeaf pz_vU 0 [(0, va_rf l0), (1, .int l1)] [] (X10_addLeaf n l0 l1) := by
  unfold X10_addLeaf
  refine pz_aload_n 0 dX10_addLeaf_0 rfl ?_
  refine pz_iload_n 1 dX10_addLeaf_1 rfl ?_
  refine pz_cvI (st := []) (md_X10_has X n l0 l1) ck_10 rfl mk_X10_has (Or.inl pw_498) pw_499 pw_500 rfl rfl (by decide) (by decide) (by decide) dX10_addLeaf_2 (fun x1 => ?_)
  refine pz_if_eq 21 dX10_addLeaf_5 (by decide) ?_ ?_
  · exact pz_sub [0, 1] rfl (S_X10_addLeaf_b21 X n l0 l1)
  · refine pz_aload_n 0 dX10_addLeaf_8 rfl ?_
    refine pz_getR (ci := 10) (k := 1) ck_10 (by decide) (Or.inl pw_215) dX10_addLeaf_9 (fun x32 => ?_)
    refine pz_iload_n 1 dX10_addLeaf_12 rfl ?_
    refine pz_iald (t := 0) rfl dX10_addLeaf_13 (fun x33 => ?_)
    refine pz_if_ge 21 dX10_addLeaf_14 (by decide) ?_ ?_
    · exact pz_sub [0, 1] rfl (S_X10_addLeaf_b21 X n l0 l1)
    · refine pz_iconst 1 dX10_addLeaf_17 (by decide) ?_
      refine pz_goto 22 dX10_addLeaf_18 (by decide) ?_
      exact pz_sub [0, 1] rfl (S_X10_addLeaf_b22 X n l0 l1 1)
set_option maxRecDepth 20000 in
theorem md_X10_addLeaf (X : pz_X) (n : Nat) (l0 : Option Nat) (l1 : Int32) : pz_Md X yX10_addLeaf J_X10_addLeaf pz_vU [va_rf l0, .int l1] (X10_addLeaf n l0 l1) :=
  pz_md [(0, va_rf l0), (1, .int l1)] (by decide +kernel) rfl rfl (by cases l0 <;> rfl) (by cases l0 <;> exact Nat.le_of_ble_eq_true rfl) (fun X => S_X10_addLeaf X n l0 l1)
set_option maxRecDepth 20000 in
theorem S_X1_setRows_b57 (X : pz_X) (n : Nat) (l0 : Option Nat) (l1 : Option Nat) (K2 : Int32 → pz_C Unit) (hK2 : ∀ (l2 : Int32), pz_Sm X (pz_QM X) J_X1_setRows pz_vU 2 [(0, va_rf l0), (1, va_rf l1), (2, .int l2)] [] (K2 l2)) (l2 : Int32) (l3 : Int32) (s0 : Option Nat) (s1 : Int32) (s2 : Int32) : pz_Sm X (pz_QM X) J_X1_setRows pz_vU 57 [(0, va_rf l0), (1, va_rf l1), (2, .int l2), (3, .int l3)] [.int s2, .int s1, va_rf s0] (X1_setRows_b57 n K2 l0 l1 l2 l3 s0 s1 s2) := by
  unfold X1_setRows_b57
  refine pz_zast (t := 1) rfl dX1_setRows_57 ?_
  refine pz_aload_n 0 dX1_setRows_58 rfl ?_
  refine pz_getR (ci := 1) (k := 2) ck_1 (by decide) (Or.inl pw_285) dX1_setRows_59 (fun x10 => ?_)
  refine pz_iload_n 3 dX1_setRows_62 rfl ?_
  refine pz_aload_n 1 dX1_setRows_63 rfl ?_
  refine pz_getR (ci := 6) (k := 2) ck_6 (by decide) (Or.inl pw_39) dX1_setRows_64 (fun x11 => ?_)
  refine pz_iload_n 2 dX1_setRows_67 rfl ?_
  refine pz_iald (t := 0) rfl dX1_setRows_68 (fun x12 => ?_)
  refine pz_i2l dX1_setRows_69 ?_
  refine pz_last (t := 2) rfl dX1_setRows_70 ?_
  refine pz_aload_n 0 dX1_setRows_71 rfl ?_
  refine pz_getR (ci := 1) (k := 3) ck_1 (by decide) (Or.inl pw_288) dX1_setRows_72 (fun x13 => ?_)
  refine pz_iload_n 3 dX1_setRows_75 rfl ?_
  refine pz_aload_n 1 dX1_setRows_76 rfl ?_
  refine pz_getR (ci := 6) (k := 2) ck_6 (by decide) (Or.inl pw_39) dX1_setRows_77 (fun x14 => ?_)
  refine pz_iload_n 2 dX1_setRows_80 rfl ?_
  refine pz_iald (t := 0) rfl dX1_setRows_81 (fun x15 => ?_)
  refine pz_i2l dX1_setRows_82 ?_
  refine pz_last (t := 2) rfl dX1_setRows_83 ?_
  refine pz_iinc 2 1 (fun l2_16 => [(2, .int l2_16), (0, va_rf l0), (1, va_rf l1), (3, .int l3)]) dX1_setRows_84 rfl (by decide) (by decide) (fun l2_16 => (by cases l1 <;> rfl)) (fun l2_16 => ?_)
  refine pz_goto 2 dX1_setRows_87 (by decide) ?_
  exact pz_sub [1, 2, 0] rfl (hK2 l2_16)
set_option maxRecDepth 20000 in
theorem S_X1_setRows_b37 (X : pz_X) (n : Nat) (l0 : Option Nat) (l1 : Option Nat) (K2 : Int32 → pz_C Unit) (hK2 : ∀ (l2 : Int32), pz_Sm X (pz_QM X) J_X1_setRows pz_vU 2 [(0, va_rf l0), (1, va_rf l1), (2, .int l2)] [] (K2 l2)) (l2 : Int32) (l3 : Int32) (s0 : Option Nat) (s1 : Int32) (s2 : Int32) : pz_Sm X (pz_QM X) J_X1_setRows pz_vU 37 [(0, va_rf l0), (1, va_rf l1), (2, .int l2), (3, .int l3)] [.int s2, .int s1, va_rf s0] (X1_setRows_b37 n K2 l0 l1 l2 l3 s0 s1 s2) := by
  unfold X1_setRows_b37
  refine pz_zast (t := 1) rfl dX1_setRows_37 ?_
  refine pz_aload_n 0 dX1_setRows_38 rfl ?_
  refine pz_getR (ci := 1) (k := 1) ck_1 (by decide) (Or.inl pw_282) dX1_setRows_39 (fun x7 => ?_)
  refine pz_iload_n 3 dX1_setRows_42 rfl ?_
  refine pz_aload_n 1 dX1_setRows_43 rfl ?_
  refine pz_getR (ci := 6) (k := 1) ck_6 (by decide) (Or.inl pw_35) dX1_setRows_44 (fun x8 => ?_)
  refine pz_iload_n 2 dX1_setRows_47 rfl ?_
  refine pz_iald (t := 0) rfl dX1_setRows_48 (fun x9 => ?_)
  refine pz_if_eq 56 dX1_setRows_49 (by decide) ?_ ?_
  · refine pz_iconst 0 dX1_setRows_56 (by decide) ?_
    exact pz_sub [0, 1, 2, 3] rfl (S_X1_setRows_b57 X n l0 l1 K2 hK2 l2 l3 x7 l3 0)
  · refine pz_iconst 1 dX1_setRows_52 (by decide) ?_
    refine pz_goto 57 dX1_setRows_53 (by decide) ?_
    exact pz_sub [0, 1, 2, 3] rfl (S_X1_setRows_b57 X n l0 l1 K2 hK2 l2 l3 x7 l3 1)
set_option maxRecDepth 20000 in
theorem S_X1_setRows_L2_body (X : pz_X) (n : Nat) (l0 : Option Nat) (l1 : Option Nat) (K2 : Int32 → pz_C Unit) (hK2 : ∀ (l2 : Int32), pz_Sm X (pz_QM X) J_X1_setRows pz_vU 2 [(0, va_rf l0), (1, va_rf l1), (2, .int l2)] [] (K2 l2)) (l2 : Int32) : pz_Sm X (pz_QM X) J_X1_setRows pz_vU 2 [(0, va_rf l0), (1, va_rf l1), (2, .int l2)] [] (X1_setRows_L2_body n l0 l1 K2 l2) := by
  unfold X1_setRows_L2_body
  refine pz_iload_n 2 dX1_setRows_2 rfl ?_
  refine pz_aload_n 1 dX1_setRows_3 rfl ?_
  refine pz_getI (ci := 6) (k := 6) ck_6 (by decide) (Or.inl pw_53) dX1_setRows_4 (fun x1 => ?_)
  refine pz_icmp_ge 90 dX1_setRows_7 (by decide) ?_ ?_
  · exact pz_vret rfl dX1_setRows_90
  · refine pz_aload_n 1 dX1_setRows_10 rfl ?_
    refine pz_getI (ci := 6) (k := 5) ck_6 (by decide) (Or.inl pw_48) dX1_setRows_11 (fun x2 => ?_)
    refine pz_iload_n 2 dX1_setRows_14 rfl ?_
    refine pz_iadd dX1_setRows_15 ?_
    refine pz_nmI (fun l3_3 => ?_)
    refine pz_istore_n [(3, .int l3_3), (0, va_rf l0), (1, va_rf l1), (2, .int l2)] dX1_setRows_16 (by decide) rfl ?_
    refine pz_aload_n 1 dX1_setRows_17 rfl ?_
    refine pz_getR (ci := 1) (k := 0) ck_1 (by decide) (Or.inl pw_279) dX1_setRows_18 (fun x4 => ?_)
    refine pz_iload_n 0 dX1_setRows_21 rfl ?_
    refine pz_aload_n 2 dX1_setRows_22 rfl ?_
    refine pz_getR (ci := 6) (k := 1) ck_6 (by decide) (Or.inl pw_35) dX1_setRows_23 (fun x5 => ?_)
    refine pz_iload_n 3 dX1_setRows_26 rfl ?_
    refine pz_iald (t := 0) rfl dX1_setRows_27 (fun x6 => ?_)
    refine pz_iconst 1 dX1_setRows_28 (by decide) ?_
    refine pz_icmp_eq 36 dX1_setRows_29 (by decide) ?_ ?_
    · refine pz_iconst 0 dX1_setRows_36 (by decide) ?_
      exact pz_sub [1, 2, 3, 0] rfl (S_X1_setRows_b37 X n l0 l1 K2 hK2 l2 l3_3 x4 l3_3 0)
    · refine pz_iconst 1 dX1_setRows_32 (by decide) ?_
      refine pz_goto 37 dX1_setRows_33 (by decide) ?_
      exact pz_sub [1, 2, 3, 0] rfl (S_X1_setRows_b37 X n l0 l1 K2 hK2 l2 l3_3 x4 l3_3 1)
set_option maxRecDepth 20000 in
theorem S_X1_setRows_L2 (X : pz_X) (n : Nat) (l0 : Option Nat) (l1 : Option Nat) (l2 : Int32) : pz_Sm X (pz_QM X) J_X1_setRows pz_vU 2 [(0, va_rf l0), (1, va_rf l1), (2, .int l2)] [] (X1_setRows_L2 n l0 l1 l2) :=
  pz_lp (L := fun (s : Int32) => [(0, va_rf l0), (1, va_rf l1), (2, .int s)]) (fun K hK s => S_X1_setRows_L2_body X n l0 l1 (fun l2 => K l2) (fun l2 => hK l2) s) n l2
set_option maxRecDepth 20000 in
theorem S_X1_setRows (X : pz_X) (n : Nat) (l0 : Option Nat) (l1 : Option Nat) : pz_Sm X (pz_QM X) J_X1_setRows pz_vU 0 [(0, va_rf l0), (1, va_rf l1)] [] (X1_setRows n l0 l1) := by
  unfold X1_setRows
  refine pz_iconst 0 dX1_setRows_0 (by decide) ?_
  refine pz_istore_n [(2, .int 0), (0, va_rf l0), (1, va_rf l1)] dX1_setRows_1 (by decide) (by cases l1 <;> rfl) ?_
  exact pz_sub [1, 2, 0] rfl (S_X1_setRows_L2 X n l0 l1 0)
set_option maxRecDepth 20000 in
theorem md_X1_setRows (X : pz_X) (n : Nat) (l0 : Option Nat) (l1 : Option Nat) : pz_Md X yX1_setRows J_X1_setRows pz_vU [va_rf l0, va_rf l1] (X1_setRows n l0 l1) :=
  pz_md [(0, va_rf l0), (1, va_rf l1)] (by decide +kernel) rfl rfl (by cases l0 <;> cases l1 <;> rfl) (by cases l0 <;> cases l1 <;> exact Nat.le_of_ble_eq_true rfl) (fun X => S_X1_setRows X n l0 l1)
set_option maxRecDepth 20000 in
theorem S_X1_tightenUpper_b28 (X : pz_X) (n : Nat) (l0 : Option Nat) (l1 : Int32) (s0 : Option Nat) (s1 : Int32) (s2 : Int64) : pz_Sm X (pz_QM X) J_X1_tightenUpper pz_vU 28 [(0, va_rf l0), (1, .int l1)] [.long s2, .int s1, va_rf s0] (X1_tightenUpper_b28 n l0 l1 s0 s1 s2) := by
  unfold X1_tightenUpper_b28
  refine pz_last (t := 2) rfl dX1_tightenUpper_28 ?_
  refine pz_aload_n 0 dX1_tightenUpper_29 rfl ?_
  refine pz_getR (ci := 1) (k := 0) ck_1 (by decide) (Or.inl pw_279) dX1_tightenUpper_30 (fun x4 => ?_)
  refine pz_iload_n 1 dX1_tightenUpper_33 rfl ?_
  refine pz_iconst 1 dX1_tightenUpper_34 (by decide) ?_
  refine pz_zast (t := 1) rfl dX1_tightenUpper_35 ?_
  exact pz_vret rfl dX1_tightenUpper_36
set_option maxRecDepth 20000 in
theorem S_X1_tightenUpper (X : pz_X) (n : Nat) (l0 : Option Nat) (l1 : Int32) (l2 : Int64) : pz_Sm X (pz_QM X) J_X1_tightenUpper pz_vU 0 [(0, va_rf l0), (1, .int l1), (2, .long l2)] [] (X1_tightenUpper n l0 l1 l2) := by
  unfold X1_tightenUpper
  refine pz_aload_n 0 dX1_tightenUpper_0 rfl ?_
  refine pz_getR (ci := 1) (k := 2) ck_1 (by decide) (Or.inl pw_285) dX1_tightenUpper_1 (fun x1 => ?_)
  refine pz_iload_n 1 dX1_tightenUpper_4 rfl ?_
  refine pz_aload_n 0 dX1_tightenUpper_5 rfl ?_
  refine pz_getR (ci := 1) (k := 0) ck_1 (by decide) (Or.inl pw_279) dX1_tightenUpper_6 (fun x2 => ?_)
  refine pz_iload_n 1 dX1_tightenUpper_9 rfl ?_
  refine pz_zald (t := 1) rfl dX1_tightenUpper_10 (fun x3 => ?_)
  refine pz_if_eq 27 dX1_tightenUpper_11 (by decide) ?_ ?_
  · refine pz_lload_n 2 dX1_tightenUpper_27 rfl ?_
    exact pz_sub [0, 1] rfl (S_X1_tightenUpper_b28 X n l0 l1 x1 l1 l2)
  · refine pz_aload_n 0 dX1_tightenUpper_14 rfl ?_
    refine pz_getR (ci := 1) (k := 2) ck_1 (by decide) (Or.inl pw_285) dX1_tightenUpper_15 (fun x5 => ?_)
    refine pz_iload_n 1 dX1_tightenUpper_18 rfl ?_
    refine pz_lald (t := 2) rfl dX1_tightenUpper_19 (fun x6 => ?_)
    refine pz_lload_n 2 dX1_tightenUpper_20 rfl ?_
    refine pz_mminL pw_540 pw_541 pw_14 pw_542 (by simp [pz_rf1, pz_ci, pz_cl]) (by decide) (by decide) dX1_tightenUpper_21 ?_
    refine pz_goto 28 dX1_tightenUpper_24 (by decide) ?_
    exact pz_sub [0, 1] rfl (S_X1_tightenUpper_b28 X n l0 l1 x1 l1 (if l2 < x6 then l2 else x6))
set_option maxRecDepth 20000 in
theorem md_X1_tightenUpper (X : pz_X) (n : Nat) (l0 : Option Nat) (l1 : Int32) (l2 : Int64) : pz_Md X yX1_tightenUpper J_X1_tightenUpper pz_vU [va_rf l0, .int l1, .long l2] (X1_tightenUpper n l0 l1 l2) :=
  pz_md [(0, va_rf l0), (1, .int l1), (2, .long l2)] (by decide +kernel) rfl rfl (by cases l0 <;> rfl) (by cases l0 <;> exact Nat.le_of_ble_eq_true rfl) (fun X => S_X1_tightenUpper X n l0 l1 l2)
set_option maxRecDepth 20000 in
theorem S_X1_tightenLower_b28 (X : pz_X) (n : Nat) (l0 : Option Nat) (l1 : Int32) (s0 : Option Nat) (s1 : Int32) (s2 : Int64) : pz_Sm X (pz_QM X) J_X1_tightenLower pz_vU 28 [(0, va_rf l0), (1, .int l1)] [.long s2, .int s1, va_rf s0] (X1_tightenLower_b28 n l0 l1 s0 s1 s2) := by
  unfold X1_tightenLower_b28
  refine pz_last (t := 2) rfl dX1_tightenLower_28 ?_
  refine pz_aload_n 0 dX1_tightenLower_29 rfl ?_
  refine pz_getR (ci := 1) (k := 1) ck_1 (by decide) (Or.inl pw_282) dX1_tightenLower_30 (fun x4 => ?_)
  refine pz_iload_n 1 dX1_tightenLower_33 rfl ?_
  refine pz_iconst 1 dX1_tightenLower_34 (by decide) ?_
  refine pz_zast (t := 1) rfl dX1_tightenLower_35 ?_
  exact pz_vret rfl dX1_tightenLower_36
set_option maxRecDepth 20000 in
theorem S_X1_tightenLower (X : pz_X) (n : Nat) (l0 : Option Nat) (l1 : Int32) (l2 : Int64) : pz_Sm X (pz_QM X) J_X1_tightenLower pz_vU 0 [(0, va_rf l0), (1, .int l1), (2, .long l2)] [] (X1_tightenLower n l0 l1 l2) := by
  unfold X1_tightenLower
  refine pz_aload_n 0 dX1_tightenLower_0 rfl ?_
  refine pz_getR (ci := 1) (k := 3) ck_1 (by decide) (Or.inl pw_288) dX1_tightenLower_1 (fun x1 => ?_)
  refine pz_iload_n 1 dX1_tightenLower_4 rfl ?_
  refine pz_aload_n 0 dX1_tightenLower_5 rfl ?_
  refine pz_getR (ci := 1) (k := 1) ck_1 (by decide) (Or.inl pw_282) dX1_tightenLower_6 (fun x2 => ?_)
  refine pz_iload_n 1 dX1_tightenLower_9 rfl ?_
  refine pz_zald (t := 1) rfl dX1_tightenLower_10 (fun x3 => ?_)
  refine pz_if_eq 27 dX1_tightenLower_11 (by decide) ?_ ?_
  · refine pz_lload_n 2 dX1_tightenLower_27 rfl ?_
    exact pz_sub [0, 1] rfl (S_X1_tightenLower_b28 X n l0 l1 x1 l1 l2)
  · refine pz_aload_n 0 dX1_tightenLower_14 rfl ?_
    refine pz_getR (ci := 1) (k := 3) ck_1 (by decide) (Or.inl pw_288) dX1_tightenLower_15 (fun x5 => ?_)
    refine pz_iload_n 1 dX1_tightenLower_18 rfl ?_
    refine pz_lald (t := 2) rfl dX1_tightenLower_19 (fun x6 => ?_)
    refine pz_lload_n 2 dX1_tightenLower_20 rfl ?_
    refine pz_mmaxL pw_547 pw_548 pw_14 pw_549 (by simp [pz_rf1, pz_ci, pz_cl]) (by decide) (by decide) dX1_tightenLower_21 ?_
    refine pz_goto 28 dX1_tightenLower_24 (by decide) ?_
    exact pz_sub [0, 1] rfl (S_X1_tightenLower_b28 X n l0 l1 x1 l1 (if l2 < x6 then x6 else l2))
set_option maxRecDepth 20000 in
theorem md_X1_tightenLower (X : pz_X) (n : Nat) (l0 : Option Nat) (l1 : Int32) (l2 : Int64) : pz_Md X yX1_tightenLower J_X1_tightenLower pz_vU [va_rf l0, .int l1, .long l2] (X1_tightenLower n l0 l1 l2) :=
  pz_md [(0, va_rf l0), (1, .int l1), (2, .long l2)] (by decide +kernel) rfl rfl (by cases l0 <;> rfl) (by cases l0 <;> exact Nat.le_of_ble_eq_true rfl) (fun X => S_X1_tightenLower X n l0 l1 l2)
set_option maxRecDepth 20000 in
theorem S_X1_setSplits_b132 (X : pz_X) (n : Nat) : pz_Sm X (pz_QM X) J_X1_setSplits pz_vU 132 [] [] (X1_setSplits_b132 n) := by
  unfold X1_setSplits_b132
  exact pz_vret rfl dX1_setSplits_132
set_option maxRecDepth 20000 in
theorem S_X1_setSplits_b122 (X : pz_X) (n : Nat) (l0 : Option Nat) (l1 : Option Nat) (l4 : Option Nat) (K37 : Int32 → Int32 → pz_C Unit) (hK37 : ∀ (l5 : Int32) (l6 : Int32), pz_Sm X (pz_QM X) J_X1_setSplits pz_vU 37 [(0, va_rf l0), (1, va_rf l1), (4, va_rf l4), (5, .int l5), (6, .int l6)] [] (K37 l5 l6)) (l6 : Int32) (l7 : Int32) : pz_Sm X (pz_QM X) J_X1_setSplits pz_vU 122 [(0, va_rf l0), (1, va_rf l1), (4, va_rf l4), (6, .int l6), (7, .int l7)] [] (X1_setSplits_b122 n K37 l0 l1 l4 l6 l7) := by
  unfold X1_setSplits_b122
  refine pz_iload 4 dX1_setSplits_122 rfl ?_
  refine pz_istore [(5, .int l7), (0, va_rf l0), (1, va_rf l1), (4, va_rf l4), (6, .int l6), (7, .int l7)] dX1_setSplits_124 (by decide) (by cases l4 <;> rfl) ?_
  refine pz_iinc 4 1 (fun l6_12 => [(6, .int l6_12), (5, .int l7), (0, va_rf l0), (1, va_rf l1), (4, va_rf l4), (7, .int l7)]) dX1_setSplits_126 rfl (by decide) (by decide) (fun l6_12 => rfl) (fun l6_12 => ?_)
  refine pz_goto 37 dX1_setSplits_129 (by decide) ?_
  exact pz_sub [2, 3, 4, 1, 0] rfl (hK37 l7 l6_12)
set_option maxRecDepth 20000 in
theorem S_X1_setSplits_L37_body (X : pz_X) (n : Nat) (l0 : Option Nat) (l1 : Option Nat) (l4 : Option Nat) (K37 : Int32 → Int32 → pz_C Unit) (hK37 : ∀ (l5 : Int32) (l6 : Int32), pz_Sm X (pz_QM X) J_X1_setSplits pz_vU 37 [(0, va_rf l0), (1, va_rf l1), (4, va_rf l4), (5, .int l5), (6, .int l6)] [] (K37 l5 l6)) (l5 : Int32) (l6 : Int32) : pz_Sm X (pz_QM X) J_X1_setSplits pz_vU 37 [(0, va_rf l0), (1, va_rf l1), (4, va_rf l4), (5, .int l5), (6, .int l6)] [] (X1_setSplits_L37_body n l0 l1 l4 K37 l5 l6) := by
  unfold X1_setSplits_L37_body
  refine pz_iload 4 dX1_setSplits_37 rfl ?_
  refine pz_sipush 301 dX1_setSplits_39 (by decide) ?_
  refine pz_icmp_ge 132 dX1_setSplits_42 (by decide) ?_ ?_
  · exact pz_sub [] rfl (S_X1_setSplits_b132 X n)
  · refine pz_aload_n 1 dX1_setSplits_45 rfl ?_
    refine pz_iload 3 dX1_setSplits_46 rfl ?_
    refine pz_cvI (st := []) (md_X10_has X n l1 l5) ck_10 rfl mk_X10_has (Or.inl pw_535) pw_499 pw_500 rfl rfl (by decide) (by decide) (by decide) dX1_setSplits_48 (fun x1 => ?_)
    refine pz_if_eq 132 dX1_setSplits_51 (by decide) ?_ ?_
    · exact pz_sub [] rfl (S_X1_setSplits_b132 X n)
    · refine pz_aload_n 1 dX1_setSplits_54 rfl ?_
      refine pz_getR (ci := 10) (k := 0) ck_10 (by decide) (Or.inl pw_213) dX1_setSplits_55 (fun x2 => ?_)
      refine pz_iload 3 dX1_setSplits_58 rfl ?_
      refine pz_iald (t := 0) rfl dX1_setSplits_60 (fun x3 => ?_)
      refine pz_if_lt 132 dX1_setSplits_61 (by decide) ?_ ?_
      · exact pz_sub [] rfl (S_X1_setSplits_b132 X n)
      · refine pz_aload_n 1 dX1_setSplits_64 rfl ?_
        refine pz_getR (ci := 10) (k := 0) ck_10 (by decide) (Or.inl pw_213) dX1_setSplits_65 (fun x4 => ?_)
        refine pz_iload 3 dX1_setSplits_68 rfl ?_
        refine pz_iald (t := 0) rfl dX1_setSplits_70 (fun x5 => ?_)
        refine pz_istore [(7, .int x5), (0, va_rf l0), (1, va_rf l1), (4, va_rf l4), (5, .int l5), (6, .int l6)] dX1_setSplits_71 (by decide) rfl ?_
        refine pz_aload_n 2 dX1_setSplits_73 rfl ?_
        refine pz_getR (ci := 10) (k := 1) ck_10 (by decide) (Or.inl pw_216) dX1_setSplits_74 (fun x6 => ?_)
        refine pz_iload 0 dX1_setSplits_77 rfl ?_
        refine pz_iald (t := 0) rfl dX1_setSplits_79 (fun x7 => ?_)
        refine pz_iload 4 dX1_setSplits_80 rfl ?_
        refine pz_icmp_ne 104 dX1_setSplits_82 (by decide) ?_ ?_
        · refine pz_aload_n 1 dX1_setSplits_85 rfl ?_
          refine pz_aload_n 2 dX1_setSplits_86 rfl ?_
          refine pz_getR (ci := 10) (k := 3) ck_10 (by decide) (Or.inl pw_222) dX1_setSplits_87 (fun x8 => ?_)
          refine pz_iload 0 dX1_setSplits_90 rfl ?_
          refine pz_iald (t := 0) rfl dX1_setSplits_92 (fun x9 => ?_)
          refine pz_aload 3 dX1_setSplits_93 rfl ?_
          refine pz_iload 0 dX1_setSplits_95 rfl ?_
          refine pz_lald (t := 2) rfl dX1_setSplits_97 (fun x10 => ?_)
          refine pz_cvU (st := []) (md_X1_tightenUpper X n l0 x9 x10) ck_1 rfl mk_X1_tightenUpper (Or.inl pw_536) pw_538 ps_3 rfl rfl (by decide) (by decide) (by decide) dX1_setSplits_98 (fun _ => ?_)
          refine pz_goto 122 dX1_setSplits_101 (by decide) ?_
          exact pz_sub [1, 2, 3, 5, 0] rfl (S_X1_setSplits_b122 X n l0 l1 l4 K37 hK37 l6 x5)
        · refine pz_aload_n 1 dX1_setSplits_104 rfl ?_
          refine pz_aload_n 2 dX1_setSplits_105 rfl ?_
          refine pz_getR (ci := 10) (k := 3) ck_10 (by decide) (Or.inl pw_222) dX1_setSplits_106 (fun x13 => ?_)
          refine pz_iload 0 dX1_setSplits_109 rfl ?_
          refine pz_iald (t := 0) rfl dX1_setSplits_111 (fun x14 => ?_)
          refine pz_aload 3 dX1_setSplits_112 rfl ?_
          refine pz_iload 0 dX1_setSplits_114 rfl ?_
          refine pz_lald (t := 2) rfl dX1_setSplits_116 (fun x15 => ?_)
          refine pz_lconst 1 dX1_setSplits_117 (by decide) ?_
          refine pz_ladd dX1_setSplits_118 ?_
          refine pz_cvU (st := []) (md_X1_tightenLower X n l0 x14 (x15 + 1)) ck_1 rfl mk_X1_tightenLower (Or.inl pw_543) pw_545 ps_4 rfl rfl (by decide) (by decide) (by decide) dX1_setSplits_119 (fun _ => ?_)
          exact pz_sub [1, 2, 3, 5, 0] rfl (S_X1_setSplits_b122 X n l0 l1 l4 K37 hK37 l6 x5)
set_option maxRecDepth 20000 in
theorem S_X1_setSplits_L37 (X : pz_X) (n : Nat) (l0 : Option Nat) (l1 : Option Nat) (l4 : Option Nat) (l5 : Int32) (l6 : Int32) : pz_Sm X (pz_QM X) J_X1_setSplits pz_vU 37 [(0, va_rf l0), (1, va_rf l1), (4, va_rf l4), (5, .int l5), (6, .int l6)] [] (X1_setSplits_L37 n l0 l1 l4 l5 l6) :=
  pz_lp (L := fun (s : Int32 × Int32) => [(0, va_rf l0), (1, va_rf l1), (4, va_rf l4), (5, .int s.1), (6, .int s.2)]) (fun K hK s => S_X1_setSplits_L37_body X n l0 l1 l4 (fun l5 l6 => K (l5, l6)) (fun l5 l6 => hK (l5, l6)) s.1 s.2) n (l5, l6)
set_option maxRecDepth 20000 in
theorem S_X1_setSplits_L3_body (X : pz_X) (n : Nat) (l0 : Option Nat) (l1 : Option Nat) (l2 : Int32) (l3 : Int32) (l4 : Option Nat) (K3 : Int32 → pz_C Unit) (hK3 : ∀ (l5 : Int32), pz_Sm X (pz_QM X) J_X1_setSplits pz_vU 3 [(0, va_rf l0), (1, va_rf l1), (2, .int l2), (3, .int l3), (4, va_rf l4), (5, .int l5)] [] (K3 l5)) (l5 : Int32) : pz_Sm X (pz_QM X) J_X1_setSplits pz_vU 3 [(0, va_rf l0), (1, va_rf l1), (2, .int l2), (3, .int l3), (4, va_rf l4), (5, .int l5)] [] (X1_setSplits_L3_body n l0 l1 l2 l3 l4 K3 l5) := by
  unfold X1_setSplits_L3_body
  refine pz_iload 5 dX1_setSplits_3 rfl ?_
  refine pz_iload_n 2 dX1_setSplits_5 rfl ?_
  refine pz_icmp_ge 31 dX1_setSplits_6 (by decide) ?_ ?_
  · refine pz_iload_n 3 dX1_setSplits_31 rfl ?_
    refine pz_istore [(5, .int l3), (0, va_rf l0), (1, va_rf l1), (2, .int l2), (3, .int l3), (4, va_rf l4)] dX1_setSplits_32 (by decide) (by cases l4 <;> rfl) ?_
    refine pz_iconst 0 dX1_setSplits_34 (by decide) ?_
    refine pz_istore [(6, .int 0), (5, .int l3), (0, va_rf l0), (1, va_rf l1), (2, .int l2), (3, .int l3), (4, va_rf l4)] dX1_setSplits_35 (by decide) rfl ?_
    exact pz_sub [2, 3, 6, 1, 0] rfl (S_X1_setSplits_L37 X n l0 l1 l4 l3 0)
  · refine pz_aload_n 0 dX1_setSplits_9 rfl ?_
    refine pz_getR (ci := 1) (k := 0) ck_1 (by decide) (Or.inl pw_279) dX1_setSplits_10 (fun x17 => ?_)
    refine pz_iload 5 dX1_setSplits_13 rfl ?_
    refine pz_iconst 0 dX1_setSplits_15 (by decide) ?_
    refine pz_zast (t := 1) rfl dX1_setSplits_16 ?_
    refine pz_aload_n 0 dX1_setSplits_17 rfl ?_
    refine pz_getR (ci := 1) (k := 1) ck_1 (by decide) (Or.inl pw_282) dX1_setSplits_18 (fun x18 => ?_)
    refine pz_iload 5 dX1_setSplits_21 rfl ?_
    refine pz_iconst 0 dX1_setSplits_23 (by decide) ?_
    refine pz_zast (t := 1) rfl dX1_setSplits_24 ?_
    refine pz_iinc 5 1 (fun l5_19 => [(5, .int l5_19), (0, va_rf l0), (1, va_rf l1), (2, .int l2), (3, .int l3), (4, va_rf l4)]) dX1_setSplits_25 rfl (by decide) (by decide) (fun l5_19 => (by cases l4 <;> rfl)) (fun l5_19 => ?_)
    refine pz_goto 3 dX1_setSplits_28 (by decide) ?_
    exact pz_sub [1, 2, 3, 4, 5, 0] rfl (hK3 l5_19)
set_option maxRecDepth 20000 in
theorem S_X1_setSplits_L3 (X : pz_X) (n : Nat) (l0 : Option Nat) (l1 : Option Nat) (l2 : Int32) (l3 : Int32) (l4 : Option Nat) (l5 : Int32) : pz_Sm X (pz_QM X) J_X1_setSplits pz_vU 3 [(0, va_rf l0), (1, va_rf l1), (2, .int l2), (3, .int l3), (4, va_rf l4), (5, .int l5)] [] (X1_setSplits_L3 n l0 l1 l2 l3 l4 l5) :=
  pz_lp (L := fun (s : Int32) => [(0, va_rf l0), (1, va_rf l1), (2, .int l2), (3, .int l3), (4, va_rf l4), (5, .int s)]) (fun K hK s => S_X1_setSplits_L3_body X n l0 l1 l2 l3 l4 (fun l5 => K l5) (fun l5 => hK l5) s) n l5
set_option maxRecDepth 20000 in
theorem S_X1_setSplits (X : pz_X) (n : Nat) (l0 : Option Nat) (l1 : Option Nat) (l2 : Int32) (l3 : Int32) (l4 : Option Nat) : pz_Sm X (pz_QM X) J_X1_setSplits pz_vU 0 [(0, va_rf l0), (1, va_rf l1), (2, .int l2), (3, .int l3), (4, va_rf l4)] [] (X1_setSplits n l0 l1 l2 l3 l4) := by
  unfold X1_setSplits
  refine pz_iconst 0 dX1_setSplits_0 (by decide) ?_
  refine pz_istore [(5, .int 0), (0, va_rf l0), (1, va_rf l1), (2, .int l2), (3, .int l3), (4, va_rf l4)] dX1_setSplits_1 (by decide) (by cases l4 <;> rfl) ?_
  exact pz_sub [1, 2, 3, 4, 5, 0] rfl (S_X1_setSplits_L3 X n l0 l1 l2 l3 l4 0)
set_option maxRecDepth 20000 in
theorem md_X1_setSplits (X : pz_X) (n : Nat) (l0 : Option Nat) (l1 : Option Nat) (l2 : Int32) (l3 : Int32) (l4 : Option Nat) : pz_Md X yX1_setSplits J_X1_setSplits pz_vU [va_rf l0, va_rf l1, .int l2, .int l3, va_rf l4] (X1_setSplits n l0 l1 l2 l3 l4) :=
  pz_md [(0, va_rf l0), (1, va_rf l1), (2, .int l2), (3, .int l3), (4, va_rf l4)] (by decide +kernel) rfl rfl (by cases l0 <;> cases l1 <;> cases l4 <;> rfl) (by cases l0 <;> cases l1 <;> cases l4 <;> exact Nat.le_of_ble_eq_true rfl) (fun X => S_X1_setSplits X n l0 l1 l2 l3 l4)
set_option maxRecDepth 20000 in
theorem S_X7_setSplitBounds (X : pz_X) (n : Nat) (l0 : Option Nat) : pz_Sm X (pz_QM X) J_X7_setSplitBounds pz_vU 0 [(0, va_rf l0)] [] (X7_setSplitBounds n l0) := by
  unfold X7_setSplitBounds
  refine pz_aload_n 0 dX7_setSplitBounds_0 rfl ?_
  refine pz_getR (ci := 7) (k := 3) ck_7 (by decide) (Or.inl pw_303) dX7_setSplitBounds_1 (fun x1 => ?_)
  refine pz_aload_n 0 dX7_setSplitBounds_4 rfl ?_
  refine pz_getR (ci := 7) (k := 2) ck_7 (by decide) (Or.inl pw_302) dX7_setSplitBounds_5 (fun x2 => ?_)
  refine pz_aload_n 0 dX7_setSplitBounds_8 rfl ?_
  refine pz_getR (ci := 7) (k := 0) ck_7 (by decide) (Or.inl pw_300) dX7_setSplitBounds_9 (fun x3 => ?_)
  refine pz_getI (ci := 6) (k := 5) ck_6 (by decide) (Or.inl pw_51) dX7_setSplitBounds_12 (fun x4 => ?_)
  refine pz_aload_n 0 dX7_setSplitBounds_15 rfl ?_
  refine pz_getR (ci := 7) (k := 2) ck_7 (by decide) (Or.inl pw_302) dX7_setSplitBounds_16 (fun x5 => ?_)
  refine pz_getI (ci := 10) (k := 11) ck_10 (by decide) (Or.inl pw_240) dX7_setSplitBounds_19 (fun x6 => ?_)
  refine pz_aload_n 0 dX7_setSplitBounds_22 rfl ?_
  refine pz_getR (ci := 7) (k := 2) ck_7 (by decide) (Or.inl pw_302) dX7_setSplitBounds_23 (fun x7 => ?_)
  refine pz_getR (ci := 10) (k := 4) ck_10 (by decide) (Or.inl pw_227) dX7_setSplitBounds_26 (fun x8 => ?_)
  refine pz_cvU (st := []) (md_X1_setSplits X n x1 x2 x4 x6 x8) ck_1 rfl mk_X1_setSplits (Or.inl pw_531) pw_532 pw_533 rfl rfl (by decide) (by decide) (by decide) dX7_setSplitBounds_29 (fun _ => ?_)
  exact pz_vret rfl dX7_setSplitBounds_32
set_option maxRecDepth 20000 in
theorem md_X7_setSplitBounds (X : pz_X) (n : Nat) (l0 : Option Nat) : pz_Md X yX7_setSplitBounds J_X7_setSplitBounds pz_vU [va_rf l0] (X7_setSplitBounds n l0) :=
  pz_md [(0, va_rf l0)] (by decide +kernel) rfl rfl (by cases l0 <;> rfl) (by cases l0 <;> exact Nat.le_of_ble_eq_true rfl) (fun X => S_X7_setSplitBounds X n l0)
set_option maxRecDepth 20000 in
theorem S_X7_begin (X : pz_X) (n : Nat) (l0 : Option Nat) : pz_Sm X (pz_QM X) J_X7_begin pz_vU 0 [(0, va_rf l0)] [] (X7_begin n l0) := by
  unfold X7_begin
  refine pz_aload_n 0 dX7_begin_0 rfl ?_
  refine pz_iconst 1 dX7_begin_1 (by decide) ?_
  refine pz_put (ci := 7) (k := 4) ck_7 (by decide) (Or.inl pw_304) (Or.inl rfl) rfl rfl dX7_begin_2 ?_
  refine pz_aload_n 0 dX7_begin_5 rfl ?_
  refine pz_getR (ci := 7) (k := 1) ck_7 (by decide) (Or.inl pw_301) dX7_begin_6 (fun x1 => ?_)
  refine pz_aload_n 0 dX7_begin_9 rfl ?_
  refine pz_getR (ci := 7) (k := 0) ck_7 (by decide) (Or.inl pw_300) dX7_begin_10 (fun x2 => ?_)
  refine pz_cvU (st := []) (md_X9_begin X n x1 x2) ck_9 rfl mk_X9_begin (Or.inl pw_477) pw_478 pw_479 rfl rfl (by decide) (by decide) (by decide) dX7_begin_13 (fun _ => ?_)
  refine pz_aload_n 0 dX7_begin_16 rfl ?_
  refine pz_getR (ci := 7) (k := 2) ck_7 (by decide) (Or.inl pw_302) dX7_begin_17 (fun x4 => ?_)
  refine pz_bipush (-2) dX7_begin_20 (by decide) ?_
  refine pz_cvU (st := []) (md_X10_addLeaf X n x4 (-2)) ck_10 rfl mk_X10_addLeaf (Or.inl pw_494) pw_495 pw_496 rfl rfl (by decide) (by decide) (by decide) dX7_begin_22 (fun _ => ?_)
  refine pz_aload_n 0 dX7_begin_25 rfl ?_
  refine pz_getR (ci := 7) (k := 3) ck_7 (by decide) (Or.inl pw_303) dX7_begin_26 (fun x6 => ?_)
  refine pz_aload_n 0 dX7_begin_29 rfl ?_
  refine pz_getR (ci := 7) (k := 0) ck_7 (by decide) (Or.inl pw_300) dX7_begin_30 (fun x7 => ?_)
  refine pz_cvU (st := []) (md_X1_setRows X n x6 x7) ck_1 rfl mk_X1_setRows (Or.inl pw_523) pw_524 pw_525 rfl rfl (by decide) (by decide) (by decide) dX7_begin_33 (fun _ => ?_)
  refine pz_aload_n 0 dX7_begin_36 rfl ?_
  refine pz_cvU (st := []) (md_X7_setSplitBounds X n l0) ck_7 rfl mk_X7_setSplitBounds (Or.inl pw_527) pw_529 ps_2 rfl rfl (by decide) (by decide) (by decide) dX7_begin_37 (fun _ => ?_)
  exact pz_vret rfl dX7_begin_40
set_option maxRecDepth 20000 in
theorem md_X7_begin (X : pz_X) (n : Nat) (l0 : Option Nat) : pz_Md X yX7_begin J_X7_begin pz_vU [va_rf l0] (X7_begin n l0) :=
  pz_md [(0, va_rf l0)] (by decide +kernel) rfl rfl (by cases l0 <;> rfl) (by cases l0 <;> exact Nat.le_of_ble_eq_true rfl) (fun X => S_X7_begin X n l0)
set_option maxRecDepth 20000 in
theorem S_X9_places (X : pz_X) (n : Nat) (l0 : Option Nat) : pz_Sm X (pz_QM X) J_X9_places pz_vI 0 [(0, va_rf l0)] [] (X9_places n l0) := by
  unfold X9_places
  refine pz_aload_n 0 dX9_places_0 rfl ?_
  refine pz_getI (ci := 9) (k := 14) ck_9 (by decide) (Or.inl pw_172) dX9_places_1 (fun x1 => ?_)
  refine pz_aload_n 0 dX9_places_4 rfl ?_
  refine pz_getI (ci := 9) (k := 13) ck_9 (by decide) (Or.inl pw_171) dX9_places_5 (fun x2 => ?_)
  refine pz_iadd dX9_places_8 ?_
  exact pz_iret rfl dX9_places_9
set_option maxRecDepth 20000 in
theorem md_X9_places (X : pz_X) (n : Nat) (l0 : Option Nat) : pz_Md X yX9_places J_X9_places pz_vI [va_rf l0] (X9_places n l0) :=
  pz_md [(0, va_rf l0)] (by decide +kernel) rfl rfl (by cases l0 <;> rfl) (by cases l0 <;> exact Nat.le_of_ble_eq_true rfl) (fun X => S_X9_places X n l0)
set_option maxRecDepth 20000 in
theorem S_X9_rowOf_b20 (X : pz_X) (n : Nat) (s0 : Int32) : pz_Sm X (pz_QM X) J_X9_rowOf pz_vI 20 [] [.int s0] (X9_rowOf_b20 n s0) := by
  unfold X9_rowOf_b20
  exact pz_iret rfl dX9_rowOf_20
set_option maxRecDepth 20000 in
theorem S_X9_rowOf (X : pz_X) (n : Nat) (l0 : Option Nat) (l1 : Int32) : pz_Sm X (pz_QM X) J_X9_rowOf pz_vI 0 [(0, va_rf l0), (1, .int l1)] [] (X9_rowOf n l0 l1) := by
  unfold X9_rowOf
  refine pz_aload_n 0 dX9_rowOf_0 rfl ?_
  refine pz_getR (ci := 9) (k := 8) ck_9 (by decide) (Or.inl pw_164) dX9_rowOf_1 (fun x1 => ?_)
  refine pz_iload_n 1 dX9_rowOf_4 rfl ?_
  refine pz_zald (t := 1) rfl dX9_rowOf_5 (fun x2 => ?_)
  refine pz_if_eq 18 dX9_rowOf_6 (by decide) ?_ ?_
  · refine pz_bipush (-2) dX9_rowOf_18 (by decide) ?_
    exact pz_sub [] rfl (S_X9_rowOf_b20 X n (-2))
  · refine pz_aload_n 0 dX9_rowOf_9 rfl ?_
    refine pz_getR (ci := 9) (k := 7) ck_9 (by decide) (Or.inl pw_163) dX9_rowOf_10 (fun x3 => ?_)
    refine pz_iload_n 1 dX9_rowOf_13 rfl ?_
    refine pz_iald (t := 0) rfl dX9_rowOf_14 (fun x4 => ?_)
    refine pz_goto 20 dX9_rowOf_15 (by decide) ?_
    exact pz_sub [] rfl (S_X9_rowOf_b20 X n x4)
set_option maxRecDepth 20000 in
theorem md_X9_rowOf (X : pz_X) (n : Nat) (l0 : Option Nat) (l1 : Int32) : pz_Md X yX9_rowOf J_X9_rowOf pz_vI [va_rf l0, .int l1] (X9_rowOf n l0 l1) :=
  pz_md [(0, va_rf l0), (1, .int l1)] (by decide +kernel) rfl rfl (by cases l0 <;> rfl) (by cases l0 <;> exact Nat.le_of_ble_eq_true rfl) (fun X => S_X9_rowOf X n l0 l1)
set_option maxRecDepth 20000 in
theorem S_X8_clear_L2_body (X : pz_X) (n : Nat) (l0 : Option Nat) (K2 : Int32 → pz_C Unit) (hK2 : ∀ (l1 : Int32), pz_Sm X (pz_QM X) J_X8_clear pz_vU 2 [(0, va_rf l0), (1, .int l1)] [] (K2 l1)) (l1 : Int32) : pz_Sm X (pz_QM X) J_X8_clear pz_vU 2 [(0, va_rf l0), (1, .int l1)] [] (X8_clear_L2_body n l0 K2 l1) := by
  unfold X8_clear_L2_body
  refine pz_iload_n 1 dX8_clear_2 rfl ?_
  refine pz_aload_n 0 dX8_clear_3 rfl ?_
  refine pz_getI (ci := 8) (k := 1) ck_8 (by decide) (Or.inl pw_138) dX8_clear_4 (fun x1 => ?_)
  refine pz_icmp_ge 23 dX8_clear_7 (by decide) ?_ ?_
  · refine pz_aload_n 0 dX8_clear_23 rfl ?_
    refine pz_iconst 0 dX8_clear_24 (by decide) ?_
    refine pz_put (ci := 8) (k := 1) ck_8 (by decide) (Or.inl pw_138) (Or.inl rfl) rfl rfl dX8_clear_25 ?_
    exact pz_vret rfl dX8_clear_28
  · refine pz_aload_n 0 dX8_clear_10 rfl ?_
    refine pz_getR (ci := 8) (k := 0) ck_8 (by decide) (Or.inl pw_137) dX8_clear_11 (fun x2 => ?_)
    refine pz_iload_n 1 dX8_clear_14 rfl ?_
    refine pz_lconst 0 dX8_clear_15 (by decide) ?_
    refine pz_last (t := 2) rfl dX8_clear_16 ?_
    refine pz_iinc 1 1 (fun l1_3 => [(1, .int l1_3), (0, va_rf l0)]) dX8_clear_17 rfl (by decide) (by decide) (fun l1_3 => (by cases l0 <;> rfl)) (fun l1_3 => ?_)
    refine pz_goto 2 dX8_clear_20 (by decide) ?_
    exact pz_sub [1, 0] rfl (hK2 l1_3)
set_option maxRecDepth 20000 in
theorem S_X8_clear_L2 (X : pz_X) (n : Nat) (l0 : Option Nat) (l1 : Int32) : pz_Sm X (pz_QM X) J_X8_clear pz_vU 2 [(0, va_rf l0), (1, .int l1)] [] (X8_clear_L2 n l0 l1) :=
  pz_lp (L := fun (s : Int32) => [(0, va_rf l0), (1, .int s)]) (fun K hK s => S_X8_clear_L2_body X n l0 (fun l1 => K l1) (fun l1 => hK l1) s) n l1
set_option maxRecDepth 20000 in
theorem S_X8_clear (X : pz_X) (n : Nat) (l0 : Option Nat) : pz_Sm X (pz_QM X) J_X8_clear pz_vU 0 [(0, va_rf l0)] [] (X8_clear n l0) := by
  unfold X8_clear
  refine pz_iconst 0 dX8_clear_0 (by decide) ?_
  refine pz_istore_n [(1, .int 0), (0, va_rf l0)] dX8_clear_1 (by decide) (by cases l0 <;> rfl) ?_
  exact pz_sub [1, 0] rfl (S_X8_clear_L2 X n l0 0)
set_option maxRecDepth 20000 in
theorem md_X8_clear (X : pz_X) (n : Nat) (l0 : Option Nat) : pz_Md X yX8_clear J_X8_clear pz_vU [va_rf l0] (X8_clear n l0) :=
  pz_md [(0, va_rf l0)] (by decide +kernel) rfl rfl (by cases l0 <;> rfl) (by cases l0 <;> exact Nat.le_of_ble_eq_true rfl) (fun X => S_X8_clear X n l0)
set_option maxRecDepth 20000 in
theorem S_X8_addShifted_b166 (X : pz_X) (n : Nat) : pz_Sm X (pz_QM X) J_X8_addShifted pz_vU 166 [] [] (X8_addShifted_b166 n) := by
  unfold X8_addShifted_b166
  exact pz_vret rfl dX8_addShifted_166
set_option maxRecDepth 20000 in
theorem S_X8_addShifted_b151 (X : pz_X) (n : Nat) (l0 : Option Nat) (l7 : Int32) : pz_Sm X (pz_QM X) J_X8_addShifted pz_vU 151 [(0, va_rf l0), (7, .int l7)] [] (X8_addShifted_b151 n l0 l7) := by
  unfold X8_addShifted_b151
  refine pz_iload 1 dX8_addShifted_151 rfl ?_
  refine pz_aload_n 0 dX8_addShifted_153 rfl ?_
  refine pz_getI (ci := 8) (k := 1) ck_8 (by decide) (Or.inl pw_138) dX8_addShifted_154 (fun x2 => ?_)
  refine pz_icmp_le 166 dX8_addShifted_157 (by decide) ?_ ?_
  · exact pz_sub [] rfl (S_X8_addShifted_b166 X n)
  · refine pz_aload_n 0 dX8_addShifted_160 rfl ?_
    refine pz_iload 1 dX8_addShifted_161 rfl ?_
    refine pz_put (ci := 8) (k := 1) ck_8 (by decide) (Or.inl pw_138) (Or.inl rfl) rfl rfl dX8_addShifted_163 ?_
    exact pz_sub [] rfl (S_X8_addShifted_b166 X n)
set_option maxRecDepth 20000 in
theorem S_X8_addShifted_L92_body (X : pz_X) (n : Nat) (l0 : Option Nat) (K92 : Int64 → Int32 → pz_C Unit) (hK92 : ∀ (l5 : Int64) (l7 : Int32), pz_Sm X (pz_QM X) J_X8_addShifted pz_vU 92 [(0, va_rf l0), (5, .long l5), (7, .int l7)] [] (K92 l5 l7)) (l5 : Int64) (l7 : Int32) : pz_Sm X (pz_QM X) J_X8_addShifted pz_vU 92 [(0, va_rf l0), (5, .long l5), (7, .int l7)] [] (X8_addShifted_L92_body n l0 K92 l5 l7) := by
  unfold X8_addShifted_L92_body
  refine pz_lload 1 dX8_addShifted_92 rfl ?_
  refine pz_lconst 0 dX8_addShifted_94 (by decide) ?_
  refine pz_lcmp dX8_addShifted_95 ?_
  refine pz_if_eq 151 dX8_addShifted_96 (by decide) ?_ ?_
  · exact pz_sub [0, 2] rfl (S_X8_addShifted_b151 X n l0 l7)
  · refine pz_iload 2 dX8_addShifted_99 rfl ?_
    refine pz_aload_n 0 dX8_addShifted_101 rfl ?_
    refine pz_getR (ci := 8) (k := 0) ck_8 (by decide) (Or.inl pw_137) dX8_addShifted_102 (fun x3 => ?_)
    refine pz_alen (t := 2) rfl dX8_addShifted_105 (fun x4 => ?_)
    refine pz_icmp_ge 151 dX8_addShifted_106 (by decide) ?_ ?_
    · exact pz_sub [0, 2] rfl (S_X8_addShifted_b151 X n l0 l7)
    · refine pz_aload_n 0 dX8_addShifted_109 rfl ?_
      refine pz_getR (ci := 8) (k := 0) ck_8 (by decide) (Or.inl pw_137) dX8_addShifted_110 (fun x5 => ?_)
      refine pz_iload 2 dX8_addShifted_113 rfl ?_
      refine pz_lald (t := 2) rfl dX8_addShifted_115 (fun x6 => ?_)
      refine pz_lload 1 dX8_addShifted_116 rfl ?_
      refine pz_ladd dX8_addShifted_118 ?_
      refine pz_nmL (fun l8_7 => ?_)
      refine pz_lstore [(8, .long l8_7), (0, va_rf l0), (5, .long l5), (7, .int l7)] dX8_addShifted_119 (by decide) rfl ?_
      refine pz_lload 0 dX8_addShifted_121 rfl ?_
      refine pz_ldc2 1000000000 dX8_addShifted_123 pw_582 ?_
      refine pz_ldiv dX8_addShifted_126 (fun x8 => ?_)
      refine pz_lstore [(5, .long x8), (8, .long l8_7), (0, va_rf l0), (7, .int l7)] dX8_addShifted_127 (by decide) rfl ?_
      refine pz_aload_n 2 dX8_addShifted_129 rfl ?_
      refine pz_getR (ci := 8) (k := 0) ck_8 (by decide) (Or.inl pw_137) dX8_addShifted_130 (fun x9 => ?_)
      refine pz_iload 3 dX8_addShifted_133 rfl ?_
      refine pz_lload 1 dX8_addShifted_135 rfl ?_
      refine pz_lload 0 dX8_addShifted_137 rfl ?_
      refine pz_ldc2 1000000000 dX8_addShifted_139 pw_582 ?_
      refine pz_lmul dX8_addShifted_142 ?_
      refine pz_lsub dX8_addShifted_143 ?_
      refine pz_last (t := 2) rfl dX8_addShifted_144 ?_
      refine pz_iinc 3 1 (fun l7_10 => [(7, .int l7_10), (5, .long x8), (8, .long l8_7), (0, va_rf l0)]) dX8_addShifted_145 rfl (by decide) (by decide) (fun l7_10 => rfl) (fun l7_10 => ?_)
      refine pz_goto 92 dX8_addShifted_148 (by decide) ?_
      exact pz_sub [3, 1, 0] rfl (hK92 x8 l7_10)
set_option maxRecDepth 20000 in
theorem S_X8_addShifted_L92 (X : pz_X) (n : Nat) (l0 : Option Nat) (l5 : Int64) (l7 : Int32) : pz_Sm X (pz_QM X) J_X8_addShifted pz_vU 92 [(0, va_rf l0), (5, .long l5), (7, .int l7)] [] (X8_addShifted_L92 n l0 l5 l7) :=
  pz_lp (L := fun (s : Int64 × Int32) => [(0, va_rf l0), (5, .long s.1), (7, .int s.2)]) (fun K hK s => S_X8_addShifted_L92_body X n l0 (fun l5 l7 => K (l5, l7)) (fun l5 l7 => hK (l5, l7)) s.1 s.2) n (l5, l7)
set_option maxRecDepth 20000 in
theorem S_X8_addShifted_L17_body (X : pz_X) (n : Nat) (l0 : Option Nat) (l1 : Option Nat) (l2 : Int64) (K17 : Int64 → Int32 → Int32 → pz_C Unit) (hK17 : ∀ (l5 : Int64) (l7 : Int32) (l8 : Int32), pz_Sm X (pz_QM X) J_X8_addShifted pz_vU 17 [(0, va_rf l0), (1, va_rf l1), (2, .long l2), (5, .long l5), (7, .int l7), (8, .int l8)] [] (K17 l5 l7 l8)) (l5 : Int64) (l7 : Int32) (l8 : Int32) : pz_Sm X (pz_QM X) J_X8_addShifted pz_vU 17 [(0, va_rf l0), (1, va_rf l1), (2, .long l2), (5, .long l5), (7, .int l7), (8, .int l8)] [] (X8_addShifted_L17_body n l0 l1 l2 K17 l5 l7 l8) := by
  unfold X8_addShifted_L17_body
  refine pz_iload 5 dX8_addShifted_17 rfl ?_
  refine pz_aload_n 1 dX8_addShifted_19 rfl ?_
  refine pz_getI (ci := 0) (k := 1) ck_0 (by decide) (Or.inl pw_92) dX8_addShifted_20 (fun x1 => ?_)
  refine pz_icmp_ge 92 dX8_addShifted_23 (by decide) ?_ ?_
  · exact pz_sub [0, 3, 4] rfl (S_X8_addShifted_L92 X n l0 l5 l7)
  · refine pz_iload 4 dX8_addShifted_26 rfl ?_
    refine pz_aload_n 0 dX8_addShifted_28 rfl ?_
    refine pz_getR (ci := 8) (k := 0) ck_8 (by decide) (Or.inl pw_137) dX8_addShifted_29 (fun x11 => ?_)
    refine pz_alen (t := 2) rfl dX8_addShifted_32 (fun x12 => ?_)
    refine pz_icmp_ge 92 dX8_addShifted_33 (by decide) ?_ ?_
    · exact pz_sub [0, 3, 4] rfl (S_X8_addShifted_L92 X n l0 l5 l7)
    · refine pz_aload_n 0 dX8_addShifted_36 rfl ?_
      refine pz_getR (ci := 8) (k := 0) ck_8 (by decide) (Or.inl pw_137) dX8_addShifted_37 (fun x13 => ?_)
      refine pz_iload 4 dX8_addShifted_40 rfl ?_
      refine pz_lald (t := 2) rfl dX8_addShifted_42 (fun x14 => ?_)
      refine pz_lload_n 2 dX8_addShifted_43 rfl ?_
      refine pz_aload_n 1 dX8_addShifted_44 rfl ?_
      refine pz_getR (ci := 0) (k := 0) ck_0 (by decide) (Or.inl pw_88) dX8_addShifted_45 (fun x15 => ?_)
      refine pz_iload 5 dX8_addShifted_48 rfl ?_
      refine pz_iald (t := 0) rfl dX8_addShifted_50 (fun x16 => ?_)
      refine pz_i2l dX8_addShifted_51 ?_
      refine pz_lmul dX8_addShifted_52 ?_
      refine pz_ladd dX8_addShifted_53 ?_
      refine pz_lload 3 dX8_addShifted_54 rfl ?_
      refine pz_ladd dX8_addShifted_56 ?_
      refine pz_nmL (fun l9_17 => ?_)
      refine pz_lstore [(9, .long l9_17), (0, va_rf l0), (1, va_rf l1), (2, .long l2), (5, .long l5), (7, .int l7), (8, .int l8)] dX8_addShifted_57 (by decide) rfl ?_
      refine pz_lload 0 dX8_addShifted_59 rfl ?_
      refine pz_ldc2 1000000000 dX8_addShifted_61 pw_582 ?_
      refine pz_ldiv dX8_addShifted_64 (fun x18 => ?_)
      refine pz_lstore [(5, .long x18), (9, .long l9_17), (0, va_rf l0), (1, va_rf l1), (2, .long l2), (7, .int l7), (8, .int l8)] dX8_addShifted_65 (by decide) rfl ?_
      refine pz_aload_n 2 dX8_addShifted_67 rfl ?_
      refine pz_getR (ci := 8) (k := 0) ck_8 (by decide) (Or.inl pw_137) dX8_addShifted_68 (fun x19 => ?_)
      refine pz_iload 5 dX8_addShifted_71 rfl ?_
      refine pz_lload 1 dX8_addShifted_73 rfl ?_
      refine pz_lload 0 dX8_addShifted_75 rfl ?_
      refine pz_ldc2 1000000000 dX8_addShifted_77 pw_582 ?_
      refine pz_lmul dX8_addShifted_80 ?_
      refine pz_lsub dX8_addShifted_81 ?_
      refine pz_last (t := 2) rfl dX8_addShifted_82 ?_
      refine pz_iinc 5 1 (fun l7_20 => [(7, .int l7_20), (5, .long x18), (9, .long l9_17), (0, va_rf l0), (1, va_rf l1), (2, .long l2), (8, .int l8)]) dX8_addShifted_83 rfl (by decide) (by decide) (fun l7_20 => rfl) (fun l7_20 => ?_)
      refine pz_iinc 6 1 (fun l8_21 => [(8, .int l8_21), (7, .int l7_20), (5, .long x18), (9, .long l9_17), (0, va_rf l0), (1, va_rf l1), (2, .long l2)]) dX8_addShifted_86 rfl (by decide) (by decide) (fun l8_21 => rfl) (fun l8_21 => ?_)
      refine pz_goto 17 dX8_addShifted_89 (by decide) ?_
      exact pz_sub [4, 5, 6, 2, 1, 0] rfl (hK17 x18 l7_20 l8_21)
set_option maxRecDepth 20000 in
theorem S_X8_addShifted_L17 (X : pz_X) (n : Nat) (l0 : Option Nat) (l1 : Option Nat) (l2 : Int64) (l5 : Int64) (l7 : Int32) (l8 : Int32) : pz_Sm X (pz_QM X) J_X8_addShifted pz_vU 17 [(0, va_rf l0), (1, va_rf l1), (2, .long l2), (5, .long l5), (7, .int l7), (8, .int l8)] [] (X8_addShifted_L17 n l0 l1 l2 l5 l7 l8) :=
  pz_lp (L := fun (s : Int64 × Int32 × Int32) => [(0, va_rf l0), (1, va_rf l1), (2, .long l2), (5, .long s.1), (7, .int s.2.1), (8, .int s.2.2)]) (fun K hK s => S_X8_addShifted_L17_body X n l0 l1 l2 (fun l5 l7 l8 => K (l5, l7, l8)) (fun l5 l7 l8 => hK (l5, l7, l8)) s.1 s.2.1 s.2.2) n (l5, l7, l8)
set_option maxRecDepth 20000 in
theorem S_X8_addShifted (X : pz_X) (n : Nat) (l0 : Option Nat) (l1 : Option Nat) (l2 : Int64) (l4 : Int32) : pz_Sm X (pz_QM X) J_X8_addShifted pz_vU 0 [(0, va_rf l0), (1, va_rf l1), (2, .long l2), (4, .int l4)] [] (X8_addShifted n l0 l1 l2 l4) := by
  unfold X8_addShifted
  refine pz_lload_n 2 dX8_addShifted_0 rfl ?_
  refine pz_lconst 0 dX8_addShifted_1 (by decide) ?_
  refine pz_lcmp dX8_addShifted_2 ?_
  refine pz_if_ne 7 dX8_addShifted_3 (by decide) ?_ ?_
  · exact pz_vret rfl dX8_addShifted_6
  · refine pz_lconst 0 dX8_addShifted_7 (by decide) ?_
    refine pz_lstore [(5, .long 0), (0, va_rf l0), (1, va_rf l1), (2, .long l2), (4, .int l4)] dX8_addShifted_8 (by decide) rfl ?_
    refine pz_iload 4 dX8_addShifted_10 rfl ?_
    refine pz_istore [(7, .int l4), (5, .long 0), (0, va_rf l0), (1, va_rf l1), (2, .long l2), (4, .int l4)] dX8_addShifted_12 (by decide) rfl ?_
    refine pz_iconst 0 dX8_addShifted_14 (by decide) ?_
    refine pz_istore [(8, .int 0), (7, .int l4), (5, .long 0), (0, va_rf l0), (1, va_rf l1), (2, .long l2), (4, .int l4)] dX8_addShifted_15 (by decide) rfl ?_
    exact pz_sub [3, 4, 5, 2, 1, 0] rfl (S_X8_addShifted_L17 X n l0 l1 l2 0 l4 0)
set_option maxRecDepth 20000 in
theorem md_X8_addShifted (X : pz_X) (n : Nat) (l0 : Option Nat) (l1 : Option Nat) (l2 : Int64) (l4 : Int32) : pz_Md X yX8_addShifted J_X8_addShifted pz_vU [va_rf l0, va_rf l1, .long l2, .int l4] (X8_addShifted n l0 l1 l2 l4) :=
  pz_md [(0, va_rf l0), (1, va_rf l1), (2, .long l2), (4, .int l4)] (by decide +kernel) rfl rfl (by cases l0 <;> cases l1 <;> rfl) (by cases l0 <;> cases l1 <;> exact Nat.le_of_ble_eq_true rfl) (fun X => S_X8_addShifted X n l0 l1 l2 l4)
set_option maxRecDepth 20000 in
theorem S_X8_addTimes_b52 (X : pz_X) (n : Nat) : pz_Sm X (pz_QM X) J_X8_addTimes pz_vU 52 [] [] (X8_addTimes_b52 n) := by
  unfold X8_addTimes_b52
  exact pz_vret rfl dX8_addTimes_52
set_option maxRecDepth 20000 in
theorem S_X8_addTimes_L12_body (X : pz_X) (n : Nat) (l0 : Option Nat) (l1 : Option Nat) (K12 : Int64 → Int32 → pz_C Unit) (hK12 : ∀ (l4 : Int64) (l6 : Int32), pz_Sm X (pz_QM X) J_X8_addTimes pz_vU 12 [(0, va_rf l0), (1, va_rf l1), (4, .long l4), (6, .int l6)] [] (K12 l4 l6)) (l4 : Int64) (l6 : Int32) : pz_Sm X (pz_QM X) J_X8_addTimes pz_vU 12 [(0, va_rf l0), (1, va_rf l1), (4, .long l4), (6, .int l6)] [] (X8_addTimes_L12_body n l0 l1 K12 l4 l6) := by
  unfold X8_addTimes_L12_body
  refine pz_iload 3 dX8_addTimes_12 rfl ?_
  refine pz_iconst 3 dX8_addTimes_14 (by decide) ?_
  refine pz_icmp_ge 52 dX8_addTimes_15 (by decide) ?_ ?_
  · exact pz_sub [] rfl (S_X8_addTimes_b52 X n)
  · refine pz_lload 2 dX8_addTimes_18 rfl ?_
    refine pz_lconst 0 dX8_addTimes_20 (by decide) ?_
    refine pz_lcmp dX8_addTimes_21 ?_
    refine pz_if_eq 52 dX8_addTimes_22 (by decide) ?_ ?_
    · exact pz_sub [] rfl (S_X8_addTimes_b52 X n)
    · refine pz_aload_n 0 dX8_addTimes_25 rfl ?_
      refine pz_aload_n 1 dX8_addTimes_26 rfl ?_
      refine pz_lload 2 dX8_addTimes_27 rfl ?_
      refine pz_ldc2 1000000000 dX8_addTimes_29 pw_582 ?_
      refine pz_lrem dX8_addTimes_32 (fun x3 => ?_)
      refine pz_iload 3 dX8_addTimes_33 rfl ?_
      refine pz_cvU (st := []) (md_X8_addShifted X n l0 l1 x3 l6) ck_8 rfl mk_X8_addShifted (Or.inl pw_583) pw_585 ps_7 rfl rfl (by decide) (by decide) (by decide) dX8_addTimes_35 (fun _ => ?_)
      refine pz_lload 2 dX8_addTimes_38 rfl ?_
      refine pz_ldc2 1000000000 dX8_addTimes_40 pw_582 ?_
      refine pz_ldiv dX8_addTimes_43 (fun x5 => ?_)
      refine pz_lstore [(4, .long x5), (0, va_rf l0), (1, va_rf l1), (6, .int l6)] dX8_addTimes_44 (by decide) rfl ?_
      refine pz_iinc 3 1 (fun l6_6 => [(6, .int l6_6), (4, .long x5), (0, va_rf l0), (1, va_rf l1)]) dX8_addTimes_46 rfl (by decide) (by decide) (fun l6_6 => rfl) (fun l6_6 => ?_)
      refine pz_goto 12 dX8_addTimes_49 (by decide) ?_
      exact pz_sub [2, 3, 1, 0] rfl (hK12 x5 l6_6)
set_option maxRecDepth 20000 in
theorem S_X8_addTimes_L12 (X : pz_X) (n : Nat) (l0 : Option Nat) (l1 : Option Nat) (l4 : Int64) (l6 : Int32) : pz_Sm X (pz_QM X) J_X8_addTimes pz_vU 12 [(0, va_rf l0), (1, va_rf l1), (4, .long l4), (6, .int l6)] [] (X8_addTimes_L12 n l0 l1 l4 l6) :=
  pz_lp (L := fun (s : Int64 × Int32) => [(0, va_rf l0), (1, va_rf l1), (4, .long s.1), (6, .int s.2)]) (fun K hK s => S_X8_addTimes_L12_body X n l0 l1 (fun l4 l6 => K (l4, l6)) (fun l4 l6 => hK (l4, l6)) s.1 s.2) n (l4, l6)
set_option maxRecDepth 20000 in
theorem S_X8_addTimes (X : pz_X) (n : Nat) (l0 : Option Nat) (l1 : Option Nat) (l2 : Int64) : pz_Sm X (pz_QM X) J_X8_addTimes pz_vU 0 [(0, va_rf l0), (1, va_rf l1), (2, .long l2)] [] (X8_addTimes n l0 l1 l2) := by
  unfold X8_addTimes
  refine pz_lload_n 2 dX8_addTimes_0 rfl ?_
  refine pz_aload_n 1 dX8_addTimes_1 rfl ?_
  refine pz_getI (ci := 0) (k := 2) ck_0 (by decide) (Or.inl pw_96) dX8_addTimes_2 (fun x1 => ?_)
  refine pz_i2l dX8_addTimes_5 ?_
  refine pz_lmul dX8_addTimes_6 ?_
  refine pz_nmL (fun l4_2 => ?_)
  refine pz_lstore [(4, .long l4_2), (0, va_rf l0), (1, va_rf l1), (2, .long l2)] dX8_addTimes_7 (by decide) rfl ?_
  refine pz_iconst 0 dX8_addTimes_9 (by decide) ?_
  refine pz_istore [(6, .int 0), (4, .long l4_2), (0, va_rf l0), (1, va_rf l1), (2, .long l2)] dX8_addTimes_10 (by decide) rfl ?_
  exact pz_sub [2, 3, 1, 0] rfl (S_X8_addTimes_L12 X n l0 l1 l4_2 0)
set_option maxRecDepth 20000 in
theorem md_X8_addTimes (X : pz_X) (n : Nat) (l0 : Option Nat) (l1 : Option Nat) (l2 : Int64) : pz_Md X yX8_addTimes J_X8_addTimes pz_vU [va_rf l0, va_rf l1, .long l2] (X8_addTimes n l0 l1 l2) :=
  pz_md [(0, va_rf l0), (1, va_rf l1), (2, .long l2)] (by decide +kernel) rfl rfl (by cases l0 <;> cases l1 <;> rfl) (by cases l0 <;> cases l1 <;> exact Nat.le_of_ble_eq_true rfl) (fun X => S_X8_addTimes X n l0 l1 l2)
set_option maxRecDepth 20000 in
theorem S_X8_signNow_b38 (X : pz_X) (n : Nat) (s0 : Int32) : pz_Sm X (pz_QM X) J_X8_signNow pz_vI 38 [] [.int s0] (X8_signNow_b38 n s0) := by
  unfold X8_signNow_b38
  exact pz_iret rfl dX8_signNow_38
set_option maxRecDepth 20000 in
theorem S_X8_signNow_L7_body (X : pz_X) (n : Nat) (l0 : Option Nat) (K7 : Int32 → pz_C Int32) (hK7 : ∀ (l1 : Int32), pz_Sm X (pz_QM X) J_X8_signNow pz_vI 7 [(0, va_rf l0), (1, .int l1)] [] (K7 l1)) (l1 : Int32) : pz_Sm X (pz_QM X) J_X8_signNow pz_vI 7 [(0, va_rf l0), (1, .int l1)] [] (X8_signNow_L7_body n l0 K7 l1) := by
  unfold X8_signNow_L7_body
  refine pz_iload_n 1 dX8_signNow_7 rfl ?_
  refine pz_if_lt 45 dX8_signNow_8 (by decide) ?_ ?_
  · refine pz_iconst 0 dX8_signNow_45 (by decide) ?_
    exact pz_iret rfl dX8_signNow_46
  · refine pz_aload_n 0 dX8_signNow_11 rfl ?_
    refine pz_getR (ci := 8) (k := 0) ck_8 (by decide) (Or.inl pw_137) dX8_signNow_12 (fun x3 => ?_)
    refine pz_iload_n 1 dX8_signNow_15 rfl ?_
    refine pz_lald (t := 2) rfl dX8_signNow_16 (fun x4 => ?_)
    refine pz_lconst 0 dX8_signNow_17 (by decide) ?_
    refine pz_lcmp dX8_signNow_18 ?_
    refine pz_if_eq 39 dX8_signNow_19 (by decide) ?_ ?_
    · refine pz_iinc 1 (-1) (fun l1_5 => [(1, .int l1_5), (0, va_rf l0)]) dX8_signNow_39 rfl (by decide) (by decide) (fun l1_5 => (by cases l0 <;> rfl)) (fun l1_5 => ?_)
      refine pz_goto 7 dX8_signNow_42 (by decide) ?_
      exact pz_sub [1, 0] rfl (hK7 l1_5)
    · refine pz_aload_n 0 dX8_signNow_22 rfl ?_
      refine pz_getR (ci := 8) (k := 0) ck_8 (by decide) (Or.inl pw_137) dX8_signNow_23 (fun x6 => ?_)
      refine pz_iload_n 1 dX8_signNow_26 rfl ?_
      refine pz_lald (t := 2) rfl dX8_signNow_27 (fun x7 => ?_)
      refine pz_lconst 0 dX8_signNow_28 (by decide) ?_
      refine pz_lcmp dX8_signNow_29 ?_
      refine pz_if_le 37 dX8_signNow_30 (by decide) ?_ ?_
      · refine pz_iconst (-1) dX8_signNow_37 (by decide) ?_
        exact pz_sub [] rfl (S_X8_signNow_b38 X n (-1))
      · refine pz_iconst 1 dX8_signNow_33 (by decide) ?_
        refine pz_goto 38 dX8_signNow_34 (by decide) ?_
        exact pz_sub [] rfl (S_X8_signNow_b38 X n 1)
set_option maxRecDepth 20000 in
theorem S_X8_signNow_L7 (X : pz_X) (n : Nat) (l0 : Option Nat) (l1 : Int32) : pz_Sm X (pz_QM X) J_X8_signNow pz_vI 7 [(0, va_rf l0), (1, .int l1)] [] (X8_signNow_L7 n l0 l1) :=
  pz_lp (L := fun (s : Int32) => [(0, va_rf l0), (1, .int s)]) (fun K hK s => S_X8_signNow_L7_body X n l0 (fun l1 => K l1) (fun l1 => hK l1) s) n l1
set_option maxRecDepth 20000 in
theorem S_X8_signNow (X : pz_X) (n : Nat) (l0 : Option Nat) : pz_Sm X (pz_QM X) J_X8_signNow pz_vI 0 [(0, va_rf l0)] [] (X8_signNow n l0) := by
  unfold X8_signNow
  refine pz_aload_n 0 dX8_signNow_0 rfl ?_
  refine pz_getI (ci := 8) (k := 1) ck_8 (by decide) (Or.inl pw_138) dX8_signNow_1 (fun x1 => ?_)
  refine pz_iconst 1 dX8_signNow_4 (by decide) ?_
  refine pz_isub dX8_signNow_5 ?_
  refine pz_nmI (fun l1_2 => ?_)
  refine pz_istore_n [(1, .int l1_2), (0, va_rf l0)] dX8_signNow_6 (by decide) (by cases l0 <;> rfl) ?_
  exact pz_sub [1, 0] rfl (S_X8_signNow_L7 X n l0 l1_2)
set_option maxRecDepth 20000 in
theorem md_X8_signNow (X : pz_X) (n : Nat) (l0 : Option Nat) : pz_Md X yX8_signNow J_X8_signNow pz_vI [va_rf l0] (X8_signNow n l0) :=
  pz_md [(0, va_rf l0)] (by decide +kernel) rfl rfl (by cases l0 <;> rfl) (by cases l0 <;> exact Nat.le_of_ble_eq_true rfl) (fun X => S_X8_signNow X n l0)
set_option maxRecDepth 20000 in
theorem S_X9_compareAmount (X : pz_X) (n : Nat) (l0 : Option Nat) (l1 : Int32) (l2 : Int64) : pz_Sm X (pz_QM X) J_X9_compareAmount pz_vI 0 [(0, va_rf l0), (1, .int l1), (2, .long l2)] [] (X9_compareAmount n l0 l1 l2) := by
  unfold X9_compareAmount
  refine pz_aload_n 0 dX9_compareAmount_0 rfl ?_
  refine pz_getR (ci := 9) (k := 0) ck_9 (by decide) (Or.inl pw_153) dX9_compareAmount_1 (fun x1 => ?_)
  refine pz_cvU (st := []) (md_X8_clear X n x1) ck_8 rfl mk_X8_clear (Or.inl pw_574) pw_575 pw_576 rfl rfl (by decide) (by decide) (by decide) dX9_compareAmount_4 (fun _ => ?_)
  refine pz_aload_n 0 dX9_compareAmount_7 rfl ?_
  refine pz_getR (ci := 9) (k := 0) ck_9 (by decide) (Or.inl pw_153) dX9_compareAmount_8 (fun x3 => ?_)
  refine pz_aload_n 0 dX9_compareAmount_11 rfl ?_
  refine pz_getR (ci := 9) (k := 3) ck_9 (by decide) (Or.inl pw_156) dX9_compareAmount_12 (fun x4 => ?_)
  refine pz_iload_n 1 dX9_compareAmount_15 rfl ?_
  refine pz_aald (t := 3) rfl rfl dX9_compareAmount_16 (fun x5 => ?_)
  refine pz_lconst 1 dX9_compareAmount_17 (by decide) ?_
  refine pz_cvU (st := []) (md_X8_addTimes X n x3 x5 1) ck_8 rfl mk_X8_addTimes (Or.inl pw_578) pw_579 pw_580 rfl rfl (by decide) (by decide) (by decide) dX9_compareAmount_18 (fun _ => ?_)
  refine pz_aload_n 0 dX9_compareAmount_21 rfl ?_
  refine pz_getR (ci := 9) (k := 0) ck_9 (by decide) (Or.inl pw_153) dX9_compareAmount_22 (fun x7 => ?_)
  refine pz_aload_n 0 dX9_compareAmount_25 rfl ?_
  refine pz_getR (ci := 9) (k := 9) ck_9 (by decide) (Or.inl pw_165) dX9_compareAmount_26 (fun x8 => ?_)
  refine pz_lload_n 2 dX9_compareAmount_29 rfl ?_
  refine pz_lneg dX9_compareAmount_30 ?_
  refine pz_cvU (st := []) (md_X8_addTimes X n x7 x8 (-l2)) ck_8 rfl mk_X8_addTimes (Or.inl pw_578) pw_579 pw_580 rfl rfl (by decide) (by decide) (by decide) dX9_compareAmount_31 (fun _ => ?_)
  refine pz_aload_n 0 dX9_compareAmount_34 rfl ?_
  refine pz_getR (ci := 9) (k := 0) ck_9 (by decide) (Or.inl pw_153) dX9_compareAmount_35 (fun x10 => ?_)
  refine pz_cvI (st := []) (md_X8_signNow X n x10) ck_8 rfl mk_X8_signNow (Or.inl pw_587) pw_588 pw_589 rfl rfl (by decide) (by decide) (by decide) dX9_compareAmount_38 (fun x11 => ?_)
  exact pz_iret rfl dX9_compareAmount_41
set_option maxRecDepth 20000 in
theorem md_X9_compareAmount (X : pz_X) (n : Nat) (l0 : Option Nat) (l1 : Int32) (l2 : Int64) : pz_Md X yX9_compareAmount J_X9_compareAmount pz_vI [va_rf l0, .int l1, .long l2] (X9_compareAmount n l0 l1 l2) :=
  pz_md [(0, va_rf l0), (1, .int l1), (2, .long l2)] (by decide +kernel) rfl rfl (by cases l0 <;> rfl) (by cases l0 <;> exact Nat.le_of_ble_eq_true rfl) (fun X => S_X9_compareAmount X n l0 l1 l2)
set_option maxRecDepth 20000 in
theorem S_X7_sideBeyond_b71 (X : pz_X) (n : Nat) (s0 : Int32) : pz_Sm X (pz_QM X) J_X7_sideBeyond pz_vI 71 [] [.int s0] (X7_sideBeyond_b71 n s0) := by
  unfold X7_sideBeyond_b71
  exact pz_iret rfl dX7_sideBeyond_71
set_option maxRecDepth 20000 in
theorem S_X7_sideBeyond_b70 (X : pz_X) (n : Nat) : pz_Sm X (pz_QM X) J_X7_sideBeyond pz_vI 70 [] [] (X7_sideBeyond_b70 n) := by
  unfold X7_sideBeyond_b70
  refine pz_iconst 0 dX7_sideBeyond_70 (by decide) ?_
  exact pz_sub [] rfl (S_X7_sideBeyond_b71 X n 0)
set_option maxRecDepth 20000 in
theorem S_X7_sideBeyond_b34 (X : pz_X) (n : Nat) (l0 : Option Nat) (l1 : Int32) (l2 : Int32) : pz_Sm X (pz_QM X) J_X7_sideBeyond pz_vI 34 [(0, va_rf l0), (1, .int l1), (2, .int l2)] [] (X7_sideBeyond_b34 n l0 l1 l2) := by
  unfold X7_sideBeyond_b34
  refine pz_aload_n 0 dX7_sideBeyond_34 rfl ?_
  refine pz_getR (ci := 7) (k := 3) ck_7 (by decide) (Or.inl pw_303) dX7_sideBeyond_35 (fun x4 => ?_)
  refine pz_getR (ci := 1) (k := 0) ck_1 (by decide) (Or.inl pw_281) dX7_sideBeyond_38 (fun x5 => ?_)
  refine pz_iload_n 1 dX7_sideBeyond_41 rfl ?_
  refine pz_zald (t := 1) rfl dX7_sideBeyond_42 (fun x6 => ?_)
  refine pz_if_eq 70 dX7_sideBeyond_43 (by decide) ?_ ?_
  · exact pz_sub [] rfl (S_X7_sideBeyond_b70 X n)
  · refine pz_aload_n 0 dX7_sideBeyond_46 rfl ?_
    refine pz_getR (ci := 7) (k := 1) ck_7 (by decide) (Or.inl pw_301) dX7_sideBeyond_47 (fun x7 => ?_)
    refine pz_iload_n 2 dX7_sideBeyond_50 rfl ?_
    refine pz_aload_n 0 dX7_sideBeyond_51 rfl ?_
    refine pz_getR (ci := 7) (k := 3) ck_7 (by decide) (Or.inl pw_303) dX7_sideBeyond_52 (fun x8 => ?_)
    refine pz_getR (ci := 1) (k := 2) ck_1 (by decide) (Or.inl pw_286) dX7_sideBeyond_55 (fun x9 => ?_)
    refine pz_iload_n 1 dX7_sideBeyond_58 rfl ?_
    refine pz_lald (t := 2) rfl dX7_sideBeyond_59 (fun x10 => ?_)
    refine pz_cvI (st := []) (md_X9_compareAmount X n x7 l2 x10) ck_9 rfl mk_X9_compareAmount (Or.inl pw_570) pw_571 pw_572 rfl rfl (by decide) (by decide) (by decide) dX7_sideBeyond_60 (fun x11 => ?_)
    refine pz_if_le 70 dX7_sideBeyond_63 (by decide) ?_ ?_
    · exact pz_sub [] rfl (S_X7_sideBeyond_b70 X n)
    · refine pz_iconst 1 dX7_sideBeyond_66 (by decide) ?_
      refine pz_goto 71 dX7_sideBeyond_67 (by decide) ?_
      exact pz_sub [] rfl (S_X7_sideBeyond_b71 X n 1)
set_option maxRecDepth 20000 in
theorem S_X7_sideBeyond (X : pz_X) (n : Nat) (l0 : Option Nat) (l1 : Int32) (l2 : Int32) : pz_Sm X (pz_QM X) J_X7_sideBeyond pz_vI 0 [(0, va_rf l0), (1, .int l1), (2, .int l2)] [] (X7_sideBeyond n l0 l1 l2) := by
  unfold X7_sideBeyond
  refine pz_aload_n 0 dX7_sideBeyond_0 rfl ?_
  refine pz_getR (ci := 7) (k := 3) ck_7 (by decide) (Or.inl pw_303) dX7_sideBeyond_1 (fun x1 => ?_)
  refine pz_getR (ci := 1) (k := 1) ck_1 (by decide) (Or.inl pw_284) dX7_sideBeyond_4 (fun x2 => ?_)
  refine pz_iload_n 1 dX7_sideBeyond_7 rfl ?_
  refine pz_zald (t := 1) rfl dX7_sideBeyond_8 (fun x3 => ?_)
  refine pz_if_eq 34 dX7_sideBeyond_9 (by decide) ?_ ?_
  · exact pz_sub [0, 1, 2] rfl (S_X7_sideBeyond_b34 X n l0 l1 l2)
  · refine pz_aload_n 0 dX7_sideBeyond_12 rfl ?_
    refine pz_getR (ci := 7) (k := 1) ck_7 (by decide) (Or.inl pw_301) dX7_sideBeyond_13 (fun x12 => ?_)
    refine pz_iload_n 2 dX7_sideBeyond_16 rfl ?_
    refine pz_aload_n 0 dX7_sideBeyond_17 rfl ?_
    refine pz_getR (ci := 7) (k := 3) ck_7 (by decide) (Or.inl pw_303) dX7_sideBeyond_18 (fun x13 => ?_)
    refine pz_getR (ci := 1) (k := 3) ck_1 (by decide) (Or.inl pw_289) dX7_sideBeyond_21 (fun x14 => ?_)
    refine pz_iload_n 1 dX7_sideBeyond_24 rfl ?_
    refine pz_lald (t := 2) rfl dX7_sideBeyond_25 (fun x15 => ?_)
    refine pz_cvI (st := []) (md_X9_compareAmount X n x12 l2 x15) ck_9 rfl mk_X9_compareAmount (Or.inl pw_570) pw_571 pw_572 rfl rfl (by decide) (by decide) (by decide) dX7_sideBeyond_26 (fun x16 => ?_)
    refine pz_if_ge 34 dX7_sideBeyond_29 (by decide) ?_ ?_
    · exact pz_sub [0, 1, 2] rfl (S_X7_sideBeyond_b34 X n l0 l1 l2)
    · refine pz_iconst (-1) dX7_sideBeyond_32 (by decide) ?_
      exact pz_iret rfl dX7_sideBeyond_33
set_option maxRecDepth 20000 in
theorem md_X7_sideBeyond (X : pz_X) (n : Nat) (l0 : Option Nat) (l1 : Int32) (l2 : Int32) : pz_Md X yX7_sideBeyond J_X7_sideBeyond pz_vI [va_rf l0, .int l1, .int l2] (X7_sideBeyond n l0 l1 l2) :=
  pz_md [(0, va_rf l0), (1, .int l1), (2, .int l2)] (by decide +kernel) rfl rfl (by cases l0 <;> rfl) (by cases l0 <;> exact Nat.le_of_ble_eq_true rfl) (fun X => S_X7_sideBeyond X n l0 l1 l2)
set_option maxRecDepth 20000 in
theorem S_X7_firstBeyond_b37 (X : pz_X) (n : Nat) (l0 : Option Nat) (K2 : Int32 → pz_C Int32) (hK2 : ∀ (l1 : Int32), pz_Sm X (pz_QM X) J_X7_firstBeyond pz_vI 2 [(0, va_rf l0), (1, .int l1)] [] (K2 l1)) (l1 : Int32) : pz_Sm X (pz_QM X) J_X7_firstBeyond pz_vI 37 [(0, va_rf l0), (1, .int l1)] [] (X7_firstBeyond_b37 n K2 l0 l1) := by
  unfold X7_firstBeyond_b37
  refine pz_iinc 1 1 (fun l1_5 => [(1, .int l1_5), (0, va_rf l0)]) dX7_firstBeyond_37 rfl (by decide) (by decide) (fun l1_5 => (by cases l0 <;> rfl)) (fun l1_5 => ?_)
  refine pz_goto 2 dX7_firstBeyond_40 (by decide) ?_
  exact pz_sub [1, 0] rfl (hK2 l1_5)
set_option maxRecDepth 20000 in
theorem S_X7_firstBeyond_L2_body (X : pz_X) (n : Nat) (l0 : Option Nat) (K2 : Int32 → pz_C Int32) (hK2 : ∀ (l1 : Int32), pz_Sm X (pz_QM X) J_X7_firstBeyond pz_vI 2 [(0, va_rf l0), (1, .int l1)] [] (K2 l1)) (l1 : Int32) : pz_Sm X (pz_QM X) J_X7_firstBeyond pz_vI 2 [(0, va_rf l0), (1, .int l1)] [] (X7_firstBeyond_L2_body n l0 K2 l1) := by
  unfold X7_firstBeyond_L2_body
  refine pz_iload_n 1 dX7_firstBeyond_2 rfl ?_
  refine pz_aload_n 0 dX7_firstBeyond_3 rfl ?_
  refine pz_getR (ci := 7) (k := 1) ck_7 (by decide) (Or.inl pw_301) dX7_firstBeyond_4 (fun x1 => ?_)
  refine pz_cvI (st := [.int l1]) (md_X9_places X n x1) ck_9 rfl mk_X9_places (Or.inl pw_558) pw_559 pw_560 rfl rfl (by simp [pz_rf1, pz_ci, pz_cl]) (by decide) (by decide) dX7_firstBeyond_7 (fun x2 => ?_)
  refine pz_icmp_ge 43 dX7_firstBeyond_10 (by decide) ?_ ?_
  · refine pz_bipush (-2) dX7_firstBeyond_43 (by decide) ?_
    exact pz_iret rfl dX7_firstBeyond_45
  · refine pz_aload_n 0 dX7_firstBeyond_13 rfl ?_
    refine pz_getR (ci := 7) (k := 1) ck_7 (by decide) (Or.inl pw_301) dX7_firstBeyond_14 (fun x3 => ?_)
    refine pz_iload_n 1 dX7_firstBeyond_17 rfl ?_
    refine pz_cvI (st := []) (md_X9_rowOf X n x3 l1) ck_9 rfl mk_X9_rowOf (Or.inl pw_562) pw_563 pw_564 rfl rfl (by decide) (by decide) (by decide) dX7_firstBeyond_18 (fun x4 => ?_)
    refine pz_istore_n [(2, .int x4), (0, va_rf l0), (1, .int l1)] dX7_firstBeyond_21 (by decide) rfl ?_
    refine pz_iload_n 0 dX7_firstBeyond_22 rfl ?_
    refine pz_if_lt 37 dX7_firstBeyond_23 (by decide) ?_ ?_
    · exact pz_sub [1, 2] rfl (S_X7_firstBeyond_b37 X n l0 K2 hK2 l1)
    · refine pz_aload_n 1 dX7_firstBeyond_26 rfl ?_
      refine pz_iload_n 2 dX7_firstBeyond_27 rfl ?_
      refine pz_iload_n 0 dX7_firstBeyond_28 rfl ?_
      refine pz_cvI (st := []) (md_X7_sideBeyond X n l0 l1 x4) ck_7 rfl mk_X7_sideBeyond (Or.inl pw_566) pw_568 ps_6 rfl rfl (by decide) (by decide) (by decide) dX7_firstBeyond_29 (fun x6 => ?_)
      refine pz_if_eq 37 dX7_firstBeyond_32 (by decide) ?_ ?_
      · exact pz_sub [1, 2] rfl (S_X7_firstBeyond_b37 X n l0 K2 hK2 l1)
      · refine pz_iload_n 2 dX7_firstBeyond_35 rfl ?_
        exact pz_iret rfl dX7_firstBeyond_36
set_option maxRecDepth 20000 in
theorem S_X7_firstBeyond_L2 (X : pz_X) (n : Nat) (l0 : Option Nat) (l1 : Int32) : pz_Sm X (pz_QM X) J_X7_firstBeyond pz_vI 2 [(0, va_rf l0), (1, .int l1)] [] (X7_firstBeyond_L2 n l0 l1) :=
  pz_lp (L := fun (s : Int32) => [(0, va_rf l0), (1, .int s)]) (fun K hK s => S_X7_firstBeyond_L2_body X n l0 (fun l1 => K l1) (fun l1 => hK l1) s) n l1
set_option maxRecDepth 20000 in
theorem S_X7_firstBeyond (X : pz_X) (n : Nat) (l0 : Option Nat) : pz_Sm X (pz_QM X) J_X7_firstBeyond pz_vI 0 [(0, va_rf l0)] [] (X7_firstBeyond n l0) := by
  unfold X7_firstBeyond
  refine pz_iconst 0 dX7_firstBeyond_0 (by decide) ?_
  refine pz_istore_n [(1, .int 0), (0, va_rf l0)] dX7_firstBeyond_1 (by decide) (by cases l0 <;> rfl) ?_
  exact pz_sub [1, 0] rfl (S_X7_firstBeyond_L2 X n l0 0)
set_option maxRecDepth 20000 in
theorem md_X7_firstBeyond (X : pz_X) (n : Nat) (l0 : Option Nat) : pz_Md X yX7_firstBeyond J_X7_firstBeyond pz_vI [va_rf l0] (X7_firstBeyond n l0) :=
  pz_md [(0, va_rf l0)] (by decide +kernel) rfl rfl (by cases l0 <;> rfl) (by cases l0 <;> exact Nat.le_of_ble_eq_true rfl) (fun X => S_X7_firstBeyond X n l0)
