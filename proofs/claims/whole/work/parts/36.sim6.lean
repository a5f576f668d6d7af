set_option maxRecDepth 20000 in
theorem S_X12_step_b69 (X : pz_X) (n : Nat) : pz_Sm X (pz_QM X) J_X12_step pz_vU 69 [] [] (X12_step_b69 n) := by
  unfold X12_step_b69
  exact pz_vret rfl dX12_step_69
set_option maxRecDepth 20000 in
theorem S_X12_step_b45 (X : pz_X) (n : Nat) : pz_Sm X (pz_QM X) J_X12_step pz_vU 45 [] [] (X12_step_b45 n) := by
  unfold X12_step_b45
  exact pz_vret rfl dX12_step_45
set_option maxRecDepth 20000 in
theorem S_X12_step (X : pz_X) (n : Nat) (l0 : Option Nat) : pz_Sm X (pz_QM X) J_X12_step pz_vU 0 [(0, va_rf l0)] [] (X12_step n l0) := by
  unfold X12_step
  refine pz_aload_n 0 dX12_step_0 rfl ?_
  refine pz_dup dX12_step_1 (pz_rf1 _) ?_
  refine pz_getI (ci := 12) (k := 8) ck_12 (by decide) (Or.inl pw_940) dX12_step_2 (fun x1 => ?_)
  refine pz_iconst 1 dX12_step_5 (by decide) ?_
  refine pz_iadd dX12_step_6 ?_
  refine pz_put (ci := 12) (k := 8) ck_12 (by decide) (Or.inl pw_940) (Or.inl rfl) rfl rfl dX12_step_7 ?_
  refine pz_aload_n 0 dX12_step_10 rfl ?_
  refine pz_cvI (st := []) (md_X12_wrongRow X n l0) ck_12 rfl mk_X12_wrongRow (Or.inl pw_1098) pw_1100 ps_38 rfl rfl (by decide) (by decide) (by decide) dX12_step_11 (fun x2 => ?_)
  refine pz_istore_n [(1, .int x2), (0, va_rf l0)] dX12_step_14 (by decide) (by cases l0 <;> rfl) ?_
  refine pz_iload_n 0 dX12_step_15 rfl ?_
  refine pz_iconst (-1) dX12_step_16 (by decide) ?_
  refine pz_icmp_eq 46 dX12_step_17 (by decide) ?_ ?_
  · refine pz_aload_n 1 dX12_step_46 rfl ?_
    refine pz_cvI (st := []) (md_X12_brokenVariable X n l0) ck_12 rfl mk_X12_brokenVariable (Or.inl pw_1220) pw_1222 ps_66 rfl rfl (by decide) (by decide) (by decide) dX12_step_47 (fun x3 => ?_)
    refine pz_istore_n [(2, .int x3), (1, .int x2), (0, va_rf l0)] dX12_step_50 (by decide) rfl ?_
    refine pz_iload_n 0 dX12_step_51 rfl ?_
    refine pz_iconst (-1) dX12_step_52 (by decide) ?_
    refine pz_icmp_eq 64 dX12_step_53 (by decide) ?_ ?_
    · refine pz_aload_n 2 dX12_step_64 rfl ?_
      refine pz_iconst 2 dX12_step_65 (by decide) ?_
      refine pz_put (ci := 12) (k := 7) ck_12 (by decide) (Or.inl pw_939) (Or.inl rfl) rfl rfl dX12_step_66 ?_
      exact pz_sub [] rfl (S_X12_step_b69 X n)
    · refine pz_aload_n 2 dX12_step_56 rfl ?_
      refine pz_iload_n 0 dX12_step_57 rfl ?_
      refine pz_cvU (st := []) (md_X12_split X n l0 x3) ck_12 rfl mk_X12_split (Or.inl pw_1227) pw_1229 ps_67 rfl rfl (by decide) (by decide) (by decide) dX12_step_58 (fun _ => ?_)
      refine pz_goto 69 dX12_step_61 (by decide) ?_
      exact pz_sub [] rfl (S_X12_step_b69 X n)
  · refine pz_aload_n 1 dX12_step_20 rfl ?_
    refine pz_iload_n 0 dX12_step_21 rfl ?_
    refine pz_cvI (st := []) (md_X12_columnFor X n l0 x2) ck_12 rfl mk_X12_columnFor (Or.inl pw_1158) pw_1160 ps_52 rfl rfl (by decide) (by decide) (by decide) dX12_step_22 (fun x5 => ?_)
    refine pz_istore_n [(2, .int x5), (1, .int x2), (0, va_rf l0)] dX12_step_25 (by decide) rfl ?_
    refine pz_iload_n 0 dX12_step_26 rfl ?_
    refine pz_iconst (-1) dX12_step_27 (by decide) ?_
    refine pz_icmp_eq 40 dX12_step_28 (by decide) ?_ ?_
    · refine pz_aload_n 2 dX12_step_40 rfl ?_
      refine pz_iload_n 1 dX12_step_41 rfl ?_
      refine pz_cvU (st := []) (md_X12_conflict X n l0 x2) ck_12 rfl mk_X12_conflict (Or.inl pw_1196) pw_1198 ps_61 rfl rfl (by decide) (by decide) (by decide) dX12_step_42 (fun _ => ?_)
      exact pz_sub [] rfl (S_X12_step_b45 X n)
    · refine pz_aload_n 2 dX12_step_31 rfl ?_
      refine pz_iload_n 1 dX12_step_32 rfl ?_
      refine pz_iload_n 0 dX12_step_33 rfl ?_
      refine pz_cvU (st := []) (md_X12_exchange X n l0 x2 x5) ck_12 rfl mk_X12_exchange (Or.inl pw_1166) pw_1168 ps_54 rfl rfl (by decide) (by decide) (by decide) dX12_step_34 (fun _ => ?_)
      refine pz_goto 45 dX12_step_37 (by decide) ?_
      exact pz_sub [] rfl (S_X12_step_b45 X n)
set_option maxRecDepth 20000 in
theorem md_X12_step (X : pz_X) (n : Nat) (l0 : Option Nat) : pz_Md X yX12_step J_X12_step pz_vU [va_rf l0] (X12_step n l0) :=
  pz_md [(0, va_rf l0)] (by decide +kernel) rfl rfl (by cases l0 <;> rfl) (by cases l0 <;> exact Nat.le_of_ble_eq_true rfl) (fun X => S_X12_step X n l0)
set_option maxRecDepth 20000 in
theorem S_X12_solve_b19 (X : pz_X) (n : Nat) : pz_Sm X (pz_QM X) J_X12_solve pz_vI 19 [] [] (X12_solve_b19 n) := by
  unfold X12_solve_b19
  refine pz_iconst (-1) dX12_solve_19 (by decide) ?_
  exact pz_iret rfl dX12_solve_20
set_option maxRecDepth 20000 in
theorem S_X12_solve_b57 (X : pz_X) (n : Nat) (l2 : Int32) : pz_Sm X (pz_QM X) J_X12_solve pz_vI 57 [(2, .int l2)] [] (X12_solve_b57 n l2) := by
  unfold X12_solve_b57
  refine pz_iload_n 0 dX12_solve_57 rfl ?_
  exact pz_iret rfl dX12_solve_58
set_option maxRecDepth 20000 in
theorem S_X12_solve_L34_body (X : pz_X) (n : Nat) (l0 : Option Nat) (l1 : Int32) (K34 : Int32 → pz_C Int32) (hK34 : ∀ (l2 : Int32), pz_Sm X (pz_QM X) J_X12_solve pz_vI 34 [(0, va_rf l0), (1, .int l1), (2, .int l2)] [] (K34 l2)) (l2 : Int32) : pz_Sm X (pz_QM X) J_X12_solve pz_vI 34 [(0, va_rf l0), (1, .int l1), (2, .int l2)] [] (X12_solve_L34_body n l0 l1 K34 l2) := by
  unfold X12_solve_L34_body
  refine pz_iload_n 2 dX12_solve_34 rfl ?_
  refine pz_iload_n 1 dX12_solve_35 rfl ?_
  refine pz_icmp_ge 57 dX12_solve_36 (by decide) ?_ ?_
  · exact pz_sub [2] rfl (S_X12_solve_b57 X n l2)
  · refine pz_aload_n 0 dX12_solve_39 rfl ?_
    refine pz_getI (ci := 12) (k := 7) ck_12 (by decide) (Or.inl pw_939) dX12_solve_40 (fun x4 => ?_)
    refine pz_iconst 1 dX12_solve_43 (by decide) ?_
    refine pz_icmp_ne 57 dX12_solve_44 (by decide) ?_ ?_
    · refine pz_aload_n 0 dX12_solve_47 rfl ?_
      refine pz_cvU (st := []) (md_X12_step X n l0) ck_12 rfl mk_X12_step (Or.inl pw_1094) pw_1096 ps_37 rfl rfl (by decide) (by decide) (by decide) dX12_solve_48 (fun _ => ?_)
      refine pz_iinc 2 1 (fun l2_6 => [(2, .int l2_6), (0, va_rf l0), (1, .int l1)]) dX12_solve_51 rfl (by decide) (by decide) (fun l2_6 => rfl) (fun l2_6 => ?_)
      refine pz_goto 34 dX12_solve_54 (by decide) ?_
      exact pz_sub [1, 2, 0] rfl (hK34 l2_6)
    · exact pz_sub [2] rfl (S_X12_solve_b57 X n l2)
set_option maxRecDepth 20000 in
theorem S_X12_solve_L34 (X : pz_X) (n : Nat) (l0 : Option Nat) (l1 : Int32) (l2 : Int32) : pz_Sm X (pz_QM X) J_X12_solve pz_vI 34 [(0, va_rf l0), (1, .int l1), (2, .int l2)] [] (X12_solve_L34 n l0 l1 l2) :=
  pz_lp (L := fun (s : Int32) => [(0, va_rf l0), (1, .int l1), (2, .int s)]) (fun K hK s => S_X12_solve_L34_body X n l0 l1 (fun l2 => K l2) (fun l2 => hK l2) s) n l2
set_option maxRecDepth 20000 in
theorem S_X12_solve_b32 (X : pz_X) (n : Nat) (l0 : Option Nat) (l1 : Int32) : pz_Sm X (pz_QM X) J_X12_solve pz_vI 32 [(0, va_rf l0), (1, .int l1)] [] (X12_solve_b32 n l0 l1) := by
  unfold X12_solve_b32
  refine pz_iconst 0 dX12_solve_32 (by decide) ?_
  refine pz_istore_n [(2, .int 0), (0, va_rf l0), (1, .int l1)] dX12_solve_33 (by decide) rfl ?_
  exact pz_sub [1, 2, 0] rfl (S_X12_solve_L34 X n l0 l1 0)
set_option maxRecDepth 20000 in
theorem S_X12_solve (X : pz_X) (n : Nat) (l0 : Option Nat) (l1 : Int32) : pz_Sm X (pz_QM X) J_X12_solve pz_vI 0 [(0, va_rf l0), (1, .int l1)] [] (X12_solve n l0 l1) := by
  unfold X12_solve
  refine pz_aload_n 0 dX12_solve_0 rfl ?_
  refine pz_getI (ci := 12) (k := 0) ck_12 (by decide) (Or.inl pw_932) dX12_solve_1 (fun x1 => ?_)
  refine pz_if_eq 19 dX12_solve_4 (by decide) ?_ ?_
  · exact pz_sub [] rfl (S_X12_solve_b19 X n)
  · refine pz_iload_n 1 dX12_solve_7 rfl ?_
    refine pz_iconst 1 dX12_solve_8 (by decide) ?_
    refine pz_icmp_lt 19 dX12_solve_9 (by decide) ?_ ?_
    · exact pz_sub [] rfl (S_X12_solve_b19 X n)
    · refine pz_iload_n 1 dX12_solve_12 rfl ?_
      refine pz_sipush 20000 dX12_solve_13 (by decide) ?_
      refine pz_icmp_le 21 dX12_solve_16 (by decide) ?_ ?_
      · refine pz_aload_n 0 dX12_solve_21 rfl ?_
        refine pz_getI (ci := 12) (k := 7) ck_12 (by decide) (Or.inl pw_939) dX12_solve_22 (fun x2 => ?_)
        refine pz_if_ne 32 dX12_solve_25 (by decide) ?_ ?_
        · refine pz_aload_n 0 dX12_solve_28 rfl ?_
          refine pz_cvU (st := []) (md_X12_begin X n l0) ck_12 rfl mk_X12_begin (Or.inl pw_1076) pw_1078 ps_35 rfl rfl (by decide) (by decide) (by decide) dX12_solve_29 (fun _ => ?_)
          exact pz_sub [0, 1] rfl (S_X12_solve_b32 X n l0 l1)
        · exact pz_sub [0, 1] rfl (S_X12_solve_b32 X n l0 l1)
      · exact pz_sub [] rfl (S_X12_solve_b19 X n)
set_option maxRecDepth 20000 in
theorem md_X12_solve (X : pz_X) (n : Nat) (l0 : Option Nat) (l1 : Int32) : pz_Md X yX12_solve J_X12_solve pz_vI [va_rf l0, .int l1] (X12_solve n l0 l1) :=
  pz_md [(0, va_rf l0), (1, .int l1)] (by decide +kernel) rfl rfl (by cases l0 <;> rfl) (by cases l0 <;> exact Nat.le_of_ble_eq_true rfl) (fun X => S_X12_solve X n l0 l1)
set_option maxRecDepth 20000 in
theorem S_X11_state (X : pz_X) (n : Nat) (l0 : Option Nat) (l1 : Int32) : pz_Sm X (pz_QM X) J_X11_state pz_vI 0 [(0, va_rf l0), (1, .int l1)] [] (X11_state n l0 l1) := by
  unfold X11_state
  refine pz_iload_n 1 dX11_state_0 rfl ?_
  refine pz_table 131 dX11_state_1 (by decide) (by decide) ⟨⟨52, (by decide), ?_⟩, ⟨60, (by decide), ?_⟩, ⟨68, (by decide), ?_⟩, ⟨76, (by decide), ?_⟩, ⟨84, (by decide), ?_⟩, ⟨92, (by decide), ?_⟩, ⟨107, (by decide), ?_⟩, ⟨115, (by decide), ?_⟩, ⟨123, (by decide), ?_⟩, trivial⟩ ?_
  · refine pz_aload_n 0 dX11_state_52 rfl ?_
    refine pz_getR (ci := 11) (k := 5) ck_11 (by decide) (Or.inl pw_405) dX11_state_53 (fun x1 => ?_)
    refine pz_getI (ci := 7) (k := 4) ck_7 (by decide) (Or.inl pw_305) dX11_state_56 (fun x2 => ?_)
    exact pz_iret rfl dX11_state_59
  · refine pz_aload_n 0 dX11_state_60 rfl ?_
    refine pz_getR (ci := 11) (k := 5) ck_11 (by decide) (Or.inl pw_405) dX11_state_61 (fun x3 => ?_)
    refine pz_getI (ci := 7) (k := 5) ck_7 (by decide) (Or.inl pw_307) dX11_state_64 (fun x4 => ?_)
    exact pz_iret rfl dX11_state_67
  · refine pz_aload_n 0 dX11_state_68 rfl ?_
    refine pz_getR (ci := 11) (k := 5) ck_11 (by decide) (Or.inl pw_405) dX11_state_69 (fun x5 => ?_)
    refine pz_getI (ci := 7) (k := 6) ck_7 (by decide) (Or.inl pw_309) dX11_state_72 (fun x6 => ?_)
    exact pz_iret rfl dX11_state_75
  · refine pz_aload_n 0 dX11_state_76 rfl ?_
    refine pz_getR (ci := 11) (k := 5) ck_11 (by decide) (Or.inl pw_405) dX11_state_77 (fun x7 => ?_)
    refine pz_getI (ci := 7) (k := 7) ck_7 (by decide) (Or.inl pw_311) dX11_state_80 (fun x8 => ?_)
    exact pz_iret rfl dX11_state_83
  · refine pz_aload_n 0 dX11_state_84 rfl ?_
    refine pz_getR (ci := 11) (k := 5) ck_11 (by decide) (Or.inl pw_405) dX11_state_85 (fun x9 => ?_)
    refine pz_getI (ci := 7) (k := 8) ck_7 (by decide) (Or.inl pw_313) dX11_state_88 (fun x10 => ?_)
    exact pz_iret rfl dX11_state_91
  · refine pz_aload_n 0 dX11_state_92 rfl ?_
    refine pz_getR (ci := 11) (k := 4) ck_11 (by decide) (Or.inl pw_404) dX11_state_93 (fun x11 => ?_)
    refine pz_aload_n 0 dX11_state_96 rfl ?_
    refine pz_getR (ci := 11) (k := 4) ck_11 (by decide) (Or.inl pw_404) dX11_state_97 (fun x12 => ?_)
    refine pz_getI (ci := 10) (k := 11) ck_10 (by decide) (Or.inl pw_241) dX11_state_100 (fun x13 => ?_)
    refine pz_cvI (st := []) (md_X10_splitsAbove X n x11 x13) ck_10 rfl mk_X10_splitsAbove (Or.inl pw_750) pw_666 pw_667 rfl rfl (by decide) (by decide) (by decide) dX11_state_103 (fun x14 => ?_)
    exact pz_iret rfl dX11_state_106
  · refine pz_aload_n 0 dX11_state_107 rfl ?_
    refine pz_getR (ci := 11) (k := 0) ck_11 (by decide) (Or.inl pw_400) dX11_state_108 (fun x15 => ?_)
    refine pz_getI (ci := 6) (k := 6) ck_6 (by decide) (Or.inl pw_56) dX11_state_111 (fun x16 => ?_)
    exact pz_iret rfl dX11_state_114
  · refine pz_aload_n 0 dX11_state_115 rfl ?_
    refine pz_getR (ci := 11) (k := 0) ck_11 (by decide) (Or.inl pw_400) dX11_state_116 (fun x17 => ?_)
    refine pz_getI (ci := 6) (k := 5) ck_6 (by decide) (Or.inl pw_50) dX11_state_119 (fun x18 => ?_)
    exact pz_iret rfl dX11_state_122
  · refine pz_aload_n 0 dX11_state_123 rfl ?_
    refine pz_getR (ci := 11) (k := 4) ck_11 (by decide) (Or.inl pw_404) dX11_state_124 (fun x19 => ?_)
    refine pz_getI (ci := 10) (k := 10) ck_10 (by decide) (Or.inl pw_238) dX11_state_127 (fun x20 => ?_)
    exact pz_iret rfl dX11_state_130
  · refine pz_iconst (-1) dX11_state_131 (by decide) ?_
    exact pz_iret rfl dX11_state_132
set_option maxRecDepth 20000 in
theorem md_X11_state (X : pz_X) (n : Nat) (l0 : Option Nat) (l1 : Int32) : pz_Md X yX11_state J_X11_state pz_vI [va_rf l0, .int l1] (X11_state n l0 l1) :=
  pz_md [(0, va_rf l0), (1, .int l1)] (by decide +kernel) rfl rfl (by cases l0 <;> rfl) (by cases l0 <;> exact Nat.le_of_ble_eq_true rfl) (fun X => S_X11_state X n l0 l1)
set_option maxRecDepth 20000 in
theorem S_X12_state (X : pz_X) (n : Nat) (l0 : Option Nat) (l1 : Int32) : pz_Sm X (pz_QM X) J_X12_state pz_vI 0 [(0, va_rf l0), (1, .int l1)] [] (X12_state n l0 l1) := by
  unfold X12_state
  refine pz_iload_n 1 dX12_state_0 rfl ?_
  refine pz_table 97 dX12_state_1 (by decide) (by decide) ⟨⟨52, (by decide), ?_⟩, ⟨57, (by decide), ?_⟩, ⟨62, (by decide), ?_⟩, ⟨67, (by decide), ?_⟩, ⟨72, (by decide), ?_⟩, ⟨77, (by decide), ?_⟩, ⟨82, (by decide), ?_⟩, ⟨87, (by decide), ?_⟩, ⟨92, (by decide), ?_⟩, trivial⟩ ?_
  · refine pz_aload_n 0 dX12_state_52 rfl ?_
    refine pz_getI (ci := 12) (k := 7) ck_12 (by decide) (Or.inl pw_939) dX12_state_53 (fun x1 => ?_)
    exact pz_iret rfl dX12_state_56
  · refine pz_aload_n 0 dX12_state_57 rfl ?_
    refine pz_getI (ci := 12) (k := 8) ck_12 (by decide) (Or.inl pw_940) dX12_state_58 (fun x2 => ?_)
    exact pz_iret rfl dX12_state_61
  · refine pz_aload_n 0 dX12_state_62 rfl ?_
    refine pz_getI (ci := 12) (k := 9) ck_12 (by decide) (Or.inl pw_941) dX12_state_63 (fun x3 => ?_)
    exact pz_iret rfl dX12_state_66
  · refine pz_aload_n 0 dX12_state_67 rfl ?_
    refine pz_getI (ci := 12) (k := 10) ck_12 (by decide) (Or.inl pw_942) dX12_state_68 (fun x4 => ?_)
    exact pz_iret rfl dX12_state_71
  · refine pz_aload_n 0 dX12_state_72 rfl ?_
    refine pz_getI (ci := 12) (k := 11) ck_12 (by decide) (Or.inl pw_943) dX12_state_73 (fun x5 => ?_)
    exact pz_iret rfl dX12_state_76
  · refine pz_aload_n 0 dX12_state_77 rfl ?_
    refine pz_getI (ci := 12) (k := 25) ck_12 (by decide) (Or.inl pw_957) dX12_state_78 (fun x6 => ?_)
    exact pz_iret rfl dX12_state_81
  · refine pz_aload_n 0 dX12_state_82 rfl ?_
    refine pz_getI (ci := 12) (k := 1) ck_12 (by decide) (Or.inl pw_933) dX12_state_83 (fun x7 => ?_)
    exact pz_iret rfl dX12_state_86
  · refine pz_aload_n 0 dX12_state_87 rfl ?_
    refine pz_getI (ci := 12) (k := 0) ck_12 (by decide) (Or.inl pw_932) dX12_state_88 (fun x8 => ?_)
    exact pz_iret rfl dX12_state_91
  · refine pz_aload_n 0 dX12_state_92 rfl ?_
    refine pz_getI (ci := 12) (k := 15) ck_12 (by decide) (Or.inl pw_947) dX12_state_93 (fun x9 => ?_)
    exact pz_iret rfl dX12_state_96
  · refine pz_iconst (-1) dX12_state_97 (by decide) ?_
    exact pz_iret rfl dX12_state_98
set_option maxRecDepth 20000 in
theorem md_X12_state (X : pz_X) (n : Nat) (l0 : Option Nat) (l1 : Int32) : pz_Md X yX12_state J_X12_state pz_vI [va_rf l0, .int l1] (X12_state n l0 l1) :=
  pz_md [(0, va_rf l0), (1, .int l1)] (by decide +kernel) rfl rfl (by cases l0 <;> rfl) (by cases l0 <;> exact Nat.le_of_ble_eq_true rfl) (fun X => S_X12_state X n l0 l1)
set_option maxRecDepth 20000 in
theorem S_X11_hasPlace_b38 (X : pz_X) (n : Nat) (s0 : Int32) : pz_Sm X (pz_QM X) J_X11_hasPlace pz_vI 38 [] [.int s0] (X11_hasPlace_b38 n s0) := by
  unfold X11_hasPlace_b38
  exact pz_zret rfl dX11_hasPlace_38
set_option maxRecDepth 20000 in
theorem S_X11_hasPlace_b37 (X : pz_X) (n : Nat) : pz_Sm X (pz_QM X) J_X11_hasPlace pz_vI 37 [] [] (X11_hasPlace_b37 n) := by
  unfold X11_hasPlace_b37
  refine pz_iconst 0 dX11_hasPlace_37 (by decide) ?_
  exact pz_sub [] rfl (S_X11_hasPlace_b38 X n 0)
set_option maxRecDepth 20000 in
theorem S_X11_hasPlace (X : pz_X) (n : Nat) (l0 : Option Nat) (l1 : Int32) : pz_Sm X (pz_QM X) J_X11_hasPlace pz_vI 0 [(0, va_rf l0), (1, .int l1)] [] (X11_hasPlace n l0 l1) := by
  unfold X11_hasPlace
  refine pz_aload_n 0 dX11_hasPlace_0 rfl ?_
  refine pz_getR (ci := 11) (k := 5) ck_11 (by decide) (Or.inl pw_405) dX11_hasPlace_1 (fun x1 => ?_)
  refine pz_getI (ci := 7) (k := 4) ck_7 (by decide) (Or.inl pw_305) dX11_hasPlace_4 (fun x2 => ?_)
  refine pz_if_eq 37 dX11_hasPlace_7 (by decide) ?_ ?_
  · exact pz_sub [] rfl (S_X11_hasPlace_b37 X n)
  · refine pz_iload_n 1 dX11_hasPlace_10 rfl ?_
    refine pz_if_lt 37 dX11_hasPlace_11 (by decide) ?_ ?_
    · exact pz_sub [] rfl (S_X11_hasPlace_b37 X n)
    · refine pz_iload_n 1 dX11_hasPlace_14 rfl ?_
      refine pz_aload_n 0 dX11_hasPlace_15 rfl ?_
      refine pz_getR (ci := 11) (k := 0) ck_11 (by decide) (Or.inl pw_400) dX11_hasPlace_16 (fun x3 => ?_)
      refine pz_getI (ci := 6) (k := 5) ck_6 (by decide) (Or.inl pw_50) dX11_hasPlace_19 (fun x4 => ?_)
      refine pz_aload_n 0 dX11_hasPlace_22 rfl ?_
      refine pz_getR (ci := 11) (k := 0) ck_11 (by decide) (Or.inl pw_400) dX11_hasPlace_23 (fun x5 => ?_)
      refine pz_getI (ci := 6) (k := 6) ck_6 (by decide) (Or.inl pw_56) dX11_hasPlace_26 (fun x6 => ?_)
      refine pz_iadd dX11_hasPlace_29 ?_
      refine pz_icmp_ge 37 dX11_hasPlace_30 (by decide) ?_ ?_
      · exact pz_sub [] rfl (S_X11_hasPlace_b37 X n)
      · refine pz_iconst 1 dX11_hasPlace_33 (by decide) ?_
        refine pz_goto 38 dX11_hasPlace_34 (by decide) ?_
        exact pz_sub [] rfl (S_X11_hasPlace_b38 X n 1)
set_option maxRecDepth 20000 in
theorem md_X11_hasPlace (X : pz_X) (n : Nat) (l0 : Option Nat) (l1 : Int32) : pz_Md X yX11_hasPlace J_X11_hasPlace pz_vI [va_rf l0, .int l1] (X11_hasPlace n l0 l1) :=
  pz_md [(0, va_rf l0), (1, .int l1)] (by decide +kernel) rfl rfl (by cases l0 <;> rfl) (by cases l0 <;> exact Nat.le_of_ble_eq_true rfl) (fun X => S_X11_hasPlace X n l0 l1)
set_option maxRecDepth 20000 in
theorem S_X11_basic_b26 (X : pz_X) (n : Nat) (s0 : Int32) : pz_Sm X (pz_QM X) J_X11_basic pz_vI 26 [] [.int s0] (X11_basic_b26 n s0) := by
  unfold X11_basic_b26
  exact pz_iret rfl dX11_basic_26
set_option maxRecDepth 20000 in
theorem S_X11_basic (X : pz_X) (n : Nat) (l0 : Option Nat) (l1 : Int32) : pz_Sm X (pz_QM X) J_X11_basic pz_vI 0 [(0, va_rf l0), (1, .int l1)] [] (X11_basic n l0 l1) := by
  unfold X11_basic
  refine pz_aload_n 0 dX11_basic_0 rfl ?_
  refine pz_iload_n 1 dX11_basic_1 rfl ?_
  refine pz_cvI (st := []) (md_X11_hasPlace X n l0 l1) ck_11 rfl mk_X11_hasPlace (Or.inl pw_755) pw_757 ps_19 rfl rfl (by decide) (by decide) (by decide) dX11_basic_2 (fun x1 => ?_)
  refine pz_if_ne 10 dX11_basic_5 (by decide) ?_ ?_
  · refine pz_iconst (-1) dX11_basic_8 (by decide) ?_
    exact pz_iret rfl dX11_basic_9
  · refine pz_aload_n 0 dX11_basic_10 rfl ?_
    refine pz_getR (ci := 11) (k := 3) ck_11 (by decide) (Or.inl pw_403) dX11_basic_11 (fun x2 => ?_)
    refine pz_iload_n 1 dX11_basic_14 rfl ?_
    refine pz_cvI (st := []) (md_X9_rowOf X n x2 l1) ck_9 rfl mk_X9_rowOf (Or.inl pw_759) pw_563 pw_564 rfl rfl (by decide) (by decide) (by decide) dX11_basic_15 (fun x3 => ?_)
    refine pz_if_lt 25 dX11_basic_18 (by decide) ?_ ?_
    · refine pz_iconst 0 dX11_basic_25 (by decide) ?_
      exact pz_sub [] rfl (S_X11_basic_b26 X n 0)
    · refine pz_iconst 1 dX11_basic_21 (by decide) ?_
      refine pz_goto 26 dX11_basic_22 (by decide) ?_
      exact pz_sub [] rfl (S_X11_basic_b26 X n 1)
set_option maxRecDepth 20000 in
theorem md_X11_basic (X : pz_X) (n : Nat) (l0 : Option Nat) (l1 : Int32) : pz_Md X yX11_basic J_X11_basic pz_vI [va_rf l0, .int l1] (X11_basic n l0 l1) :=
  pz_md [(0, va_rf l0), (1, .int l1)] (by decide +kernel) rfl rfl (by cases l0 <;> rfl) (by cases l0 <;> exact Nat.le_of_ble_eq_true rfl) (fun X => S_X11_basic X n l0 l1)
set_option maxRecDepth 20000 in
theorem S_X12_isPlace_b29 (X : pz_X) (n : Nat) (s0 : Int32) : pz_Sm X (pz_QM X) J_X12_isPlace pz_vI 29 [] [.int s0] (X12_isPlace_b29 n s0) := by
  unfold X12_isPlace_b29
  exact pz_zret rfl dX12_isPlace_29
set_option maxRecDepth 20000 in
theorem S_X12_isPlace_b28 (X : pz_X) (n : Nat) : pz_Sm X (pz_QM X) J_X12_isPlace pz_vI 28 [] [] (X12_isPlace_b28 n) := by
  unfold X12_isPlace_b28
  refine pz_iconst 0 dX12_isPlace_28 (by decide) ?_
  exact pz_sub [] rfl (S_X12_isPlace_b29 X n 0)
set_option maxRecDepth 20000 in
theorem S_X12_isPlace (X : pz_X) (n : Nat) (l0 : Option Nat) (l1 : Int32) : pz_Sm X (pz_QM X) J_X12_isPlace pz_vI 0 [(0, va_rf l0), (1, .int l1)] [] (X12_isPlace n l0 l1) := by
  unfold X12_isPlace
  refine pz_aload_n 0 dX12_isPlace_0 rfl ?_
  refine pz_getI (ci := 12) (k := 7) ck_12 (by decide) (Or.inl pw_939) dX12_isPlace_1 (fun x1 => ?_)
  refine pz_if_le 28 dX12_isPlace_4 (by decide) ?_ ?_
  · exact pz_sub [] rfl (S_X12_isPlace_b28 X n)
  · refine pz_iload_n 1 dX12_isPlace_7 rfl ?_
    refine pz_if_lt 28 dX12_isPlace_8 (by decide) ?_ ?_
    · exact pz_sub [] rfl (S_X12_isPlace_b28 X n)
    · refine pz_iload_n 1 dX12_isPlace_11 rfl ?_
      refine pz_aload_n 0 dX12_isPlace_12 rfl ?_
      refine pz_getI (ci := 12) (k := 0) ck_12 (by decide) (Or.inl pw_932) dX12_isPlace_13 (fun x2 => ?_)
      refine pz_aload_n 0 dX12_isPlace_16 rfl ?_
      refine pz_getI (ci := 12) (k := 1) ck_12 (by decide) (Or.inl pw_933) dX12_isPlace_17 (fun x3 => ?_)
      refine pz_iadd dX12_isPlace_20 ?_
      refine pz_icmp_ge 28 dX12_isPlace_21 (by decide) ?_ ?_
      · exact pz_sub [] rfl (S_X12_isPlace_b28 X n)
      · refine pz_iconst 1 dX12_isPlace_24 (by decide) ?_
        refine pz_goto 29 dX12_isPlace_25 (by decide) ?_
        exact pz_sub [] rfl (S_X12_isPlace_b29 X n 1)
set_option maxRecDepth 20000 in
theorem md_X12_isPlace (X : pz_X) (n : Nat) (l0 : Option Nat) (l1 : Int32) : pz_Md X yX12_isPlace J_X12_isPlace pz_vI [va_rf l0, .int l1] (X12_isPlace n l0 l1) :=
  pz_md [(0, va_rf l0), (1, .int l1)] (by decide +kernel) rfl rfl (by cases l0 <;> rfl) (by cases l0 <;> exact Nat.le_of_ble_eq_true rfl) (fun X => S_X12_isPlace X n l0 l1)
set_option maxRecDepth 20000 in
theorem S_X12_basic_b26 (X : pz_X) (n : Nat) (s0 : Int32) : pz_Sm X (pz_QM X) J_X12_basic pz_vI 26 [] [.int s0] (X12_basic_b26 n s0) := by
  unfold X12_basic_b26
  exact pz_iret rfl dX12_basic_26
set_option maxRecDepth 20000 in
theorem S_X12_basic (X : pz_X) (n : Nat) (l0 : Option Nat) (l1 : Int32) : pz_Sm X (pz_QM X) J_X12_basic pz_vI 0 [(0, va_rf l0), (1, .int l1)] [] (X12_basic n l0 l1) := by
  unfold X12_basic
  refine pz_aload_n 0 dX12_basic_0 rfl ?_
  refine pz_iload_n 1 dX12_basic_1 rfl ?_
  refine pz_cvI (st := []) (md_X12_isPlace X n l0 l1) ck_12 rfl mk_X12_isPlace (Or.inl pw_1240) pw_1242 ps_68 rfl rfl (by decide) (by decide) (by decide) dX12_basic_2 (fun x1 => ?_)
  refine pz_if_ne 12 dX12_basic_5 (by decide) ?_ ?_
  · refine pz_iconst (-1) dX12_basic_8 (by decide) ?_
    refine pz_goto 26 dX12_basic_9 (by decide) ?_
    exact pz_sub [] rfl (S_X12_basic_b26 X n (-1))
  · refine pz_aload_n 0 dX12_basic_12 rfl ?_
    refine pz_iload_n 1 dX12_basic_13 rfl ?_
    refine pz_cvI (st := []) (md_X12_rowOf X n l0 l1) ck_12 rfl mk_X12_rowOf (Or.inl pw_1102) pw_1104 ps_39 rfl rfl (by decide) (by decide) (by decide) dX12_basic_14 (fun x2 => ?_)
    refine pz_iconst (-1) dX12_basic_17 (by decide) ?_
    refine pz_icmp_eq 25 dX12_basic_18 (by decide) ?_ ?_
    · refine pz_iconst 0 dX12_basic_25 (by decide) ?_
      exact pz_sub [] rfl (S_X12_basic_b26 X n 0)
    · refine pz_iconst 1 dX12_basic_21 (by decide) ?_
      refine pz_goto 26 dX12_basic_22 (by decide) ?_
      exact pz_sub [] rfl (S_X12_basic_b26 X n 1)
set_option maxRecDepth 20000 in
theorem md_X12_basic (X : pz_X) (n : Nat) (l0 : Option Nat) (l1 : Int32) : pz_Md X yX12_basic J_X12_basic pz_vI [va_rf l0, .int l1] (X12_basic n l0 l1) :=
  pz_md [(0, va_rf l0), (1, .int l1)] (by decide +kernel) rfl rfl (by cases l0 <;> rfl) (by cases l0 <;> exact Nat.le_of_ble_eq_true rfl) (fun X => S_X12_basic X n l0 l1)
set_option maxRecDepth 20000 in
theorem S_X9_copyValue_b44 (X : pz_X) (n : Nat) : pz_Sm X (pz_QM X) J_X9_copyValue pz_vU 44 [] [] (X9_copyValue_b44 n) := by
  unfold X9_copyValue_b44
  exact pz_vret rfl dX9_copyValue_44
set_option maxRecDepth 20000 in
theorem S_X9_copyValue (X : pz_X) (n : Nat) (l0 : Option Nat) (l1 : Int32) (l2 : Option Nat) : pz_Sm X (pz_QM X) J_X9_copyValue pz_vU 0 [(0, va_rf l0), (1, .int l1), (2, va_rf l2)] [] (X9_copyValue n l0 l1 l2) := by
  unfold X9_copyValue
  refine pz_aload_n 0 dX9_copyValue_0 rfl ?_
  refine pz_iload_n 1 dX9_copyValue_1 rfl ?_
  refine pz_cvI (st := []) (md_X9_rowOf X n l0 l1) ck_9 rfl mk_X9_rowOf (Or.inl pw_768) pw_563 pw_564 rfl rfl (by decide) (by decide) (by decide) dX9_copyValue_2 (fun x1 => ?_)
  refine pz_istore_n [(3, .int x1), (0, va_rf l0), (1, .int l1), (2, va_rf l2)] dX9_copyValue_5 (by decide) (by cases l2 <;> rfl) ?_
  refine pz_iload_n 0 dX9_copyValue_6 rfl ?_
  refine pz_if_lt 28 dX9_copyValue_7 (by decide) ?_ ?_
  · refine pz_aload_n 3 dX9_copyValue_28 rfl ?_
    refine pz_aload_n 1 dX9_copyValue_29 rfl ?_
    refine pz_getR (ci := 9) (k := 4) ck_9 (by decide) (Or.inl pw_157) dX9_copyValue_30 (fun x2 => ?_)
    refine pz_aload_n 1 dX9_copyValue_33 rfl ?_
    refine pz_getR (ci := 9) (k := 7) ck_9 (by decide) (Or.inl pw_163) dX9_copyValue_34 (fun x3 => ?_)
    refine pz_iload_n 2 dX9_copyValue_37 rfl ?_
    refine pz_iald (t := 0) rfl dX9_copyValue_38 (fun x4 => ?_)
    refine pz_lald (t := 2) rfl dX9_copyValue_39 (fun x5 => ?_)
    refine pz_lconst 1 dX9_copyValue_40 (by decide) ?_
    refine pz_cvU (st := []) (md_X3_setSmall X n l2 x5 1) ck_3 rfl mk_X3_setSmall (Or.inl pw_770) pw_520 pw_521 rfl rfl (by decide) (by decide) (by decide) dX9_copyValue_41 (fun _ => ?_)
    exact pz_sub [] rfl (S_X9_copyValue_b44 X n)
  · refine pz_aload_n 3 dX9_copyValue_10 rfl ?_
    refine pz_aload_n 1 dX9_copyValue_11 rfl ?_
    refine pz_getR (ci := 9) (k := 3) ck_9 (by decide) (Or.inl pw_156) dX9_copyValue_12 (fun x7 => ?_)
    refine pz_iload_n 0 dX9_copyValue_15 rfl ?_
    refine pz_aald (t := 3) rfl rfl dX9_copyValue_16 (fun x8 => ?_)
    refine pz_aload_n 1 dX9_copyValue_17 rfl ?_
    refine pz_getR (ci := 9) (k := 9) ck_9 (by decide) (Or.inl pw_165) dX9_copyValue_18 (fun x9 => ?_)
    refine pz_iconst 1 dX9_copyValue_21 (by decide) ?_
    refine pz_cvU (st := []) (md_X3_setQuotient X n l2 x8 x9 1) ck_3 rfl mk_X3_setQuotient (Or.inl pw_769) pw_730 pw_731 rfl rfl (by decide) (by decide) (by decide) dX9_copyValue_22 (fun _ => ?_)
    refine pz_goto 44 dX9_copyValue_25 (by decide) ?_
    exact pz_sub [] rfl (S_X9_copyValue_b44 X n)
set_option maxRecDepth 20000 in
theorem md_X9_copyValue (X : pz_X) (n : Nat) (l0 : Option Nat) (l1 : Int32) (l2 : Option Nat) : pz_Md X yX9_copyValue J_X9_copyValue pz_vU [va_rf l0, .int l1, va_rf l2] (X9_copyValue n l0 l1 l2) :=
  pz_md [(0, va_rf l0), (1, .int l1), (2, va_rf l2)] (by decide +kernel) rfl rfl (by cases l0 <;> cases l2 <;> rfl) (by cases l0 <;> cases l2 <;> exact Nat.le_of_ble_eq_true rfl) (fun X => S_X9_copyValue X n l0 l1 l2)
set_option maxRecDepth 20000 in
theorem S_X2_smallDivisor_b44 (X : pz_X) (n : Nat) (l4 : Int64) : pz_Sm X (pz_QM X) J_X2_smallDivisor pz_vL 44 [(4, .long l4)] [] (X2_smallDivisor_b44 n l4) := by
  unfold X2_smallDivisor_b44
  refine pz_lload 0 dX2_smallDivisor_44 rfl ?_
  exact pz_lret rfl dX2_smallDivisor_46
set_option maxRecDepth 20000 in
theorem S_X2_smallDivisor_L9_body (X : pz_X) (n : Nat) (K9 : Int64 → Int64 → Int32 → pz_C Int64) (hK9 : ∀ (l4 : Int64) (l6 : Int64) (l8 : Int32), pz_Sm X (pz_QM X) J_X2_smallDivisor pz_vL 9 [(4, .long l4), (6, .long l6), (8, .int l8)] [] (K9 l4 l6 l8)) (l4 : Int64) (l6 : Int64) (l8 : Int32) : pz_Sm X (pz_QM X) J_X2_smallDivisor pz_vL 9 [(4, .long l4), (6, .long l6), (8, .int l8)] [] (X2_smallDivisor_L9_body n K9 l4 l6 l8) := by
  unfold X2_smallDivisor_L9_body
  refine pz_iload 2 dX2_smallDivisor_9 rfl ?_
  refine pz_ldc 1000000 dX2_smallDivisor_11 pw_784 ?_
  refine pz_icmp_ge 44 dX2_smallDivisor_13 (by decide) ?_ ?_
  · exact pz_sub [0] rfl (S_X2_smallDivisor_b44 X n l4)
  · refine pz_lload 1 dX2_smallDivisor_16 rfl ?_
    refine pz_lconst 0 dX2_smallDivisor_18 (by decide) ?_
    refine pz_lcmp dX2_smallDivisor_19 ?_
    refine pz_if_eq 44 dX2_smallDivisor_20 (by decide) ?_ ?_
    · exact pz_sub [0] rfl (S_X2_smallDivisor_b44 X n l4)
    · refine pz_lload 0 dX2_smallDivisor_23 rfl ?_
      refine pz_lload 1 dX2_smallDivisor_25 rfl ?_
      refine pz_lrem dX2_smallDivisor_27 (fun x1 => ?_)
      refine pz_lstore [(9, .long x1), (4, .long l4), (6, .long l6), (8, .int l8)] dX2_smallDivisor_28 (by decide) rfl ?_
      refine pz_lload 2 dX2_smallDivisor_30 rfl ?_
      refine pz_lstore [(4, .long l6), (9, .long x1), (6, .long l6), (8, .int l8)] dX2_smallDivisor_32 (by decide) rfl ?_
      refine pz_lload 1 dX2_smallDivisor_34 rfl ?_
      refine pz_lstore [(6, .long x1), (4, .long l6), (9, .long x1), (8, .int l8)] dX2_smallDivisor_36 (by decide) rfl ?_
      refine pz_iinc 3 1 (fun l8_2 => [(8, .int l8_2), (6, .long x1), (4, .long l6), (9, .long x1)]) dX2_smallDivisor_38 rfl (by decide) (by decide) (fun l8_2 => rfl) (fun l8_2 => ?_)
      refine pz_goto 9 dX2_smallDivisor_41 (by decide) ?_
      exact pz_sub [2, 1, 0] rfl (hK9 l6 x1 l8_2)
set_option maxRecDepth 20000 in
theorem S_X2_smallDivisor_L9 (X : pz_X) (n : Nat) (l4 : Int64) (l6 : Int64) (l8 : Int32) : pz_Sm X (pz_QM X) J_X2_smallDivisor pz_vL 9 [(4, .long l4), (6, .long l6), (8, .int l8)] [] (X2_smallDivisor_L9 n l4 l6 l8) :=
  pz_lp (L := fun (s : Int64 × Int64 × Int32) => [(4, .long s.1), (6, .long s.2.1), (8, .int s.2.2)]) (fun K hK s => S_X2_smallDivisor_L9_body X n (fun l4 l6 l8 => K (l4, l6, l8)) (fun l4 l6 l8 => hK (l4, l6, l8)) s.1 s.2.1 s.2.2) n (l4, l6, l8)
set_option maxRecDepth 20000 in
theorem S_X2_smallDivisor (X : pz_X) (n : Nat) (l0 : Int64) (l2 : Int64) : pz_Sm X (pz_QM X) J_X2_smallDivisor pz_vL 0 [(0, .long l0), (2, .long l2)] [] (X2_smallDivisor n l0 l2) := by
  unfold X2_smallDivisor
  refine pz_lload_n 0 dX2_smallDivisor_0 rfl ?_
  refine pz_lstore [(4, .long l0), (0, .long l0), (2, .long l2)] dX2_smallDivisor_1 (by decide) rfl ?_
  refine pz_lload_n 2 dX2_smallDivisor_3 rfl ?_
  refine pz_lstore [(6, .long l2), (4, .long l0), (0, .long l0), (2, .long l2)] dX2_smallDivisor_4 (by decide) rfl ?_
  refine pz_iconst 0 dX2_smallDivisor_6 (by decide) ?_
  refine pz_istore [(8, .int 0), (6, .long l2), (4, .long l0), (0, .long l0), (2, .long l2)] dX2_smallDivisor_7 (by decide) rfl ?_
  exact pz_sub [2, 1, 0] rfl (S_X2_smallDivisor_L9 X n l0 l2 0)
set_option maxRecDepth 20000 in
theorem md_X2_smallDivisor (X : pz_X) (n : Nat) (l0 : Int64) (l2 : Int64) : pz_Md X yX2_smallDivisor J_X2_smallDivisor pz_vL [.long l0, .long l2] (X2_smallDivisor n l0 l2) :=
  pz_md [(0, .long l0), (2, .long l2)] (by decide +kernel) rfl rfl (by rfl) (by exact Nat.le_of_ble_eq_true rfl) (fun X => S_X2_smallDivisor X n l0 l2)
set_option maxRecDepth 20000 in
theorem S_X2_commonDivisor_b112 (X : pz_X) (n : Nat) (l3 : Option Nat) : pz_Sm X (pz_QM X) J_X2_commonDivisor pz_vR 112 [(3, va_rf l3)] [] (X2_commonDivisor_b112 n l3) := by
  unfold X2_commonDivisor_b112
  refine pz_aload_n 0 dX2_commonDivisor_112 rfl ?_
  exact pz_aret rfl dX2_commonDivisor_113
set_option maxRecDepth 20000 in
theorem S_X2_commonDivisor_b80 (X : pz_X) (n : Nat) (l0 : Option Nat) (K30 : Option Nat → Option Nat → Int32 → pz_C (Option Nat)) (hK30 : ∀ (l3 : Option Nat) (l4 : Option Nat) (l5 : Int32), pz_Sm X (pz_QM X) J_X2_commonDivisor pz_vR 30 [(0, va_rf l0), (3, va_rf l3), (4, va_rf l4), (5, .int l5)] [] (K30 l3 l4 l5)) (l3 : Option Nat) (l4 : Option Nat) (l5 : Int32) : pz_Sm X (pz_QM X) J_X2_commonDivisor pz_vR 80 [(0, va_rf l0), (3, va_rf l3), (4, va_rf l4), (5, .int l5)] [] (X2_commonDivisor_b80 n K30 l0 l3 l4 l5) := by
  unfold X2_commonDivisor_b80
  refine pz_aload_n 0 dX2_commonDivisor_80 rfl ?_
  refine pz_aload_n 1 dX2_commonDivisor_81 rfl ?_
  refine pz_aload 2 dX2_commonDivisor_82 rfl ?_
  refine pz_cvU (st := []) (md_X2_divide X n l0 l3 l4) ck_2 rfl mk_X2_divide (Or.inl pw_789) pw_604 pw_605 rfl rfl (by decide) (by decide) (by decide) dX2_commonDivisor_84 (fun _ => ?_)
  refine pz_aload_n 1 dX2_commonDivisor_87 rfl ?_
  refine pz_aload_n 0 dX2_commonDivisor_88 rfl ?_
  refine pz_getR (ci := 2) (k := 1) ck_2 (by decide) (Or.inl pw_110) dX2_commonDivisor_89 (fun x9 => ?_)
  refine pz_iconst 1 dX2_commonDivisor_92 (by decide) ?_
  refine pz_cvU (st := []) (md_X0_set X n l3 x9 1) ck_0 rfl mk_X0_set (Or.inl pw_612) pw_613 pw_614 rfl rfl (by decide) (by decide) (by decide) dX2_commonDivisor_93 (fun _ => ?_)
  refine pz_aload_n 1 dX2_commonDivisor_96 rfl ?_
  refine pz_astore [(6, va_rf l3), (0, va_rf l0), (3, va_rf l3), (4, va_rf l4), (5, .int l5)] dX2_commonDivisor_97 (by decide) rfl ?_
  refine pz_aload 3 dX2_commonDivisor_99 rfl ?_
  refine pz_astore_n [(3, va_rf l4), (6, va_rf l3), (0, va_rf l0), (4, va_rf l4), (5, .int l5)] dX2_commonDivisor_101 (by decide) rfl ?_
  refine pz_aload 1 dX2_commonDivisor_102 rfl ?_
  refine pz_astore [(4, va_rf l3), (3, va_rf l4), (6, va_rf l3), (0, va_rf l0), (5, .int l5)] dX2_commonDivisor_104 (by decide) (by cases l4 <;> rfl) ?_
  refine pz_iinc 4 1 (fun l5_11 => [(5, .int l5_11), (4, va_rf l3), (3, va_rf l4), (6, va_rf l3), (0, va_rf l0)]) dX2_commonDivisor_106 rfl (by decide) (by decide) (fun l5_11 => (by cases l3 <;> rfl)) (fun l5_11 => ?_)
  refine pz_goto 30 dX2_commonDivisor_109 (by decide) ?_
  exact pz_sub [4, 2, 1, 0] rfl (hK30 l4 l3 l5_11)
set_option maxRecDepth 20000 in
theorem S_X2_commonDivisor_L30_body (X : pz_X) (n : Nat) (l0 : Option Nat) (K30 : Option Nat → Option Nat → Int32 → pz_C (Option Nat)) (hK30 : ∀ (l3 : Option Nat) (l4 : Option Nat) (l5 : Int32), pz_Sm X (pz_QM X) J_X2_commonDivisor pz_vR 30 [(0, va_rf l0), (3, va_rf l3), (4, va_rf l4), (5, .int l5)] [] (K30 l3 l4 l5)) (l3 : Option Nat) (l4 : Option Nat) (l5 : Int32) : pz_Sm X (pz_QM X) J_X2_commonDivisor pz_vR 30 [(0, va_rf l0), (3, va_rf l3), (4, va_rf l4), (5, .int l5)] [] (X2_commonDivisor_L30_body n l0 K30 l3 l4 l5) := by
  unfold X2_commonDivisor_L30_body
  refine pz_iload 3 dX2_commonDivisor_30 rfl ?_
  refine pz_ldc 1000000 dX2_commonDivisor_32 pw_784 ?_
  refine pz_icmp_ge 112 dX2_commonDivisor_34 (by decide) ?_ ?_
  · exact pz_sub [1] rfl (S_X2_commonDivisor_b112 X n l3)
  · refine pz_aload 2 dX2_commonDivisor_37 rfl ?_
    refine pz_getI (ci := 0) (k := 1) ck_0 (by decide) (Or.inl pw_89) dX2_commonDivisor_39 (fun x6 => ?_)
    refine pz_if_le 112 dX2_commonDivisor_42 (by decide) ?_ ?_
    · exact pz_sub [1] rfl (S_X2_commonDivisor_b112 X n l3)
    · refine pz_aload_n 1 dX2_commonDivisor_45 rfl ?_
      refine pz_getI (ci := 0) (k := 1) ck_0 (by decide) (Or.inl pw_89) dX2_commonDivisor_46 (fun x7 => ?_)
      refine pz_iconst 2 dX2_commonDivisor_49 (by decide) ?_
      refine pz_icmp_gt 80 dX2_commonDivisor_50 (by decide) ?_ ?_
      · exact pz_sub [0, 1, 2, 3] rfl (S_X2_commonDivisor_b80 X n l0 K30 hK30 l3 l4 l5)
      · refine pz_aload 2 dX2_commonDivisor_53 rfl ?_
        refine pz_getI (ci := 0) (k := 1) ck_0 (by decide) (Or.inl pw_89) dX2_commonDivisor_55 (fun x12 => ?_)
        refine pz_iconst 2 dX2_commonDivisor_58 (by decide) ?_
        refine pz_icmp_gt 80 dX2_commonDivisor_59 (by decide) ?_ ?_
        · exact pz_sub [0, 1, 2, 3] rfl (S_X2_commonDivisor_b80 X n l0 K30 hK30 l3 l4 l5)
        · refine pz_aload_n 1 dX2_commonDivisor_62 rfl ?_
          refine pz_aload_n 1 dX2_commonDivisor_63 rfl ?_
          refine pz_cvL (st := [va_rf l3]) (md_X0_lowPair X n l3) ck_0 rfl mk_X0_lowPair (Or.inl pw_785) pw_659 pw_660 rfl rfl (by simp [pz_rf1, pz_ci, pz_cl]) (by decide) (by decide) dX2_commonDivisor_64 (fun x13 => ?_)
          refine pz_aload 2 dX2_commonDivisor_67 rfl ?_
          refine pz_cvL (st := [.long x13, va_rf l3]) (md_X0_lowPair X n l4) ck_0 rfl mk_X0_lowPair (Or.inl pw_785) pw_659 pw_660 rfl rfl (by simp [pz_rf1, pz_ci, pz_cl]) (by decide) (by decide) dX2_commonDivisor_69 (fun x14 => ?_)
          refine pz_csL (st := [va_rf l3]) (md_X2_smallDivisor X n x13 x14) mk_X2_smallDivisor (Or.inl pw_786) pw_787 rfl rfl (by simp [pz_rf1, pz_ci, pz_cl]) (by decide) (by decide) dX2_commonDivisor_72 (fun x15 => ?_)
          refine pz_cvU (st := []) (md_X0_setLong X n l3 x15) ck_0 rfl mk_X0_setLong (Or.inl pw_607) pw_383 pw_384 rfl rfl (by decide) (by decide) (by decide) dX2_commonDivisor_75 (fun _ => ?_)
          refine pz_aload_n 1 dX2_commonDivisor_78 rfl ?_
          exact pz_aret rfl dX2_commonDivisor_79
set_option maxRecDepth 20000 in
theorem S_X2_commonDivisor_L30 (X : pz_X) (n : Nat) (l0 : Option Nat) (l3 : Option Nat) (l4 : Option Nat) (l5 : Int32) : pz_Sm X (pz_QM X) J_X2_commonDivisor pz_vR 30 [(0, va_rf l0), (3, va_rf l3), (4, va_rf l4), (5, .int l5)] [] (X2_commonDivisor_L30 n l0 l3 l4 l5) :=
  pz_lp (L := fun (s : Option Nat × Option Nat × Int32) => [(0, va_rf l0), (3, va_rf s.1), (4, va_rf s.2.1), (5, .int s.2.2)]) (fun K hK s => S_X2_commonDivisor_L30_body X n l0 (fun l3 l4 l5 => K (l3, l4, l5)) (fun l3 l4 l5 => hK (l3, l4, l5)) s.1 s.2.1 s.2.2) n (l3, l4, l5)
set_option maxRecDepth 20000 in
theorem S_X2_commonDivisor (X : pz_X) (n : Nat) (l0 : Option Nat) (l1 : Option Nat) (l2 : Option Nat) : pz_Sm X (pz_QM X) J_X2_commonDivisor pz_vR 0 [(0, va_rf l0), (1, va_rf l1), (2, va_rf l2)] [] (X2_commonDivisor n l0 l1 l2) := by
  unfold X2_commonDivisor
  refine pz_aload_n 0 dX2_commonDivisor_0 rfl ?_
  refine pz_getR (ci := 2) (k := 2) ck_2 (by decide) (Or.inl pw_113) dX2_commonDivisor_1 (fun x1 => ?_)
  refine pz_astore_n [(3, va_rf x1), (0, va_rf l0), (1, va_rf l1), (2, va_rf l2)] dX2_commonDivisor_4 (by decide) (by cases l2 <;> rfl) ?_
  refine pz_aload_n 1 dX2_commonDivisor_5 rfl ?_
  refine pz_getR (ci := 2) (k := 3) ck_2 (by decide) (Or.inl pw_114) dX2_commonDivisor_6 (fun x2 => ?_)
  refine pz_astore [(4, va_rf x2), (3, va_rf x1), (0, va_rf l0), (1, va_rf l1), (2, va_rf l2)] dX2_commonDivisor_9 (by decide) (by cases x1 <;> rfl) ?_
  refine pz_aload_n 1 dX2_commonDivisor_11 rfl ?_
  refine pz_aload_n 3 dX2_commonDivisor_12 rfl ?_
  refine pz_aload_n 3 dX2_commonDivisor_13 rfl ?_
  refine pz_getI (ci := 0) (k := 2) ck_0 (by decide) (Or.inl pw_95) dX2_commonDivisor_14 (fun x3 => ?_)
  refine pz_cvU (st := []) (md_X0_set X n x1 l1 x3) ck_0 rfl mk_X0_set (Or.inl pw_612) pw_613 pw_614 rfl rfl (by decide) (by decide) (by decide) dX2_commonDivisor_17 (fun _ => ?_)
  refine pz_aload 0 dX2_commonDivisor_20 rfl ?_
  refine pz_aload_n 4 dX2_commonDivisor_22 rfl ?_
  refine pz_iconst 1 dX2_commonDivisor_23 (by decide) ?_
  refine pz_cvU (st := []) (md_X0_set X n x2 l2 1) ck_0 rfl mk_X0_set (Or.inl pw_612) pw_613 pw_614 rfl rfl (by decide) (by decide) (by decide) dX2_commonDivisor_24 (fun _ => ?_)
  refine pz_iconst 0 dX2_commonDivisor_27 (by decide) ?_
  refine pz_istore [(5, .int 0), (4, va_rf x2), (3, va_rf x1), (0, va_rf l0), (1, va_rf l1), (2, va_rf l2)] dX2_commonDivisor_28 (by decide) (by cases x2 <;> rfl) ?_
  exact pz_sub [3, 2, 1, 0] rfl (S_X2_commonDivisor_L30 X n l0 x1 x2 0)
set_option maxRecDepth 20000 in
theorem md_X2_commonDivisor (X : pz_X) (n : Nat) (l0 : Option Nat) (l1 : Option Nat) (l2 : Option Nat) : pz_Md X yX2_commonDivisor J_X2_commonDivisor pz_vR [va_rf l0, va_rf l1, va_rf l2] (X2_commonDivisor n l0 l1 l2) :=
  pz_md [(0, va_rf l0), (1, va_rf l1), (2, va_rf l2)] (by decide +kernel) rfl rfl (by cases l0 <;> cases l1 <;> cases l2 <;> rfl) (by cases l0 <;> cases l1 <;> cases l2 <;> exact Nat.le_of_ble_eq_true rfl) (fun X => S_X2_commonDivisor X n l0 l1 l2)
set_option maxRecDepth 20000 in
theorem S_X2_reduce (X : pz_X) (n : Nat) (l0 : Option Nat) (l1 : Option Nat) : pz_Sm X (pz_QM X) J_X2_reduce pz_vU 0 [(0, va_rf l0), (1, va_rf l1)] [] (X2_reduce n l0 l1) := by
  unfold X2_reduce
  refine pz_aload_n 1 dX2_reduce_0 rfl ?_
  refine pz_getR (ci := 3) (k := 0) ck_3 (by decide) (Or.inl pw_389) dX2_reduce_1 (fun x1 => ?_)
  refine pz_getI (ci := 0) (k := 2) ck_0 (by decide) (Or.inl pw_95) dX2_reduce_4 (fun x2 => ?_)
  refine pz_if_ne 19 dX2_reduce_7 (by decide) ?_ ?_
  · refine pz_aload_n 1 dX2_reduce_10 rfl ?_
    refine pz_getR (ci := 3) (k := 1) ck_3 (by decide) (Or.inl pw_393) dX2_reduce_11 (fun x3 => ?_)
    refine pz_lconst 1 dX2_reduce_14 (by decide) ?_
    refine pz_cvU (st := []) (md_X0_setLong X n x3 1) ck_0 rfl mk_X0_setLong (Or.inl pw_607) pw_383 pw_384 rfl rfl (by decide) (by decide) (by decide) dX2_reduce_15 (fun _ => ?_)
    exact pz_vret rfl dX2_reduce_18
  · refine pz_aload_n 1 dX2_reduce_19 rfl ?_
    refine pz_getR (ci := 3) (k := 1) ck_3 (by decide) (Or.inl pw_393) dX2_reduce_20 (fun x5 => ?_)
    refine pz_cvI (st := []) (md_X0_isOne X n x5) ck_0 rfl mk_X0_isOne (Or.inl pw_779) pw_600 pw_601 rfl rfl (by decide) (by decide) (by decide) dX2_reduce_23 (fun x6 => ?_)
    refine pz_if_eq 30 dX2_reduce_26 (by decide) ?_ ?_
    · refine pz_aload_n 0 dX2_reduce_30 rfl ?_
      refine pz_aload_n 1 dX2_reduce_31 rfl ?_
      refine pz_getR (ci := 3) (k := 0) ck_3 (by decide) (Or.inl pw_389) dX2_reduce_32 (fun x7 => ?_)
      refine pz_aload_n 1 dX2_reduce_35 rfl ?_
      refine pz_getR (ci := 3) (k := 1) ck_3 (by decide) (Or.inl pw_393) dX2_reduce_36 (fun x8 => ?_)
      refine pz_cvR (st := []) (md_X2_commonDivisor X n l0 x7 x8) ck_2 rfl mk_X2_commonDivisor (Or.inl pw_780) pw_782 ps_21 rfl rfl (by decide) (by decide) (by decide) dX2_reduce_39 (fun x9 => ?_)
      refine pz_astore_n [(2, va_rf x9), (0, va_rf l0), (1, va_rf l1)] dX2_reduce_42 (by decide) (by cases l1 <;> rfl) ?_
      refine pz_aload_n 0 dX2_reduce_43 rfl ?_
      refine pz_cvI (st := []) (md_X0_isOne X n x9) ck_0 rfl mk_X0_isOne (Or.inl pw_779) pw_600 pw_601 rfl rfl (by decide) (by decide) (by decide) dX2_reduce_44 (fun x10 => ?_)
      refine pz_if_eq 51 dX2_reduce_47 (by decide) ?_ ?_
      · refine pz_aload_n 1 dX2_reduce_51 rfl ?_
        refine pz_getR (ci := 2) (k := 2) ck_2 (by decide) (Or.inl pw_113) dX2_reduce_52 (fun x11 => ?_)
        refine pz_aload_n 0 dX2_reduce_55 rfl ?_
        refine pz_iconst 1 dX2_reduce_56 (by decide) ?_
        refine pz_cvU (st := []) (md_X0_set X n x11 x9 1) ck_0 rfl mk_X0_set (Or.inl pw_612) pw_613 pw_614 rfl rfl (by decide) (by decide) (by decide) dX2_reduce_57 (fun _ => ?_)
        refine pz_aload_n 1 dX2_reduce_60 rfl ?_
        refine pz_aload_n 2 dX2_reduce_61 rfl ?_
        refine pz_getR (ci := 3) (k := 0) ck_3 (by decide) (Or.inl pw_389) dX2_reduce_62 (fun x13 => ?_)
        refine pz_aload_n 1 dX2_reduce_65 rfl ?_
        refine pz_getR (ci := 2) (k := 2) ck_2 (by decide) (Or.inl pw_113) dX2_reduce_66 (fun x14 => ?_)
        refine pz_cvU (st := []) (md_X2_divide X n l0 x13 x14) ck_2 rfl mk_X2_divide (Or.inl pw_789) pw_604 pw_605 rfl rfl (by decide) (by decide) (by decide) dX2_reduce_69 (fun _ => ?_)
        refine pz_aload_n 2 dX2_reduce_72 rfl ?_
        refine pz_getR (ci := 3) (k := 0) ck_3 (by decide) (Or.inl pw_389) dX2_reduce_73 (fun x16 => ?_)
        refine pz_aload_n 1 dX2_reduce_76 rfl ?_
        refine pz_getR (ci := 2) (k := 0) ck_2 (by decide) (Or.inl pw_108) dX2_reduce_77 (fun x17 => ?_)
        refine pz_aload_n 2 dX2_reduce_80 rfl ?_
        refine pz_getR (ci := 3) (k := 0) ck_3 (by decide) (Or.inl pw_389) dX2_reduce_81 (fun x18 => ?_)
        refine pz_getI (ci := 0) (k := 2) ck_0 (by decide) (Or.inl pw_95) dX2_reduce_84 (fun x19 => ?_)
        refine pz_cvU (st := []) (md_X0_set X n x16 x17 x19) ck_0 rfl mk_X0_set (Or.inl pw_612) pw_613 pw_614 rfl rfl (by decide) (by decide) (by decide) dX2_reduce_87 (fun _ => ?_)
        refine pz_aload_n 1 dX2_reduce_90 rfl ?_
        refine pz_aload_n 2 dX2_reduce_91 rfl ?_
        refine pz_getR (ci := 3) (k := 1) ck_3 (by decide) (Or.inl pw_393) dX2_reduce_92 (fun x21 => ?_)
        refine pz_aload_n 1 dX2_reduce_95 rfl ?_
        refine pz_getR (ci := 2) (k := 2) ck_2 (by decide) (Or.inl pw_113) dX2_reduce_96 (fun x22 => ?_)
        refine pz_cvU (st := []) (md_X2_divide X n l0 x21 x22) ck_2 rfl mk_X2_divide (Or.inl pw_789) pw_604 pw_605 rfl rfl (by decide) (by decide) (by decide) dX2_reduce_99 (fun _ => ?_)
        refine pz_aload_n 2 dX2_reduce_102 rfl ?_
        refine pz_getR (ci := 3) (k := 1) ck_3 (by decide) (Or.inl pw_393) dX2_reduce_103 (fun x24 => ?_)
        refine pz_aload_n 1 dX2_reduce_106 rfl ?_
        refine pz_getR (ci := 2) (k := 0) ck_2 (by decide) (Or.inl pw_108) dX2_reduce_107 (fun x25 => ?_)
        refine pz_iconst 1 dX2_reduce_110 (by decide) ?_
        refine pz_cvU (st := []) (md_X0_set X n x24 x25 1) ck_0 rfl mk_X0_set (Or.inl pw_612) pw_613 pw_614 rfl rfl (by decide) (by decide) (by decide) dX2_reduce_111 (fun _ => ?_)
        exact pz_vret rfl dX2_reduce_114
      · exact pz_vret rfl dX2_reduce_50
    · exact pz_vret rfl dX2_reduce_29
set_option maxRecDepth 20000 in
theorem md_X2_reduce (X : pz_X) (n : Nat) (l0 : Option Nat) (l1 : Option Nat) : pz_Md X yX2_reduce J_X2_reduce pz_vU [va_rf l0, va_rf l1] (X2_reduce n l0 l1) :=
  pz_md [(0, va_rf l0), (1, va_rf l1)] (by decide +kernel) rfl rfl (by cases l0 <;> cases l1 <;> rfl) (by cases l0 <;> cases l1 <;> exact Nat.le_of_ble_eq_true rfl) (fun X => S_X2_reduce X n l0 l1)
set_option maxRecDepth 20000 in
theorem S_X11_takeToHand (X : pz_X) (n : Nat) (l0 : Option Nat) : pz_Sm X (pz_QM X) J_X11_takeToHand pz_vI 0 [(0, va_rf l0)] [] (X11_takeToHand n l0) := by
  unfold X11_takeToHand
  refine pz_aload_n 0 dX11_takeToHand_0 rfl ?_
  refine pz_getR (ci := 11) (k := 1) ck_11 (by decide) (Or.inl pw_401) dX11_takeToHand_1 (fun x1 => ?_)
  refine pz_aload_n 0 dX11_takeToHand_4 rfl ?_
  refine pz_getR (ci := 11) (k := 8) ck_11 (by decide) (Or.inl pw_408) dX11_takeToHand_5 (fun x2 => ?_)
  refine pz_cvU (st := []) (md_X2_reduce X n x1 x2) ck_2 rfl mk_X2_reduce (Or.inl pw_775) pw_776 pw_777 rfl rfl (by decide) (by decide) (by decide) dX11_takeToHand_8 (fun _ => ?_)
  refine pz_aload_n 0 dX11_takeToHand_11 rfl ?_
  refine pz_iconst 1 dX11_takeToHand_12 (by decide) ?_
  refine pz_bool (fun hz4 => ?_)
  refine pz_put (ci := 11) (k := 9) ck_11 (by decide) (Or.inl pw_409) (Or.inl rfl) (pz_nz hz4) (pz_fz hz4) dX11_takeToHand_13 ?_
  refine pz_aload_n 0 dX11_takeToHand_16 rfl ?_
  refine pz_getR (ci := 11) (k := 8) ck_11 (by decide) (Or.inl pw_408) dX11_takeToHand_17 (fun x5 => ?_)
  refine pz_getR (ci := 3) (k := 0) ck_3 (by decide) (Or.inl pw_390) dX11_takeToHand_20 (fun x6 => ?_)
  refine pz_getI (ci := 0) (k := 2) ck_0 (by decide) (Or.inl pw_100) dX11_takeToHand_23 (fun x7 => ?_)
  exact pz_iret rfl dX11_takeToHand_26
set_option maxRecDepth 20000 in
theorem md_X11_takeToHand (X : pz_X) (n : Nat) (l0 : Option Nat) : pz_Md X yX11_takeToHand J_X11_takeToHand pz_vI [va_rf l0] (X11_takeToHand n l0) :=
  pz_md [(0, va_rf l0)] (by decide +kernel) rfl rfl (by cases l0 <;> rfl) (by cases l0 <;> exact Nat.le_of_ble_eq_true rfl) (fun X => S_X11_takeToHand X n l0)
set_option maxRecDepth 20000 in
theorem S_X11_value (X : pz_X) (n : Nat) (l0 : Option Nat) (l1 : Int32) : pz_Sm X (pz_QM X) J_X11_value pz_vI 0 [(0, va_rf l0), (1, .int l1)] [] (X11_value n l0 l1) := by
  unfold X11_value
  refine pz_aload_n 0 dX11_value_0 rfl ?_
  refine pz_iload_n 1 dX11_value_1 rfl ?_
  refine pz_cvI (st := []) (md_X11_hasPlace X n l0 l1) ck_11 rfl mk_X11_hasPlace (Or.inl pw_755) pw_757 ps_19 rfl rfl (by decide) (by decide) (by decide) dX11_value_2 (fun x1 => ?_)
  refine pz_if_ne 11 dX11_value_5 (by decide) ?_ ?_
  · refine pz_bipush (-4) dX11_value_8 (by decide) ?_
    exact pz_iret rfl dX11_value_10
  · refine pz_aload_n 0 dX11_value_11 rfl ?_
    refine pz_getR (ci := 11) (k := 3) ck_11 (by decide) (Or.inl pw_403) dX11_value_12 (fun x2 => ?_)
    refine pz_iload_n 1 dX11_value_15 rfl ?_
    refine pz_aload_n 0 dX11_value_16 rfl ?_
    refine pz_getR (ci := 11) (k := 8) ck_11 (by decide) (Or.inl pw_408) dX11_value_17 (fun x3 => ?_)
    refine pz_cvU (st := []) (md_X9_copyValue X n x2 l1 x3) ck_9 rfl mk_X9_copyValue (Or.inl pw_764) pw_765 pw_766 rfl rfl (by decide) (by decide) (by decide) dX11_value_20 (fun _ => ?_)
    refine pz_aload_n 0 dX11_value_23 rfl ?_
    refine pz_cvI (st := []) (md_X11_takeToHand X n l0) ck_11 rfl mk_X11_takeToHand (Or.inl pw_771) pw_773 ps_20 rfl rfl (by decide) (by decide) (by decide) dX11_value_24 (fun x5 => ?_)
    exact pz_iret rfl dX11_value_27
set_option maxRecDepth 20000 in
theorem md_X11_value (X : pz_X) (n : Nat) (l0 : Option Nat) (l1 : Int32) : pz_Md X yX11_value J_X11_value pz_vI [va_rf l0, .int l1] (X11_value n l0 l1) :=
  pz_md [(0, va_rf l0), (1, .int l1)] (by decide +kernel) rfl rfl (by cases l0 <;> rfl) (by cases l0 <;> exact Nat.le_of_ble_eq_true rfl) (fun X => S_X11_value X n l0 l1)
set_option maxRecDepth 20000 in
theorem S_X12_hand (X : pz_X) (n : Nat) (l0 : Option Nat) (l1 : Int32) (l2 : Int32) : pz_Sm X (pz_QM X) J_X12_hand pz_vI 0 [(0, va_rf l0), (1, .int l1), (2, .int l2)] [] (X12_hand n l0 l1 l2) := by
  unfold X12_hand
  refine pz_aload_n 0 dX12_hand_0 rfl ?_
  refine pz_getI (ci := 12) (k := 35) ck_12 (by decide) (Or.inl pw_967) dX12_hand_1 (fun x1 => ?_)
  refine pz_istore_n [(3, .int x1), (0, va_rf l0), (1, .int l1), (2, .int l2)] dX12_hand_4 (by decide) rfl ?_
  refine pz_aload_n 1 dX12_hand_5 rfl ?_
  refine pz_iload_n 2 dX12_hand_6 rfl ?_
  refine pz_iload_n 3 dX12_hand_7 rfl ?_
  refine pz_cvI (st := []) (md_X12_gcd X n l0 l1 l2) ck_12 rfl mk_X12_gcd (Or.inl pw_1208) pw_1210 ps_64 rfl rfl (by decide) (by decide) (by decide) dX12_hand_8 (fun x2 => ?_)
  refine pz_istore [(4, .int x2), (3, .int x1), (0, va_rf l0), (1, .int l1), (2, .int l2)] dX12_hand_11 (by decide) rfl ?_
  refine pz_aload_n 2 dX12_hand_13 rfl ?_
  refine pz_aload_n 2 dX12_hand_14 rfl ?_
  refine pz_iload_n 3 dX12_hand_15 rfl ?_
  refine pz_iload 0 dX12_hand_16 rfl ?_
  refine pz_cvI (st := [va_rf l0]) (md_X12_over X n l0 l1 x2) ck_12 rfl mk_X12_over (Or.inl pw_1178) pw_1180 ps_57 rfl rfl (by simp [pz_rf1, pz_ci, pz_cl]) (by decide) (by decide) dX12_hand_18 (fun x3 => ?_)
  refine pz_ldcw 115456 dX12_hand_21 pw_1252 ?_
  refine pz_cvU (st := []) (md_X12_copyTo X n l0 x3 115456) ck_12 rfl mk_X12_copyTo (Or.inl pw_924) pw_926 ps_31 rfl rfl (by decide) (by decide) (by decide) dX12_hand_24 (fun _ => ?_)
  refine pz_aload_n 2 dX12_hand_27 rfl ?_
  refine pz_aload_n 2 dX12_hand_28 rfl ?_
  refine pz_iload_n 4 dX12_hand_29 rfl ?_
  refine pz_iload 0 dX12_hand_30 rfl ?_
  refine pz_cvI (st := [va_rf l0]) (md_X12_over X n l0 l2 x2) ck_12 rfl mk_X12_over (Or.inl pw_1178) pw_1180 ps_57 rfl rfl (by simp [pz_rf1, pz_ci, pz_cl]) (by decide) (by decide) dX12_hand_32 (fun x5 => ?_)
  refine pz_ldcw 115756 dX12_hand_35 pw_1253 ?_
  refine pz_cvU (st := []) (md_X12_copyTo X n l0 x5 115756) ck_12 rfl mk_X12_copyTo (Or.inl pw_924) pw_926 ps_31 rfl rfl (by decide) (by decide) (by decide) dX12_hand_38 (fun _ => ?_)
  refine pz_aload_n 2 dX12_hand_41 rfl ?_
  refine pz_iload_n 1 dX12_hand_42 rfl ?_
  refine pz_put (ci := 12) (k := 35) ck_12 (by decide) (Or.inl pw_967) (Or.inl rfl) rfl rfl dX12_hand_43 ?_
  refine pz_aload_n 2 dX12_hand_46 rfl ?_
  refine pz_iconst 1 dX12_hand_47 (by decide) ?_
  refine pz_bool (fun hz7 => ?_)
  refine pz_put (ci := 12) (k := 28) ck_12 (by decide) (Or.inl pw_960) (Or.inl rfl) (pz_nz hz7) (pz_fz hz7) dX12_hand_48 ?_
  refine pz_aload_n 2 dX12_hand_51 rfl ?_
  refine pz_ldcw 115456 dX12_hand_52 pw_1252 ?_
  refine pz_cvI (st := []) (md_X12_sgn X n l0 115456) ck_12 rfl mk_X12_sgn (Or.inl pw_1122) pw_1124 ps_44 rfl rfl (by decide) (by decide) (by decide) dX12_hand_55 (fun x8 => ?_)
  exact pz_iret rfl dX12_hand_58
set_option maxRecDepth 20000 in
theorem md_X12_hand (X : pz_X) (n : Nat) (l0 : Option Nat) (l1 : Int32) (l2 : Int32) : pz_Md X yX12_hand J_X12_hand pz_vI [va_rf l0, .int l1, .int l2] (X12_hand n l0 l1 l2) :=
  pz_md [(0, va_rf l0), (1, .int l1), (2, .int l2)] (by decide +kernel) rfl rfl (by cases l0 <;> rfl) (by cases l0 <;> exact Nat.le_of_ble_eq_true rfl) (fun X => S_X12_hand X n l0 l1 l2)
set_option maxRecDepth 20000 in
theorem S_X12_value_b53 (X : pz_X) (n : Nat) (l0 : Option Nat) (l2 : Int32) (s0 : Int32) : pz_Sm X (pz_QM X) J_X12_value pz_vI 53 [(0, va_rf l0), (2, .int l2)] [.int s0] (X12_value_b53 n l0 l2 s0) := by
  unfold X12_value_b53
  refine pz_istore [(4, .int s0), (0, va_rf l0), (2, .int l2)] dX12_value_53 (by decide) rfl ?_
  refine pz_aload_n 1 dX12_value_55 rfl ?_
  refine pz_iload_n 2 dX12_value_56 rfl ?_
  refine pz_put (ci := 12) (k := 35) ck_12 (by decide) (Or.inl pw_967) (Or.inl rfl) rfl rfl dX12_value_57 ?_
  refine pz_iload 0 dX12_value_60 rfl ?_
  exact pz_iret rfl dX12_value_62
set_option maxRecDepth 20000 in
theorem S_X12_value (X : pz_X) (n : Nat) (l0 : Option Nat) (l1 : Int32) : pz_Sm X (pz_QM X) J_X12_value pz_vI 0 [(0, va_rf l0), (1, .int l1)] [] (X12_value n l0 l1) := by
  unfold X12_value
  refine pz_aload_n 0 dX12_value_0 rfl ?_
  refine pz_iload_n 1 dX12_value_1 rfl ?_
  refine pz_cvI (st := []) (md_X12_isPlace X n l0 l1) ck_12 rfl mk_X12_isPlace (Or.inl pw_1240) pw_1242 ps_68 rfl rfl (by decide) (by decide) (by decide) dX12_value_2 (fun x1 => ?_)
  refine pz_if_ne 11 dX12_value_5 (by decide) ?_ ?_
  · refine pz_bipush (-4) dX12_value_8 (by decide) ?_
    exact pz_iret rfl dX12_value_10
  · refine pz_aload_n 0 dX12_value_11 rfl ?_
    refine pz_getI (ci := 12) (k := 35) ck_12 (by decide) (Or.inl pw_967) dX12_value_12 (fun x2 => ?_)
    refine pz_istore_n [(2, .int x2), (0, va_rf l0), (1, .int l1)] dX12_value_15 (by decide) rfl ?_
    refine pz_aload_n 1 dX12_value_16 rfl ?_
    refine pz_iload_n 2 dX12_value_17 rfl ?_
    refine pz_cvI (st := []) (md_X12_rowOf X n l0 l1) ck_12 rfl mk_X12_rowOf (Or.inl pw_1102) pw_1104 ps_39 rfl rfl (by decide) (by decide) (by decide) dX12_value_18 (fun x3 => ?_)
    refine pz_istore_n [(3, .int x3), (2, .int x2), (0, va_rf l0), (1, .int l1)] dX12_value_21 (by decide) rfl ?_
    refine pz_iload_n 0 dX12_value_22 rfl ?_
    refine pz_iconst (-1) dX12_value_23 (by decide) ?_
    refine pz_icmp_ne 43 dX12_value_24 (by decide) ?_ ?_
    · refine pz_aload_n 2 dX12_value_27 rfl ?_
      refine pz_iload_n 3 dX12_value_28 rfl ?_
      refine pz_csI (st := [va_rf l0]) (md_X12_valueAt X n l1) mk_X12_valueAt (Or.inl pw_1080) pw_1081 rfl rfl (by simp [pz_rf1, pz_ci, pz_cl]) (by decide) (by decide) dX12_value_29 (fun x4 => ?_)
      refine pz_aload_n 2 dX12_value_32 rfl ?_
      refine pz_lconst 1 dX12_value_33 (by decide) ?_
      refine pz_cvI (st := [.int x4, va_rf l0]) (md_X12_plainOf X n l0 1) ck_12 rfl mk_X12_plainOf (Or.inl pw_919) pw_921 ps_30 rfl rfl (by simp [pz_rf1, pz_ci, pz_cl]) (by decide) (by decide) dX12_value_34 (fun x5 => ?_)
      refine pz_cvI (st := []) (md_X12_hand X n l0 x4 x5) ck_12 rfl mk_X12_hand (Or.inl pw_1248) pw_1250 ps_69 rfl rfl (by decide) (by decide) (by decide) dX12_value_37 (fun x6 => ?_)
      refine pz_goto 53 dX12_value_40 (by decide) ?_
      exact pz_sub [2, 1] rfl (S_X12_value_b53 X n l0 x2 x6)
    · refine pz_aload_n 2 dX12_value_43 rfl ?_
      refine pz_aload_n 2 dX12_value_44 rfl ?_
      refine pz_iload_n 0 dX12_value_45 rfl ?_
      refine pz_cvI (st := [va_rf l0]) (md_X12_sumOf X n l0 x3) ck_12 rfl mk_X12_sumOf (Or.inl pw_1114) pw_1116 ps_42 rfl rfl (by simp [pz_rf1, pz_ci, pz_cl]) (by decide) (by decide) dX12_value_46 (fun x7 => ?_)
      refine pz_iconst 0 dX12_value_49 (by decide) ?_
      refine pz_cvI (st := []) (md_X12_hand X n l0 x7 0) ck_12 rfl mk_X12_hand (Or.inl pw_1248) pw_1250 ps_69 rfl rfl (by decide) (by decide) (by decide) dX12_value_50 (fun x8 => ?_)
      exact pz_sub [2, 1] rfl (S_X12_value_b53 X n l0 x2 x8)
set_option maxRecDepth 20000 in
theorem md_X12_value (X : pz_X) (n : Nat) (l0 : Option Nat) (l1 : Int32) : pz_Md X yX12_value J_X12_value pz_vI [va_rf l0, .int l1] (X12_value n l0 l1) :=
  pz_md [(0, va_rf l0), (1, .int l1)] (by decide +kernel) rfl rfl (by cases l0 <;> rfl) (by cases l0 <;> exact Nat.le_of_ble_eq_true rfl) (fun X => S_X12_value X n l0 l1)
set_option maxRecDepth 20000 in
theorem S_X11_told_b16 (X : pz_X) (n : Nat) : pz_Sm X (pz_QM X) J_X11_told pz_vI 16 [] [] (X11_told_b16 n) := by
  unfold X11_told_b16
  refine pz_bipush (-4) dX11_told_16 (by decide) ?_
  exact pz_iret rfl dX11_told_18
set_option maxRecDepth 20000 in
theorem S_X11_told_b47 (X : pz_X) (n : Nat) : pz_Sm X (pz_QM X) J_X11_told pz_vI 47 [] [] (X11_told_b47 n) := by
  unfold X11_told_b47
  refine pz_bipush (-4) dX11_told_47 (by decide) ?_
  exact pz_iret rfl dX11_told_49
set_option maxRecDepth 20000 in
theorem S_X11_told (X : pz_X) (n : Nat) (l0 : Option Nat) (l1 : Int32) (l2 : Int32) : pz_Sm X (pz_QM X) J_X11_told pz_vI 0 [(0, va_rf l0), (1, .int l1), (2, .int l2)] [] (X11_told n l0 l1 l2) := by
  unfold X11_told
  refine pz_aload_n 0 dX11_told_0 rfl ?_
  refine pz_iload_n 1 dX11_told_1 rfl ?_
  refine pz_cvI (st := []) (md_X11_hasPlace X n l0 l1) ck_11 rfl mk_X11_hasPlace (Or.inl pw_755) pw_757 ps_19 rfl rfl (by decide) (by decide) (by decide) dX11_told_2 (fun x1 => ?_)
  refine pz_if_eq 16 dX11_told_5 (by decide) ?_ ?_
  · exact pz_sub [] rfl (S_X11_told_b16 X n)
  · refine pz_aload_n 0 dX11_told_8 rfl ?_
    refine pz_iload_n 2 dX11_told_9 rfl ?_
    refine pz_cvI (st := []) (md_X11_hasPlace X n l0 l2) ck_11 rfl mk_X11_hasPlace (Or.inl pw_755) pw_757 ps_19 rfl rfl (by decide) (by decide) (by decide) dX11_told_10 (fun x2 => ?_)
    refine pz_if_ne 19 dX11_told_13 (by decide) ?_ ?_
    · exact pz_sub [] rfl (S_X11_told_b16 X n)
    · refine pz_aload_n 0 dX11_told_19 rfl ?_
      refine pz_getR (ci := 11) (k := 3) ck_11 (by decide) (Or.inl pw_403) dX11_told_20 (fun x3 => ?_)
      refine pz_iload_n 1 dX11_told_23 rfl ?_
      refine pz_cvI (st := []) (md_X9_rowOf X n x3 l1) ck_9 rfl mk_X9_rowOf (Or.inl pw_759) pw_563 pw_564 rfl rfl (by decide) (by decide) (by decide) dX11_told_24 (fun x4 => ?_)
      refine pz_istore_n [(3, .int x4), (0, va_rf l0), (1, .int l1), (2, .int l2)] dX11_told_27 (by decide) rfl ?_
      refine pz_aload_n 1 dX11_told_28 rfl ?_
      refine pz_getR (ci := 11) (k := 3) ck_11 (by decide) (Or.inl pw_403) dX11_told_29 (fun x5 => ?_)
      refine pz_iload_n 3 dX11_told_32 rfl ?_
      refine pz_cvI (st := []) (md_X9_columnOf X n x5 l2) ck_9 rfl mk_X9_columnOf (Or.inl pw_794) pw_678 pw_679 rfl rfl (by decide) (by decide) (by decide) dX11_told_33 (fun x6 => ?_)
      refine pz_istore [(4, .int x6), (3, .int x4), (0, va_rf l0), (1, .int l1), (2, .int l2)] dX11_told_36 (by decide) rfl ?_
      refine pz_iload_n 1 dX11_told_38 rfl ?_
      refine pz_if_lt 47 dX11_told_39 (by decide) ?_ ?_
      · exact pz_sub [] rfl (S_X11_told_b47 X n)
      · refine pz_iload 0 dX11_told_42 rfl ?_
        refine pz_if_ge 50 dX11_told_44 (by decide) ?_ ?_
        · refine pz_aload_n 2 dX11_told_50 rfl ?_
          refine pz_getR (ci := 11) (k := 8) ck_11 (by decide) (Or.inl pw_408) dX11_told_51 (fun x7 => ?_)
          refine pz_aload_n 2 dX11_told_54 rfl ?_
          refine pz_getR (ci := 11) (k := 3) ck_11 (by decide) (Or.inl pw_403) dX11_told_55 (fun x8 => ?_)
          refine pz_iload_n 1 dX11_told_58 rfl ?_
          refine pz_iload 0 dX11_told_59 rfl ?_
          refine pz_cvR (st := [va_rf x7]) (md_X9_cell X n x8 x4 x6) ck_9 rfl mk_X9_cell (Or.inl pw_795) pw_491 pw_492 rfl rfl (by simp [pz_rf1, pz_ci, pz_cl]) (by decide) (by decide) dX11_told_61 (fun x9 => ?_)
          refine pz_aload_n 2 dX11_told_64 rfl ?_
          refine pz_getR (ci := 11) (k := 3) ck_11 (by decide) (Or.inl pw_403) dX11_told_65 (fun x10 => ?_)
          refine pz_getR (ci := 9) (k := 9) ck_9 (by decide) (Or.inl pw_167) dX11_told_68 (fun x11 => ?_)
          refine pz_iconst 1 dX11_told_71 (by decide) ?_
          refine pz_cvU (st := []) (md_X3_setQuotient X n x7 x9 x11 1) ck_3 rfl mk_X3_setQuotient (Or.inl pw_796) pw_730 pw_731 rfl rfl (by decide) (by decide) (by decide) dX11_told_72 (fun _ => ?_)
          refine pz_aload_n 2 dX11_told_75 rfl ?_
          refine pz_cvI (st := []) (md_X11_takeToHand X n l0) ck_11 rfl mk_X11_takeToHand (Or.inl pw_771) pw_773 ps_20 rfl rfl (by decide) (by decide) (by decide) dX11_told_76 (fun x13 => ?_)
          exact pz_iret rfl dX11_told_79
        · exact pz_sub [] rfl (S_X11_told_b47 X n)
set_option maxRecDepth 20000 in
theorem md_X11_told (X : pz_X) (n : Nat) (l0 : Option Nat) (l1 : Int32) (l2 : Int32) : pz_Md X yX11_told J_X11_told pz_vI [va_rf l0, .int l1, .int l2] (X11_told n l0 l1 l2) :=
  pz_md [(0, va_rf l0), (1, .int l1), (2, .int l2)] (by decide +kernel) rfl rfl (by cases l0 <;> rfl) (by cases l0 <;> exact Nat.le_of_ble_eq_true rfl) (fun X => S_X11_told X n l0 l1 l2)
set_option maxRecDepth 20000 in
theorem S_X12_told_b34 (X : pz_X) (n : Nat) : pz_Sm X (pz_QM X) J_X12_told pz_vI 34 [] [] (X12_told_b34 n) := by
  unfold X12_told_b34
  refine pz_bipush (-4) dX12_told_34 (by decide) ?_
  exact pz_iret rfl dX12_told_36
set_option maxRecDepth 20000 in
theorem S_X12_told (X : pz_X) (n : Nat) (l0 : Option Nat) (l1 : Int32) (l2 : Int32) : pz_Sm X (pz_QM X) J_X12_told pz_vI 0 [(0, va_rf l0), (1, .int l1), (2, .int l2)] [] (X12_told n l0 l1 l2) := by
  unfold X12_told
  refine pz_aload_n 0 dX12_told_0 rfl ?_
  refine pz_iload_n 1 dX12_told_1 rfl ?_
  refine pz_cvI (st := []) (md_X12_isPlace X n l0 l1) ck_12 rfl mk_X12_isPlace (Or.inl pw_1240) pw_1242 ps_68 rfl rfl (by decide) (by decide) (by decide) dX12_told_2 (fun x1 => ?_)
  refine pz_if_eq 34 dX12_told_5 (by decide) ?_ ?_
  · exact pz_sub [] rfl (S_X12_told_b34 X n)
  · refine pz_aload_n 0 dX12_told_8 rfl ?_
    refine pz_iload_n 2 dX12_told_9 rfl ?_
    refine pz_cvI (st := []) (md_X12_isPlace X n l0 l2) ck_12 rfl mk_X12_isPlace (Or.inl pw_1240) pw_1242 ps_68 rfl rfl (by decide) (by decide) (by decide) dX12_told_10 (fun x2 => ?_)
    refine pz_if_eq 34 dX12_told_13 (by decide) ?_ ?_
    · exact pz_sub [] rfl (S_X12_told_b34 X n)
    · refine pz_aload_n 0 dX12_told_16 rfl ?_
      refine pz_iload_n 1 dX12_told_17 rfl ?_
      refine pz_cvI (st := []) (md_X12_rowOf X n l0 l1) ck_12 rfl mk_X12_rowOf (Or.inl pw_1102) pw_1104 ps_39 rfl rfl (by decide) (by decide) (by decide) dX12_told_18 (fun x3 => ?_)
      refine pz_iconst (-1) dX12_told_21 (by decide) ?_
      refine pz_icmp_eq 34 dX12_told_22 (by decide) ?_ ?_
      · exact pz_sub [] rfl (S_X12_told_b34 X n)
      · refine pz_aload_n 0 dX12_told_25 rfl ?_
        refine pz_iload_n 2 dX12_told_26 rfl ?_
        refine pz_cvI (st := []) (md_X12_columnAt X n l0 l2) ck_12 rfl mk_X12_columnAt (Or.inl pw_1162) pw_1164 ps_53 rfl rfl (by decide) (by decide) (by decide) dX12_told_27 (fun x4 => ?_)
        refine pz_iconst (-1) dX12_told_30 (by decide) ?_
        refine pz_icmp_ne 37 dX12_told_31 (by decide) ?_ ?_
        · exact pz_sub [] rfl (S_X12_told_b34 X n)
        · refine pz_aload_n 0 dX12_told_37 rfl ?_
          refine pz_aload_n 0 dX12_told_38 rfl ?_
          refine pz_iload_n 1 dX12_told_39 rfl ?_
          refine pz_cvI (st := [va_rf l0]) (md_X12_rowOf X n l0 l1) ck_12 rfl mk_X12_rowOf (Or.inl pw_1102) pw_1104 ps_39 rfl rfl (by simp [pz_rf1, pz_ci, pz_cl]) (by decide) (by decide) dX12_told_40 (fun x5 => ?_)
          refine pz_aload_n 0 dX12_told_43 rfl ?_
          refine pz_iload_n 2 dX12_told_44 rfl ?_
          refine pz_cvI (st := [.int x5, va_rf l0]) (md_X12_columnAt X n l0 l2) ck_12 rfl mk_X12_columnAt (Or.inl pw_1162) pw_1164 ps_53 rfl rfl (by simp [pz_rf1, pz_ci, pz_cl]) (by decide) (by decide) dX12_told_45 (fun x6 => ?_)
          refine pz_csI (st := [va_rf l0]) (md_X12_factorAt X n x5 x6) mk_X12_factorAt (Or.inl pw_1083) pw_1084 rfl rfl (by simp [pz_rf1, pz_ci, pz_cl]) (by decide) (by decide) dX12_told_48 (fun x7 => ?_)
          refine pz_iconst 0 dX12_told_51 (by decide) ?_
          refine pz_cvI (st := []) (md_X12_hand X n l0 x7 0) ck_12 rfl mk_X12_hand (Or.inl pw_1248) pw_1250 ps_69 rfl rfl (by decide) (by decide) (by decide) dX12_told_52 (fun x8 => ?_)
          exact pz_iret rfl dX12_told_55
set_option maxRecDepth 20000 in
theorem md_X12_told (X : pz_X) (n : Nat) (l0 : Option Nat) (l1 : Int32) (l2 : Int32) : pz_Md X yX12_told J_X12_told pz_vI [va_rf l0, .int l1, .int l2] (X12_told n l0 l1 l2) :=
  pz_md [(0, va_rf l0), (1, .int l1), (2, .int l2)] (by decide +kernel) rfl rfl (by cases l0 <;> rfl) (by cases l0 <;> exact Nat.le_of_ble_eq_true rfl) (fun X => S_X12_told X n l0 l1 l2)
set_option maxRecDepth 20000 in
theorem S_X11_digits_b20 (X : pz_X) (n : Nat) : pz_Sm X (pz_QM X) J_X11_digits pz_vI 20 [] [] (X11_digits_b20 n) := by
  unfold X11_digits_b20
  refine pz_iconst (-1) dX11_digits_20 (by decide) ?_
  exact pz_iret rfl dX11_digits_21
set_option maxRecDepth 20000 in
theorem S_X11_digits_b51 (X : pz_X) (n : Nat) (s0 : Int32) : pz_Sm X (pz_QM X) J_X11_digits pz_vI 51 [] [.int s0] (X11_digits_b51 n s0) := by
  unfold X11_digits_b51
  exact pz_iret rfl dX11_digits_51
set_option maxRecDepth 20000 in
theorem S_X11_digits (X : pz_X) (n : Nat) (l0 : Option Nat) (l1 : Int32) (l2 : Int32) : pz_Sm X (pz_QM X) J_X11_digits pz_vI 0 [(0, va_rf l0), (1, .int l1), (2, .int l2)] [] (X11_digits n l0 l1 l2) := by
  unfold X11_digits
  refine pz_iload_n 1 dX11_digits_0 rfl ?_
  refine pz_if_lt 20 dX11_digits_1 (by decide) ?_ ?_
  · exact pz_sub [] rfl (S_X11_digits_b20 X n)
  · refine pz_iload_n 1 dX11_digits_4 rfl ?_
    refine pz_iconst 1 dX11_digits_5 (by decide) ?_
    refine pz_icmp_gt 20 dX11_digits_6 (by decide) ?_ ?_
    · exact pz_sub [] rfl (S_X11_digits_b20 X n)
    · refine pz_iload_n 2 dX11_digits_9 rfl ?_
      refine pz_if_lt 20 dX11_digits_10 (by decide) ?_ ?_
      · exact pz_sub [] rfl (S_X11_digits_b20 X n)
      · refine pz_aload_n 0 dX11_digits_13 rfl ?_
        refine pz_getI (ci := 11) (k := 9) ck_11 (by decide) (Or.inl pw_409) dX11_digits_14 (fun x1 => ?_)
        refine pz_if_ne 22 dX11_digits_17 (by decide) ?_ ?_
        · exact pz_sub [] rfl (S_X11_digits_b20 X n)
        · refine pz_iload_n 1 dX11_digits_22 rfl ?_
          refine pz_if_ne 40 dX11_digits_23 (by decide) ?_ ?_
          · refine pz_aload_n 0 dX11_digits_26 rfl ?_
            refine pz_getR (ci := 11) (k := 8) ck_11 (by decide) (Or.inl pw_408) dX11_digits_27 (fun x2 => ?_)
            refine pz_getR (ci := 3) (k := 0) ck_3 (by decide) (Or.inl pw_390) dX11_digits_30 (fun x3 => ?_)
            refine pz_iload_n 2 dX11_digits_33 rfl ?_
            refine pz_cvI (st := []) (md_X0_limbAt X n x3 l2) ck_0 rfl mk_X0_limbAt (Or.inl pw_801) pw_653 pw_654 rfl rfl (by decide) (by decide) (by decide) dX11_digits_34 (fun x4 => ?_)
            refine pz_goto 51 dX11_digits_37 (by decide) ?_
            exact pz_sub [] rfl (S_X11_digits_b51 X n x4)
          · refine pz_aload_n 0 dX11_digits_40 rfl ?_
            refine pz_getR (ci := 11) (k := 8) ck_11 (by decide) (Or.inl pw_408) dX11_digits_41 (fun x5 => ?_)
            refine pz_getR (ci := 3) (k := 1) ck_3 (by decide) (Or.inl pw_394) dX11_digits_44 (fun x6 => ?_)
            refine pz_iload_n 2 dX11_digits_47 rfl ?_
            refine pz_cvI (st := []) (md_X0_limbAt X n x6 l2) ck_0 rfl mk_X0_limbAt (Or.inl pw_801) pw_653 pw_654 rfl rfl (by decide) (by decide) (by decide) dX11_digits_48 (fun x7 => ?_)
            exact pz_sub [] rfl (S_X11_digits_b51 X n x7)
set_option maxRecDepth 20000 in
theorem md_X11_digits (X : pz_X) (n : Nat) (l0 : Option Nat) (l1 : Int32) (l2 : Int32) : pz_Md X yX11_digits J_X11_digits pz_vI [va_rf l0, .int l1, .int l2] (X11_digits n l0 l1 l2) :=
  pz_md [(0, va_rf l0), (1, .int l1), (2, .int l2)] (by decide +kernel) rfl rfl (by cases l0 <;> rfl) (by cases l0 <;> exact Nat.le_of_ble_eq_true rfl) (fun X => S_X11_digits X n l0 l1 l2)
set_option maxRecDepth 20000 in
theorem S_X12_digits_b20 (X : pz_X) (n : Nat) : pz_Sm X (pz_QM X) J_X12_digits pz_vI 20 [] [] (X12_digits_b20 n) := by
  unfold X12_digits_b20
  refine pz_iconst (-1) dX12_digits_20 (by decide) ?_
  exact pz_iret rfl dX12_digits_21
set_option maxRecDepth 20000 in
theorem S_X12_digits_b55 (X : pz_X) (n : Nat) (s0 : Int32) : pz_Sm X (pz_QM X) J_X12_digits pz_vI 55 [] [.int s0] (X12_digits_b55 n s0) := by
  unfold X12_digits_b55
  exact pz_iret rfl dX12_digits_55
set_option maxRecDepth 20000 in
theorem S_X12_digits (X : pz_X) (n : Nat) (l0 : Option Nat) (l1 : Int32) (l2 : Int32) : pz_Sm X (pz_QM X) J_X12_digits pz_vI 0 [(0, va_rf l0), (1, .int l1), (2, .int l2)] [] (X12_digits n l0 l1 l2) := by
  unfold X12_digits
  refine pz_iload_n 1 dX12_digits_0 rfl ?_
  refine pz_if_lt 20 dX12_digits_1 (by decide) ?_ ?_
  · exact pz_sub [] rfl (S_X12_digits_b20 X n)
  · refine pz_iload_n 1 dX12_digits_4 rfl ?_
    refine pz_iconst 1 dX12_digits_5 (by decide) ?_
    refine pz_icmp_gt 20 dX12_digits_6 (by decide) ?_ ?_
    · exact pz_sub [] rfl (S_X12_digits_b20 X n)
    · refine pz_iload_n 2 dX12_digits_9 rfl ?_
      refine pz_if_lt 20 dX12_digits_10 (by decide) ?_ ?_
      · exact pz_sub [] rfl (S_X12_digits_b20 X n)
      · refine pz_aload_n 0 dX12_digits_13 rfl ?_
        refine pz_getI (ci := 12) (k := 28) ck_12 (by decide) (Or.inl pw_960) dX12_digits_14 (fun x1 => ?_)
        refine pz_if_ne 22 dX12_digits_17 (by decide) ?_ ?_
        · exact pz_sub [] rfl (S_X12_digits_b20 X n)
        · refine pz_ldcw 115456 dX12_digits_22 pw_1252 ?_
          refine pz_sipush 300 dX12_digits_25 (by decide) ?_
          refine pz_iload_n 1 dX12_digits_28 rfl ?_
          refine pz_imul dX12_digits_29 ?_
          refine pz_iadd dX12_digits_30 ?_
          refine pz_nmI (fun l3_2 => ?_)
          refine pz_istore_n [(3, .int l3_2), (0, va_rf l0), (1, .int l1), (2, .int l2)] dX12_digits_31 (by decide) rfl ?_
          refine pz_iload_n 3 dX12_digits_32 rfl ?_
          refine pz_aload_n 1 dX12_digits_33 rfl ?_
          refine pz_iload_n 0 dX12_digits_34 rfl ?_
          refine pz_cvI (st := [.int l2]) (md_X12_limbs X n l0 l3_2) ck_12 rfl mk_X12_limbs (Or.inl pw_928) pw_930 ps_32 rfl rfl (by simp [pz_rf1, pz_ci, pz_cl]) (by decide) (by decide) dX12_digits_35 (fun x3 => ?_)
          refine pz_icmp_ge 54 dX12_digits_38 (by decide) ?_ ?_
          · refine pz_iconst 0 dX12_digits_54 (by decide) ?_
            exact pz_sub [] rfl (S_X12_digits_b55 X n 0)
          · refine pz_aload_n 1 dX12_digits_41 rfl ?_
            refine pz_getR (ci := 12) (k := 34) ck_12 (by decide) (Or.inl pw_966) dX12_digits_42 (fun x4 => ?_)
            refine pz_iload_n 0 dX12_digits_45 rfl ?_
            refine pz_iload_n 3 dX12_digits_46 rfl ?_
            refine pz_iadd dX12_digits_47 ?_
            refine pz_iconst 1 dX12_digits_48 (by decide) ?_
            refine pz_iadd dX12_digits_49 ?_
            refine pz_iald (t := 0) rfl dX12_digits_50 (fun x5 => ?_)
            refine pz_goto 55 dX12_digits_51 (by decide) ?_
            exact pz_sub [] rfl (S_X12_digits_b55 X n x5)
set_option maxRecDepth 20000 in
theorem md_X12_digits (X : pz_X) (n : Nat) (l0 : Option Nat) (l1 : Int32) (l2 : Int32) : pz_Md X yX12_digits J_X12_digits pz_vI [va_rf l0, .int l1, .int l2] (X12_digits n l0 l1 l2) :=
  pz_md [(0, va_rf l0), (1, .int l1), (2, .int l2)] (by decide +kernel) rfl rfl (by cases l0 <;> rfl) (by cases l0 <;> exact Nat.le_of_ble_eq_true rfl) (fun X => S_X12_digits X n l0 l1 l2)
set_option maxRecDepth 20000 in
theorem S_X11_witness_b55 (X : pz_X) (n : Nat) : pz_Sm X (pz_QM X) J_X11_witness pz_vI 55 [] [] (X11_witness_b55 n) := by
  unfold X11_witness_b55
  refine pz_iconst 0 dX11_witness_55 (by decide) ?_
  exact pz_iret rfl dX11_witness_56
set_option maxRecDepth 20000 in
theorem S_X11_witness_L15_body (X : pz_X) (n : Nat) (l0 : Option Nat) (K15 : Int32 → pz_C Int32) (hK15 : ∀ (l1 : Int32), pz_Sm X (pz_QM X) J_X11_witness pz_vI 15 [(0, va_rf l0), (1, .int l1)] [] (K15 l1)) (l1 : Int32) : pz_Sm X (pz_QM X) J_X11_witness pz_vI 15 [(0, va_rf l0), (1, .int l1)] [] (X11_witness_L15_body n l0 K15 l1) := by
  unfold X11_witness_L15_body
  refine pz_iload_n 1 dX11_witness_15 rfl ?_
  refine pz_aload_n 0 dX11_witness_16 rfl ?_
  refine pz_getR (ci := 11) (k := 0) ck_11 (by decide) (Or.inl pw_400) dX11_witness_17 (fun x3 => ?_)
  refine pz_getI (ci := 6) (k := 5) ck_6 (by decide) (Or.inl pw_50) dX11_witness_20 (fun x4 => ?_)
  refine pz_icmp_ge 55 dX11_witness_23 (by decide) ?_ ?_
  · exact pz_sub [] rfl (S_X11_witness_b55 X n)
  · refine pz_iload_n 1 dX11_witness_26 rfl ?_
    refine pz_aload_n 0 dX11_witness_27 rfl ?_
    refine pz_getR (ci := 11) (k := 7) ck_11 (by decide) (Or.inl pw_407) dX11_witness_28 (fun x5 => ?_)
    refine pz_alen (t := 4) rfl dX11_witness_31 (fun x6 => ?_)
    refine pz_icmp_ge 55 dX11_witness_32 (by decide) ?_ ?_
    · exact pz_sub [] rfl (S_X11_witness_b55 X n)
    · refine pz_aload_n 0 dX11_witness_35 rfl ?_
      refine pz_getR (ci := 11) (k := 3) ck_11 (by decide) (Or.inl pw_403) dX11_witness_36 (fun x7 => ?_)
      refine pz_iload_n 1 dX11_witness_39 rfl ?_
      refine pz_aload_n 0 dX11_witness_40 rfl ?_
      refine pz_getR (ci := 11) (k := 7) ck_11 (by decide) (Or.inl pw_407) dX11_witness_41 (fun x8 => ?_)
      refine pz_iload_n 1 dX11_witness_44 rfl ?_
      refine pz_aald (t := 4) rfl rfl dX11_witness_45 (fun x9 => ?_)
      refine pz_cvU (st := []) (md_X9_copyValue X n x7 l1 x9) ck_9 rfl mk_X9_copyValue (Or.inl pw_764) pw_765 pw_766 rfl rfl (by decide) (by decide) (by decide) dX11_witness_46 (fun _ => ?_)
      refine pz_iinc 1 1 (fun l1_11 => [(1, .int l1_11), (0, va_rf l0)]) dX11_witness_49 rfl (by decide) (by decide) (fun l1_11 => (by cases l0 <;> rfl)) (fun l1_11 => ?_)
      refine pz_goto 15 dX11_witness_52 (by decide) ?_
      exact pz_sub [1, 0] rfl (hK15 l1_11)
set_option maxRecDepth 20000 in
theorem S_X11_witness_L15 (X : pz_X) (n : Nat) (l0 : Option Nat) (l1 : Int32) : pz_Sm X (pz_QM X) J_X11_witness pz_vI 15 [(0, va_rf l0), (1, .int l1)] [] (X11_witness_L15 n l0 l1) :=
  pz_lp (L := fun (s : Int32) => [(0, va_rf l0), (1, .int s)]) (fun K hK s => S_X11_witness_L15_body X n l0 (fun l1 => K l1) (fun l1 => hK l1) s) n l1
set_option maxRecDepth 20000 in
theorem S_X11_witness (X : pz_X) (n : Nat) (l0 : Option Nat) : pz_Sm X (pz_QM X) J_X11_witness pz_vI 0 [(0, va_rf l0)] [] (X11_witness n l0) := by
  unfold X11_witness
  refine pz_aload_n 0 dX11_witness_0 rfl ?_
  refine pz_getR (ci := 11) (k := 5) ck_11 (by decide) (Or.inl pw_405) dX11_witness_1 (fun x1 => ?_)
  refine pz_getI (ci := 7) (k := 4) ck_7 (by decide) (Or.inl pw_305) dX11_witness_4 (fun x2 => ?_)
  refine pz_iconst 2 dX11_witness_7 (by decide) ?_
  refine pz_icmp_eq 13 dX11_witness_8 (by decide) ?_ ?_
  · refine pz_iconst 0 dX11_witness_13 (by decide) ?_
    refine pz_istore_n [(1, .int 0), (0, va_rf l0)] dX11_witness_14 (by decide) (by cases l0 <;> rfl) ?_
    exact pz_sub [1, 0] rfl (S_X11_witness_L15 X n l0 0)
  · refine pz_iconst (-1) dX11_witness_11 (by decide) ?_
    exact pz_iret rfl dX11_witness_12
set_option maxRecDepth 20000 in
theorem md_X11_witness (X : pz_X) (n : Nat) (l0 : Option Nat) : pz_Md X yX11_witness J_X11_witness pz_vI [va_rf l0] (X11_witness n l0) :=
  pz_md [(0, va_rf l0)] (by decide +kernel) rfl rfl (by cases l0 <;> rfl) (by cases l0 <;> exact Nat.le_of_ble_eq_true rfl) (fun X => S_X11_witness X n l0)
set_option maxRecDepth 20000 in
theorem S_X12_witness_b72 (X : pz_X) (n : Nat) (l0 : Option Nat) (K12 : Int32 → pz_C Int32) (hK12 : ∀ (l1 : Int32), pz_Sm X (pz_QM X) J_X12_witness pz_vI 12 [(0, va_rf l0), (1, .int l1)] [] (K12 l1)) (l1 : Int32) (l2 : Int32) (l4 : Int32) (s0 : Int32) : pz_Sm X (pz_QM X) J_X12_witness pz_vI 72 [(0, va_rf l0), (1, .int l1), (2, .int l2), (4, .int l4)] [.int s0] (X12_witness_b72 n K12 l0 l1 l2 l4 s0) := by
  unfold X12_witness_b72
  refine pz_istore [(5, .int s0), (0, va_rf l0), (1, .int l1), (2, .int l2), (4, .int l4)] dX12_witness_72 (by decide) rfl ?_
  refine pz_aload_n 1 dX12_witness_74 rfl ?_
  refine pz_iload 4 dX12_witness_75 rfl ?_
  refine pz_iload 0 dX12_witness_77 rfl ?_
  refine pz_cvI (st := []) (md_X12_gcd X n l0 l4 s0) ck_12 rfl mk_X12_gcd (Or.inl pw_1208) pw_1210 ps_64 rfl rfl (by decide) (by decide) (by decide) dX12_witness_79 (fun x8 => ?_)
  refine pz_istore [(6, .int x8), (5, .int s0), (0, va_rf l0), (1, .int l1), (2, .int l2), (4, .int l4)] dX12_witness_82 (by decide) rfl ?_
  refine pz_aload_n 2 dX12_witness_84 rfl ?_
  refine pz_aload_n 2 dX12_witness_85 rfl ?_
  refine pz_iload 5 dX12_witness_86 rfl ?_
  refine pz_iload 0 dX12_witness_88 rfl ?_
  refine pz_cvI (st := [va_rf l0]) (md_X12_over X n l0 l4 x8) ck_12 rfl mk_X12_over (Or.inl pw_1178) pw_1180 ps_57 rfl rfl (by simp [pz_rf1, pz_ci, pz_cl]) (by decide) (by decide) dX12_witness_90 (fun x9 => ?_)
  refine pz_iload_n 3 dX12_witness_93 rfl ?_
  refine pz_iconst 0 dX12_witness_94 (by decide) ?_
  refine pz_csI (st := [.int x9, va_rf l0]) (md_X12_witnessAt X n l1 0) mk_X12_witnessAt (Or.inl pw_911) pw_912 rfl rfl (by simp [pz_rf1, pz_ci, pz_cl]) (by decide) (by decide) dX12_witness_95 (fun x10 => ?_)
  refine pz_cvU (st := []) (md_X12_copyTo X n l0 x9 x10) ck_12 rfl mk_X12_copyTo (Or.inl pw_924) pw_926 ps_31 rfl rfl (by decide) (by decide) (by decide) dX12_witness_98 (fun _ => ?_)
  refine pz_aload_n 2 dX12_witness_101 rfl ?_
  refine pz_aload_n 2 dX12_witness_102 rfl ?_
  refine pz_iload 1 dX12_witness_103 rfl ?_
  refine pz_iload 0 dX12_witness_105 rfl ?_
  refine pz_cvI (st := [va_rf l0]) (md_X12_over X n l0 s0 x8) ck_12 rfl mk_X12_over (Or.inl pw_1178) pw_1180 ps_57 rfl rfl (by simp [pz_rf1, pz_ci, pz_cl]) (by decide) (by decide) dX12_witness_107 (fun x12 => ?_)
  refine pz_iload_n 3 dX12_witness_110 rfl ?_
  refine pz_iconst 1 dX12_witness_111 (by decide) ?_
  refine pz_csI (st := [.int x12, va_rf l0]) (md_X12_witnessAt X n l1 1) mk_X12_witnessAt (Or.inl pw_911) pw_912 rfl rfl (by simp [pz_rf1, pz_ci, pz_cl]) (by decide) (by decide) dX12_witness_112 (fun x13 => ?_)
  refine pz_cvU (st := []) (md_X12_copyTo X n l0 x12 x13) ck_12 rfl mk_X12_copyTo (Or.inl pw_924) pw_926 ps_31 rfl rfl (by decide) (by decide) (by decide) dX12_witness_115 (fun _ => ?_)
  refine pz_aload_n 2 dX12_witness_118 rfl ?_
  refine pz_iload_n 4 dX12_witness_119 rfl ?_
  refine pz_put (ci := 12) (k := 35) ck_12 (by decide) (Or.inl pw_967) (Or.inl rfl) rfl rfl dX12_witness_120 ?_
  refine pz_iinc 3 1 (fun l1_15 => [(1, .int l1_15), (6, .int x8), (5, .int s0), (0, va_rf l0), (2, .int l2), (4, .int l4)]) dX12_witness_123 rfl (by decide) (by decide) (fun l1_15 => (by cases l0 <;> rfl)) (fun l1_15 => ?_)
  refine pz_goto 12 dX12_witness_126 (by decide) ?_
  exact pz_sub [3, 0] rfl (hK12 l1_15)
set_option maxRecDepth 20000 in
theorem S_X12_witness_b52 (X : pz_X) (n : Nat) (l0 : Option Nat) (K12 : Int32 → pz_C Int32) (hK12 : ∀ (l1 : Int32), pz_Sm X (pz_QM X) J_X12_witness pz_vI 12 [(0, va_rf l0), (1, .int l1)] [] (K12 l1)) (l1 : Int32) (l2 : Int32) (l3 : Int32) (s0 : Int32) : pz_Sm X (pz_QM X) J_X12_witness pz_vI 52 [(0, va_rf l0), (1, .int l1), (2, .int l2), (3, .int l3)] [.int s0] (X12_witness_b52 n K12 l0 l1 l2 l3 s0) := by
  unfold X12_witness_b52
  refine pz_istore [(4, .int s0), (0, va_rf l0), (1, .int l1), (2, .int l2), (3, .int l3)] dX12_witness_52 (by decide) rfl ?_
  refine pz_iload_n 4 dX12_witness_54 rfl ?_
  refine pz_iconst (-1) dX12_witness_55 (by decide) ?_
  refine pz_icmp_ne 67 dX12_witness_56 (by decide) ?_ ?_
  · refine pz_aload_n 1 dX12_witness_59 rfl ?_
    refine pz_lconst 1 dX12_witness_60 (by decide) ?_
    refine pz_cvI (st := []) (md_X12_plainOf X n l0 1) ck_12 rfl mk_X12_plainOf (Or.inl pw_919) pw_921 ps_30 rfl rfl (by decide) (by decide) (by decide) dX12_witness_61 (fun x7 => ?_)
    refine pz_goto 72 dX12_witness_64 (by decide) ?_
    exact pz_sub [1, 2, 3, 0] rfl (S_X12_witness_b72 X n l0 K12 hK12 l1 l2 s0 x7)
  · refine pz_aload_n 1 dX12_witness_67 rfl ?_
    refine pz_iconst 0 dX12_witness_68 (by decide) ?_
    refine pz_cvI (st := []) (md_X12_again X n l0 0) ck_12 rfl mk_X12_again (Or.inl pw_1130) pw_1132 ps_46 rfl rfl (by decide) (by decide) (by decide) dX12_witness_69 (fun x16 => ?_)
    exact pz_sub [1, 2, 3, 0] rfl (S_X12_witness_b72 X n l0 K12 hK12 l1 l2 s0 x16)
set_option maxRecDepth 20000 in
theorem S_X12_witness_L12_body (X : pz_X) (n : Nat) (l0 : Option Nat) (K12 : Int32 → pz_C Int32) (hK12 : ∀ (l1 : Int32), pz_Sm X (pz_QM X) J_X12_witness pz_vI 12 [(0, va_rf l0), (1, .int l1)] [] (K12 l1)) (l1 : Int32) : pz_Sm X (pz_QM X) J_X12_witness pz_vI 12 [(0, va_rf l0), (1, .int l1)] [] (X12_witness_L12_body n l0 K12 l1) := by
  unfold X12_witness_L12_body
  refine pz_iload_n 1 dX12_witness_12 rfl ?_
  refine pz_aload_n 0 dX12_witness_13 rfl ?_
  refine pz_getI (ci := 12) (k := 0) ck_12 (by decide) (Or.inl pw_932) dX12_witness_14 (fun x2 => ?_)
  refine pz_icmp_ge 129 dX12_witness_17 (by decide) ?_ ?_
  · refine pz_iconst 0 dX12_witness_129 (by decide) ?_
    exact pz_iret rfl dX12_witness_130
  · refine pz_aload_n 0 dX12_witness_20 rfl ?_
    refine pz_getI (ci := 12) (k := 35) ck_12 (by decide) (Or.inl pw_967) dX12_witness_21 (fun x3 => ?_)
    refine pz_istore_n [(2, .int x3), (0, va_rf l0), (1, .int l1)] dX12_witness_24 (by decide) rfl ?_
    refine pz_aload_n 1 dX12_witness_25 rfl ?_
    refine pz_iload_n 2 dX12_witness_26 rfl ?_
    refine pz_cvI (st := []) (md_X12_rowOf X n l0 l1) ck_12 rfl mk_X12_rowOf (Or.inl pw_1102) pw_1104 ps_39 rfl rfl (by decide) (by decide) (by decide) dX12_witness_27 (fun x4 => ?_)
    refine pz_istore_n [(3, .int x4), (2, .int x3), (0, va_rf l0), (1, .int l1)] dX12_witness_30 (by decide) rfl ?_
    refine pz_iload_n 0 dX12_witness_31 rfl ?_
    refine pz_iconst (-1) dX12_witness_32 (by decide) ?_
    refine pz_icmp_ne 47 dX12_witness_33 (by decide) ?_ ?_
    · refine pz_aload_n 2 dX12_witness_36 rfl ?_
      refine pz_iload_n 3 dX12_witness_37 rfl ?_
      refine pz_csI (st := [va_rf l0]) (md_X12_valueAt X n l1) mk_X12_valueAt (Or.inl pw_1080) pw_1081 rfl rfl (by simp [pz_rf1, pz_ci, pz_cl]) (by decide) (by decide) dX12_witness_38 (fun x5 => ?_)
      refine pz_cvI (st := []) (md_X12_again X n l0 x5) ck_12 rfl mk_X12_again (Or.inl pw_1130) pw_1132 ps_46 rfl rfl (by decide) (by decide) (by decide) dX12_witness_41 (fun x6 => ?_)
      refine pz_goto 52 dX12_witness_44 (by decide) ?_
      exact pz_sub [2, 3, 1, 0] rfl (S_X12_witness_b52 X n l0 K12 hK12 l1 x3 x4 x6)
    · refine pz_aload_n 2 dX12_witness_47 rfl ?_
      refine pz_iload_n 0 dX12_witness_48 rfl ?_
      refine pz_cvI (st := []) (md_X12_sumOf X n l0 x4) ck_12 rfl mk_X12_sumOf (Or.inl pw_1114) pw_1116 ps_42 rfl rfl (by decide) (by decide) (by decide) dX12_witness_49 (fun x17 => ?_)
      exact pz_sub [2, 3, 1, 0] rfl (S_X12_witness_b52 X n l0 K12 hK12 l1 x3 x4 x17)
set_option maxRecDepth 20000 in
theorem S_X12_witness_L12 (X : pz_X) (n : Nat) (l0 : Option Nat) (l1 : Int32) : pz_Sm X (pz_QM X) J_X12_witness pz_vI 12 [(0, va_rf l0), (1, .int l1)] [] (X12_witness_L12 n l0 l1) :=
  pz_lp (L := fun (s : Int32) => [(0, va_rf l0), (1, .int s)]) (fun K hK s => S_X12_witness_L12_body X n l0 (fun l1 => K l1) (fun l1 => hK l1) s) n l1
set_option maxRecDepth 20000 in
theorem S_X12_witness (X : pz_X) (n : Nat) (l0 : Option Nat) : pz_Sm X (pz_QM X) J_X12_witness pz_vI 0 [(0, va_rf l0)] [] (X12_witness n l0) := by
  unfold X12_witness
  refine pz_aload_n 0 dX12_witness_0 rfl ?_
  refine pz_getI (ci := 12) (k := 7) ck_12 (by decide) (Or.inl pw_939) dX12_witness_1 (fun x1 => ?_)
  refine pz_iconst 2 dX12_witness_4 (by decide) ?_
  refine pz_icmp_eq 10 dX12_witness_5 (by decide) ?_ ?_
  · refine pz_iconst 0 dX12_witness_10 (by decide) ?_
    refine pz_istore_n [(1, .int 0), (0, va_rf l0)] dX12_witness_11 (by decide) (by cases l0 <;> rfl) ?_
    exact pz_sub [1, 0] rfl (S_X12_witness_L12 X n l0 0)
  · refine pz_iconst (-1) dX12_witness_8 (by decide) ?_
    exact pz_iret rfl dX12_witness_9
set_option maxRecDepth 20000 in
theorem md_X12_witness (X : pz_X) (n : Nat) (l0 : Option Nat) : pz_Md X yX12_witness J_X12_witness pz_vI [va_rf l0] (X12_witness n l0) :=
  pz_md [(0, va_rf l0)] (by decide +kernel) rfl rfl (by cases l0 <;> rfl) (by cases l0 <;> exact Nat.le_of_ble_eq_true rfl) (fun X => S_X12_witness X n l0)
set_option maxRecDepth 20000 in
theorem S_X11_isGiven_b28 (X : pz_X) (n : Nat) (s0 : Int32) : pz_Sm X (pz_QM X) J_X11_isGiven pz_vI 28 [] [.int s0] (X11_isGiven_b28 n s0) := by
  unfold X11_isGiven_b28
  exact pz_zret rfl dX11_isGiven_28
set_option maxRecDepth 20000 in
theorem S_X11_isGiven_b27 (X : pz_X) (n : Nat) : pz_Sm X (pz_QM X) J_X11_isGiven pz_vI 27 [] [] (X11_isGiven_b27 n) := by
  unfold X11_isGiven_b27
  refine pz_iconst 0 dX11_isGiven_27 (by decide) ?_
  exact pz_sub [] rfl (S_X11_isGiven_b28 X n 0)
set_option maxRecDepth 20000 in
theorem S_X11_isGiven (X : pz_X) (n : Nat) (l0 : Int32) (l1 : Int32) : pz_Sm X (pz_QM X) J_X11_isGiven pz_vI 0 [(0, .int l0), (1, .int l1)] [] (X11_isGiven n l0 l1) := by
  unfold X11_isGiven
  refine pz_iload_n 0 dX11_isGiven_0 rfl ?_
  refine pz_ldc (-1000000000) dX11_isGiven_1 pw_813 ?_
  refine pz_icmp_lt 27 dX11_isGiven_3 (by decide) ?_ ?_
  · exact pz_sub [] rfl (S_X11_isGiven_b27 X n)
  · refine pz_iload_n 0 dX11_isGiven_6 rfl ?_
    refine pz_ldc 1000000000 dX11_isGiven_7 pw_814 ?_
    refine pz_icmp_gt 27 dX11_isGiven_9 (by decide) ?_ ?_
    · exact pz_sub [] rfl (S_X11_isGiven_b27 X n)
    · refine pz_iload_n 1 dX11_isGiven_12 rfl ?_
      refine pz_iconst 1 dX11_isGiven_13 (by decide) ?_
      refine pz_icmp_lt 27 dX11_isGiven_14 (by decide) ?_ ?_
      · exact pz_sub [] rfl (S_X11_isGiven_b27 X n)
      · refine pz_iload_n 1 dX11_isGiven_17 rfl ?_
        refine pz_ldc 1000000000 dX11_isGiven_18 pw_814 ?_
        refine pz_icmp_gt 27 dX11_isGiven_20 (by decide) ?_ ?_
        · exact pz_sub [] rfl (S_X11_isGiven_b27 X n)
        · refine pz_iconst 1 dX11_isGiven_23 (by decide) ?_
          refine pz_goto 28 dX11_isGiven_24 (by decide) ?_
          exact pz_sub [] rfl (S_X11_isGiven_b28 X n 1)
set_option maxRecDepth 20000 in
theorem md_X11_isGiven (X : pz_X) (n : Nat) (l0 : Int32) (l1 : Int32) : pz_Md X yX11_isGiven J_X11_isGiven pz_vI [.int l0, .int l1] (X11_isGiven n l0 l1) :=
  pz_md [(0, .int l0), (1, .int l1)] (by decide +kernel) rfl rfl (by rfl) (by exact Nat.le_of_ble_eq_true rfl) (fun X => S_X11_isGiven X n l0 l1)
set_option maxRecDepth 20000 in
theorem S_X11_setWitness_b28 (X : pz_X) (n : Nat) : pz_Sm X (pz_QM X) J_X11_setWitness pz_vI 28 [] [] (X11_setWitness_b28 n) := by
  unfold X11_setWitness_b28
  refine pz_iconst (-1) dX11_setWitness_28 (by decide) ?_
  exact pz_iret rfl dX11_setWitness_29
set_option maxRecDepth 20000 in
theorem S_X11_setWitness (X : pz_X) (n : Nat) (l0 : Option Nat) (l1 : Int32) (l2 : Int32) (l3 : Int32) : pz_Sm X (pz_QM X) J_X11_setWitness pz_vI 0 [(0, va_rf l0), (1, .int l1), (2, .int l2), (3, .int l3)] [] (X11_setWitness n l0 l1 l2 l3) := by
  unfold X11_setWitness
  refine pz_aload_n 0 dX11_setWitness_0 rfl ?_
  refine pz_getR (ci := 11) (k := 0) ck_11 (by decide) (Or.inl pw_400) dX11_setWitness_1 (fun x1 => ?_)
  refine pz_iload_n 1 dX11_setWitness_4 rfl ?_
  refine pz_cvI (st := []) (md_X6_hasVariable X n x1 l1) ck_6 rfl mk_X6_hasVariable (Or.inl pw_451) pw_452 pw_453 rfl rfl (by decide) (by decide) (by decide) dX11_setWitness_5 (fun x2 => ?_)
  refine pz_if_eq 28 dX11_setWitness_8 (by decide) ?_ ?_
  · exact pz_sub [] rfl (S_X11_setWitness_b28 X n)
  · refine pz_iload_n 1 dX11_setWitness_11 rfl ?_
    refine pz_aload_n 0 dX11_setWitness_12 rfl ?_
    refine pz_getR (ci := 11) (k := 7) ck_11 (by decide) (Or.inl pw_407) dX11_setWitness_13 (fun x3 => ?_)
    refine pz_alen (t := 4) rfl dX11_setWitness_16 (fun x4 => ?_)
    refine pz_icmp_ge 28 dX11_setWitness_17 (by decide) ?_ ?_
    · exact pz_sub [] rfl (S_X11_setWitness_b28 X n)
    · refine pz_iload_n 2 dX11_setWitness_20 rfl ?_
      refine pz_iload_n 3 dX11_setWitness_21 rfl ?_
      refine pz_csI (st := []) (md_X11_isGiven X n l2 l3) mk_X11_isGiven (Or.inl pw_810) pw_811 rfl rfl (by decide) (by decide) (by decide) dX11_setWitness_22 (fun x5 => ?_)
      refine pz_if_ne 30 dX11_setWitness_25 (by decide) ?_ ?_
      · exact pz_sub [] rfl (S_X11_setWitness_b28 X n)
      · refine pz_aload_n 0 dX11_setWitness_30 rfl ?_
        refine pz_getR (ci := 11) (k := 7) ck_11 (by decide) (Or.inl pw_407) dX11_setWitness_31 (fun x6 => ?_)
        refine pz_iload_n 1 dX11_setWitness_34 rfl ?_
        refine pz_aald (t := 4) rfl rfl dX11_setWitness_35 (fun x7 => ?_)
        refine pz_iload_n 2 dX11_setWitness_36 rfl ?_
        refine pz_i2l dX11_setWitness_37 ?_
        refine pz_iload_n 3 dX11_setWitness_38 rfl ?_
        refine pz_i2l dX11_setWitness_39 ?_
        refine pz_cvU (st := []) (md_X3_setSmall X n x7 (Int32.toInt64 l2) (Int32.toInt64 l3)) ck_3 rfl mk_X3_setSmall (Or.inl pw_815) pw_520 pw_521 rfl rfl (by decide) (by decide) (by decide) dX11_setWitness_40 (fun _ => ?_)
        refine pz_iconst 0 dX11_setWitness_43 (by decide) ?_
        exact pz_iret rfl dX11_setWitness_44
set_option maxRecDepth 20000 in
theorem md_X11_setWitness (X : pz_X) (n : Nat) (l0 : Option Nat) (l1 : Int32) (l2 : Int32) (l3 : Int32) : pz_Md X yX11_setWitness J_X11_setWitness pz_vI [va_rf l0, .int l1, .int l2, .int l3] (X11_setWitness n l0 l1 l2 l3) :=
  pz_md [(0, va_rf l0), (1, .int l1), (2, .int l2), (3, .int l3)] (by decide +kernel) rfl rfl (by cases l0 <;> rfl) (by cases l0 <;> exact Nat.le_of_ble_eq_true rfl) (fun X => S_X11_setWitness X n l0 l1 l2 l3)
set_option maxRecDepth 20000 in
theorem S_X12_isFraction_b27 (X : pz_X) (n : Nat) (s0 : Int32) : pz_Sm X (pz_QM X) J_X12_isFraction pz_vI 27 [] [.int s0] (X12_isFraction_b27 n s0) := by
  unfold X12_isFraction_b27
  exact pz_zret rfl dX12_isFraction_27
set_option maxRecDepth 20000 in
theorem S_X12_isFraction_b26 (X : pz_X) (n : Nat) : pz_Sm X (pz_QM X) J_X12_isFraction pz_vI 26 [] [] (X12_isFraction_b26 n) := by
  unfold X12_isFraction_b26
  refine pz_iconst 0 dX12_isFraction_26 (by decide) ?_
  exact pz_sub [] rfl (S_X12_isFraction_b27 X n 0)
set_option maxRecDepth 20000 in
theorem S_X12_isFraction (X : pz_X) (n : Nat) (l0 : Int32) (l1 : Int32) : pz_Sm X (pz_QM X) J_X12_isFraction pz_vI 0 [(0, .int l0), (1, .int l1)] [] (X12_isFraction n l0 l1) := by
  unfold X12_isFraction
  refine pz_iload_n 1 dX12_isFraction_0 rfl ?_
  refine pz_iconst 1 dX12_isFraction_1 (by decide) ?_
  refine pz_icmp_lt 26 dX12_isFraction_2 (by decide) ?_ ?_
  · exact pz_sub [] rfl (S_X12_isFraction_b26 X n)
  · refine pz_iload_n 1 dX12_isFraction_5 rfl ?_
    refine pz_ldcw 1000000000 dX12_isFraction_6 pw_1273 ?_
    refine pz_icmp_gt 26 dX12_isFraction_9 (by decide) ?_ ?_
    · exact pz_sub [] rfl (S_X12_isFraction_b26 X n)
    · refine pz_iload_n 0 dX12_isFraction_12 rfl ?_
      refine pz_ldcw 1000000000 dX12_isFraction_13 pw_1273 ?_
      refine pz_csI (st := []) (md_X12_within X n l0 1000000000) mk_X12_within (Or.inl pw_1061) pw_1062 rfl rfl (by decide) (by decide) (by decide) dX12_isFraction_16 (fun x1 => ?_)
      refine pz_if_eq 26 dX12_isFraction_19 (by decide) ?_ ?_
      · exact pz_sub [] rfl (S_X12_isFraction_b26 X n)
      · refine pz_iconst 1 dX12_isFraction_22 (by decide) ?_
        refine pz_goto 27 dX12_isFraction_23 (by decide) ?_
        exact pz_sub [] rfl (S_X12_isFraction_b27 X n 1)
set_option maxRecDepth 20000 in
theorem md_X12_isFraction (X : pz_X) (n : Nat) (l0 : Int32) (l1 : Int32) : pz_Md X yX12_isFraction J_X12_isFraction pz_vI [.int l0, .int l1] (X12_isFraction n l0 l1) :=
  pz_md [(0, .int l0), (1, .int l1)] (by decide +kernel) rfl rfl (by rfl) (by exact Nat.le_of_ble_eq_true rfl) (fun X => S_X12_isFraction X n l0 l1)
set_option maxRecDepth 20000 in
theorem S_X12_setWitness_b16 (X : pz_X) (n : Nat) : pz_Sm X (pz_QM X) J_X12_setWitness pz_vI 16 [] [] (X12_setWitness_b16 n) := by
  unfold X12_setWitness_b16
  refine pz_iconst (-1) dX12_setWitness_16 (by decide) ?_
  exact pz_iret rfl dX12_setWitness_17
set_option maxRecDepth 20000 in
theorem S_X12_setWitness (X : pz_X) (n : Nat) (l0 : Option Nat) (l1 : Int32) (l2 : Int32) (l3 : Int32) : pz_Sm X (pz_QM X) J_X12_setWitness pz_vI 0 [(0, va_rf l0), (1, .int l1), (2, .int l2), (3, .int l3)] [] (X12_setWitness n l0 l1 l2 l3) := by
  unfold X12_setWitness
  refine pz_aload_n 0 dX12_setWitness_0 rfl ?_
  refine pz_iload_n 1 dX12_setWitness_1 rfl ?_
  refine pz_cvI (st := []) (md_X12_isVariable X n l0 l1) ck_12 rfl mk_X12_isVariable (Or.inl pw_1056) pw_1058 ps_34 rfl rfl (by decide) (by decide) (by decide) dX12_setWitness_2 (fun x1 => ?_)
  refine pz_if_eq 16 dX12_setWitness_5 (by decide) ?_ ?_
  · exact pz_sub [] rfl (S_X12_setWitness_b16 X n)
  · refine pz_iload_n 2 dX12_setWitness_8 rfl ?_
    refine pz_iload_n 3 dX12_setWitness_9 rfl ?_
    refine pz_csI (st := []) (md_X12_isFraction X n l2 l3) mk_X12_isFraction (Or.inl pw_1270) pw_1271 rfl rfl (by decide) (by decide) (by decide) dX12_setWitness_10 (fun x2 => ?_)
    refine pz_if_ne 18 dX12_setWitness_13 (by decide) ?_ ?_
    · exact pz_sub [] rfl (S_X12_setWitness_b16 X n)
    · refine pz_aload_n 0 dX12_setWitness_18 rfl ?_
      refine pz_iload_n 1 dX12_setWitness_19 rfl ?_
      refine pz_iconst 0 dX12_setWitness_20 (by decide) ?_
      refine pz_csI (st := [va_rf l0]) (md_X12_witnessAt X n l1 0) mk_X12_witnessAt (Or.inl pw_911) pw_912 rfl rfl (by simp [pz_rf1, pz_ci, pz_cl]) (by decide) (by decide) dX12_setWitness_21 (fun x3 => ?_)
      refine pz_iload_n 2 dX12_setWitness_24 rfl ?_
      refine pz_i2l dX12_setWitness_25 ?_
      refine pz_cvU (st := []) (md_X12_setWhole X n l0 x3 (Int32.toInt64 l2)) ck_12 rfl mk_X12_setWhole (Or.inl pw_915) pw_917 ps_29 rfl rfl (by decide) (by decide) (by decide) dX12_setWitness_26 (fun _ => ?_)
      refine pz_aload_n 0 dX12_setWitness_29 rfl ?_
      refine pz_iload_n 1 dX12_setWitness_30 rfl ?_
      refine pz_iconst 1 dX12_setWitness_31 (by decide) ?_
      refine pz_csI (st := [va_rf l0]) (md_X12_witnessAt X n l1 1) mk_X12_witnessAt (Or.inl pw_911) pw_912 rfl rfl (by simp [pz_rf1, pz_ci, pz_cl]) (by decide) (by decide) dX12_setWitness_32 (fun x5 => ?_)
      refine pz_iload_n 3 dX12_setWitness_35 rfl ?_
      refine pz_i2l dX12_setWitness_36 ?_
      refine pz_cvU (st := []) (md_X12_setWhole X n l0 x5 (Int32.toInt64 l3)) ck_12 rfl mk_X12_setWhole (Or.inl pw_915) pw_917 ps_29 rfl rfl (by decide) (by decide) (by decide) dX12_setWitness_37 (fun _ => ?_)
      refine pz_iconst 0 dX12_setWitness_40 (by decide) ?_
      exact pz_iret rfl dX12_setWitness_41
set_option maxRecDepth 20000 in
theorem md_X12_setWitness (X : pz_X) (n : Nat) (l0 : Option Nat) (l1 : Int32) (l2 : Int32) (l3 : Int32) : pz_Md X yX12_setWitness J_X12_setWitness pz_vI [va_rf l0, .int l1, .int l2, .int l3] (X12_setWitness n l0 l1 l2 l3) :=
  pz_md [(0, va_rf l0), (1, .int l1), (2, .int l2), (3, .int l3)] (by decide +kernel) rfl rfl (by cases l0 <;> rfl) (by cases l0 <;> exact Nat.le_of_ble_eq_true rfl) (fun X => S_X12_setWitness X n l0 l1 l2 l3)
set_option maxRecDepth 20000 in
theorem S_X4_clearWeights_L2_body (X : pz_X) (n : Nat) (l0 : Option Nat) (K2 : Int32 → pz_C Unit) (hK2 : ∀ (l1 : Int32), pz_Sm X (pz_QM X) J_X4_clearWeights pz_vU 2 [(0, va_rf l0), (1, .int l1)] [] (K2 l1)) (l1 : Int32) : pz_Sm X (pz_QM X) J_X4_clearWeights pz_vU 2 [(0, va_rf l0), (1, .int l1)] [] (X4_clearWeights_L2_body n l0 K2 l1) := by
  unfold X4_clearWeights_L2_body
  refine pz_iload_n 1 dX4_clearWeights_2 rfl ?_
  refine pz_aload_n 0 dX4_clearWeights_3 rfl ?_
  refine pz_getR (ci := 4) (k := 6) ck_4 (by decide) (Or.inl pw_351) dX4_clearWeights_4 (fun x1 => ?_)
  refine pz_alen (t := 2) rfl dX4_clearWeights_7 (fun x2 => ?_)
  refine pz_icmp_ge 24 dX4_clearWeights_8 (by decide) ?_ ?_
  · exact pz_vret rfl dX4_clearWeights_24
  · refine pz_aload_n 0 dX4_clearWeights_11 rfl ?_
    refine pz_getR (ci := 4) (k := 6) ck_4 (by decide) (Or.inl pw_351) dX4_clearWeights_12 (fun x3 => ?_)
    refine pz_iload_n 1 dX4_clearWeights_15 rfl ?_
    refine pz_lconst 0 dX4_clearWeights_16 (by decide) ?_
    refine pz_last (t := 2) rfl dX4_clearWeights_17 ?_
    refine pz_iinc 1 1 (fun l1_4 => [(1, .int l1_4), (0, va_rf l0)]) dX4_clearWeights_18 rfl (by decide) (by decide) (fun l1_4 => (by cases l0 <;> rfl)) (fun l1_4 => ?_)
    refine pz_goto 2 dX4_clearWeights_21 (by decide) ?_
    exact pz_sub [1, 0] rfl (hK2 l1_4)
set_option maxRecDepth 20000 in
theorem S_X4_clearWeights_L2 (X : pz_X) (n : Nat) (l0 : Option Nat) (l1 : Int32) : pz_Sm X (pz_QM X) J_X4_clearWeights pz_vU 2 [(0, va_rf l0), (1, .int l1)] [] (X4_clearWeights_L2 n l0 l1) :=
  pz_lp (L := fun (s : Int32) => [(0, va_rf l0), (1, .int s)]) (fun K hK s => S_X4_clearWeights_L2_body X n l0 (fun l1 => K l1) (fun l1 => hK l1) s) n l1
set_option maxRecDepth 20000 in
theorem S_X4_clearWeights (X : pz_X) (n : Nat) (l0 : Option Nat) : pz_Sm X (pz_QM X) J_X4_clearWeights pz_vU 0 [(0, va_rf l0)] [] (X4_clearWeights n l0) := by
  unfold X4_clearWeights
  refine pz_iconst 0 dX4_clearWeights_0 (by decide) ?_
  refine pz_istore_n [(1, .int 0), (0, va_rf l0)] dX4_clearWeights_1 (by decide) (by cases l0 <;> rfl) ?_
  exact pz_sub [1, 0] rfl (S_X4_clearWeights_L2 X n l0 0)
set_option maxRecDepth 20000 in
theorem md_X4_clearWeights (X : pz_X) (n : Nat) (l0 : Option Nat) : pz_Md X yX4_clearWeights J_X4_clearWeights pz_vU [va_rf l0] (X4_clearWeights n l0) :=
  pz_md [(0, va_rf l0)] (by decide +kernel) rfl rfl (by cases l0 <;> rfl) (by cases l0 <;> exact Nat.le_of_ble_eq_true rfl) (fun X => S_X4_clearWeights X n l0)
set_option maxRecDepth 20000 in
theorem S_X4_addPart (X : pz_X) (n : Nat) (l0 : Option Nat) (l1 : Option Nat) (l2 : Int64) : pz_Sm X (pz_QM X) J_X4_addPart pz_vU 0 [(0, va_rf l0), (1, va_rf l1), (2, .long l2)] [] (X4_addPart n l0 l1 l2) := by
  unfold X4_addPart
  refine pz_aload_n 1 dX4_addPart_0 rfl ?_
  refine pz_getR (ci := 3) (k := 1) ck_3 (by decide) (Or.inl pw_392) dX4_addPart_1 (fun x1 => ?_)
  refine pz_aload_n 0 dX4_addPart_4 rfl ?_
  refine pz_getR (ci := 4) (k := 7) ck_4 (by decide) (Or.inl pw_352) dX4_addPart_5 (fun x2 => ?_)
  refine pz_cvI (st := []) (md_X0_compareSize X n x1 x2) ck_0 rfl mk_X0_compareSize (Or.inl pw_838) pw_609 pw_610 rfl rfl (by decide) (by decide) (by decide) dX4_addPart_8 (fun x3 => ?_)
  refine pz_if_ne 27 dX4_addPart_11 (by decide) ?_ ?_
  · refine pz_aload_n 0 dX4_addPart_14 rfl ?_
    refine pz_getR (ci := 4) (k := 2) ck_4 (by decide) (Or.inl pw_347) dX4_addPart_15 (fun x4 => ?_)
    refine pz_aload_n 1 dX4_addPart_18 rfl ?_
    refine pz_getR (ci := 3) (k := 0) ck_3 (by decide) (Or.inl pw_388) dX4_addPart_19 (fun x5 => ?_)
    refine pz_lload_n 2 dX4_addPart_22 rfl ?_
    refine pz_cvU (st := []) (md_X8_addTimes X n x4 x5 l2) ck_8 rfl mk_X8_addTimes (Or.inl pw_839) pw_579 pw_580 rfl rfl (by decide) (by decide) (by decide) dX4_addPart_23 (fun _ => ?_)
    exact pz_vret rfl dX4_addPart_26
  · refine pz_aload_n 0 dX4_addPart_27 rfl ?_
    refine pz_getR (ci := 4) (k := 2) ck_4 (by decide) (Or.inl pw_347) dX4_addPart_28 (fun x7 => ?_)
    refine pz_aload_n 0 dX4_addPart_31 rfl ?_
    refine pz_getR (ci := 4) (k := 8) ck_4 (by decide) (Or.inl pw_353) dX4_addPart_32 (fun x8 => ?_)
    refine pz_cvU (st := []) (md_X8_store X n x7 x8) ck_8 rfl mk_X8_store (Or.inl pw_840) pw_688 pw_689 rfl rfl (by decide) (by decide) (by decide) dX4_addPart_35 (fun _ => ?_)
    refine pz_aload_n 0 dX4_addPart_38 rfl ?_
    refine pz_getR (ci := 4) (k := 2) ck_4 (by decide) (Or.inl pw_347) dX4_addPart_39 (fun x10 => ?_)
    refine pz_cvU (st := []) (md_X8_clear X n x10) ck_8 rfl mk_X8_clear (Or.inl pw_832) pw_575 pw_576 rfl rfl (by decide) (by decide) (by decide) dX4_addPart_42 (fun _ => ?_)
    refine pz_aload_n 0 dX4_addPart_45 rfl ?_
    refine pz_getR (ci := 4) (k := 2) ck_4 (by decide) (Or.inl pw_347) dX4_addPart_46 (fun x12 => ?_)
    refine pz_aload_n 0 dX4_addPart_49 rfl ?_
    refine pz_getR (ci := 4) (k := 8) ck_4 (by decide) (Or.inl pw_353) dX4_addPart_50 (fun x13 => ?_)
    refine pz_aload_n 1 dX4_addPart_53 rfl ?_
    refine pz_getR (ci := 3) (k := 1) ck_3 (by decide) (Or.inl pw_392) dX4_addPart_54 (fun x14 => ?_)
    refine pz_iconst 1 dX4_addPart_57 (by decide) ?_
    refine pz_cvU (st := []) (md_X8_addProduct X n x12 x13 x14 1) ck_8 rfl mk_X8_addProduct (Or.inl pw_841) pw_705 pw_706 rfl rfl (by decide) (by decide) (by decide) dX4_addPart_58 (fun _ => ?_)
    refine pz_aload_n 0 dX4_addPart_61 rfl ?_
    refine pz_getR (ci := 4) (k := 4) ck_4 (by decide) (Or.inl pw_349) dX4_addPart_62 (fun x16 => ?_)
    refine pz_cvU (st := []) (md_X8_clear X n x16) ck_8 rfl mk_X8_clear (Or.inl pw_832) pw_575 pw_576 rfl rfl (by decide) (by decide) (by decide) dX4_addPart_65 (fun _ => ?_)
    refine pz_aload_n 0 dX4_addPart_68 rfl ?_
    refine pz_getR (ci := 4) (k := 4) ck_4 (by decide) (Or.inl pw_349) dX4_addPart_69 (fun x18 => ?_)
    refine pz_aload_n 1 dX4_addPart_72 rfl ?_
    refine pz_getR (ci := 3) (k := 0) ck_3 (by decide) (Or.inl pw_388) dX4_addPart_73 (fun x19 => ?_)
    refine pz_aload_n 0 dX4_addPart_76 rfl ?_
    refine pz_getR (ci := 4) (k := 7) ck_4 (by decide) (Or.inl pw_352) dX4_addPart_77 (fun x20 => ?_)
    refine pz_iconst 1 dX4_addPart_80 (by decide) ?_
    refine pz_cvU (st := []) (md_X8_addProduct X n x18 x19 x20 1) ck_8 rfl mk_X8_addProduct (Or.inl pw_841) pw_705 pw_706 rfl rfl (by decide) (by decide) (by decide) dX4_addPart_81 (fun _ => ?_)
    refine pz_aload_n 0 dX4_addPart_84 rfl ?_
    refine pz_getR (ci := 4) (k := 4) ck_4 (by decide) (Or.inl pw_349) dX4_addPart_85 (fun x22 => ?_)
    refine pz_aload_n 0 dX4_addPart_88 rfl ?_
    refine pz_getR (ci := 4) (k := 8) ck_4 (by decide) (Or.inl pw_353) dX4_addPart_89 (fun x23 => ?_)
    refine pz_cvU (st := []) (md_X8_store X n x22 x23) ck_8 rfl mk_X8_store (Or.inl pw_840) pw_688 pw_689 rfl rfl (by decide) (by decide) (by decide) dX4_addPart_92 (fun _ => ?_)
    refine pz_aload_n 0 dX4_addPart_95 rfl ?_
    refine pz_getR (ci := 4) (k := 2) ck_4 (by decide) (Or.inl pw_347) dX4_addPart_96 (fun x25 => ?_)
    refine pz_aload_n 0 dX4_addPart_99 rfl ?_
    refine pz_getR (ci := 4) (k := 8) ck_4 (by decide) (Or.inl pw_353) dX4_addPart_100 (fun x26 => ?_)
    refine pz_lload_n 2 dX4_addPart_103 rfl ?_
    refine pz_cvU (st := []) (md_X8_addTimes X n x25 x26 l2) ck_8 rfl mk_X8_addTimes (Or.inl pw_839) pw_579 pw_580 rfl rfl (by decide) (by decide) (by decide) dX4_addPart_104 (fun _ => ?_)
    refine pz_aload_n 0 dX4_addPart_107 rfl ?_
    refine pz_getR (ci := 4) (k := 4) ck_4 (by decide) (Or.inl pw_349) dX4_addPart_108 (fun x28 => ?_)
    refine pz_cvU (st := []) (md_X8_clear X n x28) ck_8 rfl mk_X8_clear (Or.inl pw_832) pw_575 pw_576 rfl rfl (by decide) (by decide) (by decide) dX4_addPart_111 (fun _ => ?_)
    refine pz_aload_n 0 dX4_addPart_114 rfl ?_
    refine pz_getR (ci := 4) (k := 4) ck_4 (by decide) (Or.inl pw_349) dX4_addPart_115 (fun x30 => ?_)
    refine pz_aload_n 0 dX4_addPart_118 rfl ?_
    refine pz_getR (ci := 4) (k := 7) ck_4 (by decide) (Or.inl pw_352) dX4_addPart_119 (fun x31 => ?_)
    refine pz_aload_n 1 dX4_addPart_122 rfl ?_
    refine pz_getR (ci := 3) (k := 1) ck_3 (by decide) (Or.inl pw_392) dX4_addPart_123 (fun x32 => ?_)
    refine pz_iconst 1 dX4_addPart_126 (by decide) ?_
    refine pz_cvU (st := []) (md_X8_addProduct X n x30 x31 x32 1) ck_8 rfl mk_X8_addProduct (Or.inl pw_841) pw_705 pw_706 rfl rfl (by decide) (by decide) (by decide) dX4_addPart_127 (fun _ => ?_)
    refine pz_aload_n 0 dX4_addPart_130 rfl ?_
    refine pz_getR (ci := 4) (k := 4) ck_4 (by decide) (Or.inl pw_349) dX4_addPart_131 (fun x34 => ?_)
    refine pz_aload_n 0 dX4_addPart_134 rfl ?_
    refine pz_getR (ci := 4) (k := 7) ck_4 (by decide) (Or.inl pw_352) dX4_addPart_135 (fun x35 => ?_)
    refine pz_cvU (st := []) (md_X8_store X n x34 x35) ck_8 rfl mk_X8_store (Or.inl pw_840) pw_688 pw_689 rfl rfl (by decide) (by decide) (by decide) dX4_addPart_138 (fun _ => ?_)
    exact pz_vret rfl dX4_addPart_141
set_option maxRecDepth 20000 in
theorem md_X4_addPart (X : pz_X) (n : Nat) (l0 : Option Nat) (l1 : Option Nat) (l2 : Int64) : pz_Md X yX4_addPart J_X4_addPart pz_vU [va_rf l0, va_rf l1, .long l2] (X4_addPart n l0 l1 l2) :=
  pz_md [(0, va_rf l0), (1, va_rf l1), (2, .long l2)] (by decide +kernel) rfl rfl (by cases l0 <;> cases l1 <;> rfl) (by cases l0 <;> cases l1 <;> exact Nat.le_of_ble_eq_true rfl) (fun X => S_X4_addPart X n l0 l1 l2)
set_option maxRecDepth 20000 in
theorem S_X4_compareTotal_b83 (X : pz_X) (n : Nat) (l0 : Option Nat) (l2 : Int64) : pz_Sm X (pz_QM X) J_X4_compareTotal pz_vI 83 [(0, va_rf l0), (2, .long l2)] [] (X4_compareTotal_b83 n l0 l2) := by
  unfold X4_compareTotal_b83
  refine pz_aload_n 0 dX4_compareTotal_83 rfl ?_
  refine pz_getR (ci := 4) (k := 2) ck_4 (by decide) (Or.inl pw_347) dX4_compareTotal_84 (fun x6 => ?_)
  refine pz_aload_n 0 dX4_compareTotal_87 rfl ?_
  refine pz_getR (ci := 4) (k := 7) ck_4 (by decide) (Or.inl pw_352) dX4_compareTotal_88 (fun x7 => ?_)
  refine pz_lload_n 1 dX4_compareTotal_91 rfl ?_
  refine pz_lneg dX4_compareTotal_92 ?_
  refine pz_cvU (st := []) (md_X8_addTimes X n x6 x7 (-l2)) ck_8 rfl mk_X8_addTimes (Or.inl pw_839) pw_579 pw_580 rfl rfl (by decide) (by decide) (by decide) dX4_compareTotal_93 (fun _ => ?_)
  refine pz_aload_n 0 dX4_compareTotal_96 rfl ?_
  refine pz_getR (ci := 4) (k := 2) ck_4 (by decide) (Or.inl pw_347) dX4_compareTotal_97 (fun x9 => ?_)
  refine pz_cvI (st := []) (md_X8_signNow X n x9) ck_8 rfl mk_X8_signNow (Or.inl pw_842) pw_588 pw_589 rfl rfl (by decide) (by decide) (by decide) dX4_compareTotal_100 (fun x10 => ?_)
  exact pz_iret rfl dX4_compareTotal_103
set_option maxRecDepth 20000 in
theorem S_X4_compareTotal_b77 (X : pz_X) (n : Nat) (l0 : Option Nat) (l1 : Option Nat) (l2 : Int64) (K18 : Int32 → pz_C Int32) (hK18 : ∀ (l4 : Int32), pz_Sm X (pz_QM X) J_X4_compareTotal pz_vI 18 [(0, va_rf l0), (1, va_rf l1), (2, .long l2), (4, .int l4)] [] (K18 l4)) (l4 : Int32) : pz_Sm X (pz_QM X) J_X4_compareTotal pz_vI 77 [(0, va_rf l0), (1, va_rf l1), (2, .long l2), (4, .int l4)] [] (X4_compareTotal_b77 n K18 l0 l1 l2 l4) := by
  unfold X4_compareTotal_b77
  refine pz_iinc 3 1 (fun l4_16 => [(4, .int l4_16), (0, va_rf l0), (1, va_rf l1), (2, .long l2)]) dX4_compareTotal_77 rfl (by decide) (by decide) (fun l4_16 => rfl) (fun l4_16 => ?_)
  refine pz_goto 18 dX4_compareTotal_80 (by decide) ?_
  exact pz_sub [1, 2, 3, 0] rfl (hK18 l4_16)
set_option maxRecDepth 20000 in
theorem S_X4_compareTotal_L18_body (X : pz_X) (n : Nat) (l0 : Option Nat) (l1 : Option Nat) (l2 : Int64) (K18 : Int32 → pz_C Int32) (hK18 : ∀ (l4 : Int32), pz_Sm X (pz_QM X) J_X4_compareTotal pz_vI 18 [(0, va_rf l0), (1, va_rf l1), (2, .long l2), (4, .int l4)] [] (K18 l4)) (l4 : Int32) : pz_Sm X (pz_QM X) J_X4_compareTotal pz_vI 18 [(0, va_rf l0), (1, va_rf l1), (2, .long l2), (4, .int l4)] [] (X4_compareTotal_L18_body n l0 l1 l2 K18 l4) := by
  unfold X4_compareTotal_L18_body
  refine pz_iload 3 dX4_compareTotal_18 rfl ?_
  refine pz_aload_n 1 dX4_compareTotal_20 rfl ?_
  refine pz_alen (t := 4) rfl dX4_compareTotal_21 (fun x5 => ?_)
  refine pz_icmp_ge 83 dX4_compareTotal_22 (by decide) ?_ ?_
  · exact pz_sub [0, 2] rfl (S_X4_compareTotal_b83 X n l0 l2)
  · refine pz_iload 3 dX4_compareTotal_25 rfl ?_
    refine pz_aload_n 0 dX4_compareTotal_27 rfl ?_
    refine pz_getR (ci := 4) (k := 6) ck_4 (by decide) (Or.inl pw_351) dX4_compareTotal_28 (fun x11 => ?_)
    refine pz_alen (t := 2) rfl dX4_compareTotal_31 (fun x12 => ?_)
    refine pz_icmp_ge 83 dX4_compareTotal_32 (by decide) ?_ ?_
    · exact pz_sub [0, 2] rfl (S_X4_compareTotal_b83 X n l0 l2)
    · refine pz_aload_n 1 dX4_compareTotal_35 rfl ?_
      refine pz_iload 3 dX4_compareTotal_36 rfl ?_
      refine pz_aald (t := 4) rfl rfl dX4_compareTotal_38 (fun x13 => ?_)
      refine pz_astore [(5, va_rf x13), (0, va_rf l0), (1, va_rf l1), (2, .long l2), (4, .int l4)] dX4_compareTotal_39 (by decide) rfl ?_
      refine pz_aload_n 1 dX4_compareTotal_41 rfl ?_
      refine pz_getR (ci := 4) (k := 6) ck_4 (by decide) (Or.inl pw_351) dX4_compareTotal_42 (fun x14 => ?_)
      refine pz_iload 4 dX4_compareTotal_45 rfl ?_
      refine pz_lald (t := 2) rfl dX4_compareTotal_47 (fun x15 => ?_)
      refine pz_lconst 0 dX4_compareTotal_48 (by decide) ?_
      refine pz_lcmp dX4_compareTotal_49 ?_
      refine pz_if_eq 77 dX4_compareTotal_50 (by decide) ?_ ?_
      · exact pz_sub [1, 2, 3, 4] rfl (S_X4_compareTotal_b77 X n l0 l1 l2 K18 hK18 l4)
      · refine pz_aload 0 dX4_compareTotal_53 rfl ?_
        refine pz_getR (ci := 3) (k := 0) ck_3 (by decide) (Or.inl pw_388) dX4_compareTotal_55 (fun x17 => ?_)
        refine pz_getI (ci := 0) (k := 2) ck_0 (by decide) (Or.inl pw_97) dX4_compareTotal_58 (fun x18 => ?_)
        refine pz_if_eq 77 dX4_compareTotal_61 (by decide) ?_ ?_
        · exact pz_sub [1, 2, 3, 4] rfl (S_X4_compareTotal_b77 X n l0 l1 l2 K18 hK18 l4)
        · refine pz_aload_n 1 dX4_compareTotal_64 rfl ?_
          refine pz_aload 0 dX4_compareTotal_65 rfl ?_
          refine pz_aload_n 1 dX4_compareTotal_67 rfl ?_
          refine pz_getR (ci := 4) (k := 6) ck_4 (by decide) (Or.inl pw_351) dX4_compareTotal_68 (fun x19 => ?_)
          refine pz_iload 4 dX4_compareTotal_71 rfl ?_
          refine pz_lald (t := 2) rfl dX4_compareTotal_73 (fun x20 => ?_)
          refine pz_cvU (st := []) (md_X4_addPart X n l0 x13 x20) ck_4 rfl mk_X4_addPart (Or.inl pw_834) pw_836 ps_24 rfl rfl (by decide) (by decide) (by decide) dX4_compareTotal_74 (fun _ => ?_)
          exact pz_sub [1, 2, 3, 4] rfl (S_X4_compareTotal_b77 X n l0 l1 l2 K18 hK18 l4)
set_option maxRecDepth 20000 in
theorem S_X4_compareTotal_L18 (X : pz_X) (n : Nat) (l0 : Option Nat) (l1 : Option Nat) (l2 : Int64) (l4 : Int32) : pz_Sm X (pz_QM X) J_X4_compareTotal pz_vI 18 [(0, va_rf l0), (1, va_rf l1), (2, .long l2), (4, .int l4)] [] (X4_compareTotal_L18 n l0 l1 l2 l4) :=
  pz_lp (L := fun (s : Int32) => [(0, va_rf l0), (1, va_rf l1), (2, .long l2), (4, .int s)]) (fun K hK s => S_X4_compareTotal_L18_body X n l0 l1 l2 (fun l4 => K l4) (fun l4 => hK l4) s) n l4
set_option maxRecDepth 20000 in
theorem S_X4_compareTotal (X : pz_X) (n : Nat) (l0 : Option Nat) (l1 : Option Nat) (l2 : Int64) : pz_Sm X (pz_QM X) J_X4_compareTotal pz_vI 0 [(0, va_rf l0), (1, va_rf l1), (2, .long l2)] [] (X4_compareTotal n l0 l1 l2) := by
  unfold X4_compareTotal
  refine pz_aload_n 0 dX4_compareTotal_0 rfl ?_
  refine pz_getR (ci := 4) (k := 2) ck_4 (by decide) (Or.inl pw_347) dX4_compareTotal_1 (fun x1 => ?_)
  refine pz_cvU (st := []) (md_X8_clear X n x1) ck_8 rfl mk_X8_clear (Or.inl pw_832) pw_575 pw_576 rfl rfl (by decide) (by decide) (by decide) dX4_compareTotal_4 (fun _ => ?_)
  refine pz_aload_n 0 dX4_compareTotal_7 rfl ?_
  refine pz_getR (ci := 4) (k := 7) ck_4 (by decide) (Or.inl pw_352) dX4_compareTotal_8 (fun x3 => ?_)
  refine pz_lconst 1 dX4_compareTotal_11 (by decide) ?_
  refine pz_cvU (st := []) (md_X0_setLong X n x3 1) ck_0 rfl mk_X0_setLong (Or.inl pw_833) pw_383 pw_384 rfl rfl (by decide) (by decide) (by decide) dX4_compareTotal_12 (fun _ => ?_)
  refine pz_iconst 0 dX4_compareTotal_15 (by decide) ?_
  refine pz_istore [(4, .int 0), (0, va_rf l0), (1, va_rf l1), (2, .long l2)] dX4_compareTotal_16 (by decide) rfl ?_
  exact pz_sub [1, 2, 3, 0] rfl (S_X4_compareTotal_L18 X n l0 l1 l2 0)
set_option maxRecDepth 20000 in
theorem md_X4_compareTotal (X : pz_X) (n : Nat) (l0 : Option Nat) (l1 : Option Nat) (l2 : Int64) : pz_Md X yX4_compareTotal J_X4_compareTotal pz_vI [va_rf l0, va_rf l1, .long l2] (X4_compareTotal n l0 l1 l2) :=
  pz_md [(0, va_rf l0), (1, va_rf l1), (2, .long l2)] (by decide +kernel) rfl rfl (by cases l0 <;> cases l1 <;> rfl) (by cases l0 <;> cases l1 <;> exact Nat.le_of_ble_eq_true rfl) (fun X => S_X4_compareTotal X n l0 l1 l2)
