set_option maxRecDepth 20000 in
theorem S_X6_init (X : pz_X) (n : Nat) (l0 : Option Nat) : pz_Sm X (pz_QM X) J_X6_init pz_vU 0 [(0, va_rf l0)] [] (X6_init n l0) := by
  unfold X6_init
  refine pz_aload_n 0 dX6_init_0 rfl ?_
  refine pz_objInit pw_28 pw_21 pw_22 rfl (by decide) (by decide) dX6_init_1 ?_
  refine pz_aload_n 0 dX6_init_4 rfl ?_
  refine pz_bipush 12 dX6_init_5 (by decide) ?_
  refine pz_bipush 10 dX6_init_7 (by decide) ?_
  refine pz_newaG pw_29 dX6_init_9 (fun x1 => ?_)
  refine pz_put (ci := 6) (k := 0) ck_6 (by decide) (Or.inl pw_31) (Or.inr ⟨rfl, rfl, rfl, pw_31⟩) pz_na pz_fa dX6_init_13 ?_
  refine pz_aload_n 0 dX6_init_16 rfl ?_
  refine pz_bipush 12 dX6_init_17 (by decide) ?_
  refine pz_newaI (t := 0) (ft := .int) rfl rfl pw_72 rfl (by decide) (fun C h => by cases h) dX6_init_19 (fun x2 => ?_)
  refine pz_put (ci := 6) (k := 1) ck_6 (by decide) (Or.inl pw_34) (Or.inr ⟨rfl, rfl, rfl, pw_34⟩) pz_na pz_fa dX6_init_21 ?_
  refine pz_aload_n 0 dX6_init_24 rfl ?_
  refine pz_bipush 12 dX6_init_25 (by decide) ?_
  refine pz_newaI (t := 0) (ft := .int) rfl rfl pw_72 rfl (by decide) (fun C h => by cases h) dX6_init_27 (fun x3 => ?_)
  refine pz_put (ci := 6) (k := 2) ck_6 (by decide) (Or.inl pw_37) (Or.inr ⟨rfl, rfl, rfl, pw_37⟩) pz_na pz_fa dX6_init_29 ?_
  refine pz_aload_n 0 dX6_init_32 rfl ?_
  refine pz_bipush 10 dX6_init_33 (by decide) ?_
  refine pz_newaI (t := 1) (ft := .boolean) rfl rfl pw_73 rfl (by decide) (fun C h => by cases h) dX6_init_35 (fun x4 => ?_)
  refine pz_put (ci := 6) (k := 3) ck_6 (by decide) (Or.inl pw_40) (Or.inr ⟨rfl, rfl, rfl, pw_40⟩) pz_na pz_fa dX6_init_37 ?_
  refine pz_aload_n 0 dX6_init_40 rfl ?_
  refine pz_bipush 10 dX6_init_41 (by decide) ?_
  refine pz_newaI (t := 0) (ft := .int) rfl rfl pw_72 rfl (by decide) (fun C h => by cases h) dX6_init_43 (fun x5 => ?_)
  refine pz_put (ci := 6) (k := 4) ck_6 (by decide) (Or.inl pw_44) (Or.inr ⟨rfl, rfl, rfl, pw_44⟩) pz_na pz_fa dX6_init_45 ?_
  exact pz_vret rfl dX6_init_48
set_option maxRecDepth 20000 in
theorem md_X6_init (X : pz_X) (n : Nat) (l0 : Option Nat) : pz_Md X yX6_init J_X6_init pz_vU [va_rf l0] (X6_init n l0) :=
  pz_md [(0, va_rf l0)] (by decide +kernel) rfl rfl (by cases l0 <;> rfl) (by cases l0 <;> exact Nat.le_of_ble_eq_true rfl) (fun X => S_X6_init X n l0)
set_option maxRecDepth 20000 in
theorem S_X0_init_b14 (X : pz_X) (n : Nat) (s0 : Option Nat) (s1 : Int32) : pz_Sm X (pz_QM X) J_X0_init pz_vU 14 [] [.int s1, va_rf s0] (X0_init_b14 n s0 s1) := by
  unfold X0_init_b14
  refine pz_newaI (t := 0) (ft := .int) rfl rfl pw_72 rfl (by decide) (fun C h => by cases h) dX0_init_14 (fun x1 => ?_)
  refine pz_put (ci := 0) (k := 0) ck_0 (by decide) (Or.inl pw_86) (Or.inr ⟨rfl, rfl, rfl, pw_86⟩) pz_na pz_fa dX0_init_16 ?_
  exact pz_vret rfl dX0_init_19
set_option maxRecDepth 20000 in
theorem S_X0_init (X : pz_X) (n : Nat) (l0 : Option Nat) (l1 : Int32) : pz_Sm X (pz_QM X) J_X0_init pz_vU 0 [(0, va_rf l0), (1, .int l1)] [] (X0_init n l0 l1) := by
  unfold X0_init
  refine pz_aload_n 0 dX0_init_0 rfl ?_
  refine pz_objInit pw_85 pw_21 pw_22 rfl (by decide) (by decide) dX0_init_1 ?_
  refine pz_aload_n 0 dX0_init_4 rfl ?_
  refine pz_iload_n 1 dX0_init_5 rfl ?_
  refine pz_if_le 13 dX0_init_6 (by decide) ?_ ?_
  · refine pz_iconst 1 dX0_init_13 (by decide) ?_
    exact pz_sub [] rfl (S_X0_init_b14 X n l0 1)
  · refine pz_iload_n 1 dX0_init_9 rfl ?_
    refine pz_goto 14 dX0_init_10 (by decide) ?_
    exact pz_sub [] rfl (S_X0_init_b14 X n l0 l1)
set_option maxRecDepth 20000 in
theorem md_X0_init (X : pz_X) (n : Nat) (l0 : Option Nat) (l1 : Int32) : pz_Md X yX0_init J_X0_init pz_vU [va_rf l0, .int l1] (X0_init n l0 l1) :=
  pz_md [(0, va_rf l0), (1, .int l1)] (by decide +kernel) rfl rfl (by cases l0 <;> rfl) (by cases l0 <;> exact Nat.le_of_ble_eq_true rfl) (fun X => S_X0_init X n l0 l1)
set_option maxRecDepth 20000 in
theorem S_X2_init (X : pz_X) (n : Nat) (l0 : Option Nat) : pz_Sm X (pz_QM X) J_X2_init pz_vU 0 [(0, va_rf l0)] [] (X2_init n l0) := by
  unfold X2_init
  refine pz_aload_n 0 dX2_init_0 rfl ?_
  refine pz_objInit pw_79 pw_21 pw_22 rfl (by decide) (by decide) dX2_init_1 ?_
  refine pz_aload_n 0 dX2_init_4 rfl ?_
  refine pz_newo (ci := 0) ck_0 pw_80 pw_81 pw_4 df_0 dX2_init_5 (fun x1 => ?_)
  refine pz_dup dX2_init_8 (pz_rf1 _) ?_
  refine pz_sipush 128 dX2_init_9 (by decide) ?_
  refine pz_callI (st := [va_rf x1, va_rf l0]) (md_X0_init X n x1 128) mk_X0_init rfl (Or.inl pw_82) pw_83 rfl rfl rfl (by simp [pz_rf1, pz_ci, pz_cl]) (by decide) (by decide) dX2_init_12 (fun _ => ?_)
  refine pz_put (ci := 2) (k := 0) ck_2 (by decide) (Or.inl pw_108) (Or.inr ⟨rfl, rfl, rfl, pw_108⟩) pz_nr pz_fr dX2_init_15 ?_
  refine pz_aload_n 0 dX2_init_18 rfl ?_
  refine pz_newo (ci := 0) ck_0 pw_80 pw_81 pw_4 df_0 dX2_init_19 (fun x3 => ?_)
  refine pz_dup dX2_init_22 (pz_rf1 _) ?_
  refine pz_sipush 128 dX2_init_23 (by decide) ?_
  refine pz_callI (st := [va_rf x3, va_rf l0]) (md_X0_init X n x3 128) mk_X0_init rfl (Or.inl pw_82) pw_83 rfl rfl rfl (by simp [pz_rf1, pz_ci, pz_cl]) (by decide) (by decide) dX2_init_26 (fun _ => ?_)
  refine pz_put (ci := 2) (k := 1) ck_2 (by decide) (Or.inl pw_110) (Or.inr ⟨rfl, rfl, rfl, pw_110⟩) pz_nr pz_fr dX2_init_29 ?_
  refine pz_aload_n 0 dX2_init_32 rfl ?_
  refine pz_newo (ci := 0) ck_0 pw_80 pw_81 pw_4 df_0 dX2_init_33 (fun x5 => ?_)
  refine pz_dup dX2_init_36 (pz_rf1 _) ?_
  refine pz_sipush 128 dX2_init_37 (by decide) ?_
  refine pz_callI (st := [va_rf x5, va_rf l0]) (md_X0_init X n x5 128) mk_X0_init rfl (Or.inl pw_82) pw_83 rfl rfl rfl (by simp [pz_rf1, pz_ci, pz_cl]) (by decide) (by decide) dX2_init_40 (fun _ => ?_)
  refine pz_put (ci := 2) (k := 2) ck_2 (by decide) (Or.inl pw_113) (Or.inr ⟨rfl, rfl, rfl, pw_113⟩) pz_nr pz_fr dX2_init_43 ?_
  refine pz_aload_n 0 dX2_init_46 rfl ?_
  refine pz_newo (ci := 0) ck_0 pw_80 pw_81 pw_4 df_0 dX2_init_47 (fun x7 => ?_)
  refine pz_dup dX2_init_50 (pz_rf1 _) ?_
  refine pz_sipush 128 dX2_init_51 (by decide) ?_
  refine pz_callI (st := [va_rf x7, va_rf l0]) (md_X0_init X n x7 128) mk_X0_init rfl (Or.inl pw_82) pw_83 rfl rfl rfl (by simp [pz_rf1, pz_ci, pz_cl]) (by decide) (by decide) dX2_init_54 (fun _ => ?_)
  refine pz_put (ci := 2) (k := 3) ck_2 (by decide) (Or.inl pw_114) (Or.inr ⟨rfl, rfl, rfl, pw_114⟩) pz_nr pz_fr dX2_init_57 ?_
  refine pz_aload_n 0 dX2_init_60 rfl ?_
  refine pz_sipush 129 dX2_init_61 (by decide) ?_
  refine pz_newaL (t := 2) rfl rfl pw_130 dX2_init_64 (fun x9 => ?_)
  refine pz_put (ci := 2) (k := 4) ck_2 (by decide) (Or.inl pw_115) (Or.inr ⟨rfl, rfl, rfl, pw_115⟩) pz_na pz_fa dX2_init_66 ?_
  refine pz_aload_n 0 dX2_init_69 rfl ?_
  refine pz_sipush 128 dX2_init_70 (by decide) ?_
  refine pz_newaL (t := 2) rfl rfl pw_130 dX2_init_73 (fun x10 => ?_)
  refine pz_put (ci := 2) (k := 5) ck_2 (by decide) (Or.inl pw_116) (Or.inr ⟨rfl, rfl, rfl, pw_116⟩) pz_na pz_fa dX2_init_75 ?_
  exact pz_vret rfl dX2_init_78
set_option maxRecDepth 20000 in
theorem md_X2_init (X : pz_X) (n : Nat) (l0 : Option Nat) : pz_Md X yX2_init J_X2_init pz_vU [va_rf l0] (X2_init n l0) :=
  pz_md [(0, va_rf l0)] (by decide +kernel) rfl rfl (by cases l0 <;> rfl) (by cases l0 <;> exact Nat.le_of_ble_eq_true rfl) (fun X => S_X2_init X n l0)
set_option maxRecDepth 20000 in
theorem S_X8_init (X : pz_X) (n : Nat) (l0 : Option Nat) : pz_Sm X (pz_QM X) J_X8_init pz_vU 0 [(0, va_rf l0)] [] (X8_init n l0) := by
  unfold X8_init
  refine pz_aload_n 0 dX8_init_0 rfl ?_
  refine pz_objInit pw_136 pw_21 pw_22 rfl (by decide) (by decide) dX8_init_1 ?_
  refine pz_aload_n 0 dX8_init_4 rfl ?_
  refine pz_sipush 128 dX8_init_5 (by decide) ?_
  refine pz_newaL (t := 2) rfl rfl pw_130 dX8_init_8 (fun x1 => ?_)
  refine pz_put (ci := 8) (k := 0) ck_8 (by decide) (Or.inl pw_137) (Or.inr ⟨rfl, rfl, rfl, pw_137⟩) pz_na pz_fa dX8_init_10 ?_
  exact pz_vret rfl dX8_init_13
set_option maxRecDepth 20000 in
theorem md_X8_init (X : pz_X) (n : Nat) (l0 : Option Nat) : pz_Md X yX8_init J_X8_init pz_vU [va_rf l0] (X8_init n l0) :=
  pz_md [(0, va_rf l0)] (by decide +kernel) rfl rfl (by cases l0 <;> rfl) (by cases l0 <;> exact Nat.le_of_ble_eq_true rfl) (fun X => S_X8_init X n l0)
set_option maxRecDepth 20000 in
theorem S_X9_init_L159_body (X : pz_X) (n : Nat) (l0 : Option Nat) (K159 : Int32 → pz_C Unit) (hK159 : ∀ (l3 : Int32), pz_Sm X (pz_QM X) J_X9_init pz_vU 159 [(0, va_rf l0), (3, .int l3)] [] (K159 l3)) (l3 : Int32) : pz_Sm X (pz_QM X) J_X9_init pz_vU 159 [(0, va_rf l0), (3, .int l3)] [] (X9_init_L159_body n l0 K159 l3) := by
  unfold X9_init_L159_body
  refine pz_iload_n 1 dX9_init_159 rfl ?_
  refine pz_aload_n 0 dX9_init_160 rfl ?_
  refine pz_getR (ci := 9) (k := 3) ck_9 (by decide) (Or.inl pw_156) dX9_init_161 (fun x18 => ?_)
  refine pz_alen (t := 3) rfl dX9_init_164 (fun x19 => ?_)
  refine pz_icmp_ge 189 dX9_init_165 (by decide) ?_ ?_
  · exact pz_vret rfl dX9_init_189
  · refine pz_aload_n 0 dX9_init_168 rfl ?_
    refine pz_getR (ci := 9) (k := 3) ck_9 (by decide) (Or.inl pw_156) dX9_init_169 (fun x20 => ?_)
    refine pz_iload_n 1 dX9_init_172 rfl ?_
    refine pz_newo (ci := 0) ck_0 pw_150 pw_81 pw_4 df_0 dX9_init_173 (fun x21 => ?_)
    refine pz_dup dX9_init_176 (pz_rf1 _) ?_
    refine pz_bipush 12 dX9_init_177 (by decide) ?_
    refine pz_callI (st := [va_rf x21, .int l3, va_rf x20]) (md_X0_init X n x21 12) mk_X0_init rfl (Or.inl pw_152) pw_83 rfl rfl rfl (by simp [pz_rf1, pz_ci, pz_cl]) (by decide) (by decide) dX9_init_179 (fun _ => ?_)
    refine pz_aast (t := 3) ck_0 rfl dX9_init_182 ?_
    refine pz_iinc 1 1 (fun l3_23 => [(3, .int l3_23), (0, va_rf l0)]) dX9_init_183 rfl (by decide) (by decide) (fun l3_23 => rfl) (fun l3_23 => ?_)
    refine pz_goto 159 dX9_init_186 (by decide) ?_
    exact pz_sub [1, 0] rfl (hK159 l3_23)
set_option maxRecDepth 20000 in
theorem S_X9_init_L159 (X : pz_X) (n : Nat) (l0 : Option Nat) (l3 : Int32) : pz_Sm X (pz_QM X) J_X9_init pz_vU 159 [(0, va_rf l0), (3, .int l3)] [] (X9_init_L159 n l0 l3) :=
  pz_lp (L := fun (s : Int32) => [(0, va_rf l0), (3, .int s)]) (fun K hK s => S_X9_init_L159_body X n l0 (fun l3 => K l3) (fun l3 => hK l3) s) n l3
set_option maxRecDepth 20000 in
theorem S_X9_init_L127_body (X : pz_X) (n : Nat) (l0 : Option Nat) (K127 : Int32 → pz_C Unit) (hK127 : ∀ (l3 : Int32), pz_Sm X (pz_QM X) J_X9_init pz_vU 127 [(0, va_rf l0), (3, .int l3)] [] (K127 l3)) (l3 : Int32) : pz_Sm X (pz_QM X) J_X9_init pz_vU 127 [(0, va_rf l0), (3, .int l3)] [] (X9_init_L127_body n l0 K127 l3) := by
  unfold X9_init_L127_body
  refine pz_iload_n 1 dX9_init_127 rfl ?_
  refine pz_aload_n 0 dX9_init_128 rfl ?_
  refine pz_getR (ci := 9) (k := 2) ck_9 (by decide) (Or.inl pw_155) dX9_init_129 (fun x16 => ?_)
  refine pz_alen (t := 3) rfl dX9_init_132 (fun x17 => ?_)
  refine pz_icmp_ge 157 dX9_init_133 (by decide) ?_ ?_
  · refine pz_iconst 0 dX9_init_157 (by decide) ?_
    refine pz_istore_n [(3, .int 0), (0, va_rf l0)] dX9_init_158 (by decide) rfl ?_
    exact pz_sub [1, 0] rfl (S_X9_init_L159 X n l0 0)
  · refine pz_aload_n 0 dX9_init_136 rfl ?_
    refine pz_getR (ci := 9) (k := 2) ck_9 (by decide) (Or.inl pw_155) dX9_init_137 (fun x24 => ?_)
    refine pz_iload_n 1 dX9_init_140 rfl ?_
    refine pz_newo (ci := 0) ck_0 pw_150 pw_81 pw_4 df_0 dX9_init_141 (fun x25 => ?_)
    refine pz_dup dX9_init_144 (pz_rf1 _) ?_
    refine pz_bipush 8 dX9_init_145 (by decide) ?_
    refine pz_callI (st := [va_rf x25, .int l3, va_rf x24]) (md_X0_init X n x25 8) mk_X0_init rfl (Or.inl pw_152) pw_83 rfl rfl rfl (by simp [pz_rf1, pz_ci, pz_cl]) (by decide) (by decide) dX9_init_147 (fun _ => ?_)
    refine pz_aast (t := 3) ck_0 rfl dX9_init_150 ?_
    refine pz_iinc 1 1 (fun l3_27 => [(3, .int l3_27), (0, va_rf l0)]) dX9_init_151 rfl (by decide) (by decide) (fun l3_27 => rfl) (fun l3_27 => ?_)
    refine pz_goto 127 dX9_init_154 (by decide) ?_
    exact pz_sub [1, 0] rfl (hK127 l3_27)
set_option maxRecDepth 20000 in
theorem S_X9_init_L127 (X : pz_X) (n : Nat) (l0 : Option Nat) (l3 : Int32) : pz_Sm X (pz_QM X) J_X9_init pz_vU 127 [(0, va_rf l0), (3, .int l3)] [] (X9_init_L127 n l0 l3) :=
  pz_lp (L := fun (s : Int32) => [(0, va_rf l0), (3, .int s)]) (fun K hK s => S_X9_init_L127_body X n l0 (fun l3 => K l3) (fun l3 => hK l3) s) n l3
set_option maxRecDepth 20000 in
theorem S_X9_init (X : pz_X) (n : Nat) (l0 : Option Nat) (l1 : Option Nat) (l2 : Option Nat) : pz_Sm X (pz_QM X) J_X9_init pz_vU 0 [(0, va_rf l0), (1, va_rf l1), (2, va_rf l2)] [] (X9_init n l0 l1 l2) := by
  unfold X9_init
  refine pz_aload_n 0 dX9_init_0 rfl ?_
  refine pz_objInit pw_149 pw_21 pw_22 rfl (by decide) (by decide) dX9_init_1 ?_
  refine pz_aload_n 0 dX9_init_4 rfl ?_
  refine pz_bipush 120 dX9_init_5 (by decide) ?_
  refine pz_newaR (t := 3) rfl pw_150 (by decide) dX9_init_7 (fun x1 => ?_)
  refine pz_put (ci := 9) (k := 2) ck_9 (by decide) (Or.inl pw_155) (Or.inr ⟨rfl, rfl, rfl, pw_155⟩) pz_na pz_fa dX9_init_10 ?_
  refine pz_aload_n 0 dX9_init_13 rfl ?_
  refine pz_bipush 12 dX9_init_14 (by decide) ?_
  refine pz_newaR (t := 3) rfl pw_150 (by decide) dX9_init_16 (fun x2 => ?_)
  refine pz_put (ci := 9) (k := 3) ck_9 (by decide) (Or.inl pw_156) (Or.inr ⟨rfl, rfl, rfl, pw_156⟩) pz_na pz_fa dX9_init_19 ?_
  refine pz_aload_n 0 dX9_init_22 rfl ?_
  refine pz_bipush 10 dX9_init_23 (by decide) ?_
  refine pz_newaL (t := 2) rfl rfl pw_130 dX9_init_25 (fun x3 => ?_)
  refine pz_put (ci := 9) (k := 4) ck_9 (by decide) (Or.inl pw_157) (Or.inr ⟨rfl, rfl, rfl, pw_157⟩) pz_na pz_fa dX9_init_27 ?_
  refine pz_aload_n 0 dX9_init_30 rfl ?_
  refine pz_bipush 12 dX9_init_31 (by decide) ?_
  refine pz_newaI (t := 0) (ft := .int) rfl rfl pw_72 rfl (by decide) (fun C h => by cases h) dX9_init_33 (fun x4 => ?_)
  refine pz_put (ci := 9) (k := 5) ck_9 (by decide) (Or.inl pw_159) (Or.inr ⟨rfl, rfl, rfl, pw_159⟩) pz_na pz_fa dX9_init_35 ?_
  refine pz_aload_n 0 dX9_init_38 rfl ?_
  refine pz_bipush 10 dX9_init_39 (by decide) ?_
  refine pz_newaI (t := 0) (ft := .int) rfl rfl pw_72 rfl (by decide) (fun C h => by cases h) dX9_init_41 (fun x5 => ?_)
  refine pz_put (ci := 9) (k := 6) ck_9 (by decide) (Or.inl pw_161) (Or.inr ⟨rfl, rfl, rfl, pw_161⟩) pz_na pz_fa dX9_init_43 ?_
  refine pz_aload_n 0 dX9_init_46 rfl ?_
  refine pz_bipush 22 dX9_init_47 (by decide) ?_
  refine pz_newaI (t := 0) (ft := .int) rfl rfl pw_72 rfl (by decide) (fun C h => by cases h) dX9_init_49 (fun x6 => ?_)
  refine pz_put (ci := 9) (k := 7) ck_9 (by decide) (Or.inl pw_163) (Or.inr ⟨rfl, rfl, rfl, pw_163⟩) pz_na pz_fa dX9_init_51 ?_
  refine pz_aload_n 0 dX9_init_54 rfl ?_
  refine pz_bipush 22 dX9_init_55 (by decide) ?_
  refine pz_newaI (t := 1) (ft := .boolean) rfl rfl pw_73 rfl (by decide) (fun C h => by cases h) dX9_init_57 (fun x7 => ?_)
  refine pz_put (ci := 9) (k := 8) ck_9 (by decide) (Or.inl pw_164) (Or.inr ⟨rfl, rfl, rfl, pw_164⟩) pz_na pz_fa dX9_init_59 ?_
  refine pz_aload_n 0 dX9_init_62 rfl ?_
  refine pz_newo (ci := 0) ck_0 pw_150 pw_81 pw_4 df_0 dX9_init_63 (fun x8 => ?_)
  refine pz_dup dX9_init_66 (pz_rf1 _) ?_
  refine pz_bipush 8 dX9_init_67 (by decide) ?_
  refine pz_callI (st := [va_rf x8, va_rf l0]) (md_X0_init X n x8 8) mk_X0_init rfl (Or.inl pw_152) pw_83 rfl rfl rfl (by simp [pz_rf1, pz_ci, pz_cl]) (by decide) (by decide) dX9_init_69 (fun _ => ?_)
  refine pz_put (ci := 9) (k := 9) ck_9 (by decide) (Or.inl pw_165) (Or.inr ⟨rfl, rfl, rfl, pw_165⟩) pz_nr pz_fr dX9_init_72 ?_
  refine pz_aload_n 0 dX9_init_75 rfl ?_
  refine pz_newo (ci := 0) ck_0 pw_150 pw_81 pw_4 df_0 dX9_init_76 (fun x10 => ?_)
  refine pz_dup dX9_init_79 (pz_rf1 _) ?_
  refine pz_bipush 12 dX9_init_80 (by decide) ?_
  refine pz_callI (st := [va_rf x10, va_rf l0]) (md_X0_init X n x10 12) mk_X0_init rfl (Or.inl pw_152) pw_83 rfl rfl rfl (by simp [pz_rf1, pz_ci, pz_cl]) (by decide) (by decide) dX9_init_82 (fun _ => ?_)
  refine pz_put (ci := 9) (k := 10) ck_9 (by decide) (Or.inl pw_168) (Or.inr ⟨rfl, rfl, rfl, pw_168⟩) pz_nr pz_fr dX9_init_85 ?_
  refine pz_aload_n 0 dX9_init_88 rfl ?_
  refine pz_newo (ci := 0) ck_0 pw_150 pw_81 pw_4 df_0 dX9_init_89 (fun x12 => ?_)
  refine pz_dup dX9_init_92 (pz_rf1 _) ?_
  refine pz_bipush 8 dX9_init_93 (by decide) ?_
  refine pz_callI (st := [va_rf x12, va_rf l0]) (md_X0_init X n x12 8) mk_X0_init rfl (Or.inl pw_152) pw_83 rfl rfl rfl (by simp [pz_rf1, pz_ci, pz_cl]) (by decide) (by decide) dX9_init_95 (fun _ => ?_)
  refine pz_put (ci := 9) (k := 11) ck_9 (by decide) (Or.inl pw_169) (Or.inr ⟨rfl, rfl, rfl, pw_169⟩) pz_nr pz_fr dX9_init_98 ?_
  refine pz_aload_n 0 dX9_init_101 rfl ?_
  refine pz_newo (ci := 0) ck_0 pw_150 pw_81 pw_4 df_0 dX9_init_102 (fun x14 => ?_)
  refine pz_dup dX9_init_105 (pz_rf1 _) ?_
  refine pz_sipush 128 dX9_init_106 (by decide) ?_
  refine pz_callI (st := [va_rf x14, va_rf l0]) (md_X0_init X n x14 128) mk_X0_init rfl (Or.inl pw_152) pw_83 rfl rfl rfl (by simp [pz_rf1, pz_ci, pz_cl]) (by decide) (by decide) dX9_init_109 (fun _ => ?_)
  refine pz_put (ci := 9) (k := 12) ck_9 (by decide) (Or.inl pw_170) (Or.inr ⟨rfl, rfl, rfl, pw_170⟩) pz_nr pz_fr dX9_init_112 ?_
  refine pz_aload_n 0 dX9_init_115 rfl ?_
  refine pz_aload_n 1 dX9_init_116 rfl ?_
  refine pz_put (ci := 9) (k := 0) ck_9 (by decide) (Or.inl pw_153) (Or.inr ⟨rfl, rfl, rfl, pw_153⟩) pz_nr pz_fr dX9_init_117 ?_
  refine pz_aload_n 0 dX9_init_120 rfl ?_
  refine pz_aload_n 2 dX9_init_121 rfl ?_
  refine pz_put (ci := 9) (k := 1) ck_9 (by decide) (Or.inl pw_154) (Or.inr ⟨rfl, rfl, rfl, pw_154⟩) pz_nr pz_fr dX9_init_122 ?_
  refine pz_iconst 0 dX9_init_125 (by decide) ?_
  refine pz_istore_n [(3, .int 0), (0, va_rf l0), (1, va_rf l1), (2, va_rf l2)] dX9_init_126 (by decide) (by cases l2 <;> rfl) ?_
  exact pz_sub [1, 0] rfl (S_X9_init_L127 X n l0 0)
set_option maxRecDepth 20000 in
theorem md_X9_init (X : pz_X) (n : Nat) (l0 : Option Nat) (l1 : Option Nat) (l2 : Option Nat) : pz_Md X yX9_init J_X9_init pz_vU [va_rf l0, va_rf l1, va_rf l2] (X9_init n l0 l1 l2) :=
  pz_md [(0, va_rf l0), (1, va_rf l1), (2, va_rf l2)] (by decide +kernel) rfl rfl (by cases l0 <;> cases l1 <;> cases l2 <;> rfl) (by cases l0 <;> cases l1 <;> cases l2 <;> exact Nat.le_of_ble_eq_true rfl) (fun X => S_X9_init X n l0 l1 l2)
set_option maxRecDepth 20000 in
theorem S_X10_init (X : pz_X) (n : Nat) (l0 : Option Nat) : pz_Sm X (pz_QM X) J_X10_init pz_vU 0 [(0, va_rf l0)] [] (X10_init n l0) := by
  unfold X10_init
  refine pz_aload_n 0 dX10_init_0 rfl ?_
  refine pz_objInit pw_209 pw_21 pw_22 rfl (by decide) (by decide) dX10_init_1 ?_
  refine pz_aload_n 0 dX10_init_4 rfl ?_
  refine pz_sipush 301 dX10_init_5 (by decide) ?_
  refine pz_newaI (t := 0) (ft := .int) rfl rfl pw_72 rfl (by decide) (fun C h => by cases h) dX10_init_8 (fun x1 => ?_)
  refine pz_put (ci := 10) (k := 0) ck_10 (by decide) (Or.inl pw_212) (Or.inr ⟨rfl, rfl, rfl, pw_212⟩) pz_na pz_fa dX10_init_10 ?_
  refine pz_aload_n 0 dX10_init_13 rfl ?_
  refine pz_sipush 301 dX10_init_14 (by decide) ?_
  refine pz_newaI (t := 0) (ft := .int) rfl rfl pw_72 rfl (by decide) (fun C h => by cases h) dX10_init_17 (fun x2 => ?_)
  refine pz_put (ci := 10) (k := 1) ck_10 (by decide) (Or.inl pw_215) (Or.inr ⟨rfl, rfl, rfl, pw_215⟩) pz_na pz_fa dX10_init_19 ?_
  refine pz_aload_n 0 dX10_init_22 rfl ?_
  refine pz_sipush 301 dX10_init_23 (by decide) ?_
  refine pz_newaI (t := 0) (ft := .int) rfl rfl pw_72 rfl (by decide) (fun C h => by cases h) dX10_init_26 (fun x3 => ?_)
  refine pz_put (ci := 10) (k := 2) ck_10 (by decide) (Or.inl pw_218) (Or.inr ⟨rfl, rfl, rfl, pw_218⟩) pz_na pz_fa dX10_init_28 ?_
  refine pz_aload_n 0 dX10_init_31 rfl ?_
  refine pz_sipush 301 dX10_init_32 (by decide) ?_
  refine pz_newaI (t := 0) (ft := .int) rfl rfl pw_72 rfl (by decide) (fun C h => by cases h) dX10_init_35 (fun x4 => ?_)
  refine pz_put (ci := 10) (k := 3) ck_10 (by decide) (Or.inl pw_221) (Or.inr ⟨rfl, rfl, rfl, pw_221⟩) pz_na pz_fa dX10_init_37 ?_
  refine pz_aload_n 0 dX10_init_40 rfl ?_
  refine pz_sipush 301 dX10_init_41 (by decide) ?_
  refine pz_newaL (t := 2) rfl rfl pw_130 dX10_init_44 (fun x5 => ?_)
  refine pz_put (ci := 10) (k := 4) ck_10 (by decide) (Or.inl pw_226) (Or.inr ⟨rfl, rfl, rfl, pw_226⟩) pz_na pz_fa dX10_init_46 ?_
  refine pz_aload_n 0 dX10_init_49 rfl ?_
  refine pz_sipush 301 dX10_init_50 (by decide) ?_
  refine pz_newaL (t := 2) rfl rfl pw_130 dX10_init_53 (fun x6 => ?_)
  refine pz_put (ci := 10) (k := 5) ck_10 (by decide) (Or.inl pw_228) (Or.inr ⟨rfl, rfl, rfl, pw_228⟩) pz_na pz_fa dX10_init_55 ?_
  refine pz_aload_n 0 dX10_init_58 rfl ?_
  refine pz_sipush 301 dX10_init_59 (by decide) ?_
  refine pz_newaI (t := 1) (ft := .boolean) rfl rfl pw_73 rfl (by decide) (fun C h => by cases h) dX10_init_62 (fun x7 => ?_)
  refine pz_put (ci := 10) (k := 6) ck_10 (by decide) (Or.inl pw_231) (Or.inr ⟨rfl, rfl, rfl, pw_231⟩) pz_na pz_fa dX10_init_64 ?_
  refine pz_aload_n 0 dX10_init_67 rfl ?_
  refine pz_sipush 301 dX10_init_68 (by decide) ?_
  refine pz_newaI (t := 0) (ft := .int) rfl rfl pw_72 rfl (by decide) (fun C h => by cases h) dX10_init_71 (fun x8 => ?_)
  refine pz_put (ci := 10) (k := 7) ck_10 (by decide) (Or.inl pw_234) (Or.inr ⟨rfl, rfl, rfl, pw_234⟩) pz_na pz_fa dX10_init_73 ?_
  refine pz_aload_n 0 dX10_init_76 rfl ?_
  refine pz_sipush 151 dX10_init_77 (by decide) ?_
  refine pz_newaR (t := 5) rfl pw_210 (by decide) dX10_init_80 (fun x9 => ?_)
  refine pz_put (ci := 10) (k := 8) ck_10 (by decide) (Or.inl pw_235) (Or.inr ⟨rfl, rfl, rfl, pw_235⟩) pz_na pz_fa dX10_init_83 ?_
  refine pz_aload_n 0 dX10_init_86 rfl ?_
  refine pz_bipush (-2) dX10_init_87 (by decide) ?_
  refine pz_put (ci := 10) (k := 11) ck_10 (by decide) (Or.inl pw_239) (Or.inl rfl) rfl rfl dX10_init_89 ?_
  exact pz_vret rfl dX10_init_92
set_option maxRecDepth 20000 in
theorem md_X10_init (X : pz_X) (n : Nat) (l0 : Option Nat) : pz_Md X yX10_init J_X10_init pz_vU [va_rf l0] (X10_init n l0) :=
  pz_md [(0, va_rf l0)] (by decide +kernel) rfl rfl (by cases l0 <;> rfl) (by cases l0 <;> exact Nat.le_of_ble_eq_true rfl) (fun X => S_X10_init X n l0)
set_option maxRecDepth 20000 in
theorem S_X1_init (X : pz_X) (n : Nat) (l0 : Option Nat) : pz_Sm X (pz_QM X) J_X1_init pz_vU 0 [(0, va_rf l0)] [] (X1_init n l0) := by
  unfold X1_init
  refine pz_aload_n 0 dX1_init_0 rfl ?_
  refine pz_objInit pw_278 pw_21 pw_22 rfl (by decide) (by decide) dX1_init_1 ?_
  refine pz_aload_n 0 dX1_init_4 rfl ?_
  refine pz_bipush 22 dX1_init_5 (by decide) ?_
  refine pz_newaI (t := 1) (ft := .boolean) rfl rfl pw_73 rfl (by decide) (fun C h => by cases h) dX1_init_7 (fun x1 => ?_)
  refine pz_put (ci := 1) (k := 0) ck_1 (by decide) (Or.inl pw_279) (Or.inr ⟨rfl, rfl, rfl, pw_279⟩) pz_na pz_fa dX1_init_9 ?_
  refine pz_aload_n 0 dX1_init_12 rfl ?_
  refine pz_bipush 22 dX1_init_13 (by decide) ?_
  refine pz_newaI (t := 1) (ft := .boolean) rfl rfl pw_73 rfl (by decide) (fun C h => by cases h) dX1_init_15 (fun x2 => ?_)
  refine pz_put (ci := 1) (k := 1) ck_1 (by decide) (Or.inl pw_282) (Or.inr ⟨rfl, rfl, rfl, pw_282⟩) pz_na pz_fa dX1_init_17 ?_
  refine pz_aload_n 0 dX1_init_20 rfl ?_
  refine pz_bipush 22 dX1_init_21 (by decide) ?_
  refine pz_newaL (t := 2) rfl rfl pw_130 dX1_init_23 (fun x3 => ?_)
  refine pz_put (ci := 1) (k := 2) ck_1 (by decide) (Or.inl pw_285) (Or.inr ⟨rfl, rfl, rfl, pw_285⟩) pz_na pz_fa dX1_init_25 ?_
  refine pz_aload_n 0 dX1_init_28 rfl ?_
  refine pz_bipush 22 dX1_init_29 (by decide) ?_
  refine pz_newaL (t := 2) rfl rfl pw_130 dX1_init_31 (fun x4 => ?_)
  refine pz_put (ci := 1) (k := 3) ck_1 (by decide) (Or.inl pw_288) (Or.inr ⟨rfl, rfl, rfl, pw_288⟩) pz_na pz_fa dX1_init_33 ?_
  exact pz_vret rfl dX1_init_36
set_option maxRecDepth 20000 in
theorem md_X1_init (X : pz_X) (n : Nat) (l0 : Option Nat) : pz_Md X yX1_init J_X1_init pz_vU [va_rf l0] (X1_init n l0) :=
  pz_md [(0, va_rf l0)] (by decide +kernel) rfl rfl (by cases l0 <;> rfl) (by cases l0 <;> exact Nat.le_of_ble_eq_true rfl) (fun X => S_X1_init X n l0)
set_option maxRecDepth 20000 in
theorem S_X7_init (X : pz_X) (n : Nat) (l0 : Option Nat) (l1 : Option Nat) (l2 : Option Nat) (l3 : Option Nat) : pz_Sm X (pz_QM X) J_X7_init pz_vU 0 [(0, va_rf l0), (1, va_rf l1), (2, va_rf l2), (3, va_rf l3)] [] (X7_init n l0 l1 l2 l3) := by
  unfold X7_init
  refine pz_aload_n 0 dX7_init_0 rfl ?_
  refine pz_objInit pw_272 pw_21 pw_22 rfl (by decide) (by decide) dX7_init_1 ?_
  refine pz_aload_n 0 dX7_init_4 rfl ?_
  refine pz_newo (ci := 1) ck_1 pw_273 pw_274 pw_9 df_1 dX7_init_5 (fun x1 => ?_)
  refine pz_dup dX7_init_8 (pz_rf1 _) ?_
  refine pz_callI (st := [va_rf x1, va_rf l0]) (md_X1_init X n x1) mk_X1_init rfl (Or.inr ⟨"RowSolver", pn_275⟩) pw_276 rfl rfl rfl (by simp [pz_rf1, pz_ci, pz_cl]) (by decide) (by decide) dX7_init_9 (fun _ => ?_)
  refine pz_put (ci := 7) (k := 3) ck_7 (by decide) (Or.inl pw_303) (Or.inr ⟨rfl, rfl, rfl, pw_303⟩) pz_nr pz_fr dX7_init_12 ?_
  refine pz_aload_n 0 dX7_init_15 rfl ?_
  refine pz_iconst 0 dX7_init_16 (by decide) ?_
  refine pz_put (ci := 7) (k := 4) ck_7 (by decide) (Or.inl pw_304) (Or.inl rfl) rfl rfl dX7_init_17 ?_
  refine pz_aload_n 0 dX7_init_20 rfl ?_
  refine pz_aload_n 1 dX7_init_21 rfl ?_
  refine pz_put (ci := 7) (k := 0) ck_7 (by decide) (Or.inl pw_300) (Or.inr ⟨rfl, rfl, rfl, pw_300⟩) pz_nr pz_fr dX7_init_22 ?_
  refine pz_aload_n 0 dX7_init_25 rfl ?_
  refine pz_aload_n 2 dX7_init_26 rfl ?_
  refine pz_put (ci := 7) (k := 1) ck_7 (by decide) (Or.inl pw_301) (Or.inr ⟨rfl, rfl, rfl, pw_301⟩) pz_nr pz_fr dX7_init_27 ?_
  refine pz_aload_n 0 dX7_init_30 rfl ?_
  refine pz_aload_n 3 dX7_init_31 rfl ?_
  refine pz_put (ci := 7) (k := 2) ck_7 (by decide) (Or.inl pw_302) (Or.inr ⟨rfl, rfl, rfl, pw_302⟩) pz_nr pz_fr dX7_init_32 ?_
  exact pz_vret rfl dX7_init_35
set_option maxRecDepth 20000 in
theorem md_X7_init (X : pz_X) (n : Nat) (l0 : Option Nat) (l1 : Option Nat) (l2 : Option Nat) (l3 : Option Nat) : pz_Md X yX7_init J_X7_init pz_vU [va_rf l0, va_rf l1, va_rf l2, va_rf l3] (X7_init n l0 l1 l2 l3) :=
  pz_md [(0, va_rf l0), (1, va_rf l1), (2, va_rf l2), (3, va_rf l3)] (by decide +kernel) rfl rfl (by cases l0 <;> cases l1 <;> cases l2 <;> cases l3 <;> rfl) (by cases l0 <;> cases l1 <;> cases l2 <;> cases l3 <;> exact Nat.le_of_ble_eq_true rfl) (fun X => S_X7_init X n l0 l1 l2 l3)
set_option maxRecDepth 20000 in
theorem S_X4_init (X : pz_X) (n : Nat) (l0 : Option Nat) (l1 : Option Nat) (l2 : Option Nat) (l3 : Option Nat) (l4 : Option Nat) : pz_Sm X (pz_QM X) J_X4_init pz_vU 0 [(0, va_rf l0), (1, va_rf l1), (2, va_rf l2), (3, va_rf l3), (4, va_rf l4)] [] (X4_init n l0 l1 l2 l3 l4) := by
  unfold X4_init
  refine pz_aload_n 0 dX4_init_0 rfl ?_
  refine pz_objInit pw_338 pw_21 pw_22 rfl (by decide) (by decide) dX4_init_1 ?_
  refine pz_aload_n 0 dX4_init_4 rfl ?_
  refine pz_newo (ci := 8) ck_8 pw_339 pw_132 pw_5 df_8 dX4_init_5 (fun x1 => ?_)
  refine pz_dup dX4_init_8 (pz_rf1 _) ?_
  refine pz_callI (st := [va_rf x1, va_rf l0]) (md_X8_init X n x1) mk_X8_init rfl (Or.inr ⟨"RowSolver", pn_340⟩) pw_134 rfl rfl rfl (by simp [pz_rf1, pz_ci, pz_cl]) (by decide) (by decide) dX4_init_9 (fun _ => ?_)
  refine pz_put (ci := 4) (k := 4) ck_4 (by decide) (Or.inl pw_349) (Or.inr ⟨rfl, rfl, rfl, pw_349⟩) pz_nr pz_fr dX4_init_12 ?_
  refine pz_aload_n 0 dX4_init_15 rfl ?_
  refine pz_newo (ci := 1) ck_1 pw_341 pw_274 pw_9 df_1 dX4_init_16 (fun x3 => ?_)
  refine pz_dup dX4_init_19 (pz_rf1 _) ?_
  refine pz_callI (st := [va_rf x3, va_rf l0]) (md_X1_init X n x3) mk_X1_init rfl (Or.inr ⟨"RowSolver", pn_342⟩) pw_276 rfl rfl rfl (by simp [pz_rf1, pz_ci, pz_cl]) (by decide) (by decide) dX4_init_20 (fun _ => ?_)
  refine pz_put (ci := 4) (k := 5) ck_4 (by decide) (Or.inl pw_350) (Or.inr ⟨rfl, rfl, rfl, pw_350⟩) pz_nr pz_fr dX4_init_23 ?_
  refine pz_aload_n 0 dX4_init_26 rfl ?_
  refine pz_bipush 32 dX4_init_27 (by decide) ?_
  refine pz_newaL (t := 2) rfl rfl pw_130 dX4_init_29 (fun x5 => ?_)
  refine pz_put (ci := 4) (k := 6) ck_4 (by decide) (Or.inl pw_351) (Or.inr ⟨rfl, rfl, rfl, pw_351⟩) pz_na pz_fa dX4_init_31 ?_
  refine pz_aload_n 0 dX4_init_34 rfl ?_
  refine pz_newo (ci := 0) ck_0 pw_343 pw_81 pw_4 df_0 dX4_init_35 (fun x6 => ?_)
  refine pz_dup dX4_init_38 (pz_rf1 _) ?_
  refine pz_sipush 128 dX4_init_39 (by decide) ?_
  refine pz_callI (st := [va_rf x6, va_rf l0]) (md_X0_init X n x6 128) mk_X0_init rfl (Or.inl pw_344) pw_83 rfl rfl rfl (by simp [pz_rf1, pz_ci, pz_cl]) (by decide) (by decide) dX4_init_42 (fun _ => ?_)
  refine pz_put (ci := 4) (k := 7) ck_4 (by decide) (Or.inl pw_352) (Or.inr ⟨rfl, rfl, rfl, pw_352⟩) pz_nr pz_fr dX4_init_45 ?_
  refine pz_aload_n 0 dX4_init_48 rfl ?_
  refine pz_newo (ci := 0) ck_0 pw_343 pw_81 pw_4 df_0 dX4_init_49 (fun x8 => ?_)
  refine pz_dup dX4_init_52 (pz_rf1 _) ?_
  refine pz_sipush 128 dX4_init_53 (by decide) ?_
  refine pz_callI (st := [va_rf x8, va_rf l0]) (md_X0_init X n x8 128) mk_X0_init rfl (Or.inl pw_344) pw_83 rfl rfl rfl (by simp [pz_rf1, pz_ci, pz_cl]) (by decide) (by decide) dX4_init_56 (fun _ => ?_)
  refine pz_put (ci := 4) (k := 8) ck_4 (by decide) (Or.inl pw_353) (Or.inr ⟨rfl, rfl, rfl, pw_353⟩) pz_nr pz_fr dX4_init_59 ?_
  refine pz_aload_n 0 dX4_init_62 rfl ?_
  refine pz_aload_n 1 dX4_init_63 rfl ?_
  refine pz_put (ci := 4) (k := 0) ck_4 (by decide) (Or.inl pw_345) (Or.inr ⟨rfl, rfl, rfl, pw_345⟩) pz_nr pz_fr dX4_init_64 ?_
  refine pz_aload_n 0 dX4_init_67 rfl ?_
  refine pz_aload_n 2 dX4_init_68 rfl ?_
  refine pz_put (ci := 4) (k := 1) ck_4 (by decide) (Or.inl pw_346) (Or.inr ⟨rfl, rfl, rfl, pw_346⟩) pz_nr pz_fr dX4_init_69 ?_
  refine pz_aload_n 0 dX4_init_72 rfl ?_
  refine pz_aload_n 3 dX4_init_73 rfl ?_
  refine pz_put (ci := 4) (k := 2) ck_4 (by decide) (Or.inl pw_347) (Or.inr ⟨rfl, rfl, rfl, pw_347⟩) pz_nr pz_fr dX4_init_74 ?_
  refine pz_aload_n 0 dX4_init_77 rfl ?_
  refine pz_aload 4 dX4_init_78 rfl ?_
  refine pz_put (ci := 4) (k := 3) ck_4 (by decide) (Or.inl pw_348) (Or.inr ⟨rfl, rfl, rfl, pw_348⟩) pz_nr pz_fr dX4_init_80 ?_
  exact pz_vret rfl dX4_init_83
set_option maxRecDepth 20000 in
theorem md_X4_init (X : pz_X) (n : Nat) (l0 : Option Nat) (l1 : Option Nat) (l2 : Option Nat) (l3 : Option Nat) (l4 : Option Nat) : pz_Md X yX4_init J_X4_init pz_vU [va_rf l0, va_rf l1, va_rf l2, va_rf l3, va_rf l4] (X4_init n l0 l1 l2 l3 l4) :=
  pz_md [(0, va_rf l0), (1, va_rf l1), (2, va_rf l2), (3, va_rf l3), (4, va_rf l4)] (by decide +kernel) rfl rfl (by cases l0 <;> cases l1 <;> cases l2 <;> cases l3 <;> cases l4 <;> rfl) (by cases l0 <;> cases l1 <;> cases l2 <;> cases l3 <;> cases l4 <;> exact Nat.le_of_ble_eq_true rfl) (fun X => S_X4_init X n l0 l1 l2 l3 l4)
set_option maxRecDepth 20000 in
theorem S_X0_setLong_b89 (X : pz_X) (n : Nat) : pz_Sm X (pz_QM X) J_X0_setLong pz_vU 89 [] [] (X0_setLong_b89 n) := by
  unfold X0_setLong_b89
  exact pz_vret rfl dX0_setLong_89
set_option maxRecDepth 20000 in
theorem S_X0_setLong_L35_body (X : pz_X) (n : Nat) (l0 : Option Nat) (K35 : Int64 → Int32 → pz_C Unit) (hK35 : ∀ (l3 : Int64) (l5 : Int32), pz_Sm X (pz_QM X) J_X0_setLong pz_vU 35 [(0, va_rf l0), (3, .long l3), (5, .int l5)] [] (K35 l3 l5)) (l3 : Int64) (l5 : Int32) : pz_Sm X (pz_QM X) J_X0_setLong pz_vU 35 [(0, va_rf l0), (3, .long l3), (5, .int l5)] [] (X0_setLong_L35_body n l0 K35 l3 l5) := by
  unfold X0_setLong_L35_body
  refine pz_iload 2 dX0_setLong_35 rfl ?_
  refine pz_aload_n 0 dX0_setLong_37 rfl ?_
  refine pz_getR (ci := 0) (k := 0) ck_0 (by decide) (Or.inl pw_86) dX0_setLong_38 (fun x1 => ?_)
  refine pz_alen (t := 0) rfl dX0_setLong_41 (fun x2 => ?_)
  refine pz_icmp_ge 89 dX0_setLong_42 (by decide) ?_ ?_
  · exact pz_sub [] rfl (S_X0_setLong_b89 X n)
  · refine pz_lload_n 1 dX0_setLong_45 rfl ?_
    refine pz_lconst 0 dX0_setLong_46 (by decide) ?_
    refine pz_lcmp dX0_setLong_47 ?_
    refine pz_if_eq 89 dX0_setLong_48 (by decide) ?_ ?_
    · exact pz_sub [] rfl (S_X0_setLong_b89 X n)
    · refine pz_aload_n 0 dX0_setLong_51 rfl ?_
      refine pz_getR (ci := 0) (k := 0) ck_0 (by decide) (Or.inl pw_86) dX0_setLong_52 (fun x3 => ?_)
      refine pz_iload 2 dX0_setLong_55 rfl ?_
      refine pz_aload_n 0 dX0_setLong_57 rfl ?_
      refine pz_getI (ci := 0) (k := 2) ck_0 (by decide) (Or.inl pw_94) dX0_setLong_58 (fun x4 => ?_)
      refine pz_lload_n 1 dX0_setLong_61 rfl ?_
      refine pz_ldc2 1000000000 dX0_setLong_62 pw_386 ?_
      refine pz_lrem dX0_setLong_65 (fun x5 => ?_)
      refine pz_l2i dX0_setLong_66 ?_
      refine pz_imul dX0_setLong_67 ?_
      refine pz_iast (t := 0) rfl dX0_setLong_68 ?_
      refine pz_lload_n 1 dX0_setLong_69 rfl ?_
      refine pz_ldc2 1000000000 dX0_setLong_70 pw_386 ?_
      refine pz_ldiv dX0_setLong_73 (fun x6 => ?_)
      refine pz_lstore_n [(3, .long x6), (0, va_rf l0), (5, .int l5)] dX0_setLong_74 (by decide) rfl ?_
      refine pz_aload_n 1 dX0_setLong_75 rfl ?_
      refine pz_iload 2 dX0_setLong_76 rfl ?_
      refine pz_iconst 1 dX0_setLong_78 (by decide) ?_
      refine pz_iadd dX0_setLong_79 ?_
      refine pz_put (ci := 0) (k := 1) ck_0 (by decide) (Or.inl pw_90) (Or.inl rfl) rfl rfl dX0_setLong_80 ?_
      refine pz_iinc 2 1 (fun l5_7 => [(5, .int l5_7), (3, .long x6), (0, va_rf l0)]) dX0_setLong_83 rfl (by decide) (by decide) (fun l5_7 => rfl) (fun l5_7 => ?_)
      refine pz_goto 35 dX0_setLong_86 (by decide) ?_
      exact pz_sub [2, 1, 0] rfl (hK35 x6 l5_7)
set_option maxRecDepth 20000 in
theorem S_X0_setLong_L35 (X : pz_X) (n : Nat) (l0 : Option Nat) (l3 : Int64) (l5 : Int32) : pz_Sm X (pz_QM X) J_X0_setLong pz_vU 35 [(0, va_rf l0), (3, .long l3), (5, .int l5)] [] (X0_setLong_L35 n l0 l3 l5) :=
  pz_lp (L := fun (s : Int64 × Int32) => [(0, va_rf l0), (3, .long s.1), (5, .int s.2)]) (fun K hK s => S_X0_setLong_L35_body X n l0 (fun l3 l5 => K (l3, l5)) (fun l3 l5 => hK (l3, l5)) s.1 s.2) n (l3, l5)
set_option maxRecDepth 20000 in
theorem S_X0_setLong_b22 (X : pz_X) (n : Nat) (l0 : Option Nat) (l1 : Int64) (s0 : Option Nat) (s1 : Int32) : pz_Sm X (pz_QM X) J_X0_setLong pz_vU 22 [(0, va_rf l0), (1, .long l1)] [.int s1, va_rf s0] (X0_setLong_b22 n l0 l1 s0 s1) := by
  unfold X0_setLong_b22
  refine pz_put (ci := 0) (k := 2) ck_0 (by decide) (Or.inl pw_94) (Or.inl rfl) rfl rfl dX0_setLong_22 ?_
  refine pz_aload_n 0 dX0_setLong_25 rfl ?_
  refine pz_iconst 0 dX0_setLong_26 (by decide) ?_
  refine pz_put (ci := 0) (k := 1) ck_0 (by decide) (Or.inl pw_90) (Or.inl rfl) rfl rfl dX0_setLong_27 ?_
  refine pz_lload_n 1 dX0_setLong_30 rfl ?_
  refine pz_lstore_n [(3, .long l1), (0, va_rf l0), (1, .long l1)] dX0_setLong_31 (by decide) rfl ?_
  refine pz_iconst 0 dX0_setLong_32 (by decide) ?_
  refine pz_istore [(5, .int 0), (3, .long l1), (0, va_rf l0), (1, .long l1)] dX0_setLong_33 (by decide) rfl ?_
  exact pz_sub [2, 1, 0] rfl (S_X0_setLong_L35 X n l0 l1 0)
set_option maxRecDepth 20000 in
theorem S_X0_setLong (X : pz_X) (n : Nat) (l0 : Option Nat) (l1 : Int64) : pz_Sm X (pz_QM X) J_X0_setLong pz_vU 0 [(0, va_rf l0), (1, .long l1)] [] (X0_setLong n l0 l1) := by
  unfold X0_setLong
  refine pz_aload_n 0 dX0_setLong_0 rfl ?_
  refine pz_lload_n 1 dX0_setLong_1 rfl ?_
  refine pz_lconst 0 dX0_setLong_2 (by decide) ?_
  refine pz_lcmp dX0_setLong_3 ?_
  refine pz_if_le 11 dX0_setLong_4 (by decide) ?_ ?_
  · refine pz_lload_n 1 dX0_setLong_11 rfl ?_
    refine pz_lconst 0 dX0_setLong_12 (by decide) ?_
    refine pz_lcmp dX0_setLong_13 ?_
    refine pz_if_ge 21 dX0_setLong_14 (by decide) ?_ ?_
    · refine pz_iconst 0 dX0_setLong_21 (by decide) ?_
      exact pz_sub [0, 1] rfl (S_X0_setLong_b22 X n l0 l1 l0 0)
    · refine pz_iconst (-1) dX0_setLong_17 (by decide) ?_
      refine pz_goto 22 dX0_setLong_18 (by decide) ?_
      exact pz_sub [0, 1] rfl (S_X0_setLong_b22 X n l0 l1 l0 (-1))
  · refine pz_iconst 1 dX0_setLong_7 (by decide) ?_
    refine pz_goto 22 dX0_setLong_8 (by decide) ?_
    exact pz_sub [0, 1] rfl (S_X0_setLong_b22 X n l0 l1 l0 1)
set_option maxRecDepth 20000 in
theorem md_X0_setLong (X : pz_X) (n : Nat) (l0 : Option Nat) (l1 : Int64) : pz_Md X yX0_setLong J_X0_setLong pz_vU [va_rf l0, .long l1] (X0_setLong n l0 l1) :=
  pz_md [(0, va_rf l0), (1, .long l1)] (by decide +kernel) rfl rfl (by cases l0 <;> rfl) (by cases l0 <;> exact Nat.le_of_ble_eq_true rfl) (fun X => S_X0_setLong X n l0 l1)
set_option maxRecDepth 20000 in
theorem S_X3_init (X : pz_X) (n : Nat) (l0 : Option Nat) (l1 : Int32) : pz_Sm X (pz_QM X) J_X3_init pz_vU 0 [(0, va_rf l0), (1, .int l1)] [] (X3_init n l0 l1) := by
  unfold X3_init
  refine pz_aload_n 0 dX3_init_0 rfl ?_
  refine pz_objInit pw_379 pw_21 pw_22 rfl (by decide) (by decide) dX3_init_1 ?_
  refine pz_aload_n 0 dX3_init_4 rfl ?_
  refine pz_newo (ci := 0) ck_0 pw_380 pw_81 pw_4 df_0 dX3_init_5 (fun x1 => ?_)
  refine pz_dup dX3_init_8 (pz_rf1 _) ?_
  refine pz_iload_n 1 dX3_init_9 rfl ?_
  refine pz_callI (st := [va_rf x1, va_rf l0]) (md_X0_init X n x1 l1) mk_X0_init rfl (Or.inl pw_381) pw_83 rfl rfl rfl (by simp [pz_rf1, pz_ci, pz_cl]) (by decide) (by decide) dX3_init_10 (fun _ => ?_)
  refine pz_put (ci := 3) (k := 0) ck_3 (by decide) (Or.inl pw_387) (Or.inr ⟨rfl, rfl, rfl, pw_387⟩) pz_nr pz_fr dX3_init_13 ?_
  refine pz_aload_n 0 dX3_init_16 rfl ?_
  refine pz_newo (ci := 0) ck_0 pw_380 pw_81 pw_4 df_0 dX3_init_17 (fun x3 => ?_)
  refine pz_dup dX3_init_20 (pz_rf1 _) ?_
  refine pz_iload_n 1 dX3_init_21 rfl ?_
  refine pz_callI (st := [va_rf x3, va_rf l0]) (md_X0_init X n x3 l1) mk_X0_init rfl (Or.inl pw_381) pw_83 rfl rfl rfl (by simp [pz_rf1, pz_ci, pz_cl]) (by decide) (by decide) dX3_init_22 (fun _ => ?_)
  refine pz_put (ci := 3) (k := 1) ck_3 (by decide) (Or.inl pw_391) (Or.inr ⟨rfl, rfl, rfl, pw_391⟩) pz_nr pz_fr dX3_init_25 ?_
  refine pz_aload_n 0 dX3_init_28 rfl ?_
  refine pz_getR (ci := 3) (k := 1) ck_3 (by decide) (Or.inl pw_391) dX3_init_29 (fun x5 => ?_)
  refine pz_lconst 1 dX3_init_32 (by decide) ?_
  refine pz_cvU (st := []) (md_X0_setLong X n x5 1) ck_0 rfl mk_X0_setLong (Or.inl pw_382) pw_383 pw_384 rfl rfl (by decide) (by decide) (by decide) dX3_init_33 (fun _ => ?_)
  exact pz_vret rfl dX3_init_36
set_option maxRecDepth 20000 in
theorem md_X3_init (X : pz_X) (n : Nat) (l0 : Option Nat) (l1 : Int32) : pz_Md X yX3_init J_X3_init pz_vU [va_rf l0, .int l1] (X3_init n l0 l1) :=
  pz_md [(0, va_rf l0), (1, .int l1)] (by decide +kernel) rfl rfl (by cases l0 <;> rfl) (by cases l0 <;> exact Nat.le_of_ble_eq_true rfl) (fun X => S_X3_init X n l0 l1)
set_option maxRecDepth 20000 in
theorem S_X11_init_L141_body (X : pz_X) (n : Nat) (l0 : Option Nat) (K141 : Int32 → pz_C Unit) (hK141 : ∀ (l1 : Int32), pz_Sm X (pz_QM X) J_X11_init pz_vU 141 [(0, va_rf l0), (1, .int l1)] [] (K141 l1)) (l1 : Int32) : pz_Sm X (pz_QM X) J_X11_init pz_vU 141 [(0, va_rf l0), (1, .int l1)] [] (X11_init_L141_body n l0 K141 l1) := by
  unfold X11_init_L141_body
  refine pz_iload_n 1 dX11_init_141 rfl ?_
  refine pz_aload_n 0 dX11_init_142 rfl ?_
  refine pz_getR (ci := 11) (k := 7) ck_11 (by decide) (Or.inl pw_407) dX11_init_143 (fun x27 => ?_)
  refine pz_alen (t := 4) rfl dX11_init_146 (fun x28 => ?_)
  refine pz_icmp_ge 171 dX11_init_147 (by decide) ?_ ?_
  · exact pz_vret rfl dX11_init_171
  · refine pz_aload_n 0 dX11_init_150 rfl ?_
    refine pz_getR (ci := 11) (k := 7) ck_11 (by decide) (Or.inl pw_407) dX11_init_151 (fun x29 => ?_)
    refine pz_iload_n 1 dX11_init_154 rfl ?_
    refine pz_newo (ci := 3) ck_3 pw_373 pw_375 pw_11 df_3 dX11_init_155 (fun x30 => ?_)
    refine pz_dup dX11_init_158 (pz_rf1 _) ?_
    refine pz_bipush 12 dX11_init_159 (by decide) ?_
    refine pz_callI (st := [va_rf x30, .int l1, va_rf x29]) (md_X3_init X n x30 12) mk_X3_init rfl (Or.inl pw_376) pw_377 rfl rfl rfl (by simp [pz_rf1, pz_ci, pz_cl]) (by decide) (by decide) dX11_init_161 (fun _ => ?_)
    refine pz_aast (t := 4) ck_3 rfl dX11_init_164 ?_
    refine pz_iinc 1 1 (fun l1_32 => [(1, .int l1_32), (0, va_rf l0)]) dX11_init_165 rfl (by decide) (by decide) (fun l1_32 => (by cases l0 <;> rfl)) (fun l1_32 => ?_)
    refine pz_goto 141 dX11_init_168 (by decide) ?_
    exact pz_sub [1, 0] rfl (hK141 l1_32)
set_option maxRecDepth 20000 in
theorem S_X11_init_L141 (X : pz_X) (n : Nat) (l0 : Option Nat) (l1 : Int32) : pz_Sm X (pz_QM X) J_X11_init pz_vU 141 [(0, va_rf l0), (1, .int l1)] [] (X11_init_L141 n l0 l1) :=
  pz_lp (L := fun (s : Int32) => [(0, va_rf l0), (1, .int s)]) (fun K hK s => S_X11_init_L141_body X n l0 (fun l1 => K l1) (fun l1 => hK l1) s) n l1
set_option maxRecDepth 20000 in
theorem S_X11_init (X : pz_X) (n : Nat) (l0 : Option Nat) : pz_Sm X (pz_QM X) J_X11_init pz_vU 0 [(0, va_rf l0)] [] (X11_init n l0) := by
  unfold X11_init
  refine pz_aload_n 0 dX11_init_0 rfl ?_
  refine pz_objInit pw_20 pw_21 pw_22 rfl (by decide) (by decide) dX11_init_1 ?_
  refine pz_aload_n 0 dX11_init_4 rfl ?_
  refine pz_newo (ci := 6) ck_6 pw_23 pw_24 pw_2 df_6 dX11_init_5 (fun x1 => ?_)
  refine pz_dup dX11_init_8 (pz_rf1 _) ?_
  refine pz_callI (st := [va_rf x1, va_rf l0]) (md_X6_init X n x1) mk_X6_init rfl (Or.inr ⟨"RowSolver", pn_25⟩) pw_26 rfl rfl rfl (by simp [pz_rf1, pz_ci, pz_cl]) (by decide) (by decide) dX11_init_9 (fun _ => ?_)
  refine pz_put (ci := 11) (k := 0) ck_11 (by decide) (Or.inl pw_400) (Or.inr ⟨rfl, rfl, rfl, pw_400⟩) pz_nr pz_fr dX11_init_12 ?_
  refine pz_aload_n 0 dX11_init_15 rfl ?_
  refine pz_newo (ci := 2) ck_2 pw_74 pw_75 pw_3 df_2 dX11_init_16 (fun x3 => ?_)
  refine pz_dup dX11_init_19 (pz_rf1 _) ?_
  refine pz_callI (st := [va_rf x3, va_rf l0]) (md_X2_init X n x3) mk_X2_init rfl (Or.inr ⟨"RowSolver", pn_76⟩) pw_77 rfl rfl rfl (by simp [pz_rf1, pz_ci, pz_cl]) (by decide) (by decide) dX11_init_20 (fun _ => ?_)
  refine pz_put (ci := 11) (k := 1) ck_11 (by decide) (Or.inl pw_401) (Or.inr ⟨rfl, rfl, rfl, pw_401⟩) pz_nr pz_fr dX11_init_23 ?_
  refine pz_aload_n 0 dX11_init_26 rfl ?_
  refine pz_newo (ci := 8) ck_8 pw_131 pw_132 pw_5 df_8 dX11_init_27 (fun x5 => ?_)
  refine pz_dup dX11_init_30 (pz_rf1 _) ?_
  refine pz_callI (st := [va_rf x5, va_rf l0]) (md_X8_init X n x5) mk_X8_init rfl (Or.inr ⟨"RowSolver", pn_133⟩) pw_134 rfl rfl rfl (by simp [pz_rf1, pz_ci, pz_cl]) (by decide) (by decide) dX11_init_31 (fun _ => ?_)
  refine pz_put (ci := 11) (k := 2) ck_11 (by decide) (Or.inl pw_402) (Or.inr ⟨rfl, rfl, rfl, pw_402⟩) pz_nr pz_fr dX11_init_34 ?_
  refine pz_aload_n 0 dX11_init_37 rfl ?_
  refine pz_newo (ci := 9) ck_9 pw_144 pw_145 pw_6 df_9 dX11_init_38 (fun x7 => ?_)
  refine pz_dup dX11_init_41 (pz_rf1 _) ?_
  refine pz_aload_n 0 dX11_init_42 rfl ?_
  refine pz_getR (ci := 11) (k := 2) ck_11 (by decide) (Or.inl pw_402) dX11_init_43 (fun x8 => ?_)
  refine pz_aload_n 0 dX11_init_46 rfl ?_
  refine pz_getR (ci := 11) (k := 1) ck_11 (by decide) (Or.inl pw_401) dX11_init_47 (fun x9 => ?_)
  refine pz_callI (st := [va_rf x7, va_rf l0]) (md_X9_init X n x7 x8 x9) mk_X9_init rfl (Or.inl pw_146) pw_147 rfl rfl rfl (by simp [pz_rf1, pz_ci, pz_cl]) (by decide) (by decide) dX11_init_50 (fun _ => ?_)
  refine pz_put (ci := 11) (k := 3) ck_11 (by decide) (Or.inl pw_403) (Or.inr ⟨rfl, rfl, rfl, pw_403⟩) pz_nr pz_fr dX11_init_53 ?_
  refine pz_aload_n 0 dX11_init_56 rfl ?_
  refine pz_newo (ci := 10) ck_10 pw_204 pw_205 pw_7 df_10 dX11_init_57 (fun x11 => ?_)
  refine pz_dup dX11_init_60 (pz_rf1 _) ?_
  refine pz_callI (st := [va_rf x11, va_rf l0]) (md_X10_init X n x11) mk_X10_init rfl (Or.inr ⟨"RowSolver", pn_206⟩) pw_207 rfl rfl rfl (by simp [pz_rf1, pz_ci, pz_cl]) (by decide) (by decide) dX11_init_61 (fun _ => ?_)
  refine pz_put (ci := 11) (k := 4) ck_11 (by decide) (Or.inl pw_404) (Or.inr ⟨rfl, rfl, rfl, pw_404⟩) pz_nr pz_fr dX11_init_64 ?_
  refine pz_aload_n 0 dX11_init_67 rfl ?_
  refine pz_newo (ci := 7) ck_7 pw_267 pw_268 pw_8 df_7 dX11_init_68 (fun x13 => ?_)
  refine pz_dup dX11_init_71 (pz_rf1 _) ?_
  refine pz_aload_n 0 dX11_init_72 rfl ?_
  refine pz_getR (ci := 11) (k := 0) ck_11 (by decide) (Or.inl pw_400) dX11_init_73 (fun x14 => ?_)
  refine pz_aload_n 0 dX11_init_76 rfl ?_
  refine pz_getR (ci := 11) (k := 3) ck_11 (by decide) (Or.inl pw_403) dX11_init_77 (fun x15 => ?_)
  refine pz_aload_n 0 dX11_init_80 rfl ?_
  refine pz_getR (ci := 11) (k := 4) ck_11 (by decide) (Or.inl pw_404) dX11_init_81 (fun x16 => ?_)
  refine pz_callI (st := [va_rf x13, va_rf l0]) (md_X7_init X n x13 x14 x15 x16) mk_X7_init rfl (Or.inl pw_269) pw_270 rfl rfl rfl (by simp [pz_rf1, pz_ci, pz_cl]) (by decide) (by decide) dX11_init_84 (fun _ => ?_)
  refine pz_put (ci := 11) (k := 5) ck_11 (by decide) (Or.inl pw_405) (Or.inr ⟨rfl, rfl, rfl, pw_405⟩) pz_nr pz_fr dX11_init_87 ?_
  refine pz_aload_n 0 dX11_init_90 rfl ?_
  refine pz_newo (ci := 4) ck_4 pw_333 pw_334 pw_10 df_4 dX11_init_91 (fun x18 => ?_)
  refine pz_dup dX11_init_94 (pz_rf1 _) ?_
  refine pz_aload_n 0 dX11_init_95 rfl ?_
  refine pz_getR (ci := 11) (k := 0) ck_11 (by decide) (Or.inl pw_400) dX11_init_96 (fun x19 => ?_)
  refine pz_aload_n 0 dX11_init_99 rfl ?_
  refine pz_getR (ci := 11) (k := 4) ck_11 (by decide) (Or.inl pw_404) dX11_init_100 (fun x20 => ?_)
  refine pz_aload_n 0 dX11_init_103 rfl ?_
  refine pz_getR (ci := 11) (k := 2) ck_11 (by decide) (Or.inl pw_402) dX11_init_104 (fun x21 => ?_)
  refine pz_aload_n 0 dX11_init_107 rfl ?_
  refine pz_getR (ci := 11) (k := 1) ck_11 (by decide) (Or.inl pw_401) dX11_init_108 (fun x22 => ?_)
  refine pz_callI (st := [va_rf x18, va_rf l0]) (md_X4_init X n x18 x19 x20 x21 x22) mk_X4_init rfl (Or.inl pw_335) pw_336 rfl rfl rfl (by simp [pz_rf1, pz_ci, pz_cl]) (by decide) (by decide) dX11_init_111 (fun _ => ?_)
  refine pz_put (ci := 11) (k := 6) ck_11 (by decide) (Or.inl pw_406) (Or.inr ⟨rfl, rfl, rfl, pw_406⟩) pz_nr pz_fr dX11_init_114 ?_
  refine pz_aload_n 0 dX11_init_117 rfl ?_
  refine pz_bipush 10 dX11_init_118 (by decide) ?_
  refine pz_newaR (t := 4) rfl pw_373 (by decide) dX11_init_120 (fun x24 => ?_)
  refine pz_put (ci := 11) (k := 7) ck_11 (by decide) (Or.inl pw_407) (Or.inr ⟨rfl, rfl, rfl, pw_407⟩) pz_na pz_fa dX11_init_123 ?_
  refine pz_aload_n 0 dX11_init_126 rfl ?_
  refine pz_newo (ci := 3) ck_3 pw_373 pw_375 pw_11 df_3 dX11_init_127 (fun x25 => ?_)
  refine pz_dup dX11_init_130 (pz_rf1 _) ?_
  refine pz_bipush 12 dX11_init_131 (by decide) ?_
  refine pz_callI (st := [va_rf x25, va_rf l0]) (md_X3_init X n x25 12) mk_X3_init rfl (Or.inl pw_376) pw_377 rfl rfl rfl (by simp [pz_rf1, pz_ci, pz_cl]) (by decide) (by decide) dX11_init_133 (fun _ => ?_)
  refine pz_put (ci := 11) (k := 8) ck_11 (by decide) (Or.inl pw_408) (Or.inr ⟨rfl, rfl, rfl, pw_408⟩) pz_nr pz_fr dX11_init_136 ?_
  refine pz_iconst 0 dX11_init_139 (by decide) ?_
  refine pz_istore_n [(1, .int 0), (0, va_rf l0)] dX11_init_140 (by decide) (by cases l0 <;> rfl) ?_
  exact pz_sub [1, 0] rfl (S_X11_init_L141 X n l0 0)
set_option maxRecDepth 20000 in
theorem md_X11_init (X : pz_X) (n : Nat) (l0 : Option Nat) : pz_Md X yX11_init J_X11_init pz_vU [va_rf l0] (X11_init n l0) :=
  pz_md [(0, va_rf l0)] (by decide +kernel) rfl rfl (by cases l0 <;> rfl) (by cases l0 <;> exact Nat.le_of_ble_eq_true rfl) (fun X => S_X11_init X n l0)
set_option maxRecDepth 20000 in
theorem S_X12_witnessAt (X : pz_X) (n : Nat) (l0 : Int32) (l1 : Int32) : pz_Sm X (pz_QM X) J_X12_witnessAt pz_vI 0 [(0, .int l0), (1, .int l1)] [] (X12_witnessAt n l0 l1) := by
  unfold X12_witnessAt
  refine pz_ldc 109456 dX12_witnessAt_0 pw_914 ?_
  refine pz_sipush 300 dX12_witnessAt_2 (by decide) ?_
  refine pz_iconst 2 dX12_witnessAt_5 (by decide) ?_
  refine pz_iload_n 0 dX12_witnessAt_6 rfl ?_
  refine pz_imul dX12_witnessAt_7 ?_
  refine pz_iload_n 1 dX12_witnessAt_8 rfl ?_
  refine pz_iadd dX12_witnessAt_9 ?_
  refine pz_imul dX12_witnessAt_10 ?_
  refine pz_iadd dX12_witnessAt_11 ?_
  exact pz_iret rfl dX12_witnessAt_12
set_option maxRecDepth 20000 in
theorem md_X12_witnessAt (X : pz_X) (n : Nat) (l0 : Int32) (l1 : Int32) : pz_Md X yX12_witnessAt J_X12_witnessAt pz_vI [.int l0, .int l1] (X12_witnessAt n l0 l1) :=
  pz_md [(0, .int l0), (1, .int l1)] (by decide +kernel) rfl rfl (by rfl) (by exact Nat.le_of_ble_eq_true rfl) (fun X => S_X12_witnessAt X n l0 l1)
set_option maxRecDepth 20000 in
theorem S_X12_plainOf_b78 (X : pz_X) (n : Nat) (l0 : Option Nat) (l3 : Int32) (l6 : Int32) (s0 : Option Nat) (s1 : Int32) (s2 : Int32) : pz_Sm X (pz_QM X) J_X12_plainOf pz_vI 78 [(0, va_rf l0), (3, .int l3), (6, .int l6)] [.int s2, .int s1, va_rf s0] (X12_plainOf_b78 n l0 l3 l6 s0 s1 s2) := by
  unfold X12_plainOf_b78
  refine pz_iast (t := 0) rfl dX12_plainOf_78 ?_
  refine pz_aload_n 0 dX12_plainOf_79 rfl ?_
  refine pz_iload_n 1 dX12_plainOf_80 rfl ?_
  refine pz_iload 2 dX12_plainOf_81 rfl ?_
  refine pz_iadd dX12_plainOf_83 ?_
  refine pz_iconst 1 dX12_plainOf_84 (by decide) ?_
  refine pz_iadd dX12_plainOf_85 ?_
  refine pz_put (ci := 12) (k := 35) ck_12 (by decide) (Or.inl pw_967) (Or.inl rfl) rfl rfl dX12_plainOf_86 ?_
  refine pz_iload_n 1 dX12_plainOf_89 rfl ?_
  exact pz_iret rfl dX12_plainOf_90
set_option maxRecDepth 20000 in
theorem S_X12_plainOf_L22_body (X : pz_X) (n : Nat) (l0 : Option Nat) (l1 : Int64) (l3 : Int32) (K22 : Int64 → Int32 → pz_C Int32) (hK22 : ∀ (l4 : Int64) (l6 : Int32), pz_Sm X (pz_QM X) J_X12_plainOf pz_vI 22 [(0, va_rf l0), (1, .long l1), (3, .int l3), (4, .long l4), (6, .int l6)] [] (K22 l4 l6)) (l4 : Int64) (l6 : Int32) : pz_Sm X (pz_QM X) J_X12_plainOf pz_vI 22 [(0, va_rf l0), (1, .long l1), (3, .int l3), (4, .long l4), (6, .int l6)] [] (X12_plainOf_L22_body n l0 l1 l3 K22 l4 l6) := by
  unfold X12_plainOf_L22_body
  refine pz_lload 3 dX12_plainOf_22 rfl ?_
  refine pz_lconst 0 dX12_plainOf_24 (by decide) ?_
  refine pz_lcmp dX12_plainOf_25 ?_
  refine pz_if_le 59 dX12_plainOf_26 (by decide) ?_ ?_
  · refine pz_aload_n 0 dX12_plainOf_59 rfl ?_
    refine pz_getR (ci := 12) (k := 34) ck_12 (by decide) (Or.inl pw_966) dX12_plainOf_60 (fun x2 => ?_)
    refine pz_iload_n 2 dX12_plainOf_63 rfl ?_
    refine pz_lload_n 1 dX12_plainOf_64 rfl ?_
    refine pz_lconst 0 dX12_plainOf_65 (by decide) ?_
    refine pz_lcmp dX12_plainOf_66 ?_
    refine pz_if_ge 76 dX12_plainOf_67 (by decide) ?_ ?_
    · refine pz_iload 4 dX12_plainOf_76 rfl ?_
      exact pz_sub [0, 2, 4] rfl (S_X12_plainOf_b78 X n l0 l3 l6 x2 l3 l6)
    · refine pz_iload 4 dX12_plainOf_70 rfl ?_
      refine pz_ineg dX12_plainOf_72 ?_
      refine pz_goto 78 dX12_plainOf_73 (by decide) ?_
      exact pz_sub [0, 2, 4] rfl (S_X12_plainOf_b78 X n l0 l3 l6 x2 l3 (-l6))
  · refine pz_iinc 4 1 (fun l6_3 => [(6, .int l6_3), (0, va_rf l0), (1, .long l1), (3, .int l3), (4, .long l4)]) dX12_plainOf_29 rfl (by decide) (by decide) (fun l6_3 => rfl) (fun l6_3 => ?_)
    refine pz_aload_n 1 dX12_plainOf_32 rfl ?_
    refine pz_getR (ci := 12) (k := 34) ck_12 (by decide) (Or.inl pw_966) dX12_plainOf_33 (fun x4 => ?_)
    refine pz_iload_n 3 dX12_plainOf_36 rfl ?_
    refine pz_iload 0 dX12_plainOf_37 rfl ?_
    refine pz_iadd dX12_plainOf_39 ?_
    refine pz_lload 4 dX12_plainOf_40 rfl ?_
    refine pz_ldc2 1000000000 dX12_plainOf_42 pw_923 ?_
    refine pz_lrem dX12_plainOf_45 (fun x5 => ?_)
    refine pz_l2i dX12_plainOf_46 ?_
    refine pz_iast (t := 0) rfl dX12_plainOf_47 ?_
    refine pz_lload 4 dX12_plainOf_48 rfl ?_
    refine pz_ldc2 1000000000 dX12_plainOf_50 pw_923 ?_
    refine pz_ldiv dX12_plainOf_53 (fun x6 => ?_)
    refine pz_lstore [(4, .long x6), (6, .int l6_3), (0, va_rf l0), (1, .long l1), (3, .int l3)] dX12_plainOf_54 (by decide) rfl ?_
    refine pz_goto 22 dX12_plainOf_56 (by decide) ?_
    exact pz_sub [2, 3, 4, 0, 1] rfl (hK22 x6 l6_3)
set_option maxRecDepth 20000 in
theorem S_X12_plainOf_L22 (X : pz_X) (n : Nat) (l0 : Option Nat) (l1 : Int64) (l3 : Int32) (l4 : Int64) (l6 : Int32) : pz_Sm X (pz_QM X) J_X12_plainOf pz_vI 22 [(0, va_rf l0), (1, .long l1), (3, .int l3), (4, .long l4), (6, .int l6)] [] (X12_plainOf_L22 n l0 l1 l3 l4 l6) :=
  pz_lp (L := fun (s : Int64 × Int32) => [(0, va_rf l0), (1, .long l1), (3, .int l3), (4, .long s.1), (6, .int s.2)]) (fun K hK s => S_X12_plainOf_L22_body X n l0 l1 l3 (fun l4 l6 => K (l4, l6)) (fun l4 l6 => hK (l4, l6)) s.1 s.2) n (l4, l6)
set_option maxRecDepth 20000 in
theorem S_X12_plainOf_b17 (X : pz_X) (n : Nat) (l0 : Option Nat) (l1 : Int64) (l3 : Int32) (s0 : Int64) : pz_Sm X (pz_QM X) J_X12_plainOf pz_vI 17 [(0, va_rf l0), (1, .long l1), (3, .int l3)] [.long s0] (X12_plainOf_b17 n l0 l1 l3 s0) := by
  unfold X12_plainOf_b17
  refine pz_lstore [(4, .long s0), (0, va_rf l0), (1, .long l1), (3, .int l3)] dX12_plainOf_17 (by decide) rfl ?_
  refine pz_iconst 0 dX12_plainOf_19 (by decide) ?_
  refine pz_istore [(6, .int 0), (4, .long s0), (0, va_rf l0), (1, .long l1), (3, .int l3)] dX12_plainOf_20 (by decide) rfl ?_
  exact pz_sub [2, 3, 4, 1, 0] rfl (S_X12_plainOf_L22 X n l0 l1 l3 s0 0)
set_option maxRecDepth 20000 in
theorem S_X12_plainOf (X : pz_X) (n : Nat) (l0 : Option Nat) (l1 : Int64) : pz_Sm X (pz_QM X) J_X12_plainOf pz_vI 0 [(0, va_rf l0), (1, .long l1)] [] (X12_plainOf n l0 l1) := by
  unfold X12_plainOf
  refine pz_aload_n 0 dX12_plainOf_0 rfl ?_
  refine pz_getI (ci := 12) (k := 35) ck_12 (by decide) (Or.inl pw_967) dX12_plainOf_1 (fun x1 => ?_)
  refine pz_istore_n [(3, .int x1), (0, va_rf l0), (1, .long l1)] dX12_plainOf_4 (by decide) rfl ?_
  refine pz_lload_n 2 dX12_plainOf_5 rfl ?_
  refine pz_lconst 0 dX12_plainOf_6 (by decide) ?_
  refine pz_lcmp dX12_plainOf_7 ?_
  refine pz_if_ge 16 dX12_plainOf_8 (by decide) ?_ ?_
  · refine pz_lload_n 2 dX12_plainOf_16 rfl ?_
    exact pz_sub [1, 2, 0] rfl (S_X12_plainOf_b17 X n l0 l1 x1 l1)
  · refine pz_lload_n 2 dX12_plainOf_11 rfl ?_
    refine pz_lneg dX12_plainOf_12 ?_
    refine pz_goto 17 dX12_plainOf_13 (by decide) ?_
    exact pz_sub [1, 2, 0] rfl (S_X12_plainOf_b17 X n l0 l1 x1 (-l1))
set_option maxRecDepth 20000 in
theorem md_X12_plainOf (X : pz_X) (n : Nat) (l0 : Option Nat) (l1 : Int64) : pz_Md X yX12_plainOf J_X12_plainOf pz_vI [va_rf l0, .long l1] (X12_plainOf n l0 l1) :=
  pz_md [(0, va_rf l0), (1, .long l1)] (by decide +kernel) rfl rfl (by cases l0 <;> rfl) (by cases l0 <;> exact Nat.le_of_ble_eq_true rfl) (fun X => S_X12_plainOf X n l0 l1)
set_option maxRecDepth 20000 in
theorem S_X12_limbs_b25 (X : pz_X) (n : Nat) (s0 : Int32) : pz_Sm X (pz_QM X) J_X12_limbs pz_vI 25 [] [.int s0] (X12_limbs_b25 n s0) := by
  unfold X12_limbs_b25
  exact pz_iret rfl dX12_limbs_25
set_option maxRecDepth 20000 in
theorem S_X12_limbs (X : pz_X) (n : Nat) (l0 : Option Nat) (l1 : Int32) : pz_Sm X (pz_QM X) J_X12_limbs pz_vI 0 [(0, va_rf l0), (1, .int l1)] [] (X12_limbs n l0 l1) := by
  unfold X12_limbs
  refine pz_aload_n 0 dX12_limbs_0 rfl ?_
  refine pz_getR (ci := 12) (k := 34) ck_12 (by decide) (Or.inl pw_966) dX12_limbs_1 (fun x1 => ?_)
  refine pz_iload_n 1 dX12_limbs_4 rfl ?_
  refine pz_iald (t := 0) rfl dX12_limbs_5 (fun x2 => ?_)
  refine pz_if_ge 19 dX12_limbs_6 (by decide) ?_ ?_
  · refine pz_aload_n 0 dX12_limbs_19 rfl ?_
    refine pz_getR (ci := 12) (k := 34) ck_12 (by decide) (Or.inl pw_966) dX12_limbs_20 (fun x3 => ?_)
    refine pz_iload_n 1 dX12_limbs_23 rfl ?_
    refine pz_iald (t := 0) rfl dX12_limbs_24 (fun x4 => ?_)
    exact pz_sub [] rfl (S_X12_limbs_b25 X n x4)
  · refine pz_aload_n 0 dX12_limbs_9 rfl ?_
    refine pz_getR (ci := 12) (k := 34) ck_12 (by decide) (Or.inl pw_966) dX12_limbs_10 (fun x5 => ?_)
    refine pz_iload_n 1 dX12_limbs_13 rfl ?_
    refine pz_iald (t := 0) rfl dX12_limbs_14 (fun x6 => ?_)
    refine pz_ineg dX12_limbs_15 ?_
    refine pz_goto 25 dX12_limbs_16 (by decide) ?_
    exact pz_sub [] rfl (S_X12_limbs_b25 X n (-x6))
set_option maxRecDepth 20000 in
theorem md_X12_limbs (X : pz_X) (n : Nat) (l0 : Option Nat) (l1 : Int32) : pz_Md X yX12_limbs J_X12_limbs pz_vI [va_rf l0, .int l1] (X12_limbs n l0 l1) :=
  pz_md [(0, va_rf l0), (1, .int l1)] (by decide +kernel) rfl rfl (by cases l0 <;> rfl) (by cases l0 <;> exact Nat.le_of_ble_eq_true rfl) (fun X => S_X12_limbs X n l0 l1)
set_option maxRecDepth 20000 in
theorem S_X12_copyTo_L9_body (X : pz_X) (n : Nat) (l0 : Option Nat) (l1 : Int32) (l2 : Int32) (l3 : Int32) (K9 : Int32 → pz_C Unit) (hK9 : ∀ (l4 : Int32), pz_Sm X (pz_QM X) J_X12_copyTo pz_vU 9 [(0, va_rf l0), (1, .int l1), (2, .int l2), (3, .int l3), (4, .int l4)] [] (K9 l4)) (l4 : Int32) : pz_Sm X (pz_QM X) J_X12_copyTo pz_vU 9 [(0, va_rf l0), (1, .int l1), (2, .int l2), (3, .int l3), (4, .int l4)] [] (X12_copyTo_L9_body n l0 l1 l2 l3 K9 l4) := by
  unfold X12_copyTo_L9_body
  refine pz_iload 4 dX12_copyTo_9 rfl ?_
  refine pz_iload_n 3 dX12_copyTo_11 rfl ?_
  refine pz_icmp_gt 39 dX12_copyTo_12 (by decide) ?_ ?_
  · exact pz_vret rfl dX12_copyTo_39
  · refine pz_aload_n 0 dX12_copyTo_15 rfl ?_
    refine pz_getR (ci := 12) (k := 34) ck_12 (by decide) (Or.inl pw_966) dX12_copyTo_16 (fun x2 => ?_)
    refine pz_iload_n 2 dX12_copyTo_19 rfl ?_
    refine pz_iload 4 dX12_copyTo_20 rfl ?_
    refine pz_iadd dX12_copyTo_22 ?_
    refine pz_aload_n 0 dX12_copyTo_23 rfl ?_
    refine pz_getR (ci := 12) (k := 34) ck_12 (by decide) (Or.inl pw_966) dX12_copyTo_24 (fun x3 => ?_)
    refine pz_iload_n 1 dX12_copyTo_27 rfl ?_
    refine pz_iload 4 dX12_copyTo_28 rfl ?_
    refine pz_iadd dX12_copyTo_30 ?_
    refine pz_iald (t := 0) rfl dX12_copyTo_31 (fun x4 => ?_)
    refine pz_iast (t := 0) rfl dX12_copyTo_32 ?_
    refine pz_iinc 4 1 (fun l4_5 => [(4, .int l4_5), (0, va_rf l0), (1, .int l1), (2, .int l2), (3, .int l3)]) dX12_copyTo_33 rfl (by decide) (by decide) (fun l4_5 => rfl) (fun l4_5 => ?_)
    refine pz_goto 9 dX12_copyTo_36 (by decide) ?_
    exact pz_sub [1, 2, 3, 4, 0] rfl (hK9 l4_5)
set_option maxRecDepth 20000 in
theorem S_X12_copyTo_L9 (X : pz_X) (n : Nat) (l0 : Option Nat) (l1 : Int32) (l2 : Int32) (l3 : Int32) (l4 : Int32) : pz_Sm X (pz_QM X) J_X12_copyTo pz_vU 9 [(0, va_rf l0), (1, .int l1), (2, .int l2), (3, .int l3), (4, .int l4)] [] (X12_copyTo_L9 n l0 l1 l2 l3 l4) :=
  pz_lp (L := fun (s : Int32) => [(0, va_rf l0), (1, .int l1), (2, .int l2), (3, .int l3), (4, .int s)]) (fun K hK s => S_X12_copyTo_L9_body X n l0 l1 l2 l3 (fun l4 => K l4) (fun l4 => hK l4) s) n l4
set_option maxRecDepth 20000 in
theorem S_X12_copyTo (X : pz_X) (n : Nat) (l0 : Option Nat) (l1 : Int32) (l2 : Int32) : pz_Sm X (pz_QM X) J_X12_copyTo pz_vU 0 [(0, va_rf l0), (1, .int l1), (2, .int l2)] [] (X12_copyTo n l0 l1 l2) := by
  unfold X12_copyTo
  refine pz_aload_n 0 dX12_copyTo_0 rfl ?_
  refine pz_iload_n 1 dX12_copyTo_1 rfl ?_
  refine pz_cvI (st := []) (md_X12_limbs X n l0 l1) ck_12 rfl mk_X12_limbs (Or.inl pw_928) pw_930 ps_32 rfl rfl (by decide) (by decide) (by decide) dX12_copyTo_2 (fun x1 => ?_)
  refine pz_istore_n [(3, .int x1), (0, va_rf l0), (1, .int l1), (2, .int l2)] dX12_copyTo_5 (by decide) rfl ?_
  refine pz_iconst 0 dX12_copyTo_6 (by decide) ?_
  refine pz_istore [(4, .int 0), (3, .int x1), (0, va_rf l0), (1, .int l1), (2, .int l2)] dX12_copyTo_7 (by decide) rfl ?_
  exact pz_sub [2, 3, 4, 1, 0] rfl (S_X12_copyTo_L9 X n l0 l1 l2 x1 0)
set_option maxRecDepth 20000 in
theorem md_X12_copyTo (X : pz_X) (n : Nat) (l0 : Option Nat) (l1 : Int32) (l2 : Int32) : pz_Md X yX12_copyTo J_X12_copyTo pz_vU [va_rf l0, .int l1, .int l2] (X12_copyTo n l0 l1 l2) :=
  pz_md [(0, va_rf l0), (1, .int l1), (2, .int l2)] (by decide +kernel) rfl rfl (by cases l0 <;> rfl) (by cases l0 <;> exact Nat.le_of_ble_eq_true rfl) (fun X => S_X12_copyTo X n l0 l1 l2)
set_option maxRecDepth 20000 in
theorem S_X12_setWhole (X : pz_X) (n : Nat) (l0 : Option Nat) (l1 : Int32) (l2 : Int64) : pz_Sm X (pz_QM X) J_X12_setWhole pz_vU 0 [(0, va_rf l0), (1, .int l1), (2, .long l2)] [] (X12_setWhole n l0 l1 l2) := by
  unfold X12_setWhole
  refine pz_aload_n 0 dX12_setWhole_0 rfl ?_
  refine pz_getI (ci := 12) (k := 35) ck_12 (by decide) (Or.inl pw_967) dX12_setWhole_1 (fun x1 => ?_)
  refine pz_istore [(4, .int x1), (0, va_rf l0), (1, .int l1), (2, .long l2)] dX12_setWhole_4 (by decide) rfl ?_
  refine pz_aload_n 1 dX12_setWhole_6 rfl ?_
  refine pz_aload_n 1 dX12_setWhole_7 rfl ?_
  refine pz_lload_n 3 dX12_setWhole_8 rfl ?_
  refine pz_cvI (st := [va_rf l0]) (md_X12_plainOf X n l0 l2) ck_12 rfl mk_X12_plainOf (Or.inl pw_919) pw_921 ps_30 rfl rfl (by simp [pz_rf1, pz_ci, pz_cl]) (by decide) (by decide) dX12_setWhole_9 (fun x2 => ?_)
  refine pz_iload_n 2 dX12_setWhole_12 rfl ?_
  refine pz_cvU (st := []) (md_X12_copyTo X n l0 x2 l1) ck_12 rfl mk_X12_copyTo (Or.inl pw_924) pw_926 ps_31 rfl rfl (by decide) (by decide) (by decide) dX12_setWhole_13 (fun _ => ?_)
  refine pz_aload_n 1 dX12_setWhole_16 rfl ?_
  refine pz_iload 0 dX12_setWhole_17 rfl ?_
  refine pz_put (ci := 12) (k := 35) ck_12 (by decide) (Or.inl pw_967) (Or.inl rfl) rfl rfl dX12_setWhole_19 ?_
  exact pz_vret rfl dX12_setWhole_22
set_option maxRecDepth 20000 in
theorem md_X12_setWhole (X : pz_X) (n : Nat) (l0 : Option Nat) (l1 : Int32) (l2 : Int64) : pz_Md X yX12_setWhole J_X12_setWhole pz_vU [va_rf l0, .int l1, .long l2] (X12_setWhole n l0 l1 l2) :=
  pz_md [(0, va_rf l0), (1, .int l1), (2, .long l2)] (by decide +kernel) rfl rfl (by cases l0 <;> rfl) (by cases l0 <;> exact Nat.le_of_ble_eq_true rfl) (fun X => S_X12_setWhole X n l0 l1 l2)
set_option maxRecDepth 20000 in
theorem S_X12_init_L179_body (X : pz_X) (n : Nat) (l0 : Option Nat) (K179 : Int32 → pz_C Unit) (hK179 : ∀ (l1 : Int32), pz_Sm X (pz_QM X) J_X12_init pz_vU 179 [(0, va_rf l0), (1, .int l1)] [] (K179 l1)) (l1 : Int32) : pz_Sm X (pz_QM X) J_X12_init pz_vU 179 [(0, va_rf l0), (1, .int l1)] [] (X12_init_L179_body n l0 K179 l1) := by
  unfold X12_init_L179_body
  refine pz_iload_n 1 dX12_init_179 rfl ?_
  refine pz_bipush 10 dX12_init_180 (by decide) ?_
  refine pz_icmp_ge 211 dX12_init_182 (by decide) ?_ ?_
  · exact pz_vret rfl dX12_init_211
  · refine pz_aload_n 0 dX12_init_185 rfl ?_
    refine pz_iload_n 1 dX12_init_186 rfl ?_
    refine pz_iconst 0 dX12_init_187 (by decide) ?_
    refine pz_csI (st := [va_rf l0]) (md_X12_witnessAt X n l1 0) mk_X12_witnessAt (Or.inl pw_911) pw_912 rfl rfl (by simp [pz_rf1, pz_ci, pz_cl]) (by decide) (by decide) dX12_init_188 (fun x21 => ?_)
    refine pz_lconst 0 dX12_init_191 (by decide) ?_
    refine pz_cvU (st := []) (md_X12_setWhole X n l0 x21 0) ck_12 rfl mk_X12_setWhole (Or.inl pw_915) pw_917 ps_29 rfl rfl (by decide) (by decide) (by decide) dX12_init_192 (fun _ => ?_)
    refine pz_aload_n 0 dX12_init_195 rfl ?_
    refine pz_iload_n 1 dX12_init_196 rfl ?_
    refine pz_iconst 1 dX12_init_197 (by decide) ?_
    refine pz_csI (st := [va_rf l0]) (md_X12_witnessAt X n l1 1) mk_X12_witnessAt (Or.inl pw_911) pw_912 rfl rfl (by simp [pz_rf1, pz_ci, pz_cl]) (by decide) (by decide) dX12_init_198 (fun x23 => ?_)
    refine pz_lconst 1 dX12_init_201 (by decide) ?_
    refine pz_cvU (st := []) (md_X12_setWhole X n l0 x23 1) ck_12 rfl mk_X12_setWhole (Or.inl pw_915) pw_917 ps_29 rfl rfl (by decide) (by decide) (by decide) dX12_init_202 (fun _ => ?_)
    refine pz_iinc 1 1 (fun l1_25 => [(1, .int l1_25), (0, va_rf l0)]) dX12_init_205 rfl (by decide) (by decide) (fun l1_25 => (by cases l0 <;> rfl)) (fun l1_25 => ?_)
    refine pz_goto 179 dX12_init_208 (by decide) ?_
    exact pz_sub [1, 0] rfl (hK179 l1_25)
set_option maxRecDepth 20000 in
theorem S_X12_init_L179 (X : pz_X) (n : Nat) (l0 : Option Nat) (l1 : Int32) : pz_Sm X (pz_QM X) J_X12_init pz_vU 179 [(0, va_rf l0), (1, .int l1)] [] (X12_init_L179 n l0 l1) :=
  pz_lp (L := fun (s : Int32) => [(0, va_rf l0), (1, .int s)]) (fun K hK s => S_X12_init_L179_body X n l0 (fun l1 => K l1) (fun l1 => hK l1) s) n l1
set_option maxRecDepth 20000 in
theorem S_X12_init (X : pz_X) (n : Nat) (l0 : Option Nat) : pz_Sm X (pz_QM X) J_X12_init pz_vU 0 [(0, va_rf l0)] [] (X12_init n l0) := by
  unfold X12_init
  refine pz_aload_n 0 dX12_init_0 rfl ?_
  refine pz_objInit pw_908 pw_21 pw_22 rfl (by decide) (by decide) dX12_init_1 ?_
  refine pz_aload_n 0 dX12_init_4 rfl ?_
  refine pz_bipush 120 dX12_init_5 (by decide) ?_
  refine pz_newaI (t := 0) (ft := .int) rfl rfl pw_72 rfl (by decide) (fun C h => by cases h) dX12_init_7 (fun x1 => ?_)
  refine pz_put (ci := 12) (k := 2) ck_12 (by decide) (Or.inl pw_934) (Or.inr ⟨rfl, rfl, rfl, pw_934⟩) pz_na pz_fa dX12_init_9 ?_
  refine pz_aload_n 0 dX12_init_12 rfl ?_
  refine pz_bipush 12 dX12_init_13 (by decide) ?_
  refine pz_newaI (t := 0) (ft := .int) rfl rfl pw_72 rfl (by decide) (fun C h => by cases h) dX12_init_15 (fun x2 => ?_)
  refine pz_put (ci := 12) (k := 3) ck_12 (by decide) (Or.inl pw_935) (Or.inr ⟨rfl, rfl, rfl, pw_935⟩) pz_na pz_fa dX12_init_17 ?_
  refine pz_aload_n 0 dX12_init_20 rfl ?_
  refine pz_bipush 12 dX12_init_21 (by decide) ?_
  refine pz_newaI (t := 0) (ft := .int) rfl rfl pw_72 rfl (by decide) (fun C h => by cases h) dX12_init_23 (fun x3 => ?_)
  refine pz_put (ci := 12) (k := 4) ck_12 (by decide) (Or.inl pw_936) (Or.inr ⟨rfl, rfl, rfl, pw_936⟩) pz_na pz_fa dX12_init_25 ?_
  refine pz_aload_n 0 dX12_init_28 rfl ?_
  refine pz_bipush 10 dX12_init_29 (by decide) ?_
  refine pz_newaI (t := 0) (ft := .int) rfl rfl pw_72 rfl (by decide) (fun C h => by cases h) dX12_init_31 (fun x4 => ?_)
  refine pz_put (ci := 12) (k := 5) ck_12 (by decide) (Or.inl pw_937) (Or.inr ⟨rfl, rfl, rfl, pw_937⟩) pz_na pz_fa dX12_init_33 ?_
  refine pz_aload_n 0 dX12_init_36 rfl ?_
  refine pz_bipush 10 dX12_init_37 (by decide) ?_
  refine pz_newaI (t := 1) (ft := .boolean) rfl rfl pw_73 rfl (by decide) (fun C h => by cases h) dX12_init_39 (fun x5 => ?_)
  refine pz_put (ci := 12) (k := 6) ck_12 (by decide) (Or.inl pw_938) (Or.inr ⟨rfl, rfl, rfl, pw_938⟩) pz_na pz_fa dX12_init_41 ?_
  refine pz_aload_n 0 dX12_init_44 rfl ?_
  refine pz_bipush 20 dX12_init_45 (by decide) ?_
  refine pz_newaI (t := 1) (ft := .boolean) rfl rfl pw_73 rfl (by decide) (fun C h => by cases h) dX12_init_47 (fun x6 => ?_)
  refine pz_put (ci := 12) (k := 12) ck_12 (by decide) (Or.inl pw_944) (Or.inr ⟨rfl, rfl, rfl, pw_944⟩) pz_na pz_fa dX12_init_49 ?_
  refine pz_aload_n 0 dX12_init_52 rfl ?_
  refine pz_bipush 12 dX12_init_53 (by decide) ?_
  refine pz_newaI (t := 0) (ft := .int) rfl rfl pw_72 rfl (by decide) (fun C h => by cases h) dX12_init_55 (fun x7 => ?_)
  refine pz_put (ci := 12) (k := 13) ck_12 (by decide) (Or.inl pw_945) (Or.inr ⟨rfl, rfl, rfl, pw_945⟩) pz_na pz_fa dX12_init_57 ?_
  refine pz_aload_n 0 dX12_init_60 rfl ?_
  refine pz_bipush 10 dX12_init_61 (by decide) ?_
  refine pz_newaI (t := 0) (ft := .int) rfl rfl pw_72 rfl (by decide) (fun C h => by cases h) dX12_init_63 (fun x8 => ?_)
  refine pz_put (ci := 12) (k := 14) ck_12 (by decide) (Or.inl pw_946) (Or.inr ⟨rfl, rfl, rfl, pw_946⟩) pz_na pz_fa dX12_init_65 ?_
  refine pz_aload_n 0 dX12_init_68 rfl ?_
  refine pz_sipush 310 dX12_init_69 (by decide) ?_
  refine pz_newaI (t := 1) (ft := .boolean) rfl rfl pw_73 rfl (by decide) (fun C h => by cases h) dX12_init_72 (fun x9 => ?_)
  refine pz_put (ci := 12) (k := 16) ck_12 (by decide) (Or.inl pw_948) (Or.inr ⟨rfl, rfl, rfl, pw_948⟩) pz_na pz_fa dX12_init_74 ?_
  refine pz_aload_n 0 dX12_init_77 rfl ?_
  refine pz_sipush 310 dX12_init_78 (by decide) ?_
  refine pz_newaI (t := 1) (ft := .boolean) rfl rfl pw_73 rfl (by decide) (fun C h => by cases h) dX12_init_81 (fun x10 => ?_)
  refine pz_put (ci := 12) (k := 17) ck_12 (by decide) (Or.inl pw_949) (Or.inr ⟨rfl, rfl, rfl, pw_949⟩) pz_na pz_fa dX12_init_83 ?_
  refine pz_aload_n 0 dX12_init_86 rfl ?_
  refine pz_sipush 310 dX12_init_87 (by decide) ?_
  refine pz_newaI (t := 0) (ft := .int) rfl rfl pw_72 rfl (by decide) (fun C h => by cases h) dX12_init_90 (fun x11 => ?_)
  refine pz_put (ci := 12) (k := 18) ck_12 (by decide) (Or.inl pw_950) (Or.inr ⟨rfl, rfl, rfl, pw_950⟩) pz_na pz_fa dX12_init_92 ?_
  refine pz_aload_n 0 dX12_init_95 rfl ?_
  refine pz_sipush 310 dX12_init_96 (by decide) ?_
  refine pz_newaI (t := 0) (ft := .int) rfl rfl pw_72 rfl (by decide) (fun C h => by cases h) dX12_init_99 (fun x12 => ?_)
  refine pz_put (ci := 12) (k := 19) ck_12 (by decide) (Or.inl pw_951) (Or.inr ⟨rfl, rfl, rfl, pw_951⟩) pz_na pz_fa dX12_init_101 ?_
  refine pz_aload_n 0 dX12_init_104 rfl ?_
  refine pz_sipush 310 dX12_init_105 (by decide) ?_
  refine pz_newaI (t := 0) (ft := .int) rfl rfl pw_72 rfl (by decide) (fun C h => by cases h) dX12_init_108 (fun x13 => ?_)
  refine pz_put (ci := 12) (k := 20) ck_12 (by decide) (Or.inl pw_952) (Or.inr ⟨rfl, rfl, rfl, pw_952⟩) pz_na pz_fa dX12_init_110 ?_
  refine pz_aload_n 0 dX12_init_113 rfl ?_
  refine pz_sipush 310 dX12_init_114 (by decide) ?_
  refine pz_newaI (t := 0) (ft := .int) rfl rfl pw_72 rfl (by decide) (fun C h => by cases h) dX12_init_117 (fun x14 => ?_)
  refine pz_put (ci := 12) (k := 21) ck_12 (by decide) (Or.inl pw_953) (Or.inr ⟨rfl, rfl, rfl, pw_953⟩) pz_na pz_fa dX12_init_119 ?_
  refine pz_aload_n 0 dX12_init_122 rfl ?_
  refine pz_sipush 310 dX12_init_123 (by decide) ?_
  refine pz_newaI (t := 0) (ft := .int) rfl rfl pw_72 rfl (by decide) (fun C h => by cases h) dX12_init_126 (fun x15 => ?_)
  refine pz_put (ci := 12) (k := 22) ck_12 (by decide) (Or.inl pw_954) (Or.inr ⟨rfl, rfl, rfl, pw_954⟩) pz_na pz_fa dX12_init_128 ?_
  refine pz_aload_n 0 dX12_init_131 rfl ?_
  refine pz_bipush 25 dX12_init_132 (by decide) ?_
  refine pz_newaI (t := 0) (ft := .int) rfl rfl pw_72 rfl (by decide) (fun C h => by cases h) dX12_init_134 (fun x16 => ?_)
  refine pz_put (ci := 12) (k := 26) ck_12 (by decide) (Or.inl pw_958) (Or.inr ⟨rfl, rfl, rfl, pw_958⟩) pz_na pz_fa dX12_init_136 ?_
  refine pz_aload_n 0 dX12_init_139 rfl ?_
  refine pz_bipush 25 dX12_init_140 (by decide) ?_
  refine pz_newaI (t := 1) (ft := .boolean) rfl rfl pw_73 rfl (by decide) (fun C h => by cases h) dX12_init_142 (fun x17 => ?_)
  refine pz_put (ci := 12) (k := 27) ck_12 (by decide) (Or.inl pw_959) (Or.inr ⟨rfl, rfl, rfl, pw_959⟩) pz_na pz_fa dX12_init_144 ?_
  refine pz_aload_n 0 dX12_init_147 rfl ?_
  refine pz_bipush 20 dX12_init_148 (by decide) ?_
  refine pz_newaI (t := 1) (ft := .boolean) rfl rfl pw_73 rfl (by decide) (fun C h => by cases h) dX12_init_150 (fun x18 => ?_)
  refine pz_put (ci := 12) (k := 32) ck_12 (by decide) (Or.inl pw_964) (Or.inr ⟨rfl, rfl, rfl, pw_964⟩) pz_na pz_fa dX12_init_152 ?_
  refine pz_aload_n 0 dX12_init_155 rfl ?_
  refine pz_bipush 20 dX12_init_156 (by decide) ?_
  refine pz_newaI (t := 0) (ft := .int) rfl rfl pw_72 rfl (by decide) (fun C h => by cases h) dX12_init_158 (fun x19 => ?_)
  refine pz_put (ci := 12) (k := 33) ck_12 (by decide) (Or.inl pw_965) (Or.inr ⟨rfl, rfl, rfl, pw_965⟩) pz_na pz_fa dX12_init_160 ?_
  refine pz_aload_n 0 dX12_init_163 rfl ?_
  refine pz_ldc 527200 dX12_init_164 pw_909 ?_
  refine pz_newaI (t := 0) (ft := .int) rfl rfl pw_72 rfl (by decide) (fun C h => by cases h) dX12_init_166 (fun x20 => ?_)
  refine pz_put (ci := 12) (k := 34) ck_12 (by decide) (Or.inl pw_966) (Or.inr ⟨rfl, rfl, rfl, pw_966⟩) pz_na pz_fa dX12_init_168 ?_
  refine pz_aload_n 0 dX12_init_171 rfl ?_
  refine pz_ldc 447200 dX12_init_172 pw_910 ?_
  refine pz_put (ci := 12) (k := 35) ck_12 (by decide) (Or.inl pw_967) (Or.inl rfl) rfl rfl dX12_init_174 ?_
  refine pz_iconst 0 dX12_init_177 (by decide) ?_
  refine pz_istore_n [(1, .int 0), (0, va_rf l0)] dX12_init_178 (by decide) (by cases l0 <;> rfl) ?_
  exact pz_sub [1, 0] rfl (S_X12_init_L179 X n l0 0)
set_option maxRecDepth 20000 in
theorem md_X12_init (X : pz_X) (n : Nat) (l0 : Option Nat) : pz_Md X yX12_init J_X12_init pz_vU [va_rf l0] (X12_init n l0) :=
  pz_md [(0, va_rf l0)] (by decide +kernel) rfl rfl (by cases l0 <;> rfl) (by cases l0 <;> exact Nat.le_of_ble_eq_true rfl) (fun X => S_X12_init X n l0)
set_option maxRecDepth 20000 in
theorem S_X6_renew_L12_body (X : pz_X) (n : Nat) (l0 : Option Nat) (K12 : Int32 → pz_C Unit) (hK12 : ∀ (l2 : Int32), pz_Sm X (pz_QM X) J_X6_renew pz_vU 12 [(0, va_rf l0), (2, .int l2)] [] (K12 l2)) (l2 : Int32) : pz_Sm X (pz_QM X) J_X6_renew pz_vU 12 [(0, va_rf l0), (2, .int l2)] [] (X6_renew_L12_body n l0 K12 l2) := by
  unfold X6_renew_L12_body
  refine pz_iload_n 1 dX6_renew_12 rfl ?_
  refine pz_bipush 10 dX6_renew_13 (by decide) ?_
  refine pz_icmp_ge 38 dX6_renew_15 (by decide) ?_ ?_
  · exact pz_vret rfl dX6_renew_38
  · refine pz_aload_n 0 dX6_renew_18 rfl ?_
    refine pz_getR (ci := 6) (k := 3) ck_6 (by decide) (Or.inl pw_40) dX6_renew_19 (fun x1 => ?_)
    refine pz_iload_n 1 dX6_renew_22 rfl ?_
    refine pz_iconst 0 dX6_renew_23 (by decide) ?_
    refine pz_zast (t := 1) rfl dX6_renew_24 ?_
    refine pz_aload_n 0 dX6_renew_25 rfl ?_
    refine pz_getR (ci := 6) (k := 4) ck_6 (by decide) (Or.inl pw_44) dX6_renew_26 (fun x2 => ?_)
    refine pz_iload_n 1 dX6_renew_29 rfl ?_
    refine pz_iconst 0 dX6_renew_30 (by decide) ?_
    refine pz_iast (t := 0) rfl dX6_renew_31 ?_
    refine pz_iinc 1 1 (fun l2_3 => [(2, .int l2_3), (0, va_rf l0)]) dX6_renew_32 rfl (by decide) (by decide) (fun l2_3 => rfl) (fun l2_3 => ?_)
    refine pz_goto 12 dX6_renew_35 (by decide) ?_
    exact pz_sub [1, 0] rfl (hK12 l2_3)
set_option maxRecDepth 20000 in
theorem S_X6_renew_L12 (X : pz_X) (n : Nat) (l0 : Option Nat) (l2 : Int32) : pz_Sm X (pz_QM X) J_X6_renew pz_vU 12 [(0, va_rf l0), (2, .int l2)] [] (X6_renew_L12 n l0 l2) :=
  pz_lp (L := fun (s : Int32) => [(0, va_rf l0), (2, .int s)]) (fun K hK s => S_X6_renew_L12_body X n l0 (fun l2 => K l2) (fun l2 => hK l2) s) n l2
set_option maxRecDepth 20000 in
theorem S_X6_renew (X : pz_X) (n : Nat) (l0 : Option Nat) (l1 : Int32) : pz_Sm X (pz_QM X) J_X6_renew pz_vU 0 [(0, va_rf l0), (1, .int l1)] [] (X6_renew n l0 l1) := by
  unfold X6_renew
  refine pz_aload_n 0 dX6_renew_0 rfl ?_
  refine pz_iload_n 1 dX6_renew_1 rfl ?_
  refine pz_put (ci := 6) (k := 5) ck_6 (by decide) (Or.inl pw_46) (Or.inl rfl) rfl rfl dX6_renew_2 ?_
  refine pz_aload_n 0 dX6_renew_5 rfl ?_
  refine pz_iconst 0 dX6_renew_6 (by decide) ?_
  refine pz_put (ci := 6) (k := 6) ck_6 (by decide) (Or.inl pw_54) (Or.inl rfl) rfl rfl dX6_renew_7 ?_
  refine pz_iconst 0 dX6_renew_10 (by decide) ?_
  refine pz_istore_n [(2, .int 0), (0, va_rf l0), (1, .int l1)] dX6_renew_11 (by decide) rfl ?_
  exact pz_sub [1, 0] rfl (S_X6_renew_L12 X n l0 0)
set_option maxRecDepth 20000 in
theorem md_X6_renew (X : pz_X) (n : Nat) (l0 : Option Nat) (l1 : Int32) : pz_Md X yX6_renew J_X6_renew pz_vU [va_rf l0, .int l1] (X6_renew n l0 l1) :=
  pz_md [(0, va_rf l0), (1, .int l1)] (by decide +kernel) rfl rfl (by cases l0 <;> rfl) (by cases l0 <;> exact Nat.le_of_ble_eq_true rfl) (fun X => S_X6_renew X n l0 l1)
set_option maxRecDepth 20000 in
theorem S_X10_clear (X : pz_X) (n : Nat) (l0 : Option Nat) : pz_Sm X (pz_QM X) J_X10_clear pz_vU 0 [(0, va_rf l0)] [] (X10_clear n l0) := by
  unfold X10_clear
  refine pz_aload_n 0 dX10_clear_0 rfl ?_
  refine pz_iconst 0 dX10_clear_1 (by decide) ?_
  refine pz_put (ci := 10) (k := 10) ck_10 (by decide) (Or.inl pw_237) (Or.inl rfl) rfl rfl dX10_clear_2 ?_
  refine pz_aload_n 0 dX10_clear_5 rfl ?_
  refine pz_iconst 0 dX10_clear_6 (by decide) ?_
  refine pz_put (ci := 10) (k := 9) ck_10 (by decide) (Or.inl pw_236) (Or.inl rfl) rfl rfl dX10_clear_7 ?_
  refine pz_aload_n 0 dX10_clear_10 rfl ?_
  refine pz_bipush (-2) dX10_clear_11 (by decide) ?_
  refine pz_put (ci := 10) (k := 11) ck_10 (by decide) (Or.inl pw_239) (Or.inl rfl) rfl rfl dX10_clear_13 ?_
  exact pz_vret rfl dX10_clear_16
set_option maxRecDepth 20000 in
theorem md_X10_clear (X : pz_X) (n : Nat) (l0 : Option Nat) : pz_Md X yX10_clear J_X10_clear pz_vU [va_rf l0] (X10_clear n l0) :=
  pz_md [(0, va_rf l0)] (by decide +kernel) rfl rfl (by cases l0 <;> rfl) (by cases l0 <;> exact Nat.le_of_ble_eq_true rfl) (fun X => S_X10_clear X n l0)
set_option maxRecDepth 20000 in
theorem S_X7_forget (X : pz_X) (n : Nat) (l0 : Option Nat) : pz_Sm X (pz_QM X) J_X7_forget pz_vU 0 [(0, va_rf l0)] [] (X7_forget n l0) := by
  unfold X7_forget
  refine pz_aload_n 0 dX7_forget_0 rfl ?_
  refine pz_iconst 0 dX7_forget_1 (by decide) ?_
  refine pz_put (ci := 7) (k := 4) ck_7 (by decide) (Or.inl pw_304) (Or.inl rfl) rfl rfl dX7_forget_2 ?_
  refine pz_aload_n 0 dX7_forget_5 rfl ?_
  refine pz_iconst 0 dX7_forget_6 (by decide) ?_
  refine pz_put (ci := 7) (k := 5) ck_7 (by decide) (Or.inl pw_306) (Or.inl rfl) rfl rfl dX7_forget_7 ?_
  refine pz_aload_n 0 dX7_forget_10 rfl ?_
  refine pz_iconst 0 dX7_forget_11 (by decide) ?_
  refine pz_put (ci := 7) (k := 6) ck_7 (by decide) (Or.inl pw_308) (Or.inl rfl) rfl rfl dX7_forget_12 ?_
  refine pz_aload_n 0 dX7_forget_15 rfl ?_
  refine pz_iconst 0 dX7_forget_16 (by decide) ?_
  refine pz_put (ci := 7) (k := 7) ck_7 (by decide) (Or.inl pw_310) (Or.inl rfl) rfl rfl dX7_forget_17 ?_
  refine pz_aload_n 0 dX7_forget_20 rfl ?_
  refine pz_iconst 0 dX7_forget_21 (by decide) ?_
  refine pz_put (ci := 7) (k := 8) ck_7 (by decide) (Or.inl pw_312) (Or.inl rfl) rfl rfl dX7_forget_22 ?_
  refine pz_aload_n 0 dX7_forget_25 rfl ?_
  refine pz_getR (ci := 7) (k := 2) ck_7 (by decide) (Or.inl pw_302) dX7_forget_26 (fun x1 => ?_)
  refine pz_cvU (st := []) (md_X10_clear X n x1) ck_10 rfl mk_X10_clear (Or.inl pw_443) pw_444 pw_445 rfl rfl (by decide) (by decide) (by decide) dX7_forget_29 (fun _ => ?_)
  exact pz_vret rfl dX7_forget_32
set_option maxRecDepth 20000 in
theorem md_X7_forget (X : pz_X) (n : Nat) (l0 : Option Nat) : pz_Md X yX7_forget J_X7_forget pz_vU [va_rf l0] (X7_forget n l0) :=
  pz_md [(0, va_rf l0)] (by decide +kernel) rfl rfl (by cases l0 <;> rfl) (by cases l0 <;> exact Nat.le_of_ble_eq_true rfl) (fun X => S_X7_forget X n l0)
set_option maxRecDepth 20000 in
theorem S_X11_variables_b11 (X : pz_X) (n : Nat) : pz_Sm X (pz_QM X) J_X11_variables pz_vI 11 [] [] (X11_variables_b11 n) := by
  unfold X11_variables_b11
  refine pz_iconst (-1) dX11_variables_11 (by decide) ?_
  exact pz_iret rfl dX11_variables_12
set_option maxRecDepth 20000 in
theorem S_X11_variables (X : pz_X) (n : Nat) (l0 : Option Nat) (l1 : Int32) : pz_Sm X (pz_QM X) J_X11_variables pz_vI 0 [(0, va_rf l0), (1, .int l1)] [] (X11_variables n l0 l1) := by
  unfold X11_variables
  refine pz_iload_n 1 dX11_variables_0 rfl ?_
  refine pz_iconst 1 dX11_variables_1 (by decide) ?_
  refine pz_icmp_lt 11 dX11_variables_2 (by decide) ?_ ?_
  · exact pz_sub [] rfl (S_X11_variables_b11 X n)
  · refine pz_iload_n 1 dX11_variables_5 rfl ?_
    refine pz_bipush 10 dX11_variables_6 (by decide) ?_
    refine pz_icmp_le 13 dX11_variables_8 (by decide) ?_ ?_
    · refine pz_aload_n 0 dX11_variables_13 rfl ?_
      refine pz_getR (ci := 11) (k := 0) ck_11 (by decide) (Or.inl pw_400) dX11_variables_14 (fun x1 => ?_)
      refine pz_iload_n 1 dX11_variables_17 rfl ?_
      refine pz_cvU (st := []) (md_X6_renew X n x1 l1) ck_6 rfl mk_X6_renew (Or.inl pw_435) pw_436 pw_437 rfl rfl (by decide) (by decide) (by decide) dX11_variables_18 (fun _ => ?_)
      refine pz_aload_n 0 dX11_variables_21 rfl ?_
      refine pz_getR (ci := 11) (k := 5) ck_11 (by decide) (Or.inl pw_405) dX11_variables_22 (fun x3 => ?_)
      refine pz_cvU (st := []) (md_X7_forget X n x3) ck_7 rfl mk_X7_forget (Or.inl pw_439) pw_440 pw_441 rfl rfl (by decide) (by decide) (by decide) dX11_variables_25 (fun _ => ?_)
      refine pz_iload_n 1 dX11_variables_28 rfl ?_
      exact pz_iret rfl dX11_variables_29
    · exact pz_sub [] rfl (S_X11_variables_b11 X n)
set_option maxRecDepth 20000 in
theorem md_X11_variables (X : pz_X) (n : Nat) (l0 : Option Nat) (l1 : Int32) : pz_Md X yX11_variables J_X11_variables pz_vI [va_rf l0, .int l1] (X11_variables n l0 l1) :=
  pz_md [(0, va_rf l0), (1, .int l1)] (by decide +kernel) rfl rfl (by cases l0 <;> rfl) (by cases l0 <;> exact Nat.le_of_ble_eq_true rfl) (fun X => S_X11_variables X n l0 l1)
set_option maxRecDepth 20000 in
theorem S_X12_forget (X : pz_X) (n : Nat) (l0 : Option Nat) : pz_Sm X (pz_QM X) J_X12_forget pz_vU 0 [(0, va_rf l0)] [] (X12_forget n l0) := by
  unfold X12_forget
  refine pz_aload_n 0 dX12_forget_0 rfl ?_
  refine pz_iconst 0 dX12_forget_1 (by decide) ?_
  refine pz_put (ci := 12) (k := 7) ck_12 (by decide) (Or.inl pw_939) (Or.inl rfl) rfl rfl dX12_forget_2 ?_
  refine pz_aload_n 0 dX12_forget_5 rfl ?_
  refine pz_iconst 0 dX12_forget_6 (by decide) ?_
  refine pz_put (ci := 12) (k := 8) ck_12 (by decide) (Or.inl pw_940) (Or.inl rfl) rfl rfl dX12_forget_7 ?_
  refine pz_aload_n 0 dX12_forget_10 rfl ?_
  refine pz_iconst 0 dX12_forget_11 (by decide) ?_
  refine pz_put (ci := 12) (k := 9) ck_12 (by decide) (Or.inl pw_941) (Or.inl rfl) rfl rfl dX12_forget_12 ?_
  refine pz_aload_n 0 dX12_forget_15 rfl ?_
  refine pz_iconst 0 dX12_forget_16 (by decide) ?_
  refine pz_put (ci := 12) (k := 10) ck_12 (by decide) (Or.inl pw_942) (Or.inl rfl) rfl rfl dX12_forget_17 ?_
  refine pz_aload_n 0 dX12_forget_20 rfl ?_
  refine pz_iconst 0 dX12_forget_21 (by decide) ?_
  refine pz_put (ci := 12) (k := 11) ck_12 (by decide) (Or.inl pw_943) (Or.inl rfl) rfl rfl dX12_forget_22 ?_
  refine pz_aload_n 0 dX12_forget_25 rfl ?_
  refine pz_iconst 0 dX12_forget_26 (by decide) ?_
  refine pz_put (ci := 12) (k := 15) ck_12 (by decide) (Or.inl pw_947) (Or.inl rfl) rfl rfl dX12_forget_27 ?_
  refine pz_aload_n 0 dX12_forget_30 rfl ?_
  refine pz_iconst 0 dX12_forget_31 (by decide) ?_
  refine pz_put (ci := 12) (k := 23) ck_12 (by decide) (Or.inl pw_955) (Or.inl rfl) rfl rfl dX12_forget_32 ?_
  refine pz_aload_n 0 dX12_forget_35 rfl ?_
  refine pz_iconst 0 dX12_forget_36 (by decide) ?_
  refine pz_put (ci := 12) (k := 25) ck_12 (by decide) (Or.inl pw_957) (Or.inl rfl) rfl rfl dX12_forget_37 ?_
  exact pz_vret rfl dX12_forget_40
set_option maxRecDepth 20000 in
theorem md_X12_forget (X : pz_X) (n : Nat) (l0 : Option Nat) : pz_Md X yX12_forget J_X12_forget pz_vU [va_rf l0] (X12_forget n l0) :=
  pz_md [(0, va_rf l0)] (by decide +kernel) rfl rfl (by cases l0 <;> rfl) (by cases l0 <;> exact Nat.le_of_ble_eq_true rfl) (fun X => S_X12_forget X n l0)
set_option maxRecDepth 20000 in
theorem S_X12_variables_b11 (X : pz_X) (n : Nat) : pz_Sm X (pz_QM X) J_X12_variables pz_vI 11 [] [] (X12_variables_b11 n) := by
  unfold X12_variables_b11
  refine pz_iconst (-1) dX12_variables_11 (by decide) ?_
  exact pz_iret rfl dX12_variables_12
set_option maxRecDepth 20000 in
theorem S_X12_variables_L25_body (X : pz_X) (n : Nat) (l0 : Option Nat) (l1 : Int32) (K25 : Int32 → pz_C Int32) (hK25 : ∀ (l2 : Int32), pz_Sm X (pz_QM X) J_X12_variables pz_vI 25 [(0, va_rf l0), (1, .int l1), (2, .int l2)] [] (K25 l2)) (l2 : Int32) : pz_Sm X (pz_QM X) J_X12_variables pz_vI 25 [(0, va_rf l0), (1, .int l1), (2, .int l2)] [] (X12_variables_L25_body n l0 l1 K25 l2) := by
  unfold X12_variables_L25_body
  refine pz_iload_n 2 dX12_variables_25 rfl ?_
  refine pz_bipush 10 dX12_variables_26 (by decide) ?_
  refine pz_icmp_ge 51 dX12_variables_28 (by decide) ?_ ?_
  · refine pz_aload_n 0 dX12_variables_51 rfl ?_
    refine pz_cvU (st := []) (md_X12_forget X n l0) ck_12 rfl mk_X12_forget (Or.inl pw_1048) pw_1050 ps_33 rfl rfl (by decide) (by decide) (by decide) dX12_variables_52 (fun _ => ?_)
    refine pz_iload_n 1 dX12_variables_55 rfl ?_
    exact pz_iret rfl dX12_variables_56
  · refine pz_aload_n 0 dX12_variables_31 rfl ?_
    refine pz_getR (ci := 12) (k := 6) ck_12 (by decide) (Or.inl pw_938) dX12_variables_32 (fun x2 => ?_)
    refine pz_iload_n 2 dX12_variables_35 rfl ?_
    refine pz_iconst 0 dX12_variables_36 (by decide) ?_
    refine pz_zast (t := 1) rfl dX12_variables_37 ?_
    refine pz_aload_n 0 dX12_variables_38 rfl ?_
    refine pz_getR (ci := 12) (k := 5) ck_12 (by decide) (Or.inl pw_937) dX12_variables_39 (fun x3 => ?_)
    refine pz_iload_n 2 dX12_variables_42 rfl ?_
    refine pz_iconst 0 dX12_variables_43 (by decide) ?_
    refine pz_iast (t := 0) rfl dX12_variables_44 ?_
    refine pz_iinc 2 1 (fun l2_4 => [(2, .int l2_4), (0, va_rf l0), (1, .int l1)]) dX12_variables_45 rfl (by decide) (by decide) (fun l2_4 => rfl) (fun l2_4 => ?_)
    refine pz_goto 25 dX12_variables_48 (by decide) ?_
    exact pz_sub [1, 2, 0] rfl (hK25 l2_4)
set_option maxRecDepth 20000 in
theorem S_X12_variables_L25 (X : pz_X) (n : Nat) (l0 : Option Nat) (l1 : Int32) (l2 : Int32) : pz_Sm X (pz_QM X) J_X12_variables pz_vI 25 [(0, va_rf l0), (1, .int l1), (2, .int l2)] [] (X12_variables_L25 n l0 l1 l2) :=
  pz_lp (L := fun (s : Int32) => [(0, va_rf l0), (1, .int l1), (2, .int s)]) (fun K hK s => S_X12_variables_L25_body X n l0 l1 (fun l2 => K l2) (fun l2 => hK l2) s) n l2
set_option maxRecDepth 20000 in
theorem S_X12_variables (X : pz_X) (n : Nat) (l0 : Option Nat) (l1 : Int32) : pz_Sm X (pz_QM X) J_X12_variables pz_vI 0 [(0, va_rf l0), (1, .int l1)] [] (X12_variables n l0 l1) := by
  unfold X12_variables
  refine pz_iload_n 1 dX12_variables_0 rfl ?_
  refine pz_iconst 1 dX12_variables_1 (by decide) ?_
  refine pz_icmp_lt 11 dX12_variables_2 (by decide) ?_ ?_
  · exact pz_sub [] rfl (S_X12_variables_b11 X n)
  · refine pz_iload_n 1 dX12_variables_5 rfl ?_
    refine pz_bipush 10 dX12_variables_6 (by decide) ?_
    refine pz_icmp_le 13 dX12_variables_8 (by decide) ?_ ?_
    · refine pz_aload_n 0 dX12_variables_13 rfl ?_
      refine pz_iload_n 1 dX12_variables_14 rfl ?_
      refine pz_put (ci := 12) (k := 0) ck_12 (by decide) (Or.inl pw_932) (Or.inl rfl) rfl rfl dX12_variables_15 ?_
      refine pz_aload_n 0 dX12_variables_18 rfl ?_
      refine pz_iconst 0 dX12_variables_19 (by decide) ?_
      refine pz_put (ci := 12) (k := 1) ck_12 (by decide) (Or.inl pw_933) (Or.inl rfl) rfl rfl dX12_variables_20 ?_
      refine pz_iconst 0 dX12_variables_23 (by decide) ?_
      refine pz_istore_n [(2, .int 0), (0, va_rf l0), (1, .int l1)] dX12_variables_24 (by decide) rfl ?_
      exact pz_sub [1, 2, 0] rfl (S_X12_variables_L25 X n l0 l1 0)
    · exact pz_sub [] rfl (S_X12_variables_b11 X n)
set_option maxRecDepth 20000 in
theorem md_X12_variables (X : pz_X) (n : Nat) (l0 : Option Nat) (l1 : Int32) : pz_Md X yX12_variables J_X12_variables pz_vI [va_rf l0, .int l1] (X12_variables n l0 l1) :=
  pz_md [(0, va_rf l0), (1, .int l1)] (by decide +kernel) rfl rfl (by cases l0 <;> rfl) (by cases l0 <;> exact Nat.le_of_ble_eq_true rfl) (fun X => S_X12_variables X n l0 l1)
set_option maxRecDepth 20000 in
theorem S_X6_hasVariable_b17 (X : pz_X) (n : Nat) (s0 : Int32) : pz_Sm X (pz_QM X) J_X6_hasVariable pz_vI 17 [] [.int s0] (X6_hasVariable_b17 n s0) := by
  unfold X6_hasVariable_b17
  exact pz_zret rfl dX6_hasVariable_17
set_option maxRecDepth 20000 in
theorem S_X6_hasVariable_b16 (X : pz_X) (n : Nat) : pz_Sm X (pz_QM X) J_X6_hasVariable pz_vI 16 [] [] (X6_hasVariable_b16 n) := by
  unfold X6_hasVariable_b16
  refine pz_iconst 0 dX6_hasVariable_16 (by decide) ?_
  exact pz_sub [] rfl (S_X6_hasVariable_b17 X n 0)
set_option maxRecDepth 20000 in
theorem S_X6_hasVariable (X : pz_X) (n : Nat) (l0 : Option Nat) (l1 : Int32) : pz_Sm X (pz_QM X) J_X6_hasVariable pz_vI 0 [(0, va_rf l0), (1, .int l1)] [] (X6_hasVariable n l0 l1) := by
  unfold X6_hasVariable
  refine pz_iload_n 1 dX6_hasVariable_0 rfl ?_
  refine pz_if_lt 16 dX6_hasVariable_1 (by decide) ?_ ?_
  · exact pz_sub [] rfl (S_X6_hasVariable_b16 X n)
  · refine pz_iload_n 1 dX6_hasVariable_4 rfl ?_
    refine pz_aload_n 0 dX6_hasVariable_5 rfl ?_
    refine pz_getI (ci := 6) (k := 5) ck_6 (by decide) (Or.inl pw_46) dX6_hasVariable_6 (fun x1 => ?_)
    refine pz_icmp_ge 16 dX6_hasVariable_9 (by decide) ?_ ?_
    · exact pz_sub [] rfl (S_X6_hasVariable_b16 X n)
    · refine pz_iconst 1 dX6_hasVariable_12 (by decide) ?_
      refine pz_goto 17 dX6_hasVariable_13 (by decide) ?_
      exact pz_sub [] rfl (S_X6_hasVariable_b17 X n 1)
set_option maxRecDepth 20000 in
theorem md_X6_hasVariable (X : pz_X) (n : Nat) (l0 : Option Nat) (l1 : Int32) : pz_Md X yX6_hasVariable J_X6_hasVariable pz_vI [va_rf l0, .int l1] (X6_hasVariable n l0 l1) :=
  pz_md [(0, va_rf l0), (1, .int l1)] (by decide +kernel) rfl rfl (by cases l0 <;> rfl) (by cases l0 <;> exact Nat.le_of_ble_eq_true rfl) (fun X => S_X6_hasVariable X n l0 l1)
set_option maxRecDepth 20000 in
theorem S_X11_factor_b23 (X : pz_X) (n : Nat) : pz_Sm X (pz_QM X) J_X11_factor pz_vI 23 [] [] (X11_factor_b23 n) := by
  unfold X11_factor_b23
  refine pz_iconst (-1) dX11_factor_23 (by decide) ?_
  exact pz_iret rfl dX11_factor_24
set_option maxRecDepth 20000 in
theorem S_X11_factor (X : pz_X) (n : Nat) (l0 : Option Nat) (l1 : Int32) (l2 : Int32) : pz_Sm X (pz_QM X) J_X11_factor pz_vI 0 [(0, va_rf l0), (1, .int l1), (2, .int l2)] [] (X11_factor n l0 l1 l2) := by
  unfold X11_factor
  refine pz_aload_n 0 dX11_factor_0 rfl ?_
  refine pz_getR (ci := 11) (k := 0) ck_11 (by decide) (Or.inl pw_400) dX11_factor_1 (fun x1 => ?_)
  refine pz_iload_n 1 dX11_factor_4 rfl ?_
  refine pz_cvI (st := []) (md_X6_hasVariable X n x1 l1) ck_6 rfl mk_X6_hasVariable (Or.inl pw_451) pw_452 pw_453 rfl rfl (by decide) (by decide) (by decide) dX11_factor_5 (fun x2 => ?_)
  refine pz_if_eq 23 dX11_factor_8 (by decide) ?_ ?_
  · exact pz_sub [] rfl (S_X11_factor_b23 X n)
  · refine pz_iload_n 2 dX11_factor_11 rfl ?_
    refine pz_ldc (-1000000) dX11_factor_12 pw_455 ?_
    refine pz_icmp_lt 23 dX11_factor_14 (by decide) ?_ ?_
    · exact pz_sub [] rfl (S_X11_factor_b23 X n)
    · refine pz_iload_n 2 dX11_factor_17 rfl ?_
      refine pz_ldc 1000000 dX11_factor_18 pw_456 ?_
      refine pz_icmp_le 25 dX11_factor_20 (by decide) ?_ ?_
      · refine pz_aload_n 0 dX11_factor_25 rfl ?_
        refine pz_getR (ci := 11) (k := 0) ck_11 (by decide) (Or.inl pw_400) dX11_factor_26 (fun x3 => ?_)
        refine pz_getR (ci := 6) (k := 4) ck_6 (by decide) (Or.inl pw_45) dX11_factor_29 (fun x4 => ?_)
        refine pz_iload_n 1 dX11_factor_32 rfl ?_
        refine pz_iload_n 2 dX11_factor_33 rfl ?_
        refine pz_iast (t := 0) rfl dX11_factor_34 ?_
        refine pz_iconst 0 dX11_factor_35 (by decide) ?_
        exact pz_iret rfl dX11_factor_36
      · exact pz_sub [] rfl (S_X11_factor_b23 X n)
set_option maxRecDepth 20000 in
theorem md_X11_factor (X : pz_X) (n : Nat) (l0 : Option Nat) (l1 : Int32) (l2 : Int32) : pz_Md X yX11_factor J_X11_factor pz_vI [va_rf l0, .int l1, .int l2] (X11_factor n l0 l1 l2) :=
  pz_md [(0, va_rf l0), (1, .int l1), (2, .int l2)] (by decide +kernel) rfl rfl (by cases l0 <;> rfl) (by cases l0 <;> exact Nat.le_of_ble_eq_true rfl) (fun X => S_X11_factor X n l0 l1 l2)
set_option maxRecDepth 20000 in
theorem S_X12_isVariable_b17 (X : pz_X) (n : Nat) (s0 : Int32) : pz_Sm X (pz_QM X) J_X12_isVariable pz_vI 17 [] [.int s0] (X12_isVariable_b17 n s0) := by
  unfold X12_isVariable_b17
  exact pz_zret rfl dX12_isVariable_17
set_option maxRecDepth 20000 in
theorem S_X12_isVariable_b16 (X : pz_X) (n : Nat) : pz_Sm X (pz_QM X) J_X12_isVariable pz_vI 16 [] [] (X12_isVariable_b16 n) := by
  unfold X12_isVariable_b16
  refine pz_iconst 0 dX12_isVariable_16 (by decide) ?_
  exact pz_sub [] rfl (S_X12_isVariable_b17 X n 0)
set_option maxRecDepth 20000 in
theorem S_X12_isVariable (X : pz_X) (n : Nat) (l0 : Option Nat) (l1 : Int32) : pz_Sm X (pz_QM X) J_X12_isVariable pz_vI 0 [(0, va_rf l0), (1, .int l1)] [] (X12_isVariable n l0 l1) := by
  unfold X12_isVariable
  refine pz_iload_n 1 dX12_isVariable_0 rfl ?_
  refine pz_if_lt 16 dX12_isVariable_1 (by decide) ?_ ?_
  · exact pz_sub [] rfl (S_X12_isVariable_b16 X n)
  · refine pz_iload_n 1 dX12_isVariable_4 rfl ?_
    refine pz_aload_n 0 dX12_isVariable_5 rfl ?_
    refine pz_getI (ci := 12) (k := 0) ck_12 (by decide) (Or.inl pw_932) dX12_isVariable_6 (fun x1 => ?_)
    refine pz_icmp_ge 16 dX12_isVariable_9 (by decide) ?_ ?_
    · exact pz_sub [] rfl (S_X12_isVariable_b16 X n)
    · refine pz_iconst 1 dX12_isVariable_12 (by decide) ?_
      refine pz_goto 17 dX12_isVariable_13 (by decide) ?_
      exact pz_sub [] rfl (S_X12_isVariable_b17 X n 1)
set_option maxRecDepth 20000 in
theorem md_X12_isVariable (X : pz_X) (n : Nat) (l0 : Option Nat) (l1 : Int32) : pz_Md X yX12_isVariable J_X12_isVariable pz_vI [va_rf l0, .int l1] (X12_isVariable n l0 l1) :=
  pz_md [(0, va_rf l0), (1, .int l1)] (by decide +kernel) rfl rfl (by cases l0 <;> rfl) (by cases l0 <;> exact Nat.le_of_ble_eq_true rfl) (fun X => S_X12_isVariable X n l0 l1)
set_option maxRecDepth 20000 in
theorem S_X12_within_b16 (X : pz_X) (n : Nat) (s0 : Int32) : pz_Sm X (pz_QM X) J_X12_within pz_vI 16 [] [.int s0] (X12_within_b16 n s0) := by
  unfold X12_within_b16
  exact pz_zret rfl dX12_within_16
set_option maxRecDepth 20000 in
theorem S_X12_within_b15 (X : pz_X) (n : Nat) : pz_Sm X (pz_QM X) J_X12_within pz_vI 15 [] [] (X12_within_b15 n) := by
  unfold X12_within_b15
  refine pz_iconst 0 dX12_within_15 (by decide) ?_
  exact pz_sub [] rfl (S_X12_within_b16 X n 0)
set_option maxRecDepth 20000 in
theorem S_X12_within (X : pz_X) (n : Nat) (l0 : Int32) (l1 : Int32) : pz_Sm X (pz_QM X) J_X12_within pz_vI 0 [(0, .int l0), (1, .int l1)] [] (X12_within n l0 l1) := by
  unfold X12_within
  refine pz_iload_n 0 dX12_within_0 rfl ?_
  refine pz_iload_n 1 dX12_within_1 rfl ?_
  refine pz_ineg dX12_within_2 ?_
  refine pz_icmp_lt 15 dX12_within_3 (by decide) ?_ ?_
  · exact pz_sub [] rfl (S_X12_within_b15 X n)
  · refine pz_iload_n 0 dX12_within_6 rfl ?_
    refine pz_iload_n 1 dX12_within_7 rfl ?_
    refine pz_icmp_gt 15 dX12_within_8 (by decide) ?_ ?_
    · exact pz_sub [] rfl (S_X12_within_b15 X n)
    · refine pz_iconst 1 dX12_within_11 (by decide) ?_
      refine pz_goto 16 dX12_within_12 (by decide) ?_
      exact pz_sub [] rfl (S_X12_within_b16 X n 1)
set_option maxRecDepth 20000 in
theorem md_X12_within (X : pz_X) (n : Nat) (l0 : Int32) (l1 : Int32) : pz_Md X yX12_within J_X12_within pz_vI [.int l0, .int l1] (X12_within n l0 l1) :=
  pz_md [(0, .int l0), (1, .int l1)] (by decide +kernel) rfl rfl (by rfl) (by exact Nat.le_of_ble_eq_true rfl) (fun X => S_X12_within X n l0 l1)
set_option maxRecDepth 20000 in
theorem S_X12_factor_b17 (X : pz_X) (n : Nat) : pz_Sm X (pz_QM X) J_X12_factor pz_vI 17 [] [] (X12_factor_b17 n) := by
  unfold X12_factor_b17
  refine pz_iconst (-1) dX12_factor_17 (by decide) ?_
  exact pz_iret rfl dX12_factor_18
set_option maxRecDepth 20000 in
theorem S_X12_factor (X : pz_X) (n : Nat) (l0 : Option Nat) (l1 : Int32) (l2 : Int32) : pz_Sm X (pz_QM X) J_X12_factor pz_vI 0 [(0, va_rf l0), (1, .int l1), (2, .int l2)] [] (X12_factor n l0 l1 l2) := by
  unfold X12_factor
  refine pz_aload_n 0 dX12_factor_0 rfl ?_
  refine pz_iload_n 1 dX12_factor_1 rfl ?_
  refine pz_cvI (st := []) (md_X12_isVariable X n l0 l1) ck_12 rfl mk_X12_isVariable (Or.inl pw_1056) pw_1058 ps_34 rfl rfl (by decide) (by decide) (by decide) dX12_factor_2 (fun x1 => ?_)
  refine pz_if_eq 17 dX12_factor_5 (by decide) ?_ ?_
  · exact pz_sub [] rfl (S_X12_factor_b17 X n)
  · refine pz_iload_n 2 dX12_factor_8 rfl ?_
    refine pz_ldc 1000000 dX12_factor_9 pw_1060 ?_
    refine pz_csI (st := []) (md_X12_within X n l2 1000000) mk_X12_within (Or.inl pw_1061) pw_1062 rfl rfl (by decide) (by decide) (by decide) dX12_factor_11 (fun x2 => ?_)
    refine pz_if_ne 19 dX12_factor_14 (by decide) ?_ ?_
    · exact pz_sub [] rfl (S_X12_factor_b17 X n)
    · refine pz_aload_n 0 dX12_factor_19 rfl ?_
      refine pz_getR (ci := 12) (k := 5) ck_12 (by decide) (Or.inl pw_937) dX12_factor_20 (fun x3 => ?_)
      refine pz_iload_n 1 dX12_factor_23 rfl ?_
      refine pz_iload_n 2 dX12_factor_24 rfl ?_
      refine pz_iast (t := 0) rfl dX12_factor_25 ?_
      refine pz_iconst 0 dX12_factor_26 (by decide) ?_
      exact pz_iret rfl dX12_factor_27
set_option maxRecDepth 20000 in
theorem md_X12_factor (X : pz_X) (n : Nat) (l0 : Option Nat) (l1 : Int32) (l2 : Int32) : pz_Md X yX12_factor J_X12_factor pz_vI [va_rf l0, .int l1, .int l2] (X12_factor n l0 l1 l2) :=
  pz_md [(0, va_rf l0), (1, .int l1), (2, .int l2)] (by decide +kernel) rfl rfl (by cases l0 <;> rfl) (by cases l0 <;> exact Nat.le_of_ble_eq_true rfl) (fun X => S_X12_factor X n l0 l1 l2)
set_option maxRecDepth 20000 in
theorem S_X6_endDraft_L8_body (X : pz_X) (n : Nat) (l0 : Option Nat) (l1 : Int32) (l2 : Int32) (l3 : Int32) (K8 : Int32 → pz_C Int32) (hK8 : ∀ (l4 : Int32), pz_Sm X (pz_QM X) J_X6_endDraft pz_vI 8 [(0, va_rf l0), (1, .int l1), (2, .int l2), (3, .int l3), (4, .int l4)] [] (K8 l4)) (l4 : Int32) : pz_Sm X (pz_QM X) J_X6_endDraft pz_vI 8 [(0, va_rf l0), (1, .int l1), (2, .int l2), (3, .int l3), (4, .int l4)] [] (X6_endDraft_L8_body n l0 l1 l2 l3 K8 l4) := by
  unfold X6_endDraft_L8_body
  refine pz_iload 4 dX6_endDraft_8 rfl ?_
  refine pz_bipush 10 dX6_endDraft_10 (by decide) ?_
  refine pz_icmp_ge 45 dX6_endDraft_12 (by decide) ?_ ?_
  · refine pz_aload_n 0 dX6_endDraft_45 rfl ?_
    refine pz_getR (ci := 6) (k := 1) ck_6 (by decide) (Or.inl pw_34) dX6_endDraft_46 (fun x2 => ?_)
    refine pz_iload_n 3 dX6_endDraft_49 rfl ?_
    refine pz_iload_n 1 dX6_endDraft_50 rfl ?_
    refine pz_iast (t := 0) rfl dX6_endDraft_51 ?_
    refine pz_aload_n 0 dX6_endDraft_52 rfl ?_
    refine pz_getR (ci := 6) (k := 2) ck_6 (by decide) (Or.inl pw_37) dX6_endDraft_53 (fun x3 => ?_)
    refine pz_iload_n 3 dX6_endDraft_56 rfl ?_
    refine pz_iload_n 2 dX6_endDraft_57 rfl ?_
    refine pz_iast (t := 0) rfl dX6_endDraft_58 ?_
    refine pz_aload_n 0 dX6_endDraft_59 rfl ?_
    refine pz_dup dX6_endDraft_60 (pz_rf1 _) ?_
    refine pz_getI (ci := 6) (k := 6) ck_6 (by decide) (Or.inl pw_54) dX6_endDraft_61 (fun x4 => ?_)
    refine pz_iconst 1 dX6_endDraft_64 (by decide) ?_
    refine pz_iadd dX6_endDraft_65 ?_
    refine pz_put (ci := 6) (k := 6) ck_6 (by decide) (Or.inl pw_54) (Or.inl rfl) rfl rfl dX6_endDraft_66 ?_
    refine pz_iload_n 3 dX6_endDraft_69 rfl ?_
    exact pz_iret rfl dX6_endDraft_70
  · refine pz_aload_n 0 dX6_endDraft_15 rfl ?_
    refine pz_getR (ci := 6) (k := 0) ck_6 (by decide) (Or.inl pw_31) dX6_endDraft_16 (fun x5 => ?_)
    refine pz_iload_n 3 dX6_endDraft_19 rfl ?_
    refine pz_aald (t := 6) rfl rfl dX6_endDraft_20 (fun x6 => ?_)
    refine pz_iload 4 dX6_endDraft_21 rfl ?_
    refine pz_aload_n 0 dX6_endDraft_23 rfl ?_
    refine pz_getR (ci := 6) (k := 4) ck_6 (by decide) (Or.inl pw_44) dX6_endDraft_24 (fun x7 => ?_)
    refine pz_iload 4 dX6_endDraft_27 rfl ?_
    refine pz_iald (t := 0) rfl dX6_endDraft_29 (fun x8 => ?_)
    refine pz_iast (t := 0) rfl dX6_endDraft_30 ?_
    refine pz_aload_n 0 dX6_endDraft_31 rfl ?_
    refine pz_getR (ci := 6) (k := 4) ck_6 (by decide) (Or.inl pw_44) dX6_endDraft_32 (fun x9 => ?_)
    refine pz_iload 4 dX6_endDraft_35 rfl ?_
    refine pz_iconst 0 dX6_endDraft_37 (by decide) ?_
    refine pz_iast (t := 0) rfl dX6_endDraft_38 ?_
    refine pz_iinc 4 1 (fun l4_10 => [(4, .int l4_10), (0, va_rf l0), (1, .int l1), (2, .int l2), (3, .int l3)]) dX6_endDraft_39 rfl (by decide) (by decide) (fun l4_10 => rfl) (fun l4_10 => ?_)
    refine pz_goto 8 dX6_endDraft_42 (by decide) ?_
    exact pz_sub [1, 2, 3, 4, 0] rfl (hK8 l4_10)
set_option maxRecDepth 20000 in
theorem S_X6_endDraft_L8 (X : pz_X) (n : Nat) (l0 : Option Nat) (l1 : Int32) (l2 : Int32) (l3 : Int32) (l4 : Int32) : pz_Sm X (pz_QM X) J_X6_endDraft pz_vI 8 [(0, va_rf l0), (1, .int l1), (2, .int l2), (3, .int l3), (4, .int l4)] [] (X6_endDraft_L8 n l0 l1 l2 l3 l4) :=
  pz_lp (L := fun (s : Int32) => [(0, va_rf l0), (1, .int l1), (2, .int l2), (3, .int l3), (4, .int s)]) (fun K hK s => S_X6_endDraft_L8_body X n l0 l1 l2 l3 (fun l4 => K l4) (fun l4 => hK l4) s) n l4
set_option maxRecDepth 20000 in
theorem S_X6_endDraft (X : pz_X) (n : Nat) (l0 : Option Nat) (l1 : Int32) (l2 : Int32) : pz_Sm X (pz_QM X) J_X6_endDraft pz_vI 0 [(0, va_rf l0), (1, .int l1), (2, .int l2)] [] (X6_endDraft n l0 l1 l2) := by
  unfold X6_endDraft
  refine pz_aload_n 0 dX6_endDraft_0 rfl ?_
  refine pz_getI (ci := 6) (k := 6) ck_6 (by decide) (Or.inl pw_54) dX6_endDraft_1 (fun x1 => ?_)
  refine pz_istore_n [(3, .int x1), (0, va_rf l0), (1, .int l1), (2, .int l2)] dX6_endDraft_4 (by decide) rfl ?_
  refine pz_iconst 0 dX6_endDraft_5 (by decide) ?_
  refine pz_istore [(4, .int 0), (3, .int x1), (0, va_rf l0), (1, .int l1), (2, .int l2)] dX6_endDraft_6 (by decide) rfl ?_
  exact pz_sub [2, 3, 4, 1, 0] rfl (S_X6_endDraft_L8 X n l0 l1 l2 x1 0)
set_option maxRecDepth 20000 in
theorem md_X6_endDraft (X : pz_X) (n : Nat) (l0 : Option Nat) (l1 : Int32) (l2 : Int32) : pz_Md X yX6_endDraft J_X6_endDraft pz_vI [va_rf l0, .int l1, .int l2] (X6_endDraft n l0 l1 l2) :=
  pz_md [(0, va_rf l0), (1, .int l1), (2, .int l2)] (by decide +kernel) rfl rfl (by cases l0 <;> rfl) (by cases l0 <;> exact Nat.le_of_ble_eq_true rfl) (fun X => S_X6_endDraft X n l0 l1 l2)
