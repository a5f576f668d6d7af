set_option maxRecDepth 20000 in
theorem S_X12_rowOf_L2_body (X : pz_X) (n : Nat) (l0 : Option Nat) (l1 : Int32) (K2 : Int32 → pz_C Int32) (hK2 : ∀ (l2 : Int32), pz_Sm X (pz_QM X) J_X12_rowOf pz_vI 2 [(0, va_rf l0), (1, .int l1), (2, .int l2)] [] (K2 l2)) (l2 : Int32) : pz_Sm X (pz_QM X) J_X12_rowOf pz_vI 2 [(0, va_rf l0), (1, .int l1), (2, .int l2)] [] (X12_rowOf_L2_body n l0 l1 K2 l2) := by
  unfold X12_rowOf_L2_body
  refine pz_iload_n 2 dX12_rowOf_2 rfl ?_
  refine pz_aload_n 0 dX12_rowOf_3 rfl ?_
  refine pz_getI (ci := 12) (k := 1) ck_12 (by decide) (Or.inl pw_933) dX12_rowOf_4 (fun x1 => ?_)
  refine pz_icmp_ge 28 dX12_rowOf_7 (by decide) ?_ ?_
  · refine pz_iconst (-1) dX12_rowOf_28 (by decide) ?_
    exact pz_iret rfl dX12_rowOf_29
  · refine pz_aload_n 0 dX12_rowOf_10 rfl ?_
    refine pz_getR (ci := 12) (k := 13) ck_12 (by decide) (Or.inl pw_945) dX12_rowOf_11 (fun x2 => ?_)
    refine pz_iload_n 2 dX12_rowOf_14 rfl ?_
    refine pz_iald (t := 0) rfl dX12_rowOf_15 (fun x3 => ?_)
    refine pz_iload_n 1 dX12_rowOf_16 rfl ?_
    refine pz_icmp_ne 22 dX12_rowOf_17 (by decide) ?_ ?_
    · refine pz_iload_n 2 dX12_rowOf_20 rfl ?_
      exact pz_iret rfl dX12_rowOf_21
    · refine pz_iinc 2 1 (fun l2_4 => [(2, .int l2_4), (0, va_rf l0), (1, .int l1)]) dX12_rowOf_22 rfl (by decide) (by decide) (fun l2_4 => rfl) (fun l2_4 => ?_)
      refine pz_goto 2 dX12_rowOf_25 (by decide) ?_
      exact pz_sub [1, 2, 0] rfl (hK2 l2_4)
set_option maxRecDepth 20000 in
theorem S_X12_rowOf_L2 (X : pz_X) (n : Nat) (l0 : Option Nat) (l1 : Int32) (l2 : Int32) : pz_Sm X (pz_QM X) J_X12_rowOf pz_vI 2 [(0, va_rf l0), (1, .int l1), (2, .int l2)] [] (X12_rowOf_L2 n l0 l1 l2) :=
  pz_lp (L := fun (s : Int32) => [(0, va_rf l0), (1, .int l1), (2, .int s)]) (fun K hK s => S_X12_rowOf_L2_body X n l0 l1 (fun l2 => K l2) (fun l2 => hK l2) s) n l2
set_option maxRecDepth 20000 in
theorem S_X12_rowOf (X : pz_X) (n : Nat) (l0 : Option Nat) (l1 : Int32) : pz_Sm X (pz_QM X) J_X12_rowOf pz_vI 0 [(0, va_rf l0), (1, .int l1)] [] (X12_rowOf n l0 l1) := by
  unfold X12_rowOf
  refine pz_iconst 0 dX12_rowOf_0 (by decide) ?_
  refine pz_istore_n [(2, .int 0), (0, va_rf l0), (1, .int l1)] dX12_rowOf_1 (by decide) rfl ?_
  exact pz_sub [1, 2, 0] rfl (S_X12_rowOf_L2 X n l0 l1 0)
set_option maxRecDepth 20000 in
theorem md_X12_rowOf (X : pz_X) (n : Nat) (l0 : Option Nat) (l1 : Int32) : pz_Md X yX12_rowOf J_X12_rowOf pz_vI [va_rf l0, .int l1] (X12_rowOf n l0 l1) :=
  pz_md [(0, va_rf l0), (1, .int l1)] (by decide +kernel) rfl rfl (by cases l0 <;> rfl) (by cases l0 <;> exact Nat.le_of_ble_eq_true rfl) (fun X => S_X12_rowOf X n l0 l1)
set_option maxRecDepth 20000 in
theorem S_X12_hasBound_b46 (X : pz_X) (n : Nat) (s0 : Int32) : pz_Sm X (pz_QM X) J_X12_hasBound pz_vI 46 [] [.int s0] (X12_hasBound_b46 n s0) := by
  unfold X12_hasBound_b46
  exact pz_zret rfl dX12_hasBound_46
set_option maxRecDepth 20000 in
theorem S_X12_hasBound_b41 (X : pz_X) (n : Nat) : pz_Sm X (pz_QM X) J_X12_hasBound pz_vI 41 [] [] (X12_hasBound_b41 n) := by
  unfold X12_hasBound_b41
  refine pz_iconst 1 dX12_hasBound_41 (by decide) ?_
  refine pz_goto 46 dX12_hasBound_42 (by decide) ?_
  exact pz_sub [] rfl (S_X12_hasBound_b46 X n 1)
set_option maxRecDepth 20000 in
theorem S_X12_hasBound (X : pz_X) (n : Nat) (l0 : Option Nat) (l1 : Int32) (l2 : Int32) : pz_Sm X (pz_QM X) J_X12_hasBound pz_vI 0 [(0, va_rf l0), (1, .int l1), (2, .int l2)] [] (X12_hasBound n l0 l1 l2) := by
  unfold X12_hasBound
  refine pz_iload_n 1 dX12_hasBound_0 rfl ?_
  refine pz_aload_n 0 dX12_hasBound_1 rfl ?_
  refine pz_getI (ci := 12) (k := 0) ck_12 (by decide) (Or.inl pw_932) dX12_hasBound_2 (fun x1 => ?_)
  refine pz_icmp_ge 19 dX12_hasBound_5 (by decide) ?_ ?_
  · refine pz_aload_n 0 dX12_hasBound_19 rfl ?_
    refine pz_getR (ci := 12) (k := 3) ck_12 (by decide) (Or.inl pw_935) dX12_hasBound_20 (fun x2 => ?_)
    refine pz_iload_n 1 dX12_hasBound_23 rfl ?_
    refine pz_aload_n 0 dX12_hasBound_24 rfl ?_
    refine pz_getI (ci := 12) (k := 0) ck_12 (by decide) (Or.inl pw_932) dX12_hasBound_25 (fun x3 => ?_)
    refine pz_isub dX12_hasBound_28 ?_
    refine pz_iald (t := 0) rfl dX12_hasBound_29 (fun x4 => ?_)
    refine pz_istore_n [(3, .int x4), (0, va_rf l0), (1, .int l1), (2, .int l2)] dX12_hasBound_30 (by decide) rfl ?_
    refine pz_iload_n 0 dX12_hasBound_31 rfl ?_
    refine pz_iconst 2 dX12_hasBound_32 (by decide) ?_
    refine pz_icmp_eq 41 dX12_hasBound_33 (by decide) ?_ ?_
    · exact pz_sub [] rfl (S_X12_hasBound_b41 X n)
    · refine pz_iload_n 0 dX12_hasBound_36 rfl ?_
      refine pz_iload_n 3 dX12_hasBound_37 rfl ?_
      refine pz_icmp_ne 45 dX12_hasBound_38 (by decide) ?_ ?_
      · exact pz_sub [] rfl (S_X12_hasBound_b41 X n)
      · refine pz_iconst 0 dX12_hasBound_45 (by decide) ?_
        exact pz_sub [] rfl (S_X12_hasBound_b46 X n 0)
  · refine pz_aload_n 0 dX12_hasBound_8 rfl ?_
    refine pz_getR (ci := 12) (k := 12) ck_12 (by decide) (Or.inl pw_944) dX12_hasBound_9 (fun x5 => ?_)
    refine pz_iconst 2 dX12_hasBound_12 (by decide) ?_
    refine pz_iload_n 1 dX12_hasBound_13 rfl ?_
    refine pz_imul dX12_hasBound_14 ?_
    refine pz_iload_n 2 dX12_hasBound_15 rfl ?_
    refine pz_iadd dX12_hasBound_16 ?_
    refine pz_zald (t := 1) rfl dX12_hasBound_17 (fun x6 => ?_)
    exact pz_zret rfl dX12_hasBound_18
set_option maxRecDepth 20000 in
theorem md_X12_hasBound (X : pz_X) (n : Nat) (l0 : Option Nat) (l1 : Int32) (l2 : Int32) : pz_Md X yX12_hasBound J_X12_hasBound pz_vI [va_rf l0, .int l1, .int l2] (X12_hasBound n l0 l1 l2) :=
  pz_md [(0, va_rf l0), (1, .int l1), (2, .int l2)] (by decide +kernel) rfl rfl (by cases l0 <;> rfl) (by cases l0 <;> exact Nat.le_of_ble_eq_true rfl) (fun X => S_X12_hasBound X n l0 l1 l2)
set_option maxRecDepth 20000 in
theorem S_X12_sgn_b27 (X : pz_X) (n : Nat) (s0 : Int32) : pz_Sm X (pz_QM X) J_X12_sgn pz_vI 27 [] [.int s0] (X12_sgn_b27 n s0) := by
  unfold X12_sgn_b27
  exact pz_iret rfl dX12_sgn_27
set_option maxRecDepth 20000 in
theorem S_X12_sgn (X : pz_X) (n : Nat) (l0 : Option Nat) (l1 : Int32) : pz_Sm X (pz_QM X) J_X12_sgn pz_vI 0 [(0, va_rf l0), (1, .int l1)] [] (X12_sgn n l0 l1) := by
  unfold X12_sgn
  refine pz_aload_n 0 dX12_sgn_0 rfl ?_
  refine pz_getR (ci := 12) (k := 34) ck_12 (by decide) (Or.inl pw_966) dX12_sgn_1 (fun x1 => ?_)
  refine pz_iload_n 1 dX12_sgn_4 rfl ?_
  refine pz_iald (t := 0) rfl dX12_sgn_5 (fun x2 => ?_)
  refine pz_if_le 13 dX12_sgn_6 (by decide) ?_ ?_
  · refine pz_aload_n 0 dX12_sgn_13 rfl ?_
    refine pz_getR (ci := 12) (k := 34) ck_12 (by decide) (Or.inl pw_966) dX12_sgn_14 (fun x3 => ?_)
    refine pz_iload_n 1 dX12_sgn_17 rfl ?_
    refine pz_iald (t := 0) rfl dX12_sgn_18 (fun x4 => ?_)
    refine pz_if_ge 26 dX12_sgn_19 (by decide) ?_ ?_
    · refine pz_iconst 0 dX12_sgn_26 (by decide) ?_
      exact pz_sub [] rfl (S_X12_sgn_b27 X n 0)
    · refine pz_iconst (-1) dX12_sgn_22 (by decide) ?_
      refine pz_goto 27 dX12_sgn_23 (by decide) ?_
      exact pz_sub [] rfl (S_X12_sgn_b27 X n (-1))
  · refine pz_iconst 1 dX12_sgn_9 (by decide) ?_
    refine pz_goto 27 dX12_sgn_10 (by decide) ?_
    exact pz_sub [] rfl (S_X12_sgn_b27 X n 1)
set_option maxRecDepth 20000 in
theorem md_X12_sgn (X : pz_X) (n : Nat) (l0 : Option Nat) (l1 : Int32) : pz_Md X yX12_sgn J_X12_sgn pz_vI [va_rf l0, .int l1] (X12_sgn n l0 l1) :=
  pz_md [(0, va_rf l0), (1, .int l1)] (by decide +kernel) rfl rfl (by cases l0 <;> rfl) (by cases l0 <;> exact Nat.le_of_ble_eq_true rfl) (fun X => S_X12_sgn X n l0 l1)
set_option maxRecDepth 20000 in
theorem S_X12_by_b226 (X : pz_X) (n : Nat) (l0 : Option Nat) (l3 : Int32) (l6 : Int32) (s0 : Option Nat) (s1 : Int32) (s2 : Int32) : pz_Sm X (pz_QM X) J_X12_by pz_vI 226 [(0, va_rf l0), (3, .int l3), (6, .int l6)] [.int s2, .int s1, va_rf s0] (X12_by_b226 n l0 l3 l6 s0 s1 s2) := by
  unfold X12_by_b226
  refine pz_iast (t := 0) rfl dX12_by_226 ?_
  refine pz_aload_n 0 dX12_by_227 rfl ?_
  refine pz_iload_n 1 dX12_by_228 rfl ?_
  refine pz_iload 2 dX12_by_229 rfl ?_
  refine pz_iadd dX12_by_231 ?_
  refine pz_iconst 1 dX12_by_232 (by decide) ?_
  refine pz_iadd dX12_by_233 ?_
  refine pz_put (ci := 12) (k := 35) ck_12 (by decide) (Or.inl pw_967) (Or.inl rfl) rfl rfl dX12_by_234 ?_
  refine pz_iload_n 1 dX12_by_237 rfl ?_
  exact pz_iret rfl dX12_by_238
set_option maxRecDepth 20000 in
theorem S_X12_by_b199 (X : pz_X) (n : Nat) (l0 : Option Nat) (l1 : Int32) (l2 : Int32) (l3 : Int32) (l6 : Int32) : pz_Sm X (pz_QM X) J_X12_by pz_vI 199 [(0, va_rf l0), (1, .int l1), (2, .int l2), (3, .int l3), (6, .int l6)] [] (X12_by_b199 n l0 l1 l2 l3 l6) := by
  unfold X12_by_b199
  refine pz_aload_n 0 dX12_by_199 rfl ?_
  refine pz_getR (ci := 12) (k := 34) ck_12 (by decide) (Or.inl pw_966) dX12_by_200 (fun x5 => ?_)
  refine pz_iload_n 3 dX12_by_203 rfl ?_
  refine pz_aload_n 0 dX12_by_204 rfl ?_
  refine pz_iload_n 1 dX12_by_205 rfl ?_
  refine pz_cvI (st := [.int l3, va_rf x5]) (md_X12_sgn X n l0 l1) ck_12 rfl mk_X12_sgn (Or.inl pw_1122) pw_1124 ps_44 rfl rfl (by simp [pz_rf1, pz_ci, pz_cl]) (by decide) (by decide) dX12_by_206 (fun x6 => ?_)
  refine pz_aload_n 0 dX12_by_209 rfl ?_
  refine pz_iload_n 2 dX12_by_210 rfl ?_
  refine pz_cvI (st := [.int x6, .int l3, va_rf x5]) (md_X12_sgn X n l0 l2) ck_12 rfl mk_X12_sgn (Or.inl pw_1122) pw_1124 ps_44 rfl rfl (by simp [pz_rf1, pz_ci, pz_cl]) (by decide) (by decide) dX12_by_211 (fun x7 => ?_)
  refine pz_imul dX12_by_214 ?_
  refine pz_if_ge 224 dX12_by_215 (by decide) ?_ ?_
  · refine pz_iload 4 dX12_by_224 rfl ?_
    exact pz_sub [0, 3, 4] rfl (S_X12_by_b226 X n l0 l3 l6 x5 l3 l6)
  · refine pz_iload 4 dX12_by_218 rfl ?_
    refine pz_ineg dX12_by_220 ?_
    refine pz_goto 226 dX12_by_221 (by decide) ?_
    exact pz_sub [0, 3, 4] rfl (S_X12_by_b226 X n l0 l3 l6 x5 l3 (-l6))
set_option maxRecDepth 20000 in
theorem S_X12_by_L176_body (X : pz_X) (n : Nat) (l0 : Option Nat) (l1 : Int32) (l2 : Int32) (l3 : Int32) (K176 : Int32 → pz_C Int32) (hK176 : ∀ (l6 : Int32), pz_Sm X (pz_QM X) J_X12_by pz_vI 176 [(0, va_rf l0), (1, .int l1), (2, .int l2), (3, .int l3), (6, .int l6)] [] (K176 l6)) (l6 : Int32) : pz_Sm X (pz_QM X) J_X12_by pz_vI 176 [(0, va_rf l0), (1, .int l1), (2, .int l2), (3, .int l3), (6, .int l6)] [] (X12_by_L176_body n l0 l1 l2 l3 K176 l6) := by
  unfold X12_by_L176_body
  refine pz_iload 4 dX12_by_176 rfl ?_
  refine pz_if_le 199 dX12_by_178 (by decide) ?_ ?_
  · exact pz_sub [0, 1, 2, 3, 4] rfl (S_X12_by_b199 X n l0 l1 l2 l3 l6)
  · refine pz_aload_n 0 dX12_by_181 rfl ?_
    refine pz_getR (ci := 12) (k := 34) ck_12 (by decide) (Or.inl pw_966) dX12_by_182 (fun x8 => ?_)
    refine pz_iload_n 3 dX12_by_185 rfl ?_
    refine pz_iload 4 dX12_by_186 rfl ?_
    refine pz_iadd dX12_by_188 ?_
    refine pz_iald (t := 0) rfl dX12_by_189 (fun x9 => ?_)
    refine pz_if_ne 199 dX12_by_190 (by decide) ?_ ?_
    · refine pz_iinc 4 (-1) (fun l6_10 => [(6, .int l6_10), (0, va_rf l0), (1, .int l1), (2, .int l2), (3, .int l3)]) dX12_by_193 rfl (by decide) (by decide) (fun l6_10 => rfl) (fun l6_10 => ?_)
      refine pz_goto 176 dX12_by_196 (by decide) ?_
      exact pz_sub [1, 2, 3, 4, 0] rfl (hK176 l6_10)
    · exact pz_sub [0, 1, 2, 3, 4] rfl (S_X12_by_b199 X n l0 l1 l2 l3 l6)
set_option maxRecDepth 20000 in
theorem S_X12_by_L176 (X : pz_X) (n : Nat) (l0 : Option Nat) (l1 : Int32) (l2 : Int32) (l3 : Int32) (l6 : Int32) : pz_Sm X (pz_QM X) J_X12_by pz_vI 176 [(0, va_rf l0), (1, .int l1), (2, .int l2), (3, .int l3), (6, .int l6)] [] (X12_by_L176 n l0 l1 l2 l3 l6) :=
  pz_lp (L := fun (s : Int32) => [(0, va_rf l0), (1, .int l1), (2, .int l2), (3, .int l3), (6, .int s)]) (fun K hK s => S_X12_by_L176_body X n l0 l1 l2 l3 (fun l6 => K l6) (fun l6 => hK l6) s) n l6
set_option maxRecDepth 20000 in
theorem S_X12_by_L64_body (X : pz_X) (n : Nat) (l0 : Option Nat) (l1 : Int32) (l2 : Int32) (l3 : Int32) (l4 : Int32) (l5 : Int32) (K51 : Int32 → pz_C Int32) (hK51 : ∀ (l6 : Int32), pz_Sm X (pz_QM X) J_X12_by pz_vI 51 [(0, va_rf l0), (1, .int l1), (2, .int l2), (3, .int l3), (4, .int l4), (5, .int l5), (6, .int l6)] [] (K51 l6)) (l6 : Int32) (K64 : Int64 → Int32 → pz_C Int32) (hK64 : ∀ (l7 : Int64) (l9 : Int32), pz_Sm X (pz_QM X) J_X12_by pz_vI 64 [(0, va_rf l0), (1, .int l1), (2, .int l2), (3, .int l3), (4, .int l4), (5, .int l5), (6, .int l6), (7, .long l7), (9, .int l9)] [] (K64 l7 l9)) (l7 : Int64) (l9 : Int32) : pz_Sm X (pz_QM X) J_X12_by pz_vI 64 [(0, va_rf l0), (1, .int l1), (2, .int l2), (3, .int l3), (4, .int l4), (5, .int l5), (6, .int l6), (7, .long l7), (9, .int l9)] [] (X12_by_L64_body n K51 l0 l1 l2 l3 l4 l5 l6 K64 l7 l9) := by
  unfold X12_by_L64_body
  refine pz_iload 8 dX12_by_64 rfl ?_
  refine pz_iload 5 dX12_by_66 rfl ?_
  refine pz_icmp_gt 148 dX12_by_68 (by decide) ?_ ?_
  · refine pz_aload_n 0 dX12_by_148 rfl ?_
    refine pz_getR (ci := 12) (k := 34) ck_12 (by decide) (Or.inl pw_966) dX12_by_149 (fun x11 => ?_)
    refine pz_iload_n 3 dX12_by_152 rfl ?_
    refine pz_iload 6 dX12_by_153 rfl ?_
    refine pz_iadd dX12_by_155 ?_
    refine pz_iload 5 dX12_by_156 rfl ?_
    refine pz_iadd dX12_by_158 ?_
    refine pz_lload 7 dX12_by_159 rfl ?_
    refine pz_l2i dX12_by_161 ?_
    refine pz_iast (t := 0) rfl dX12_by_162 ?_
    refine pz_iinc 6 1 (fun l6_12 => [(6, .int l6_12), (0, va_rf l0), (1, .int l1), (2, .int l2), (3, .int l3), (4, .int l4), (5, .int l5), (7, .long l7), (9, .int l9)]) dX12_by_163 rfl (by decide) (by decide) (fun l6_12 => rfl) (fun l6_12 => ?_)
    refine pz_goto 51 dX12_by_166 (by decide) ?_
    exact pz_sub [1, 2, 3, 4, 5, 6, 0] rfl (hK51 l6_12)
  · refine pz_aload_n 0 dX12_by_71 rfl ?_
    refine pz_getR (ci := 12) (k := 34) ck_12 (by decide) (Or.inl pw_966) dX12_by_72 (fun x13 => ?_)
    refine pz_iload_n 1 dX12_by_75 rfl ?_
    refine pz_iload 6 dX12_by_76 rfl ?_
    refine pz_iadd dX12_by_78 ?_
    refine pz_iald (t := 0) rfl dX12_by_79 (fun x14 => ?_)
    refine pz_i2l dX12_by_80 ?_
    refine pz_aload_n 0 dX12_by_81 rfl ?_
    refine pz_getR (ci := 12) (k := 34) ck_12 (by decide) (Or.inl pw_966) dX12_by_82 (fun x15 => ?_)
    refine pz_iload_n 2 dX12_by_85 rfl ?_
    refine pz_iload 8 dX12_by_86 rfl ?_
    refine pz_iadd dX12_by_88 ?_
    refine pz_iald (t := 0) rfl dX12_by_89 (fun x16 => ?_)
    refine pz_i2l dX12_by_90 ?_
    refine pz_lmul dX12_by_91 ?_
    refine pz_aload_n 0 dX12_by_92 rfl ?_
    refine pz_getR (ci := 12) (k := 34) ck_12 (by decide) (Or.inl pw_966) dX12_by_93 (fun x17 => ?_)
    refine pz_iload_n 3 dX12_by_96 rfl ?_
    refine pz_iload 6 dX12_by_97 rfl ?_
    refine pz_iadd dX12_by_99 ?_
    refine pz_iload 8 dX12_by_100 rfl ?_
    refine pz_iadd dX12_by_102 ?_
    refine pz_iconst 1 dX12_by_103 (by decide) ?_
    refine pz_isub dX12_by_104 ?_
    refine pz_iald (t := 0) rfl dX12_by_105 (fun x18 => ?_)
    refine pz_i2l dX12_by_106 ?_
    refine pz_ladd dX12_by_107 ?_
    refine pz_lload 7 dX12_by_108 rfl ?_
    refine pz_ladd dX12_by_110 ?_
    refine pz_nmL (fun l10_19 => ?_)
    refine pz_lstore [(10, .long l10_19), (0, va_rf l0), (1, .int l1), (2, .int l2), (3, .int l3), (4, .int l4), (5, .int l5), (6, .int l6), (7, .long l7), (9, .int l9)] dX12_by_111 (by decide) rfl ?_
    refine pz_lload 0 dX12_by_113 rfl ?_
    refine pz_ldc2 1000000000 dX12_by_115 pw_923 ?_
    refine pz_ldiv dX12_by_118 (fun x20 => ?_)
    refine pz_lstore [(7, .long x20), (10, .long l10_19), (0, va_rf l0), (1, .int l1), (2, .int l2), (3, .int l3), (4, .int l4), (5, .int l5), (6, .int l6), (9, .int l9)] dX12_by_119 (by decide) rfl ?_
    refine pz_aload_n 2 dX12_by_121 rfl ?_
    refine pz_getR (ci := 12) (k := 34) ck_12 (by decide) (Or.inl pw_966) dX12_by_122 (fun x21 => ?_)
    refine pz_iload_n 5 dX12_by_125 rfl ?_
    refine pz_iload 8 dX12_by_126 rfl ?_
    refine pz_iadd dX12_by_128 ?_
    refine pz_iload 9 dX12_by_129 rfl ?_
    refine pz_iadd dX12_by_131 ?_
    refine pz_iconst 1 dX12_by_132 (by decide) ?_
    refine pz_isub dX12_by_133 ?_
    refine pz_lload 1 dX12_by_134 rfl ?_
    refine pz_ldc2 1000000000 dX12_by_136 pw_923 ?_
    refine pz_lrem dX12_by_139 (fun x22 => ?_)
    refine pz_l2i dX12_by_140 ?_
    refine pz_iast (t := 0) rfl dX12_by_141 ?_
    refine pz_iinc 9 1 (fun l9_23 => [(9, .int l9_23), (7, .long x20), (10, .long l10_19), (0, va_rf l0), (1, .int l1), (2, .int l2), (3, .int l3), (4, .int l4), (5, .int l5), (6, .int l6)]) dX12_by_142 rfl (by decide) (by decide) (fun l9_23 => rfl) (fun l9_23 => ?_)
    refine pz_goto 64 dX12_by_145 (by decide) ?_
    exact pz_sub [3, 4, 5, 6, 7, 8, 9, 1, 0] rfl (hK64 x20 l9_23)
set_option maxRecDepth 20000 in
theorem S_X12_by_L64 (X : pz_X) (n : Nat) (l0 : Option Nat) (l1 : Int32) (l2 : Int32) (l3 : Int32) (l4 : Int32) (l5 : Int32) (K51 : Int32 → pz_C Int32) (hK51 : ∀ (l6 : Int32), pz_Sm X (pz_QM X) J_X12_by pz_vI 51 [(0, va_rf l0), (1, .int l1), (2, .int l2), (3, .int l3), (4, .int l4), (5, .int l5), (6, .int l6)] [] (K51 l6)) (l6 : Int32) (l7 : Int64) (l9 : Int32) : pz_Sm X (pz_QM X) J_X12_by pz_vI 64 [(0, va_rf l0), (1, .int l1), (2, .int l2), (3, .int l3), (4, .int l4), (5, .int l5), (6, .int l6), (7, .long l7), (9, .int l9)] [] (X12_by_L64 n K51 l0 l1 l2 l3 l4 l5 l6 l7 l9) :=
  pz_lp (L := fun (s : Int64 × Int32) => [(0, va_rf l0), (1, .int l1), (2, .int l2), (3, .int l3), (4, .int l4), (5, .int l5), (6, .int l6), (7, .long s.1), (9, .int s.2)]) (fun K hK s => S_X12_by_L64_body X n l0 l1 l2 l3 l4 l5 K51 hK51 l6 (fun l7 l9 => K (l7, l9)) (fun l7 l9 => hK (l7, l9)) s.1 s.2) n (l7, l9)
set_option maxRecDepth 20000 in
theorem S_X12_by_L51_body (X : pz_X) (n : Nat) (l0 : Option Nat) (l1 : Int32) (l2 : Int32) (l3 : Int32) (l4 : Int32) (l5 : Int32) (K51 : Int32 → pz_C Int32) (hK51 : ∀ (l6 : Int32), pz_Sm X (pz_QM X) J_X12_by pz_vI 51 [(0, va_rf l0), (1, .int l1), (2, .int l2), (3, .int l3), (4, .int l4), (5, .int l5), (6, .int l6)] [] (K51 l6)) (l6 : Int32) : pz_Sm X (pz_QM X) J_X12_by pz_vI 51 [(0, va_rf l0), (1, .int l1), (2, .int l2), (3, .int l3), (4, .int l4), (5, .int l5), (6, .int l6)] [] (X12_by_L51_body n l0 l1 l2 l3 l4 l5 K51 l6) := by
  unfold X12_by_L51_body
  refine pz_iload 6 dX12_by_51 rfl ?_
  refine pz_iload 4 dX12_by_53 rfl ?_
  refine pz_icmp_gt 169 dX12_by_55 (by decide) ?_ ?_
  · refine pz_iload 4 dX12_by_169 rfl ?_
    refine pz_iload 5 dX12_by_171 rfl ?_
    refine pz_iadd dX12_by_173 ?_
    refine pz_nmI (fun l6_4 => ?_)
    refine pz_istore [(6, .int l6_4), (0, va_rf l0), (1, .int l1), (2, .int l2), (3, .int l3), (4, .int l4), (5, .int l5)] dX12_by_174 (by decide) rfl ?_
    exact pz_sub [1, 2, 3, 4, 0] rfl (S_X12_by_L176 X n l0 l1 l2 l3 l6_4)
  · refine pz_lconst 0 dX12_by_58 (by decide) ?_
    refine pz_lstore [(7, .long 0), (0, va_rf l0), (1, .int l1), (2, .int l2), (3, .int l3), (4, .int l4), (5, .int l5), (6, .int l6)] dX12_by_59 (by decide) rfl ?_
    refine pz_iconst 1 dX12_by_61 (by decide) ?_
    refine pz_istore [(9, .int 1), (7, .long 0), (0, va_rf l0), (1, .int l1), (2, .int l2), (3, .int l3), (4, .int l4), (5, .int l5), (6, .int l6)] dX12_by_62 (by decide) rfl ?_
    exact pz_sub [2, 3, 4, 5, 6, 7, 8, 1, 0] rfl (S_X12_by_L64 X n l0 l1 l2 l3 l4 l5 K51 hK51 l6 0 1)
set_option maxRecDepth 20000 in
theorem S_X12_by_L51 (X : pz_X) (n : Nat) (l0 : Option Nat) (l1 : Int32) (l2 : Int32) (l3 : Int32) (l4 : Int32) (l5 : Int32) (l6 : Int32) : pz_Sm X (pz_QM X) J_X12_by pz_vI 51 [(0, va_rf l0), (1, .int l1), (2, .int l2), (3, .int l3), (4, .int l4), (5, .int l5), (6, .int l6)] [] (X12_by_L51 n l0 l1 l2 l3 l4 l5 l6) :=
  pz_lp (L := fun (s : Int32) => [(0, va_rf l0), (1, .int l1), (2, .int l2), (3, .int l3), (4, .int l4), (5, .int l5), (6, .int s)]) (fun K hK s => S_X12_by_L51_body X n l0 l1 l2 l3 l4 l5 (fun l6 => K l6) (fun l6 => hK l6) s) n l6
set_option maxRecDepth 20000 in
theorem S_X12_by_L22_body (X : pz_X) (n : Nat) (l0 : Option Nat) (l1 : Int32) (l2 : Int32) (l3 : Int32) (l4 : Int32) (l5 : Int32) (K22 : Int32 → pz_C Int32) (hK22 : ∀ (l6 : Int32), pz_Sm X (pz_QM X) J_X12_by pz_vI 22 [(0, va_rf l0), (1, .int l1), (2, .int l2), (3, .int l3), (4, .int l4), (5, .int l5), (6, .int l6)] [] (K22 l6)) (l6 : Int32) : pz_Sm X (pz_QM X) J_X12_by pz_vI 22 [(0, va_rf l0), (1, .int l1), (2, .int l2), (3, .int l3), (4, .int l4), (5, .int l5), (6, .int l6)] [] (X12_by_L22_body n l0 l1 l2 l3 l4 l5 K22 l6) := by
  unfold X12_by_L22_body
  refine pz_iload 6 dX12_by_22 rfl ?_
  refine pz_iload 4 dX12_by_24 rfl ?_
  refine pz_iload 5 dX12_by_26 rfl ?_
  refine pz_iadd dX12_by_28 ?_
  refine pz_icmp_gt 48 dX12_by_29 (by decide) ?_ ?_
  · refine pz_iconst 1 dX12_by_48 (by decide) ?_
    refine pz_istore [(6, .int 1), (0, va_rf l0), (1, .int l1), (2, .int l2), (3, .int l3), (4, .int l4), (5, .int l5)] dX12_by_49 (by decide) rfl ?_
    exact pz_sub [1, 2, 3, 4, 5, 6, 0] rfl (S_X12_by_L51 X n l0 l1 l2 l3 l4 l5 1)
  · refine pz_aload_n 0 dX12_by_32 rfl ?_
    refine pz_getR (ci := 12) (k := 34) ck_12 (by decide) (Or.inl pw_966) dX12_by_33 (fun x24 => ?_)
    refine pz_iload_n 3 dX12_by_36 rfl ?_
    refine pz_iload 6 dX12_by_37 rfl ?_
    refine pz_iadd dX12_by_39 ?_
    refine pz_iconst 0 dX12_by_40 (by decide) ?_
    refine pz_iast (t := 0) rfl dX12_by_41 ?_
    refine pz_iinc 6 1 (fun l6_25 => [(6, .int l6_25), (0, va_rf l0), (1, .int l1), (2, .int l2), (3, .int l3), (4, .int l4), (5, .int l5)]) dX12_by_42 rfl (by decide) (by decide) (fun l6_25 => rfl) (fun l6_25 => ?_)
    refine pz_goto 22 dX12_by_45 (by decide) ?_
    exact pz_sub [1, 2, 3, 4, 5, 6, 0] rfl (hK22 l6_25)
set_option maxRecDepth 20000 in
theorem S_X12_by_L22 (X : pz_X) (n : Nat) (l0 : Option Nat) (l1 : Int32) (l2 : Int32) (l3 : Int32) (l4 : Int32) (l5 : Int32) (l6 : Int32) : pz_Sm X (pz_QM X) J_X12_by pz_vI 22 [(0, va_rf l0), (1, .int l1), (2, .int l2), (3, .int l3), (4, .int l4), (5, .int l5), (6, .int l6)] [] (X12_by_L22 n l0 l1 l2 l3 l4 l5 l6) :=
  pz_lp (L := fun (s : Int32) => [(0, va_rf l0), (1, .int l1), (2, .int l2), (3, .int l3), (4, .int l4), (5, .int l5), (6, .int s)]) (fun K hK s => S_X12_by_L22_body X n l0 l1 l2 l3 l4 l5 (fun l6 => K l6) (fun l6 => hK l6) s) n l6
set_option maxRecDepth 20000 in
theorem S_X12_by (X : pz_X) (n : Nat) (l0 : Option Nat) (l1 : Int32) (l2 : Int32) : pz_Sm X (pz_QM X) J_X12_by pz_vI 0 [(0, va_rf l0), (1, .int l1), (2, .int l2)] [] (X12_by n l0 l1 l2) := by
  unfold X12_by
  refine pz_aload_n 0 dX12_by_0 rfl ?_
  refine pz_getI (ci := 12) (k := 35) ck_12 (by decide) (Or.inl pw_967) dX12_by_1 (fun x1 => ?_)
  refine pz_istore_n [(3, .int x1), (0, va_rf l0), (1, .int l1), (2, .int l2)] dX12_by_4 (by decide) rfl ?_
  refine pz_aload_n 1 dX12_by_5 rfl ?_
  refine pz_iload_n 2 dX12_by_6 rfl ?_
  refine pz_cvI (st := []) (md_X12_limbs X n l0 l1) ck_12 rfl mk_X12_limbs (Or.inl pw_928) pw_930 ps_32 rfl rfl (by decide) (by decide) (by decide) dX12_by_7 (fun x2 => ?_)
  refine pz_istore [(4, .int x2), (3, .int x1), (0, va_rf l0), (1, .int l1), (2, .int l2)] dX12_by_10 (by decide) rfl ?_
  refine pz_aload_n 2 dX12_by_12 rfl ?_
  refine pz_iload_n 4 dX12_by_13 rfl ?_
  refine pz_cvI (st := []) (md_X12_limbs X n l0 l2) ck_12 rfl mk_X12_limbs (Or.inl pw_928) pw_930 ps_32 rfl rfl (by decide) (by decide) (by decide) dX12_by_14 (fun x3 => ?_)
  refine pz_istore [(5, .int x3), (4, .int x2), (3, .int x1), (0, va_rf l0), (1, .int l1), (2, .int l2)] dX12_by_17 (by decide) rfl ?_
  refine pz_iconst 0 dX12_by_19 (by decide) ?_
  refine pz_istore [(6, .int 0), (5, .int x3), (4, .int x2), (3, .int x1), (0, va_rf l0), (1, .int l1), (2, .int l2)] dX12_by_20 (by decide) rfl ?_
  exact pz_sub [4, 5, 6, 3, 2, 1, 0] rfl (S_X12_by_L22 X n l0 l1 l2 x1 x2 x3 0)
set_option maxRecDepth 20000 in
theorem md_X12_by (X : pz_X) (n : Nat) (l0 : Option Nat) (l1 : Int32) (l2 : Int32) : pz_Md X yX12_by J_X12_by pz_vI [va_rf l0, .int l1, .int l2] (X12_by n l0 l1 l2) :=
  pz_md [(0, va_rf l0), (1, .int l1), (2, .int l2)] (by decide +kernel) rfl rfl (by cases l0 <;> rfl) (by cases l0 <;> exact Nat.le_of_ble_eq_true rfl) (fun X => S_X12_by X n l0 l1 l2)
set_option maxRecDepth 20000 in
theorem S_X12_again (X : pz_X) (n : Nat) (l0 : Option Nat) (l1 : Int32) : pz_Sm X (pz_QM X) J_X12_again pz_vI 0 [(0, va_rf l0), (1, .int l1)] [] (X12_again n l0 l1) := by
  unfold X12_again
  refine pz_aload_n 0 dX12_again_0 rfl ?_
  refine pz_getI (ci := 12) (k := 35) ck_12 (by decide) (Or.inl pw_967) dX12_again_1 (fun x1 => ?_)
  refine pz_istore_n [(2, .int x1), (0, va_rf l0), (1, .int l1)] dX12_again_4 (by decide) rfl ?_
  refine pz_aload_n 1 dX12_again_5 rfl ?_
  refine pz_iload_n 2 dX12_again_6 rfl ?_
  refine pz_iload_n 0 dX12_again_7 rfl ?_
  refine pz_cvU (st := []) (md_X12_copyTo X n l0 l1 x1) ck_12 rfl mk_X12_copyTo (Or.inl pw_924) pw_926 ps_31 rfl rfl (by decide) (by decide) (by decide) dX12_again_8 (fun _ => ?_)
  refine pz_aload_n 1 dX12_again_11 rfl ?_
  refine pz_iload_n 0 dX12_again_12 rfl ?_
  refine pz_aload_n 1 dX12_again_13 rfl ?_
  refine pz_iload_n 0 dX12_again_14 rfl ?_
  refine pz_cvI (st := [.int x1, va_rf l0]) (md_X12_limbs X n l0 x1) ck_12 rfl mk_X12_limbs (Or.inl pw_928) pw_930 ps_32 rfl rfl (by simp [pz_rf1, pz_ci, pz_cl]) (by decide) (by decide) dX12_again_15 (fun x3 => ?_)
  refine pz_iadd dX12_again_18 ?_
  refine pz_iconst 1 dX12_again_19 (by decide) ?_
  refine pz_iadd dX12_again_20 ?_
  refine pz_put (ci := 12) (k := 35) ck_12 (by decide) (Or.inl pw_967) (Or.inl rfl) rfl rfl dX12_again_21 ?_
  refine pz_iload_n 0 dX12_again_24 rfl ?_
  exact pz_iret rfl dX12_again_25
set_option maxRecDepth 20000 in
theorem md_X12_again (X : pz_X) (n : Nat) (l0 : Option Nat) (l1 : Int32) : pz_Md X yX12_again J_X12_again pz_vI [va_rf l0, .int l1] (X12_again n l0 l1) :=
  pz_md [(0, va_rf l0), (1, .int l1)] (by decide +kernel) rfl rfl (by cases l0 <;> rfl) (by cases l0 <;> exact Nat.le_of_ble_eq_true rfl) (fun X => S_X12_again X n l0 l1)
set_option maxRecDepth 20000 in
theorem S_X12_joined_b215 (X : pz_X) (n : Nat) (l0 : Option Nat) (l5 : Int32) (l11 : Int32) (s0 : Option Nat) (s1 : Int32) (s2 : Int32) : pz_Sm X (pz_QM X) J_X12_joined pz_vI 215 [(0, va_rf l0), (5, .int l5), (11, .int l11)] [.int s2, .int s1, va_rf s0] (X12_joined_b215 n l0 l5 l11 s0 s1 s2) := by
  unfold X12_joined_b215
  refine pz_iast (t := 0) rfl dX12_joined_215 ?_
  refine pz_aload_n 0 dX12_joined_216 rfl ?_
  refine pz_iload 1 dX12_joined_217 rfl ?_
  refine pz_iload 2 dX12_joined_219 rfl ?_
  refine pz_iadd dX12_joined_221 ?_
  refine pz_iconst 1 dX12_joined_222 (by decide) ?_
  refine pz_iadd dX12_joined_223 ?_
  refine pz_put (ci := 12) (k := 35) ck_12 (by decide) (Or.inl pw_967) (Or.inl rfl) rfl rfl dX12_joined_224 ?_
  refine pz_iload 1 dX12_joined_227 rfl ?_
  exact pz_iret rfl dX12_joined_229
set_option maxRecDepth 20000 in
theorem S_X12_joined_b188 (X : pz_X) (n : Nat) (l0 : Option Nat) (l1 : Int32) (l2 : Int32) (l3 : Int32) (l4 : Int32) (l5 : Int32) (l6 : Int32) (l7 : Int32) (l8 : Int32) (K45 : Int64 → Int32 → Int32 → pz_C Int32) (hK45 : ∀ (l9 : Int64) (l11 : Int32) (l12 : Int32), pz_Sm X (pz_QM X) J_X12_joined pz_vI 45 [(0, va_rf l0), (1, .int l1), (2, .int l2), (3, .int l3), (4, .int l4), (5, .int l5), (6, .int l6), (7, .int l7), (8, .int l8), (9, .long l9), (11, .int l11), (12, .int l12)] [] (K45 l9 l11 l12)) (l9 : Int64) (l12 : Int32) (s0 : Int32) : pz_Sm X (pz_QM X) J_X12_joined pz_vI 188 [(0, va_rf l0), (1, .int l1), (2, .int l2), (3, .int l3), (4, .int l4), (5, .int l5), (6, .int l6), (7, .int l7), (8, .int l8), (9, .long l9), (12, .int l12)] [.int s0] (X12_joined_b188 n K45 l0 l1 l2 l3 l4 l5 l6 l7 l8 l9 l12 s0) := by
  unfold X12_joined_b188
  refine pz_istore [(11, .int s0), (0, va_rf l0), (1, .int l1), (2, .int l2), (3, .int l3), (4, .int l4), (5, .int l5), (6, .int l6), (7, .int l7), (8, .int l8), (9, .long l9), (12, .int l12)] dX12_joined_188 (by decide) rfl ?_
  refine pz_iinc 11 1 (fun l12_11 => [(12, .int l12_11), (11, .int s0), (0, va_rf l0), (1, .int l1), (2, .int l2), (3, .int l3), (4, .int l4), (5, .int l5), (6, .int l6), (7, .int l7), (8, .int l8), (9, .long l9)]) dX12_joined_190 rfl (by decide) (by decide) (fun l12_11 => rfl) (fun l12_11 => ?_)
  refine pz_goto 45 dX12_joined_193 (by decide) ?_
  exact pz_sub [2, 3, 4, 5, 6, 7, 8, 9, 10, 11, 1, 0] rfl (hK45 l9 s0 l12_11)
set_option maxRecDepth 20000 in
theorem S_X12_joined_b146 (X : pz_X) (n : Nat) (l0 : Option Nat) (l1 : Int32) (l2 : Int32) (l3 : Int32) (l4 : Int32) (l5 : Int32) (l6 : Int32) (l7 : Int32) (l8 : Int32) (K45 : Int64 → Int32 → Int32 → pz_C Int32) (hK45 : ∀ (l9 : Int64) (l11 : Int32) (l12 : Int32), pz_Sm X (pz_QM X) J_X12_joined pz_vI 45 [(0, va_rf l0), (1, .int l1), (2, .int l2), (3, .int l3), (4, .int l4), (5, .int l5), (6, .int l6), (7, .int l7), (8, .int l8), (9, .long l9), (11, .int l11), (12, .int l12)] [] (K45 l9 l11 l12)) (l11 : Int32) (l12 : Int32) (l13 : Int64) (s0 : Int64) : pz_Sm X (pz_QM X) J_X12_joined pz_vI 146 [(0, va_rf l0), (1, .int l1), (2, .int l2), (3, .int l3), (4, .int l4), (5, .int l5), (6, .int l6), (7, .int l7), (8, .int l8), (11, .int l11), (12, .int l12), (13, .long l13)] [.long s0] (X12_joined_b146 n K45 l0 l1 l2 l3 l4 l5 l6 l7 l8 l11 l12 l13 s0) := by
  unfold X12_joined_b146
  refine pz_lstore [(9, .long s0), (0, va_rf l0), (1, .int l1), (2, .int l2), (3, .int l3), (4, .int l4), (5, .int l5), (6, .int l6), (7, .int l7), (8, .int l8), (11, .int l11), (12, .int l12), (13, .long l13)] dX12_joined_146 (by decide) rfl ?_
  refine pz_aload_n 1 dX12_joined_148 rfl ?_
  refine pz_getR (ci := 12) (k := 34) ck_12 (by decide) (Or.inl pw_966) dX12_joined_149 (fun x8 => ?_)
  refine pz_iload 6 dX12_joined_152 rfl ?_
  refine pz_iload 11 dX12_joined_154 rfl ?_
  refine pz_iadd dX12_joined_156 ?_
  refine pz_lload 12 dX12_joined_157 rfl ?_
  refine pz_lload 0 dX12_joined_159 rfl ?_
  refine pz_ldc2 1000000000 dX12_joined_161 pw_923 ?_
  refine pz_lmul dX12_joined_164 ?_
  refine pz_lsub dX12_joined_165 ?_
  refine pz_l2i dX12_joined_166 ?_
  refine pz_iast (t := 0) rfl dX12_joined_167 ?_
  refine pz_aload_n 1 dX12_joined_168 rfl ?_
  refine pz_getR (ci := 12) (k := 34) ck_12 (by decide) (Or.inl pw_966) dX12_joined_169 (fun x9 => ?_)
  refine pz_iload 6 dX12_joined_172 rfl ?_
  refine pz_iload 11 dX12_joined_174 rfl ?_
  refine pz_iadd dX12_joined_176 ?_
  refine pz_iald (t := 0) rfl dX12_joined_177 (fun x10 => ?_)
  refine pz_if_eq 186 dX12_joined_178 (by decide) ?_ ?_
  · refine pz_iload 10 dX12_joined_186 rfl ?_
    exact pz_sub [1, 2, 3, 4, 5, 6, 7, 8, 9, 0, 11] rfl (S_X12_joined_b188 X n l0 l1 l2 l3 l4 l5 l6 l7 l8 K45 hK45 s0 l12 l11)
  · refine pz_iload 11 dX12_joined_181 rfl ?_
    refine pz_goto 188 dX12_joined_183 (by decide) ?_
    exact pz_sub [1, 2, 3, 4, 5, 6, 7, 8, 9, 0, 11] rfl (S_X12_joined_b188 X n l0 l1 l2 l3 l4 l5 l6 l7 l8 K45 hK45 s0 l12 l12)
set_option maxRecDepth 20000 in
theorem S_X12_joined_b115 (X : pz_X) (n : Nat) (l0 : Option Nat) (l1 : Int32) (l2 : Int32) (l3 : Int32) (l4 : Int32) (l5 : Int32) (l6 : Int32) (l7 : Int32) (l8 : Int32) (K45 : Int64 → Int32 → Int32 → pz_C Int32) (hK45 : ∀ (l9 : Int64) (l11 : Int32) (l12 : Int32), pz_Sm X (pz_QM X) J_X12_joined pz_vI 45 [(0, va_rf l0), (1, .int l1), (2, .int l2), (3, .int l3), (4, .int l4), (5, .int l5), (6, .int l6), (7, .int l7), (8, .int l8), (9, .long l9), (11, .int l11), (12, .int l12)] [] (K45 l9 l11 l12)) (l11 : Int32) (l12 : Int32) (s0 : Int64) (s1 : Int32) : pz_Sm X (pz_QM X) J_X12_joined pz_vI 115 [(0, va_rf l0), (1, .int l1), (2, .int l2), (3, .int l3), (4, .int l4), (5, .int l5), (6, .int l6), (7, .int l7), (8, .int l8), (11, .int l11), (12, .int l12)] [.int s1, .long s0] (X12_joined_b115 n K45 l0 l1 l2 l3 l4 l5 l6 l7 l8 l11 l12 s0 s1) := by
  unfold X12_joined_b115
  refine pz_i2l dX12_joined_115 ?_
  refine pz_ladd dX12_joined_116 ?_
  refine pz_nmL (fun l13_7 => ?_)
  refine pz_lstore [(13, .long l13_7), (0, va_rf l0), (1, .int l1), (2, .int l2), (3, .int l3), (4, .int l4), (5, .int l5), (6, .int l6), (7, .int l7), (8, .int l8), (11, .int l11), (12, .int l12)] dX12_joined_117 (by decide) rfl ?_
  refine pz_lload 0 dX12_joined_119 rfl ?_
  refine pz_lconst 0 dX12_joined_121 (by decide) ?_
  refine pz_lcmp dX12_joined_122 ?_
  refine pz_if_ge 132 dX12_joined_123 (by decide) ?_ ?_
  · refine pz_lload 0 dX12_joined_132 rfl ?_
    refine pz_ldc2 1000000000 dX12_joined_134 pw_923 ?_
    refine pz_lcmp dX12_joined_137 ?_
    refine pz_if_lt 145 dX12_joined_138 (by decide) ?_ ?_
    · refine pz_lconst 0 dX12_joined_145 (by decide) ?_
      exact pz_sub [1, 2, 3, 4, 5, 6, 7, 8, 9, 10, 11, 0] rfl (S_X12_joined_b146 X n l0 l1 l2 l3 l4 l5 l6 l7 l8 K45 hK45 l11 l12 l13_7 0)
    · refine pz_lconst 1 dX12_joined_141 (by decide) ?_
      refine pz_goto 146 dX12_joined_142 (by decide) ?_
      exact pz_sub [1, 2, 3, 4, 5, 6, 7, 8, 9, 10, 11, 0] rfl (S_X12_joined_b146 X n l0 l1 l2 l3 l4 l5 l6 l7 l8 K45 hK45 l11 l12 l13_7 1)
  · refine pz_ldc2 (-1) dX12_joined_126 pw_1138 ?_
    refine pz_goto 146 dX12_joined_129 (by decide) ?_
    exact pz_sub [1, 2, 3, 4, 5, 6, 7, 8, 9, 10, 11, 0] rfl (S_X12_joined_b146 X n l0 l1 l2 l3 l4 l5 l6 l7 l8 K45 hK45 l11 l12 l13_7 (-1))
set_option maxRecDepth 20000 in
theorem S_X12_joined_b76 (X : pz_X) (n : Nat) (l0 : Option Nat) (l1 : Int32) (l2 : Int32) (l3 : Int32) (l4 : Int32) (l5 : Int32) (l6 : Int32) (l7 : Int32) (l8 : Int32) (K45 : Int64 → Int32 → Int32 → pz_C Int32) (hK45 : ∀ (l9 : Int64) (l11 : Int32) (l12 : Int32), pz_Sm X (pz_QM X) J_X12_joined pz_vI 45 [(0, va_rf l0), (1, .int l1), (2, .int l2), (3, .int l3), (4, .int l4), (5, .int l5), (6, .int l6), (7, .int l7), (8, .int l8), (9, .long l9), (11, .int l11), (12, .int l12)] [] (K45 l9 l11 l12)) (l11 : Int32) (l12 : Int32) (s0 : Int64) (s1 : Int32) : pz_Sm X (pz_QM X) J_X12_joined pz_vI 76 [(0, va_rf l0), (1, .int l1), (2, .int l2), (3, .int l3), (4, .int l4), (5, .int l5), (6, .int l6), (7, .int l7), (8, .int l8), (11, .int l11), (12, .int l12)] [.int s1, .long s0] (X12_joined_b76 n K45 l0 l1 l2 l3 l4 l5 l6 l7 l8 l11 l12 s0 s1) := by
  unfold X12_joined_b76
  refine pz_i2l dX12_joined_76 ?_
  refine pz_ladd dX12_joined_77 ?_
  refine pz_iload 10 dX12_joined_78 rfl ?_
  refine pz_iload 7 dX12_joined_80 rfl ?_
  refine pz_icmp_le 89 dX12_joined_82 (by decide) ?_ ?_
  · refine pz_iload_n 3 dX12_joined_89 rfl ?_
    refine pz_if_eq 105 dX12_joined_90 (by decide) ?_ ?_
    · refine pz_aload_n 0 dX12_joined_105 rfl ?_
      refine pz_getR (ci := 12) (k := 34) ck_12 (by decide) (Or.inl pw_966) dX12_joined_106 (fun x5 => ?_)
      refine pz_iload_n 2 dX12_joined_109 rfl ?_
      refine pz_iload 10 dX12_joined_110 rfl ?_
      refine pz_iadd dX12_joined_112 ?_
      refine pz_iald (t := 0) rfl dX12_joined_113 (fun x6 => ?_)
      refine pz_ineg dX12_joined_114 ?_
      exact pz_sub [0, 1, 2, 3, 4, 5, 6, 7, 8, 9, 10] rfl (S_X12_joined_b115 X n l0 l1 l2 l3 l4 l5 l6 l7 l8 K45 hK45 l11 l12 (s0 + (Int32.toInt64 s1)) (-x6))
    · refine pz_aload_n 0 dX12_joined_93 rfl ?_
      refine pz_getR (ci := 12) (k := 34) ck_12 (by decide) (Or.inl pw_966) dX12_joined_94 (fun x12 => ?_)
      refine pz_iload_n 2 dX12_joined_97 rfl ?_
      refine pz_iload 10 dX12_joined_98 rfl ?_
      refine pz_iadd dX12_joined_100 ?_
      refine pz_iald (t := 0) rfl dX12_joined_101 (fun x13 => ?_)
      refine pz_goto 115 dX12_joined_102 (by decide) ?_
      exact pz_sub [0, 1, 2, 3, 4, 5, 6, 7, 8, 9, 10] rfl (S_X12_joined_b115 X n l0 l1 l2 l3 l4 l5 l6 l7 l8 K45 hK45 l11 l12 (s0 + (Int32.toInt64 s1)) x13)
  · refine pz_iconst 0 dX12_joined_85 (by decide) ?_
    refine pz_goto 115 dX12_joined_86 (by decide) ?_
    exact pz_sub [0, 1, 2, 3, 4, 5, 6, 7, 8, 9, 10] rfl (S_X12_joined_b115 X n l0 l1 l2 l3 l4 l5 l6 l7 l8 K45 hK45 l11 l12 (s0 + (Int32.toInt64 s1)) 0)
set_option maxRecDepth 20000 in
theorem S_X12_joined_L45_body (X : pz_X) (n : Nat) (l0 : Option Nat) (l1 : Int32) (l2 : Int32) (l3 : Int32) (l4 : Int32) (l5 : Int32) (l6 : Int32) (l7 : Int32) (l8 : Int32) (K45 : Int64 → Int32 → Int32 → pz_C Int32) (hK45 : ∀ (l9 : Int64) (l11 : Int32) (l12 : Int32), pz_Sm X (pz_QM X) J_X12_joined pz_vI 45 [(0, va_rf l0), (1, .int l1), (2, .int l2), (3, .int l3), (4, .int l4), (5, .int l5), (6, .int l6), (7, .int l7), (8, .int l8), (9, .long l9), (11, .int l11), (12, .int l12)] [] (K45 l9 l11 l12)) (l9 : Int64) (l11 : Int32) (l12 : Int32) : pz_Sm X (pz_QM X) J_X12_joined pz_vI 45 [(0, va_rf l0), (1, .int l1), (2, .int l2), (3, .int l3), (4, .int l4), (5, .int l5), (6, .int l6), (7, .int l7), (8, .int l8), (9, .long l9), (11, .int l11), (12, .int l12)] [] (X12_joined_L45_body n l0 l1 l2 l3 l4 l5 l6 l7 l8 K45 l9 l11 l12) := by
  unfold X12_joined_L45_body
  refine pz_iload 11 dX12_joined_45 rfl ?_
  refine pz_iload 8 dX12_joined_47 rfl ?_
  refine pz_iconst 1 dX12_joined_49 (by decide) ?_
  refine pz_iadd dX12_joined_50 ?_
  refine pz_icmp_gt 196 dX12_joined_51 (by decide) ?_ ?_
  · refine pz_aload_n 0 dX12_joined_196 rfl ?_
    refine pz_getR (ci := 12) (k := 34) ck_12 (by decide) (Or.inl pw_966) dX12_joined_197 (fun x4 => ?_)
    refine pz_iload 5 dX12_joined_200 rfl ?_
    refine pz_iload 4 dX12_joined_202 rfl ?_
    refine pz_if_eq 213 dX12_joined_204 (by decide) ?_ ?_
    · refine pz_iload 10 dX12_joined_213 rfl ?_
      exact pz_sub [0, 5, 10] rfl (S_X12_joined_b215 X n l0 l5 l11 x4 l5 l11)
    · refine pz_iload 10 dX12_joined_207 rfl ?_
      refine pz_ineg dX12_joined_209 ?_
      refine pz_goto 215 dX12_joined_210 (by decide) ?_
      exact pz_sub [0, 5, 10] rfl (S_X12_joined_b215 X n l0 l5 l11 x4 l5 (-l11))
  · refine pz_lload 9 dX12_joined_54 rfl ?_
    refine pz_iload 11 dX12_joined_56 rfl ?_
    refine pz_iload 6 dX12_joined_58 rfl ?_
    refine pz_icmp_gt 75 dX12_joined_60 (by decide) ?_ ?_
    · refine pz_iconst 0 dX12_joined_75 (by decide) ?_
      exact pz_sub [0, 1, 2, 3, 4, 5, 6, 7, 8, 10, 11] rfl (S_X12_joined_b76 X n l0 l1 l2 l3 l4 l5 l6 l7 l8 K45 hK45 l11 l12 l9 0)
    · refine pz_aload_n 0 dX12_joined_63 rfl ?_
      refine pz_getR (ci := 12) (k := 34) ck_12 (by decide) (Or.inl pw_966) dX12_joined_64 (fun x14 => ?_)
      refine pz_iload_n 1 dX12_joined_67 rfl ?_
      refine pz_iload 11 dX12_joined_68 rfl ?_
      refine pz_iadd dX12_joined_70 ?_
      refine pz_iald (t := 0) rfl dX12_joined_71 (fun x15 => ?_)
      refine pz_goto 76 dX12_joined_72 (by decide) ?_
      exact pz_sub [0, 1, 2, 3, 4, 5, 6, 7, 8, 10, 11] rfl (S_X12_joined_b76 X n l0 l1 l2 l3 l4 l5 l6 l7 l8 K45 hK45 l11 l12 l9 x15)
set_option maxRecDepth 20000 in
theorem S_X12_joined_L45 (X : pz_X) (n : Nat) (l0 : Option Nat) (l1 : Int32) (l2 : Int32) (l3 : Int32) (l4 : Int32) (l5 : Int32) (l6 : Int32) (l7 : Int32) (l8 : Int32) (l9 : Int64) (l11 : Int32) (l12 : Int32) : pz_Sm X (pz_QM X) J_X12_joined pz_vI 45 [(0, va_rf l0), (1, .int l1), (2, .int l2), (3, .int l3), (4, .int l4), (5, .int l5), (6, .int l6), (7, .int l7), (8, .int l8), (9, .long l9), (11, .int l11), (12, .int l12)] [] (X12_joined_L45 n l0 l1 l2 l3 l4 l5 l6 l7 l8 l9 l11 l12) :=
  pz_lp (L := fun (s : Int64 × Int32 × Int32) => [(0, va_rf l0), (1, .int l1), (2, .int l2), (3, .int l3), (4, .int l4), (5, .int l5), (6, .int l6), (7, .int l7), (8, .int l8), (9, .long s.1), (11, .int s.2.1), (12, .int s.2.2)]) (fun K hK s => S_X12_joined_L45_body X n l0 l1 l2 l3 l4 l5 l6 l7 l8 (fun l9 l11 l12 => K (l9, l11, l12)) (fun l9 l11 l12 => hK (l9, l11, l12)) s.1 s.2.1 s.2.2) n (l9, l11, l12)
set_option maxRecDepth 20000 in
theorem S_X12_joined_b34 (X : pz_X) (n : Nat) (l0 : Option Nat) (l1 : Int32) (l2 : Int32) (l3 : Int32) (l4 : Int32) (l5 : Int32) (l6 : Int32) (l7 : Int32) (s0 : Int32) : pz_Sm X (pz_QM X) J_X12_joined pz_vI 34 [(0, va_rf l0), (1, .int l1), (2, .int l2), (3, .int l3), (4, .int l4), (5, .int l5), (6, .int l6), (7, .int l7)] [.int s0] (X12_joined_b34 n l0 l1 l2 l3 l4 l5 l6 l7 s0) := by
  unfold X12_joined_b34
  refine pz_istore [(8, .int s0), (0, va_rf l0), (1, .int l1), (2, .int l2), (3, .int l3), (4, .int l4), (5, .int l5), (6, .int l6), (7, .int l7)] dX12_joined_34 (by decide) rfl ?_
  refine pz_lconst 0 dX12_joined_36 (by decide) ?_
  refine pz_lstore [(9, .long 0), (8, .int s0), (0, va_rf l0), (1, .int l1), (2, .int l2), (3, .int l3), (4, .int l4), (5, .int l5), (6, .int l6), (7, .int l7)] dX12_joined_37 (by decide) rfl ?_
  refine pz_iconst 0 dX12_joined_39 (by decide) ?_
  refine pz_istore [(11, .int 0), (9, .long 0), (8, .int s0), (0, va_rf l0), (1, .int l1), (2, .int l2), (3, .int l3), (4, .int l4), (5, .int l5), (6, .int l6), (7, .int l7)] dX12_joined_40 (by decide) rfl ?_
  refine pz_iconst 1 dX12_joined_42 (by decide) ?_
  refine pz_istore [(12, .int 1), (11, .int 0), (9, .long 0), (8, .int s0), (0, va_rf l0), (1, .int l1), (2, .int l2), (3, .int l3), (4, .int l4), (5, .int l5), (6, .int l6), (7, .int l7)] dX12_joined_43 (by decide) rfl ?_
  exact pz_sub [4, 5, 6, 7, 8, 9, 10, 11, 3, 2, 1, 0] rfl (S_X12_joined_L45 X n l0 l1 l2 l3 l4 l5 l6 l7 s0 0 0 1)
set_option maxRecDepth 20000 in
theorem S_X12_joined (X : pz_X) (n : Nat) (l0 : Option Nat) (l1 : Int32) (l2 : Int32) (l3 : Int32) (l4 : Int32) : pz_Sm X (pz_QM X) J_X12_joined pz_vI 0 [(0, va_rf l0), (1, .int l1), (2, .int l2), (3, .int l3), (4, .int l4)] [] (X12_joined n l0 l1 l2 l3 l4) := by
  unfold X12_joined
  refine pz_aload_n 0 dX12_joined_0 rfl ?_
  refine pz_getI (ci := 12) (k := 35) ck_12 (by decide) (Or.inl pw_967) dX12_joined_1 (fun x1 => ?_)
  refine pz_istore [(5, .int x1), (0, va_rf l0), (1, .int l1), (2, .int l2), (3, .int l3), (4, .int l4)] dX12_joined_4 (by decide) rfl ?_
  refine pz_aload_n 1 dX12_joined_6 rfl ?_
  refine pz_iload_n 2 dX12_joined_7 rfl ?_
  refine pz_cvI (st := []) (md_X12_limbs X n l0 l1) ck_12 rfl mk_X12_limbs (Or.inl pw_928) pw_930 ps_32 rfl rfl (by decide) (by decide) (by decide) dX12_joined_8 (fun x2 => ?_)
  refine pz_istore [(6, .int x2), (5, .int x1), (0, va_rf l0), (1, .int l1), (2, .int l2), (3, .int l3), (4, .int l4)] dX12_joined_11 (by decide) rfl ?_
  refine pz_aload_n 2 dX12_joined_13 rfl ?_
  refine pz_iload_n 4 dX12_joined_14 rfl ?_
  refine pz_cvI (st := []) (md_X12_limbs X n l0 l2) ck_12 rfl mk_X12_limbs (Or.inl pw_928) pw_930 ps_32 rfl rfl (by decide) (by decide) (by decide) dX12_joined_15 (fun x3 => ?_)
  refine pz_istore [(7, .int x3), (6, .int x2), (5, .int x1), (0, va_rf l0), (1, .int l1), (2, .int l2), (3, .int l3), (4, .int l4)] dX12_joined_18 (by decide) rfl ?_
  refine pz_iload 1 dX12_joined_20 rfl ?_
  refine pz_iload 0 dX12_joined_22 rfl ?_
  refine pz_icmp_le 32 dX12_joined_24 (by decide) ?_ ?_
  · refine pz_iload 0 dX12_joined_32 rfl ?_
    exact pz_sub [3, 4, 5, 6, 7, 2, 1, 0] rfl (S_X12_joined_b34 X n l0 l1 l2 l3 l4 x1 x2 x3 x3)
  · refine pz_iload 1 dX12_joined_27 rfl ?_
    refine pz_goto 34 dX12_joined_29 (by decide) ?_
    exact pz_sub [3, 4, 5, 6, 7, 2, 1, 0] rfl (S_X12_joined_b34 X n l0 l1 l2 l3 l4 x1 x2 x3 x2)
set_option maxRecDepth 20000 in
theorem md_X12_joined (X : pz_X) (n : Nat) (l0 : Option Nat) (l1 : Int32) (l2 : Int32) (l3 : Int32) (l4 : Int32) : pz_Md X yX12_joined J_X12_joined pz_vI [va_rf l0, .int l1, .int l2, .int l3, .int l4] (X12_joined n l0 l1 l2 l3 l4) :=
  pz_md [(0, va_rf l0), (1, .int l1), (2, .int l2), (3, .int l3), (4, .int l4)] (by decide +kernel) rfl rfl (by cases l0 <;> rfl) (by cases l0 <;> exact Nat.le_of_ble_eq_true rfl) (fun X => S_X12_joined X n l0 l1 l2 l3 l4)
set_option maxRecDepth 20000 in
theorem S_X12_weigh_b101 (X : pz_X) (n : Nat) (s0 : Int32) : pz_Sm X (pz_QM X) J_X12_weigh pz_vI 101 [] [.int s0] (X12_weigh_b101 n s0) := by
  unfold X12_weigh_b101
  exact pz_iret rfl dX12_weigh_101
set_option maxRecDepth 20000 in
theorem S_X12_weigh_b66 (X : pz_X) (n : Nat) (l0 : Option Nat) (l1 : Int32) (l2 : Int32) (l5 : Int32) : pz_Sm X (pz_QM X) J_X12_weigh pz_vI 66 [(0, va_rf l0), (1, .int l1), (2, .int l2), (5, .int l5)] [] (X12_weigh_b66 n l0 l1 l2 l5) := by
  unfold X12_weigh_b66
  refine pz_iload 3 dX12_weigh_66 rfl ?_
  refine pz_if_ne 75 dX12_weigh_68 (by decide) ?_ ?_
  · refine pz_iconst 0 dX12_weigh_71 (by decide) ?_
    refine pz_goto 101 dX12_weigh_72 (by decide) ?_
    exact pz_sub [] rfl (S_X12_weigh_b101 X n 0)
  · refine pz_aload_n 0 dX12_weigh_75 rfl ?_
    refine pz_getR (ci := 12) (k := 34) ck_12 (by decide) (Or.inl pw_966) dX12_weigh_76 (fun x3 => ?_)
    refine pz_iload_n 1 dX12_weigh_79 rfl ?_
    refine pz_iload 3 dX12_weigh_80 rfl ?_
    refine pz_iadd dX12_weigh_82 ?_
    refine pz_iald (t := 0) rfl dX12_weigh_83 (fun x4 => ?_)
    refine pz_aload_n 0 dX12_weigh_84 rfl ?_
    refine pz_getR (ci := 12) (k := 34) ck_12 (by decide) (Or.inl pw_966) dX12_weigh_85 (fun x5 => ?_)
    refine pz_iload_n 2 dX12_weigh_88 rfl ?_
    refine pz_iload 3 dX12_weigh_89 rfl ?_
    refine pz_iadd dX12_weigh_91 ?_
    refine pz_iald (t := 0) rfl dX12_weigh_92 (fun x6 => ?_)
    refine pz_icmp_ge 100 dX12_weigh_93 (by decide) ?_ ?_
    · refine pz_iconst 1 dX12_weigh_100 (by decide) ?_
      exact pz_sub [] rfl (S_X12_weigh_b101 X n 1)
    · refine pz_iconst (-1) dX12_weigh_96 (by decide) ?_
      refine pz_goto 101 dX12_weigh_97 (by decide) ?_
      exact pz_sub [] rfl (S_X12_weigh_b101 X n (-1))
set_option maxRecDepth 20000 in
theorem S_X12_weigh_L34_body (X : pz_X) (n : Nat) (l0 : Option Nat) (l1 : Int32) (l2 : Int32) (K34 : Int32 → pz_C Int32) (hK34 : ∀ (l5 : Int32), pz_Sm X (pz_QM X) J_X12_weigh pz_vI 34 [(0, va_rf l0), (1, .int l1), (2, .int l2), (5, .int l5)] [] (K34 l5)) (l5 : Int32) : pz_Sm X (pz_QM X) J_X12_weigh pz_vI 34 [(0, va_rf l0), (1, .int l1), (2, .int l2), (5, .int l5)] [] (X12_weigh_L34_body n l0 l1 l2 K34 l5) := by
  unfold X12_weigh_L34_body
  refine pz_iload 3 dX12_weigh_34 rfl ?_
  refine pz_if_le 66 dX12_weigh_36 (by decide) ?_ ?_
  · exact pz_sub [0, 1, 2, 3] rfl (S_X12_weigh_b66 X n l0 l1 l2 l5)
  · refine pz_aload_n 0 dX12_weigh_39 rfl ?_
    refine pz_getR (ci := 12) (k := 34) ck_12 (by decide) (Or.inl pw_966) dX12_weigh_40 (fun x7 => ?_)
    refine pz_iload_n 1 dX12_weigh_43 rfl ?_
    refine pz_iload 3 dX12_weigh_44 rfl ?_
    refine pz_iadd dX12_weigh_46 ?_
    refine pz_iald (t := 0) rfl dX12_weigh_47 (fun x8 => ?_)
    refine pz_aload_n 0 dX12_weigh_48 rfl ?_
    refine pz_getR (ci := 12) (k := 34) ck_12 (by decide) (Or.inl pw_966) dX12_weigh_49 (fun x9 => ?_)
    refine pz_iload_n 2 dX12_weigh_52 rfl ?_
    refine pz_iload 3 dX12_weigh_53 rfl ?_
    refine pz_iadd dX12_weigh_55 ?_
    refine pz_iald (t := 0) rfl dX12_weigh_56 (fun x10 => ?_)
    refine pz_icmp_ne 66 dX12_weigh_57 (by decide) ?_ ?_
    · refine pz_iinc 3 (-1) (fun l5_11 => [(5, .int l5_11), (0, va_rf l0), (1, .int l1), (2, .int l2)]) dX12_weigh_60 rfl (by decide) (by decide) (fun l5_11 => rfl) (fun l5_11 => ?_)
      refine pz_goto 34 dX12_weigh_63 (by decide) ?_
      exact pz_sub [1, 2, 3, 0] rfl (hK34 l5_11)
    · exact pz_sub [0, 1, 2, 3] rfl (S_X12_weigh_b66 X n l0 l1 l2 l5)
set_option maxRecDepth 20000 in
theorem S_X12_weigh_L34 (X : pz_X) (n : Nat) (l0 : Option Nat) (l1 : Int32) (l2 : Int32) (l5 : Int32) : pz_Sm X (pz_QM X) J_X12_weigh pz_vI 34 [(0, va_rf l0), (1, .int l1), (2, .int l2), (5, .int l5)] [] (X12_weigh_L34 n l0 l1 l2 l5) :=
  pz_lp (L := fun (s : Int32) => [(0, va_rf l0), (1, .int l1), (2, .int l2), (5, .int s)]) (fun K hK s => S_X12_weigh_L34_body X n l0 l1 l2 (fun l5 => K l5) (fun l5 => hK l5) s) n l5
set_option maxRecDepth 20000 in
theorem S_X12_weigh_b30 (X : pz_X) (n : Nat) (s0 : Int32) : pz_Sm X (pz_QM X) J_X12_weigh pz_vI 30 [] [.int s0] (X12_weigh_b30 n s0) := by
  unfold X12_weigh_b30
  exact pz_iret rfl dX12_weigh_30
set_option maxRecDepth 20000 in
theorem S_X12_weigh (X : pz_X) (n : Nat) (l0 : Option Nat) (l1 : Int32) (l2 : Int32) : pz_Sm X (pz_QM X) J_X12_weigh pz_vI 0 [(0, va_rf l0), (1, .int l1), (2, .int l2)] [] (X12_weigh n l0 l1 l2) := by
  unfold X12_weigh
  refine pz_aload_n 0 dX12_weigh_0 rfl ?_
  refine pz_iload_n 1 dX12_weigh_1 rfl ?_
  refine pz_cvI (st := []) (md_X12_limbs X n l0 l1) ck_12 rfl mk_X12_limbs (Or.inl pw_928) pw_930 ps_32 rfl rfl (by decide) (by decide) (by decide) dX12_weigh_2 (fun x1 => ?_)
  refine pz_istore_n [(3, .int x1), (0, va_rf l0), (1, .int l1), (2, .int l2)] dX12_weigh_5 (by decide) rfl ?_
  refine pz_aload_n 1 dX12_weigh_6 rfl ?_
  refine pz_iload_n 3 dX12_weigh_7 rfl ?_
  refine pz_cvI (st := []) (md_X12_limbs X n l0 l2) ck_12 rfl mk_X12_limbs (Or.inl pw_928) pw_930 ps_32 rfl rfl (by decide) (by decide) (by decide) dX12_weigh_8 (fun x2 => ?_)
  refine pz_istore [(4, .int x2), (3, .int x1), (0, va_rf l0), (1, .int l1), (2, .int l2)] dX12_weigh_11 (by decide) rfl ?_
  refine pz_iload_n 1 dX12_weigh_13 rfl ?_
  refine pz_iload 0 dX12_weigh_14 rfl ?_
  refine pz_icmp_eq 31 dX12_weigh_16 (by decide) ?_ ?_
  · refine pz_iload_n 1 dX12_weigh_31 rfl ?_
    refine pz_istore [(5, .int x1), (4, .int x2), (3, .int x1), (0, va_rf l0), (1, .int l1), (2, .int l2)] dX12_weigh_32 (by decide) rfl ?_
    exact pz_sub [3, 4, 5, 0] rfl (S_X12_weigh_L34 X n l0 l1 l2 x1)
  · refine pz_iload_n 1 dX12_weigh_19 rfl ?_
    refine pz_iload 0 dX12_weigh_20 rfl ?_
    refine pz_icmp_ge 29 dX12_weigh_22 (by decide) ?_ ?_
    · refine pz_iconst 1 dX12_weigh_29 (by decide) ?_
      exact pz_sub [] rfl (S_X12_weigh_b30 X n 1)
    · refine pz_iconst (-1) dX12_weigh_25 (by decide) ?_
      refine pz_goto 30 dX12_weigh_26 (by decide) ?_
      exact pz_sub [] rfl (S_X12_weigh_b30 X n (-1))
set_option maxRecDepth 20000 in
theorem md_X12_weigh (X : pz_X) (n : Nat) (l0 : Option Nat) (l1 : Int32) (l2 : Int32) : pz_Md X yX12_weigh J_X12_weigh pz_vI [va_rf l0, .int l1, .int l2] (X12_weigh n l0 l1 l2) :=
  pz_md [(0, va_rf l0), (1, .int l1), (2, .int l2)] (by decide +kernel) rfl rfl (by cases l0 <;> rfl) (by cases l0 <;> exact Nat.le_of_ble_eq_true rfl) (fun X => S_X12_weigh X n l0 l1 l2)
set_option maxRecDepth 20000 in
theorem S_X12_plus_b32 (X : pz_X) (n : Nat) (s0 : Option Nat) (s1 : Int32) : pz_Sm X (pz_QM X) J_X12_plus pz_vI 32 [] [.int s1, va_rf s0] (X12_plus_b32 n s0 s1) := by
  unfold X12_plus_b32
  refine pz_cvI (st := []) (md_X12_again X n s0 s1) ck_12 rfl mk_X12_again (Or.inl pw_1130) pw_1132 ps_46 rfl rfl (by decide) (by decide) (by decide) dX12_plus_32 (fun x3 => ?_)
  exact pz_iret rfl dX12_plus_35
set_option maxRecDepth 20000 in
theorem S_X12_plus_b22 (X : pz_X) (n : Nat) (l0 : Option Nat) (l1 : Int32) (l2 : Int32) (l3 : Int32) : pz_Sm X (pz_QM X) J_X12_plus pz_vI 22 [(0, va_rf l0), (1, .int l1), (2, .int l2), (3, .int l3)] [] (X12_plus_b22 n l0 l1 l2 l3) := by
  unfold X12_plus_b22
  refine pz_aload_n 0 dX12_plus_22 rfl ?_
  refine pz_iload_n 3 dX12_plus_23 rfl ?_
  refine pz_if_ne 31 dX12_plus_24 (by decide) ?_ ?_
  · refine pz_iload_n 2 dX12_plus_27 rfl ?_
    refine pz_goto 32 dX12_plus_28 (by decide) ?_
    exact pz_sub [] rfl (S_X12_plus_b32 X n l0 l2)
  · refine pz_iload_n 1 dX12_plus_31 rfl ?_
    exact pz_sub [] rfl (S_X12_plus_b32 X n l0 l1)
set_option maxRecDepth 20000 in
theorem S_X12_plus_b55 (X : pz_X) (n : Nat) (s0 : Option Nat) (s1 : Int32) (s2 : Int32) (s3 : Int32) (s4 : Int32) : pz_Sm X (pz_QM X) J_X12_plus pz_vI 55 [] [.int s4, .int s3, .int s2, .int s1, va_rf s0] (X12_plus_b55 n s0 s1 s2 s3 s4) := by
  unfold X12_plus_b55
  refine pz_cvI (st := []) (md_X12_joined X n s0 s1 s2 s3 s4) ck_12 rfl mk_X12_joined (Or.inl pw_1134) pw_1136 ps_47 rfl rfl (by decide) (by decide) (by decide) dX12_plus_55 (fun x4 => ?_)
  exact pz_iret rfl dX12_plus_58
set_option maxRecDepth 20000 in
theorem S_X12_plus_b104 (X : pz_X) (n : Nat) (s0 : Int32) : pz_Sm X (pz_QM X) J_X12_plus pz_vI 104 [] [.int s0] (X12_plus_b104 n s0) := by
  unfold X12_plus_b104
  exact pz_iret rfl dX12_plus_104
set_option maxRecDepth 20000 in
theorem S_X12_plus_b101 (X : pz_X) (n : Nat) (s0 : Option Nat) (s1 : Int32) (s2 : Int32) (s3 : Int32) (s4 : Int32) : pz_Sm X (pz_QM X) J_X12_plus pz_vI 101 [] [.int s4, .int s3, .int s2, .int s1, va_rf s0] (X12_plus_b101 n s0 s1 s2 s3 s4) := by
  unfold X12_plus_b101
  refine pz_cvI (st := []) (md_X12_joined X n s0 s1 s2 s3 s4) ck_12 rfl mk_X12_joined (Or.inl pw_1134) pw_1136 ps_47 rfl rfl (by decide) (by decide) (by decide) dX12_plus_101 (fun x6 => ?_)
  exact pz_sub [] rfl (S_X12_plus_b104 X n x6)
set_option maxRecDepth 20000 in
theorem S_X12_plus_b81 (X : pz_X) (n : Nat) (s0 : Option Nat) (s1 : Int32) (s2 : Int32) (s3 : Int32) (s4 : Int32) : pz_Sm X (pz_QM X) J_X12_plus pz_vI 81 [] [.int s4, .int s3, .int s2, .int s1, va_rf s0] (X12_plus_b81 n s0 s1 s2 s3 s4) := by
  unfold X12_plus_b81
  refine pz_cvI (st := []) (md_X12_joined X n s0 s1 s2 s3 s4) ck_12 rfl mk_X12_joined (Or.inl pw_1134) pw_1136 ps_47 rfl rfl (by decide) (by decide) (by decide) dX12_plus_81 (fun x7 => ?_)
  refine pz_goto 104 dX12_plus_84 (by decide) ?_
  exact pz_sub [] rfl (S_X12_plus_b104 X n x7)
set_option maxRecDepth 20000 in
theorem S_X12_plus (X : pz_X) (n : Nat) (l0 : Option Nat) (l1 : Int32) (l2 : Int32) : pz_Sm X (pz_QM X) J_X12_plus pz_vI 0 [(0, va_rf l0), (1, .int l1), (2, .int l2)] [] (X12_plus n l0 l1 l2) := by
  unfold X12_plus
  refine pz_aload_n 0 dX12_plus_0 rfl ?_
  refine pz_iload_n 1 dX12_plus_1 rfl ?_
  refine pz_cvI (st := []) (md_X12_sgn X n l0 l1) ck_12 rfl mk_X12_sgn (Or.inl pw_1122) pw_1124 ps_44 rfl rfl (by decide) (by decide) (by decide) dX12_plus_2 (fun x1 => ?_)
  refine pz_istore_n [(3, .int x1), (0, va_rf l0), (1, .int l1), (2, .int l2)] dX12_plus_5 (by decide) rfl ?_
  refine pz_aload_n 1 dX12_plus_6 rfl ?_
  refine pz_iload_n 3 dX12_plus_7 rfl ?_
  refine pz_cvI (st := []) (md_X12_sgn X n l0 l2) ck_12 rfl mk_X12_sgn (Or.inl pw_1122) pw_1124 ps_44 rfl rfl (by decide) (by decide) (by decide) dX12_plus_8 (fun x2 => ?_)
  refine pz_istore [(4, .int x2), (3, .int x1), (0, va_rf l0), (1, .int l1), (2, .int l2)] dX12_plus_11 (by decide) rfl ?_
  refine pz_iload_n 1 dX12_plus_13 rfl ?_
  refine pz_if_eq 22 dX12_plus_14 (by decide) ?_ ?_
  · exact pz_sub [2, 3, 4, 1] rfl (S_X12_plus_b22 X n l0 l1 l2 x1)
  · refine pz_iload 0 dX12_plus_17 rfl ?_
    refine pz_if_ne 36 dX12_plus_19 (by decide) ?_ ?_
    · exact pz_sub [2, 3, 4, 1] rfl (S_X12_plus_b22 X n l0 l1 l2 x1)
    · refine pz_iload_n 1 dX12_plus_36 rfl ?_
      refine pz_iload 0 dX12_plus_37 rfl ?_
      refine pz_icmp_ne 59 dX12_plus_39 (by decide) ?_ ?_
      · refine pz_aload_n 2 dX12_plus_42 rfl ?_
        refine pz_iload_n 3 dX12_plus_43 rfl ?_
        refine pz_iload_n 4 dX12_plus_44 rfl ?_
        refine pz_iconst 1 dX12_plus_45 (by decide) ?_
        refine pz_iload_n 1 dX12_plus_46 rfl ?_
        refine pz_if_ge 54 dX12_plus_47 (by decide) ?_ ?_
        · refine pz_iconst 0 dX12_plus_54 (by decide) ?_
          exact pz_sub [] rfl (S_X12_plus_b55 X n l0 l1 l2 1 0)
        · refine pz_iconst 1 dX12_plus_50 (by decide) ?_
          refine pz_goto 55 dX12_plus_51 (by decide) ?_
          exact pz_sub [] rfl (S_X12_plus_b55 X n l0 l1 l2 1 1)
      · refine pz_aload_n 2 dX12_plus_59 rfl ?_
        refine pz_iload_n 3 dX12_plus_60 rfl ?_
        refine pz_iload_n 4 dX12_plus_61 rfl ?_
        refine pz_cvI (st := []) (md_X12_weigh X n l0 l1 l2) ck_12 rfl mk_X12_weigh (Or.inl pw_1139) pw_1141 ps_48 rfl rfl (by decide) (by decide) (by decide) dX12_plus_62 (fun x5 => ?_)
        refine pz_if_lt 87 dX12_plus_65 (by decide) ?_ ?_
        · refine pz_aload_n 2 dX12_plus_87 rfl ?_
          refine pz_iload_n 4 dX12_plus_88 rfl ?_
          refine pz_iload_n 3 dX12_plus_89 rfl ?_
          refine pz_iconst 0 dX12_plus_90 (by decide) ?_
          refine pz_iload 0 dX12_plus_91 rfl ?_
          refine pz_if_ge 100 dX12_plus_93 (by decide) ?_ ?_
          · refine pz_iconst 0 dX12_plus_100 (by decide) ?_
            exact pz_sub [] rfl (S_X12_plus_b101 X n l0 l2 l1 0 0)
          · refine pz_iconst 1 dX12_plus_96 (by decide) ?_
            refine pz_goto 101 dX12_plus_97 (by decide) ?_
            exact pz_sub [] rfl (S_X12_plus_b101 X n l0 l2 l1 0 1)
        · refine pz_aload_n 2 dX12_plus_68 rfl ?_
          refine pz_iload_n 3 dX12_plus_69 rfl ?_
          refine pz_iload_n 4 dX12_plus_70 rfl ?_
          refine pz_iconst 0 dX12_plus_71 (by decide) ?_
          refine pz_iload_n 1 dX12_plus_72 rfl ?_
          refine pz_if_ge 80 dX12_plus_73 (by decide) ?_ ?_
          · refine pz_iconst 0 dX12_plus_80 (by decide) ?_
            exact pz_sub [] rfl (S_X12_plus_b81 X n l0 l1 l2 0 0)
          · refine pz_iconst 1 dX12_plus_76 (by decide) ?_
            refine pz_goto 81 dX12_plus_77 (by decide) ?_
            exact pz_sub [] rfl (S_X12_plus_b81 X n l0 l1 l2 0 1)
set_option maxRecDepth 20000 in
theorem md_X12_plus (X : pz_X) (n : Nat) (l0 : Option Nat) (l1 : Int32) (l2 : Int32) : pz_Md X yX12_plus J_X12_plus pz_vI [va_rf l0, .int l1, .int l2] (X12_plus n l0 l1 l2) :=
  pz_md [(0, va_rf l0), (1, .int l1), (2, .int l2)] (by decide +kernel) rfl rfl (by cases l0 <;> rfl) (by cases l0 <;> exact Nat.le_of_ble_eq_true rfl) (fun X => S_X12_plus X n l0 l1 l2)
set_option maxRecDepth 20000 in
theorem S_X12_keep (X : pz_X) (n : Nat) (l0 : Option Nat) (l1 : Int32) (l2 : Int32) : pz_Sm X (pz_QM X) J_X12_keep pz_vI 0 [(0, va_rf l0), (1, .int l1), (2, .int l2)] [] (X12_keep n l0 l1 l2) := by
  unfold X12_keep
  refine pz_aload_n 0 dX12_keep_0 rfl ?_
  refine pz_iload_n 2 dX12_keep_1 rfl ?_
  refine pz_iload_n 1 dX12_keep_2 rfl ?_
  refine pz_cvU (st := []) (md_X12_copyTo X n l0 l2 l1) ck_12 rfl mk_X12_copyTo (Or.inl pw_924) pw_926 ps_31 rfl rfl (by decide) (by decide) (by decide) dX12_keep_3 (fun _ => ?_)
  refine pz_aload_n 0 dX12_keep_6 rfl ?_
  refine pz_iload_n 1 dX12_keep_7 rfl ?_
  refine pz_aload_n 0 dX12_keep_8 rfl ?_
  refine pz_iload_n 1 dX12_keep_9 rfl ?_
  refine pz_cvI (st := [.int l1, va_rf l0]) (md_X12_limbs X n l0 l1) ck_12 rfl mk_X12_limbs (Or.inl pw_928) pw_930 ps_32 rfl rfl (by simp [pz_rf1, pz_ci, pz_cl]) (by decide) (by decide) dX12_keep_10 (fun x2 => ?_)
  refine pz_iadd dX12_keep_13 ?_
  refine pz_iconst 1 dX12_keep_14 (by decide) ?_
  refine pz_iadd dX12_keep_15 ?_
  refine pz_put (ci := 12) (k := 35) ck_12 (by decide) (Or.inl pw_967) (Or.inl rfl) rfl rfl dX12_keep_16 ?_
  refine pz_iload_n 1 dX12_keep_19 rfl ?_
  exact pz_iret rfl dX12_keep_20
set_option maxRecDepth 20000 in
theorem md_X12_keep (X : pz_X) (n : Nat) (l0 : Option Nat) (l1 : Int32) (l2 : Int32) : pz_Md X yX12_keep J_X12_keep pz_vI [va_rf l0, .int l1, .int l2] (X12_keep n l0 l1 l2) :=
  pz_md [(0, va_rf l0), (1, .int l1), (2, .int l2)] (by decide +kernel) rfl rfl (by cases l0 <;> rfl) (by cases l0 <;> exact Nat.le_of_ble_eq_true rfl) (fun X => S_X12_keep X n l0 l1 l2)
set_option maxRecDepth 20000 in
theorem S_X12_sumOf_L14_body (X : pz_X) (n : Nat) (l0 : Option Nat) (l1 : Int32) (l2 : Int32) (K14 : Int32 → Int32 → pz_C Int32) (hK14 : ∀ (l3 : Int32) (l4 : Int32), pz_Sm X (pz_QM X) J_X12_sumOf pz_vI 14 [(0, va_rf l0), (1, .int l1), (2, .int l2), (3, .int l3), (4, .int l4)] [] (K14 l3 l4)) (l3 : Int32) (l4 : Int32) : pz_Sm X (pz_QM X) J_X12_sumOf pz_vI 14 [(0, va_rf l0), (1, .int l1), (2, .int l2), (3, .int l3), (4, .int l4)] [] (X12_sumOf_L14_body n l0 l1 l2 K14 l3 l4) := by
  unfold X12_sumOf_L14_body
  refine pz_iload 4 dX12_sumOf_14 rfl ?_
  refine pz_aload_n 0 dX12_sumOf_16 rfl ?_
  refine pz_getI (ci := 12) (k := 0) ck_12 (by decide) (Or.inl pw_932) dX12_sumOf_17 (fun x3 => ?_)
  refine pz_icmp_ge 60 dX12_sumOf_20 (by decide) ?_ ?_
  · refine pz_iload_n 3 dX12_sumOf_60 rfl ?_
    exact pz_iret rfl dX12_sumOf_61
  · refine pz_aload_n 0 dX12_sumOf_23 rfl ?_
    refine pz_iload_n 2 dX12_sumOf_24 rfl ?_
    refine pz_aload_n 0 dX12_sumOf_25 rfl ?_
    refine pz_iload_n 3 dX12_sumOf_26 rfl ?_
    refine pz_aload_n 0 dX12_sumOf_27 rfl ?_
    refine pz_iload_n 1 dX12_sumOf_28 rfl ?_
    refine pz_iload 4 dX12_sumOf_29 rfl ?_
    refine pz_csI (st := [va_rf l0, .int l3, va_rf l0, .int l2, va_rf l0]) (md_X12_factorAt X n l1 l4) mk_X12_factorAt (Or.inl pw_1083) pw_1084 rfl rfl (by simp [pz_rf1, pz_ci, pz_cl]) (by decide) (by decide) dX12_sumOf_31 (fun x4 => ?_)
    refine pz_aload_n 0 dX12_sumOf_34 rfl ?_
    refine pz_getR (ci := 12) (k := 14) ck_12 (by decide) (Or.inl pw_946) dX12_sumOf_35 (fun x5 => ?_)
    refine pz_iload 4 dX12_sumOf_38 rfl ?_
    refine pz_iald (t := 0) rfl dX12_sumOf_40 (fun x6 => ?_)
    refine pz_csI (st := [.int x4, va_rf l0, .int l3, va_rf l0, .int l2, va_rf l0]) (md_X12_valueAt X n x6) mk_X12_valueAt (Or.inl pw_1080) pw_1081 rfl rfl (by simp [pz_rf1, pz_ci, pz_cl]) (by decide) (by decide) dX12_sumOf_41 (fun x7 => ?_)
    refine pz_cvI (st := [.int l3, va_rf l0, .int l2, va_rf l0]) (md_X12_by X n l0 x4 x7) ck_12 rfl mk_X12_by (Or.inl pw_1118) pw_1120 ps_43 rfl rfl (by simp [pz_rf1, pz_ci, pz_cl]) (by decide) (by decide) dX12_sumOf_44 (fun x8 => ?_)
    refine pz_cvI (st := [.int l2, va_rf l0]) (md_X12_plus X n l0 l3 x8) ck_12 rfl mk_X12_plus (Or.inl pw_1126) pw_1128 ps_45 rfl rfl (by simp [pz_rf1, pz_ci, pz_cl]) (by decide) (by decide) dX12_sumOf_47 (fun x9 => ?_)
    refine pz_cvI (st := []) (md_X12_keep X n l0 l2 x9) ck_12 rfl mk_X12_keep (Or.inl pw_1143) pw_1145 ps_49 rfl rfl (by decide) (by decide) (by decide) dX12_sumOf_50 (fun x10 => ?_)
    refine pz_istore_n [(3, .int x10), (0, va_rf l0), (1, .int l1), (2, .int l2), (4, .int l4)] dX12_sumOf_53 (by decide) rfl ?_
    refine pz_iinc 4 1 (fun l4_11 => [(4, .int l4_11), (3, .int x10), (0, va_rf l0), (1, .int l1), (2, .int l2)]) dX12_sumOf_54 rfl (by decide) (by decide) (fun l4_11 => rfl) (fun l4_11 => ?_)
    refine pz_goto 14 dX12_sumOf_57 (by decide) ?_
    exact pz_sub [2, 3, 4, 1, 0] rfl (hK14 x10 l4_11)
set_option maxRecDepth 20000 in
theorem S_X12_sumOf_L14 (X : pz_X) (n : Nat) (l0 : Option Nat) (l1 : Int32) (l2 : Int32) (l3 : Int32) (l4 : Int32) : pz_Sm X (pz_QM X) J_X12_sumOf pz_vI 14 [(0, va_rf l0), (1, .int l1), (2, .int l2), (3, .int l3), (4, .int l4)] [] (X12_sumOf_L14 n l0 l1 l2 l3 l4) :=
  pz_lp (L := fun (s : Int32 × Int32) => [(0, va_rf l0), (1, .int l1), (2, .int l2), (3, .int s.1), (4, .int s.2)]) (fun K hK s => S_X12_sumOf_L14_body X n l0 l1 l2 (fun l3 l4 => K (l3, l4)) (fun l3 l4 => hK (l3, l4)) s.1 s.2) n (l3, l4)
set_option maxRecDepth 20000 in
theorem S_X12_sumOf (X : pz_X) (n : Nat) (l0 : Option Nat) (l1 : Int32) : pz_Sm X (pz_QM X) J_X12_sumOf pz_vI 0 [(0, va_rf l0), (1, .int l1)] [] (X12_sumOf n l0 l1) := by
  unfold X12_sumOf
  refine pz_aload_n 0 dX12_sumOf_0 rfl ?_
  refine pz_getI (ci := 12) (k := 35) ck_12 (by decide) (Or.inl pw_967) dX12_sumOf_1 (fun x1 => ?_)
  refine pz_istore_n [(2, .int x1), (0, va_rf l0), (1, .int l1)] dX12_sumOf_4 (by decide) rfl ?_
  refine pz_aload_n 1 dX12_sumOf_5 rfl ?_
  refine pz_lconst 0 dX12_sumOf_6 (by decide) ?_
  refine pz_cvI (st := []) (md_X12_plainOf X n l0 0) ck_12 rfl mk_X12_plainOf (Or.inl pw_919) pw_921 ps_30 rfl rfl (by decide) (by decide) (by decide) dX12_sumOf_7 (fun x2 => ?_)
  refine pz_istore_n [(3, .int x2), (2, .int x1), (0, va_rf l0), (1, .int l1)] dX12_sumOf_10 (by decide) rfl ?_
  refine pz_iconst 0 dX12_sumOf_11 (by decide) ?_
  refine pz_istore [(4, .int 0), (3, .int x2), (2, .int x1), (0, va_rf l0), (1, .int l1)] dX12_sumOf_12 (by decide) rfl ?_
  exact pz_sub [3, 4, 2, 1, 0] rfl (S_X12_sumOf_L14 X n l0 l1 x1 x2 0)
set_option maxRecDepth 20000 in
theorem md_X12_sumOf (X : pz_X) (n : Nat) (l0 : Option Nat) (l1 : Int32) : pz_Md X yX12_sumOf J_X12_sumOf pz_vI [va_rf l0, .int l1] (X12_sumOf n l0 l1) :=
  pz_md [(0, va_rf l0), (1, .int l1)] (by decide +kernel) rfl rfl (by cases l0 <;> rfl) (by cases l0 <;> exact Nat.le_of_ble_eq_true rfl) (fun X => S_X12_sumOf X n l0 l1)
set_option maxRecDepth 20000 in
theorem S_X12_boundAt (X : pz_X) (n : Nat) (l0 : Int32) (l1 : Int32) : pz_Sm X (pz_QM X) J_X12_boundAt pz_vI 0 [(0, .int l0), (1, .int l1)] [] (X12_boundAt n l0 l1) := by
  unfold X12_boundAt
  refine pz_sipush 10456 dX12_boundAt_0 (by decide) ?_
  refine pz_sipush 300 dX12_boundAt_3 (by decide) ?_
  refine pz_iconst 2 dX12_boundAt_6 (by decide) ?_
  refine pz_iload_n 0 dX12_boundAt_7 rfl ?_
  refine pz_imul dX12_boundAt_8 ?_
  refine pz_iload_n 1 dX12_boundAt_9 rfl ?_
  refine pz_iadd dX12_boundAt_10 ?_
  refine pz_imul dX12_boundAt_11 ?_
  refine pz_iadd dX12_boundAt_12 ?_
  exact pz_iret rfl dX12_boundAt_13
set_option maxRecDepth 20000 in
theorem md_X12_boundAt (X : pz_X) (n : Nat) (l0 : Int32) (l1 : Int32) : pz_Md X yX12_boundAt J_X12_boundAt pz_vI [.int l0, .int l1] (X12_boundAt n l0 l1) :=
  pz_md [(0, .int l0), (1, .int l1)] (by decide +kernel) rfl rfl (by rfl) (by exact Nat.le_of_ble_eq_true rfl) (fun X => S_X12_boundAt X n l0 l1)
set_option maxRecDepth 20000 in
theorem S_X12_bound_b32 (X : pz_X) (n : Nat) (s0 : Int32) : pz_Sm X (pz_QM X) J_X12_bound pz_vI 32 [] [.int s0] (X12_bound_b32 n s0) := by
  unfold X12_bound_b32
  exact pz_iret rfl dX12_bound_32
set_option maxRecDepth 20000 in
theorem S_X12_bound (X : pz_X) (n : Nat) (l0 : Option Nat) (l1 : Int32) (l2 : Int32) : pz_Sm X (pz_QM X) J_X12_bound pz_vI 0 [(0, va_rf l0), (1, .int l1), (2, .int l2)] [] (X12_bound n l0 l1 l2) := by
  unfold X12_bound
  refine pz_iload_n 1 dX12_bound_0 rfl ?_
  refine pz_aload_n 0 dX12_bound_1 rfl ?_
  refine pz_getI (ci := 12) (k := 0) ck_12 (by decide) (Or.inl pw_932) dX12_bound_2 (fun x1 => ?_)
  refine pz_icmp_ge 16 dX12_bound_5 (by decide) ?_ ?_
  · refine pz_aload_n 0 dX12_bound_16 rfl ?_
    refine pz_aload_n 0 dX12_bound_17 rfl ?_
    refine pz_getR (ci := 12) (k := 4) ck_12 (by decide) (Or.inl pw_936) dX12_bound_18 (fun x2 => ?_)
    refine pz_iload_n 1 dX12_bound_21 rfl ?_
    refine pz_aload_n 0 dX12_bound_22 rfl ?_
    refine pz_getI (ci := 12) (k := 0) ck_12 (by decide) (Or.inl pw_932) dX12_bound_23 (fun x3 => ?_)
    refine pz_isub dX12_bound_26 ?_
    refine pz_iald (t := 0) rfl dX12_bound_27 (fun x4 => ?_)
    refine pz_i2l dX12_bound_28 ?_
    refine pz_cvI (st := []) (md_X12_plainOf X n l0 (Int32.toInt64 x4)) ck_12 rfl mk_X12_plainOf (Or.inl pw_919) pw_921 ps_30 rfl rfl (by decide) (by decide) (by decide) dX12_bound_29 (fun x5 => ?_)
    exact pz_sub [] rfl (S_X12_bound_b32 X n x5)
  · refine pz_iload_n 1 dX12_bound_8 rfl ?_
    refine pz_iload_n 2 dX12_bound_9 rfl ?_
    refine pz_csI (st := []) (md_X12_boundAt X n l1 l2) mk_X12_boundAt (Or.inl pw_1151) pw_1152 rfl rfl (by decide) (by decide) (by decide) dX12_bound_10 (fun x6 => ?_)
    refine pz_goto 32 dX12_bound_13 (by decide) ?_
    exact pz_sub [] rfl (S_X12_bound_b32 X n x6)
set_option maxRecDepth 20000 in
theorem md_X12_bound (X : pz_X) (n : Nat) (l0 : Option Nat) (l1 : Int32) (l2 : Int32) : pz_Md X yX12_bound J_X12_bound pz_vI [va_rf l0, .int l1, .int l2] (X12_bound n l0 l1 l2) :=
  pz_md [(0, va_rf l0), (1, .int l1), (2, .int l2)] (by decide +kernel) rfl rfl (by cases l0 <;> rfl) (by cases l0 <;> exact Nat.le_of_ble_eq_true rfl) (fun X => S_X12_bound X n l0 l1 l2)
set_option maxRecDepth 20000 in
theorem S_X12_compare_b53 (X : pz_X) (n : Nat) (s0 : Int32) : pz_Sm X (pz_QM X) J_X12_compare pz_vI 53 [] [.int s0] (X12_compare_b53 n s0) := by
  unfold X12_compare_b53
  exact pz_iret rfl dX12_compare_53
set_option maxRecDepth 20000 in
theorem S_X12_compare (X : pz_X) (n : Nat) (l0 : Option Nat) (l1 : Int32) (l2 : Int32) : pz_Sm X (pz_QM X) J_X12_compare pz_vI 0 [(0, va_rf l0), (1, .int l1), (2, .int l2)] [] (X12_compare n l0 l1 l2) := by
  unfold X12_compare
  refine pz_aload_n 0 dX12_compare_0 rfl ?_
  refine pz_iload_n 1 dX12_compare_1 rfl ?_
  refine pz_cvI (st := []) (md_X12_sgn X n l0 l1) ck_12 rfl mk_X12_sgn (Or.inl pw_1122) pw_1124 ps_44 rfl rfl (by decide) (by decide) (by decide) dX12_compare_2 (fun x1 => ?_)
  refine pz_istore_n [(3, .int x1), (0, va_rf l0), (1, .int l1), (2, .int l2)] dX12_compare_5 (by decide) rfl ?_
  refine pz_aload_n 1 dX12_compare_6 rfl ?_
  refine pz_iload_n 3 dX12_compare_7 rfl ?_
  refine pz_cvI (st := []) (md_X12_sgn X n l0 l2) ck_12 rfl mk_X12_sgn (Or.inl pw_1122) pw_1124 ps_44 rfl rfl (by decide) (by decide) (by decide) dX12_compare_8 (fun x2 => ?_)
  refine pz_istore [(4, .int x2), (3, .int x1), (0, va_rf l0), (1, .int l1), (2, .int l2)] dX12_compare_11 (by decide) rfl ?_
  refine pz_iload_n 1 dX12_compare_13 rfl ?_
  refine pz_iload 0 dX12_compare_14 rfl ?_
  refine pz_icmp_eq 33 dX12_compare_16 (by decide) ?_ ?_
  · refine pz_iload_n 1 dX12_compare_33 rfl ?_
    refine pz_if_ge 47 dX12_compare_34 (by decide) ?_ ?_
    · refine pz_aload_n 2 dX12_compare_47 rfl ?_
      refine pz_iload_n 3 dX12_compare_48 rfl ?_
      refine pz_iload_n 4 dX12_compare_49 rfl ?_
      refine pz_cvI (st := []) (md_X12_weigh X n l0 l1 l2) ck_12 rfl mk_X12_weigh (Or.inl pw_1139) pw_1141 ps_48 rfl rfl (by decide) (by decide) (by decide) dX12_compare_50 (fun x3 => ?_)
      exact pz_sub [] rfl (S_X12_compare_b53 X n x3)
    · refine pz_aload_n 2 dX12_compare_37 rfl ?_
      refine pz_iload_n 3 dX12_compare_38 rfl ?_
      refine pz_iload_n 4 dX12_compare_39 rfl ?_
      refine pz_cvI (st := []) (md_X12_weigh X n l0 l1 l2) ck_12 rfl mk_X12_weigh (Or.inl pw_1139) pw_1141 ps_48 rfl rfl (by decide) (by decide) (by decide) dX12_compare_40 (fun x4 => ?_)
      refine pz_ineg dX12_compare_43 ?_
      refine pz_goto 53 dX12_compare_44 (by decide) ?_
      exact pz_sub [] rfl (S_X12_compare_b53 X n (-x4))
  · refine pz_iload_n 1 dX12_compare_19 rfl ?_
    refine pz_iload 0 dX12_compare_20 rfl ?_
    refine pz_icmp_ge 29 dX12_compare_22 (by decide) ?_ ?_
    · refine pz_iconst 1 dX12_compare_29 (by decide) ?_
      refine pz_goto 53 dX12_compare_30 (by decide) ?_
      exact pz_sub [] rfl (S_X12_compare_b53 X n 1)
    · refine pz_iconst (-1) dX12_compare_25 (by decide) ?_
      refine pz_goto 53 dX12_compare_26 (by decide) ?_
      exact pz_sub [] rfl (S_X12_compare_b53 X n (-1))
set_option maxRecDepth 20000 in
theorem md_X12_compare (X : pz_X) (n : Nat) (l0 : Option Nat) (l1 : Int32) (l2 : Int32) : pz_Md X yX12_compare J_X12_compare pz_vI [va_rf l0, .int l1, .int l2] (X12_compare n l0 l1 l2) :=
  pz_md [(0, va_rf l0), (1, .int l1), (2, .int l2)] (by decide +kernel) rfl rfl (by cases l0 <;> rfl) (by cases l0 <;> exact Nat.le_of_ble_eq_true rfl) (fun X => S_X12_compare X n l0 l1 l2)
set_option maxRecDepth 20000 in
theorem S_X12_againstBound (X : pz_X) (n : Nat) (l0 : Option Nat) (l1 : Int32) (l2 : Int32) : pz_Sm X (pz_QM X) J_X12_againstBound pz_vI 0 [(0, va_rf l0), (1, .int l1), (2, .int l2)] [] (X12_againstBound n l0 l1 l2) := by
  unfold X12_againstBound
  refine pz_aload_n 0 dX12_againstBound_0 rfl ?_
  refine pz_getI (ci := 12) (k := 35) ck_12 (by decide) (Or.inl pw_967) dX12_againstBound_1 (fun x1 => ?_)
  refine pz_istore_n [(3, .int x1), (0, va_rf l0), (1, .int l1), (2, .int l2)] dX12_againstBound_4 (by decide) rfl ?_
  refine pz_aload_n 1 dX12_againstBound_5 rfl ?_
  refine pz_aload_n 1 dX12_againstBound_6 rfl ?_
  refine pz_iload_n 2 dX12_againstBound_7 rfl ?_
  refine pz_cvI (st := [va_rf l0]) (md_X12_sumOf X n l0 l1) ck_12 rfl mk_X12_sumOf (Or.inl pw_1114) pw_1116 ps_42 rfl rfl (by simp [pz_rf1, pz_ci, pz_cl]) (by decide) (by decide) dX12_againstBound_8 (fun x2 => ?_)
  refine pz_aload_n 1 dX12_againstBound_11 rfl ?_
  refine pz_aload_n 1 dX12_againstBound_12 rfl ?_
  refine pz_aload_n 1 dX12_againstBound_13 rfl ?_
  refine pz_getR (ci := 12) (k := 13) ck_12 (by decide) (Or.inl pw_945) dX12_againstBound_14 (fun x3 => ?_)
  refine pz_iload_n 2 dX12_againstBound_17 rfl ?_
  refine pz_iald (t := 0) rfl dX12_againstBound_18 (fun x4 => ?_)
  refine pz_iload_n 3 dX12_againstBound_19 rfl ?_
  refine pz_cvI (st := [va_rf l0, .int x2, va_rf l0]) (md_X12_bound X n l0 x4 l2) ck_12 rfl mk_X12_bound (Or.inl pw_1147) pw_1149 ps_50 rfl rfl (by simp [pz_rf1, pz_ci, pz_cl]) (by decide) (by decide) dX12_againstBound_20 (fun x5 => ?_)
  refine pz_iconst 0 dX12_againstBound_23 (by decide) ?_
  refine pz_cvI (st := [.int x2, va_rf l0]) (md_X12_by X n l0 x5 0) ck_12 rfl mk_X12_by (Or.inl pw_1118) pw_1120 ps_43 rfl rfl (by simp [pz_rf1, pz_ci, pz_cl]) (by decide) (by decide) dX12_againstBound_24 (fun x6 => ?_)
  refine pz_cvI (st := []) (md_X12_compare X n l0 x2 x6) ck_12 rfl mk_X12_compare (Or.inl pw_1154) pw_1156 ps_51 rfl rfl (by decide) (by decide) (by decide) dX12_againstBound_27 (fun x7 => ?_)
  refine pz_istore [(4, .int x7), (3, .int x1), (0, va_rf l0), (1, .int l1), (2, .int l2)] dX12_againstBound_30 (by decide) rfl ?_
  refine pz_aload_n 2 dX12_againstBound_32 rfl ?_
  refine pz_iload_n 1 dX12_againstBound_33 rfl ?_
  refine pz_put (ci := 12) (k := 35) ck_12 (by decide) (Or.inl pw_967) (Or.inl rfl) rfl rfl dX12_againstBound_34 ?_
  refine pz_iload 0 dX12_againstBound_37 rfl ?_
  exact pz_iret rfl dX12_againstBound_39
set_option maxRecDepth 20000 in
theorem md_X12_againstBound (X : pz_X) (n : Nat) (l0 : Option Nat) (l1 : Int32) (l2 : Int32) : pz_Md X yX12_againstBound J_X12_againstBound pz_vI [va_rf l0, .int l1, .int l2] (X12_againstBound n l0 l1 l2) :=
  pz_md [(0, va_rf l0), (1, .int l1), (2, .int l2)] (by decide +kernel) rfl rfl (by cases l0 <;> rfl) (by cases l0 <;> exact Nat.le_of_ble_eq_true rfl) (fun X => S_X12_againstBound X n l0 l1 l2)
set_option maxRecDepth 20000 in
theorem S_X12_wrongRow_b76 (X : pz_X) (n : Nat) (l0 : Option Nat) (K2 : Int32 → pz_C Int32) (hK2 : ∀ (l1 : Int32), pz_Sm X (pz_QM X) J_X12_wrongRow pz_vI 2 [(0, va_rf l0), (1, .int l1)] [] (K2 l1)) (l1 : Int32) : pz_Sm X (pz_QM X) J_X12_wrongRow pz_vI 76 [(0, va_rf l0), (1, .int l1)] [] (X12_wrongRow_b76 n K2 l0 l1) := by
  unfold X12_wrongRow_b76
  refine pz_iinc 1 1 (fun l1_4 => [(1, .int l1_4), (0, va_rf l0)]) dX12_wrongRow_76 rfl (by decide) (by decide) (fun l1_4 => (by cases l0 <;> rfl)) (fun l1_4 => ?_)
  refine pz_goto 2 dX12_wrongRow_79 (by decide) ?_
  exact pz_sub [1, 0] rfl (hK2 l1_4)
set_option maxRecDepth 20000 in
theorem S_X12_wrongRow_b51 (X : pz_X) (n : Nat) (l0 : Option Nat) (K2 : Int32 → pz_C Int32) (hK2 : ∀ (l1 : Int32), pz_Sm X (pz_QM X) J_X12_wrongRow pz_vI 2 [(0, va_rf l0), (1, .int l1)] [] (K2 l1)) (l1 : Int32) (l2 : Int32) : pz_Sm X (pz_QM X) J_X12_wrongRow pz_vI 51 [(0, va_rf l0), (1, .int l1), (2, .int l2)] [] (X12_wrongRow_b51 n K2 l0 l1 l2) := by
  unfold X12_wrongRow_b51
  refine pz_aload_n 0 dX12_wrongRow_51 rfl ?_
  refine pz_iload_n 1 dX12_wrongRow_52 rfl ?_
  refine pz_iconst 0 dX12_wrongRow_53 (by decide) ?_
  refine pz_cvI (st := []) (md_X12_hasBound X n l0 l1 0) ck_12 rfl mk_X12_hasBound (Or.inl pw_1106) pw_1108 ps_40 rfl rfl (by decide) (by decide) (by decide) dX12_wrongRow_54 (fun x6 => ?_)
  refine pz_if_eq 76 dX12_wrongRow_57 (by decide) ?_ ?_
  · exact pz_sub [0, 1] rfl (S_X12_wrongRow_b76 X n l0 K2 hK2 l1)
  · refine pz_aload_n 0 dX12_wrongRow_60 rfl ?_
    refine pz_iload_n 2 dX12_wrongRow_61 rfl ?_
    refine pz_iconst 0 dX12_wrongRow_62 (by decide) ?_
    refine pz_cvI (st := []) (md_X12_againstBound X n l0 l2 0) ck_12 rfl mk_X12_againstBound (Or.inl pw_1110) pw_1112 ps_41 rfl rfl (by decide) (by decide) (by decide) dX12_wrongRow_63 (fun x7 => ?_)
    refine pz_if_le 76 dX12_wrongRow_66 (by decide) ?_ ?_
    · exact pz_sub [0, 1] rfl (S_X12_wrongRow_b76 X n l0 K2 hK2 l1)
    · refine pz_aload_n 0 dX12_wrongRow_69 rfl ?_
      refine pz_iconst 0 dX12_wrongRow_70 (by decide) ?_
      refine pz_put (ci := 12) (k := 29) ck_12 (by decide) (Or.inl pw_961) (Or.inl rfl) rfl rfl dX12_wrongRow_71 ?_
      refine pz_iload_n 2 dX12_wrongRow_74 rfl ?_
      exact pz_iret rfl dX12_wrongRow_75
set_option maxRecDepth 20000 in
theorem S_X12_wrongRow_L2_body (X : pz_X) (n : Nat) (l0 : Option Nat) (K2 : Int32 → pz_C Int32) (hK2 : ∀ (l1 : Int32), pz_Sm X (pz_QM X) J_X12_wrongRow pz_vI 2 [(0, va_rf l0), (1, .int l1)] [] (K2 l1)) (l1 : Int32) : pz_Sm X (pz_QM X) J_X12_wrongRow pz_vI 2 [(0, va_rf l0), (1, .int l1)] [] (X12_wrongRow_L2_body n l0 K2 l1) := by
  unfold X12_wrongRow_L2_body
  refine pz_iload_n 1 dX12_wrongRow_2 rfl ?_
  refine pz_aload_n 0 dX12_wrongRow_3 rfl ?_
  refine pz_getI (ci := 12) (k := 0) ck_12 (by decide) (Or.inl pw_932) dX12_wrongRow_4 (fun x1 => ?_)
  refine pz_aload_n 0 dX12_wrongRow_7 rfl ?_
  refine pz_getI (ci := 12) (k := 1) ck_12 (by decide) (Or.inl pw_933) dX12_wrongRow_8 (fun x2 => ?_)
  refine pz_iadd dX12_wrongRow_11 ?_
  refine pz_icmp_ge 82 dX12_wrongRow_12 (by decide) ?_ ?_
  · refine pz_iconst (-1) dX12_wrongRow_82 (by decide) ?_
    exact pz_iret rfl dX12_wrongRow_83
  · refine pz_aload_n 0 dX12_wrongRow_15 rfl ?_
    refine pz_iload_n 1 dX12_wrongRow_16 rfl ?_
    refine pz_cvI (st := []) (md_X12_rowOf X n l0 l1) ck_12 rfl mk_X12_rowOf (Or.inl pw_1102) pw_1104 ps_39 rfl rfl (by decide) (by decide) (by decide) dX12_wrongRow_17 (fun x3 => ?_)
    refine pz_istore_n [(2, .int x3), (0, va_rf l0), (1, .int l1)] dX12_wrongRow_20 (by decide) rfl ?_
    refine pz_iload_n 0 dX12_wrongRow_21 rfl ?_
    refine pz_iconst (-1) dX12_wrongRow_22 (by decide) ?_
    refine pz_icmp_eq 76 dX12_wrongRow_23 (by decide) ?_ ?_
    · exact pz_sub [1, 2] rfl (S_X12_wrongRow_b76 X n l0 K2 hK2 l1)
    · refine pz_aload_n 1 dX12_wrongRow_26 rfl ?_
      refine pz_iload_n 2 dX12_wrongRow_27 rfl ?_
      refine pz_iconst 1 dX12_wrongRow_28 (by decide) ?_
      refine pz_cvI (st := []) (md_X12_hasBound X n l0 l1 1) ck_12 rfl mk_X12_hasBound (Or.inl pw_1106) pw_1108 ps_40 rfl rfl (by decide) (by decide) (by decide) dX12_wrongRow_29 (fun x5 => ?_)
      refine pz_if_eq 51 dX12_wrongRow_32 (by decide) ?_ ?_
      · exact pz_sub [1, 2, 0] rfl (S_X12_wrongRow_b51 X n l0 K2 hK2 l1 x3)
      · refine pz_aload_n 1 dX12_wrongRow_35 rfl ?_
        refine pz_iload_n 0 dX12_wrongRow_36 rfl ?_
        refine pz_iconst 1 dX12_wrongRow_37 (by decide) ?_
        refine pz_cvI (st := []) (md_X12_againstBound X n l0 x3 1) ck_12 rfl mk_X12_againstBound (Or.inl pw_1110) pw_1112 ps_41 rfl rfl (by decide) (by decide) (by decide) dX12_wrongRow_38 (fun x8 => ?_)
        refine pz_if_ge 51 dX12_wrongRow_41 (by decide) ?_ ?_
        · exact pz_sub [1, 2, 0] rfl (S_X12_wrongRow_b51 X n l0 K2 hK2 l1 x3)
        · refine pz_aload_n 1 dX12_wrongRow_44 rfl ?_
          refine pz_iconst 1 dX12_wrongRow_45 (by decide) ?_
          refine pz_put (ci := 12) (k := 29) ck_12 (by decide) (Or.inl pw_961) (Or.inl rfl) rfl rfl dX12_wrongRow_46 ?_
          refine pz_iload_n 0 dX12_wrongRow_49 rfl ?_
          exact pz_iret rfl dX12_wrongRow_50
set_option maxRecDepth 20000 in
theorem S_X12_wrongRow_L2 (X : pz_X) (n : Nat) (l0 : Option Nat) (l1 : Int32) : pz_Sm X (pz_QM X) J_X12_wrongRow pz_vI 2 [(0, va_rf l0), (1, .int l1)] [] (X12_wrongRow_L2 n l0 l1) :=
  pz_lp (L := fun (s : Int32) => [(0, va_rf l0), (1, .int s)]) (fun K hK s => S_X12_wrongRow_L2_body X n l0 (fun l1 => K l1) (fun l1 => hK l1) s) n l1
set_option maxRecDepth 20000 in
theorem S_X12_wrongRow (X : pz_X) (n : Nat) (l0 : Option Nat) : pz_Sm X (pz_QM X) J_X12_wrongRow pz_vI 0 [(0, va_rf l0)] [] (X12_wrongRow n l0) := by
  unfold X12_wrongRow
  refine pz_iconst 0 dX12_wrongRow_0 (by decide) ?_
  refine pz_istore_n [(1, .int 0), (0, va_rf l0)] dX12_wrongRow_1 (by decide) (by cases l0 <;> rfl) ?_
  exact pz_sub [1, 0] rfl (S_X12_wrongRow_L2 X n l0 0)
set_option maxRecDepth 20000 in
theorem md_X12_wrongRow (X : pz_X) (n : Nat) (l0 : Option Nat) : pz_Md X yX12_wrongRow J_X12_wrongRow pz_vI [va_rf l0] (X12_wrongRow n l0) :=
  pz_md [(0, va_rf l0)] (by decide +kernel) rfl rfl (by cases l0 <;> rfl) (by cases l0 <;> exact Nat.le_of_ble_eq_true rfl) (fun X => S_X12_wrongRow X n l0)
set_option maxRecDepth 20000 in
theorem S_X12_columnAt_L2_body (X : pz_X) (n : Nat) (l0 : Option Nat) (l1 : Int32) (K2 : Int32 → pz_C Int32) (hK2 : ∀ (l2 : Int32), pz_Sm X (pz_QM X) J_X12_columnAt pz_vI 2 [(0, va_rf l0), (1, .int l1), (2, .int l2)] [] (K2 l2)) (l2 : Int32) : pz_Sm X (pz_QM X) J_X12_columnAt pz_vI 2 [(0, va_rf l0), (1, .int l1), (2, .int l2)] [] (X12_columnAt_L2_body n l0 l1 K2 l2) := by
  unfold X12_columnAt_L2_body
  refine pz_iload_n 2 dX12_columnAt_2 rfl ?_
  refine pz_aload_n 0 dX12_columnAt_3 rfl ?_
  refine pz_getI (ci := 12) (k := 0) ck_12 (by decide) (Or.inl pw_932) dX12_columnAt_4 (fun x1 => ?_)
  refine pz_icmp_ge 28 dX12_columnAt_7 (by decide) ?_ ?_
  · refine pz_iconst (-1) dX12_columnAt_28 (by decide) ?_
    exact pz_iret rfl dX12_columnAt_29
  · refine pz_aload_n 0 dX12_columnAt_10 rfl ?_
    refine pz_getR (ci := 12) (k := 14) ck_12 (by decide) (Or.inl pw_946) dX12_columnAt_11 (fun x2 => ?_)
    refine pz_iload_n 2 dX12_columnAt_14 rfl ?_
    refine pz_iald (t := 0) rfl dX12_columnAt_15 (fun x3 => ?_)
    refine pz_iload_n 1 dX12_columnAt_16 rfl ?_
    refine pz_icmp_ne 22 dX12_columnAt_17 (by decide) ?_ ?_
    · refine pz_iload_n 2 dX12_columnAt_20 rfl ?_
      exact pz_iret rfl dX12_columnAt_21
    · refine pz_iinc 2 1 (fun l2_4 => [(2, .int l2_4), (0, va_rf l0), (1, .int l1)]) dX12_columnAt_22 rfl (by decide) (by decide) (fun l2_4 => rfl) (fun l2_4 => ?_)
      refine pz_goto 2 dX12_columnAt_25 (by decide) ?_
      exact pz_sub [1, 2, 0] rfl (hK2 l2_4)
set_option maxRecDepth 20000 in
theorem S_X12_columnAt_L2 (X : pz_X) (n : Nat) (l0 : Option Nat) (l1 : Int32) (l2 : Int32) : pz_Sm X (pz_QM X) J_X12_columnAt pz_vI 2 [(0, va_rf l0), (1, .int l1), (2, .int l2)] [] (X12_columnAt_L2 n l0 l1 l2) :=
  pz_lp (L := fun (s : Int32) => [(0, va_rf l0), (1, .int l1), (2, .int s)]) (fun K hK s => S_X12_columnAt_L2_body X n l0 l1 (fun l2 => K l2) (fun l2 => hK l2) s) n l2
set_option maxRecDepth 20000 in
theorem S_X12_columnAt (X : pz_X) (n : Nat) (l0 : Option Nat) (l1 : Int32) : pz_Sm X (pz_QM X) J_X12_columnAt pz_vI 0 [(0, va_rf l0), (1, .int l1)] [] (X12_columnAt n l0 l1) := by
  unfold X12_columnAt
  refine pz_iconst 0 dX12_columnAt_0 (by decide) ?_
  refine pz_istore_n [(2, .int 0), (0, va_rf l0), (1, .int l1)] dX12_columnAt_1 (by decide) rfl ?_
  exact pz_sub [1, 2, 0] rfl (S_X12_columnAt_L2 X n l0 l1 0)
set_option maxRecDepth 20000 in
theorem md_X12_columnAt (X : pz_X) (n : Nat) (l0 : Option Nat) (l1 : Int32) : pz_Md X yX12_columnAt J_X12_columnAt pz_vI [va_rf l0, .int l1] (X12_columnAt n l0 l1) :=
  pz_md [(0, va_rf l0), (1, .int l1)] (by decide +kernel) rfl rfl (by cases l0 <;> rfl) (by cases l0 <;> exact Nat.le_of_ble_eq_true rfl) (fun X => S_X12_columnAt X n l0 l1)
set_option maxRecDepth 20000 in
theorem S_X12_columnFor_b126 (X : pz_X) (n : Nat) (l0 : Option Nat) (l1 : Int32) (K2 : Int32 → pz_C Int32) (hK2 : ∀ (l2 : Int32), pz_Sm X (pz_QM X) J_X12_columnFor pz_vI 2 [(0, va_rf l0), (1, .int l1), (2, .int l2)] [] (K2 l2)) (l2 : Int32) : pz_Sm X (pz_QM X) J_X12_columnFor pz_vI 126 [(0, va_rf l0), (1, .int l1), (2, .int l2)] [] (X12_columnFor_b126 n K2 l0 l1 l2) := by
  unfold X12_columnFor_b126
  refine pz_iinc 2 1 (fun l2_4 => [(2, .int l2_4), (0, va_rf l0), (1, .int l1)]) dX12_columnFor_126 rfl (by decide) (by decide) (fun l2_4 => rfl) (fun l2_4 => ?_)
  refine pz_goto 2 dX12_columnFor_129 (by decide) ?_
  exact pz_sub [1, 2, 0] rfl (hK2 l2_4)
set_option maxRecDepth 20000 in
theorem S_X12_columnFor_b111 (X : pz_X) (n : Nat) (l0 : Option Nat) (l1 : Int32) (K2 : Int32 → pz_C Int32) (hK2 : ∀ (l2 : Int32), pz_Sm X (pz_QM X) J_X12_columnFor pz_vI 2 [(0, va_rf l0), (1, .int l1), (2, .int l2)] [] (K2 l2)) (l2 : Int32) (l3 : Int32) (l6 : Int32) (s0 : Int32) : pz_Sm X (pz_QM X) J_X12_columnFor pz_vI 111 [(0, va_rf l0), (1, .int l1), (2, .int l2), (3, .int l3), (6, .int l6)] [.int s0] (X12_columnFor_b111 n K2 l0 l1 l2 l3 l6 s0) := by
  unfold X12_columnFor_b111
  refine pz_istore [(7, .int s0), (0, va_rf l0), (1, .int l1), (2, .int l2), (3, .int l3), (6, .int l6)] dX12_columnFor_111 (by decide) rfl ?_
  refine pz_aload_n 1 dX12_columnFor_113 rfl ?_
  refine pz_iload 5 dX12_columnFor_114 rfl ?_
  refine pz_put (ci := 12) (k := 35) ck_12 (by decide) (Or.inl pw_967) (Or.inl rfl) rfl rfl dX12_columnFor_116 ?_
  refine pz_iload 0 dX12_columnFor_119 rfl ?_
  refine pz_if_eq 126 dX12_columnFor_121 (by decide) ?_ ?_
  · exact pz_sub [1, 2, 3] rfl (S_X12_columnFor_b126 X n l0 l1 K2 hK2 l2)
  · refine pz_iload_n 4 dX12_columnFor_124 rfl ?_
    exact pz_iret rfl dX12_columnFor_125
set_option maxRecDepth 20000 in
theorem S_X12_columnFor_b110 (X : pz_X) (n : Nat) (l0 : Option Nat) (l1 : Int32) (K2 : Int32 → pz_C Int32) (hK2 : ∀ (l2 : Int32), pz_Sm X (pz_QM X) J_X12_columnFor pz_vI 2 [(0, va_rf l0), (1, .int l1), (2, .int l2)] [] (K2 l2)) (l2 : Int32) (l3 : Int32) (l6 : Int32) : pz_Sm X (pz_QM X) J_X12_columnFor pz_vI 110 [(0, va_rf l0), (1, .int l1), (2, .int l2), (3, .int l3), (6, .int l6)] [] (X12_columnFor_b110 n K2 l0 l1 l2 l3 l6) := by
  unfold X12_columnFor_b110
  refine pz_iconst 0 dX12_columnFor_110 (by decide) ?_
  exact pz_sub [0, 1, 2, 3, 4] rfl (S_X12_columnFor_b111 X n l0 l1 K2 hK2 l2 l3 l6 0)
set_option maxRecDepth 20000 in
theorem S_X12_columnFor_b106 (X : pz_X) (n : Nat) (l0 : Option Nat) (l1 : Int32) (K2 : Int32 → pz_C Int32) (hK2 : ∀ (l2 : Int32), pz_Sm X (pz_QM X) J_X12_columnFor pz_vI 2 [(0, va_rf l0), (1, .int l1), (2, .int l2)] [] (K2 l2)) (l2 : Int32) (l3 : Int32) (l6 : Int32) : pz_Sm X (pz_QM X) J_X12_columnFor pz_vI 106 [(0, va_rf l0), (1, .int l1), (2, .int l2), (3, .int l3), (6, .int l6)] [] (X12_columnFor_b106 n K2 l0 l1 l2 l3 l6) := by
  unfold X12_columnFor_b106
  refine pz_iconst 1 dX12_columnFor_106 (by decide) ?_
  refine pz_goto 111 dX12_columnFor_107 (by decide) ?_
  exact pz_sub [0, 1, 2, 3, 4] rfl (S_X12_columnFor_b111 X n l0 l1 K2 hK2 l2 l3 l6 1)
set_option maxRecDepth 20000 in
theorem S_X12_columnFor_b65 (X : pz_X) (n : Nat) (l0 : Option Nat) (l1 : Int32) (K2 : Int32 → pz_C Int32) (hK2 : ∀ (l2 : Int32), pz_Sm X (pz_QM X) J_X12_columnFor pz_vI 2 [(0, va_rf l0), (1, .int l1), (2, .int l2)] [] (K2 l2)) (l2 : Int32) (l3 : Int32) (l4 : Int32) (s0 : Int32) : pz_Sm X (pz_QM X) J_X12_columnFor pz_vI 65 [(0, va_rf l0), (1, .int l1), (2, .int l2), (3, .int l3), (4, .int l4)] [.int s0] (X12_columnFor_b65 n K2 l0 l1 l2 l3 l4 s0) := by
  unfold X12_columnFor_b65
  refine pz_istore [(5, .int s0), (0, va_rf l0), (1, .int l1), (2, .int l2), (3, .int l3), (4, .int l4)] dX12_columnFor_65 (by decide) rfl ?_
  refine pz_aload_n 1 dX12_columnFor_67 rfl ?_
  refine pz_getI (ci := 12) (k := 35) ck_12 (by decide) (Or.inl pw_967) dX12_columnFor_68 (fun x8 => ?_)
  refine pz_istore [(6, .int x8), (5, .int s0), (0, va_rf l0), (1, .int l1), (2, .int l2), (3, .int l3), (4, .int l4)] dX12_columnFor_71 (by decide) rfl ?_
  refine pz_iload 6 dX12_columnFor_73 rfl ?_
  refine pz_if_eq 110 dX12_columnFor_75 (by decide) ?_ ?_
  · exact pz_sub [2, 3, 4, 5, 0] rfl (S_X12_columnFor_b110 X n l0 l1 K2 hK2 l2 l3 x8)
  · refine pz_aload_n 2 dX12_columnFor_78 rfl ?_
    refine pz_iload_n 4 dX12_columnFor_79 rfl ?_
    refine pz_iload 1 dX12_columnFor_80 rfl ?_
    refine pz_cvI (st := []) (md_X12_hasBound X n l0 l2 s0) ck_12 rfl mk_X12_hasBound (Or.inl pw_1106) pw_1108 ps_40 rfl rfl (by decide) (by decide) (by decide) dX12_columnFor_82 (fun x9 => ?_)
    refine pz_if_eq 106 dX12_columnFor_85 (by decide) ?_ ?_
    · exact pz_sub [2, 3, 4, 5, 0] rfl (S_X12_columnFor_b106 X n l0 l1 K2 hK2 l2 l3 x8)
    · refine pz_aload_n 2 dX12_columnFor_88 rfl ?_
      refine pz_iload_n 4 dX12_columnFor_89 rfl ?_
      refine pz_csI (st := [va_rf l0]) (md_X12_valueAt X n l2) mk_X12_valueAt (Or.inl pw_1080) pw_1081 rfl rfl (by simp [pz_rf1, pz_ci, pz_cl]) (by decide) (by decide) dX12_columnFor_90 (fun x10 => ?_)
      refine pz_aload_n 2 dX12_columnFor_93 rfl ?_
      refine pz_iload_n 4 dX12_columnFor_94 rfl ?_
      refine pz_iload 1 dX12_columnFor_95 rfl ?_
      refine pz_cvI (st := [.int x10, va_rf l0]) (md_X12_bound X n l0 l2 s0) ck_12 rfl mk_X12_bound (Or.inl pw_1147) pw_1149 ps_50 rfl rfl (by simp [pz_rf1, pz_ci, pz_cl]) (by decide) (by decide) dX12_columnFor_97 (fun x11 => ?_)
      refine pz_cvI (st := []) (md_X12_compare X n l0 x10 x11) ck_12 rfl mk_X12_compare (Or.inl pw_1154) pw_1156 ps_51 rfl rfl (by decide) (by decide) (by decide) dX12_columnFor_100 (fun x12 => ?_)
      refine pz_if_eq 110 dX12_columnFor_103 (by decide) ?_ ?_
      · exact pz_sub [2, 3, 4, 5, 0] rfl (S_X12_columnFor_b110 X n l0 l1 K2 hK2 l2 l3 x8)
      · exact pz_sub [2, 3, 4, 5, 0] rfl (S_X12_columnFor_b106 X n l0 l1 K2 hK2 l2 l3 x8)
set_option maxRecDepth 20000 in
theorem S_X12_columnFor_b53 (X : pz_X) (n : Nat) (l0 : Option Nat) (l1 : Int32) (K2 : Int32 → pz_C Int32) (hK2 : ∀ (l2 : Int32), pz_Sm X (pz_QM X) J_X12_columnFor pz_vI 2 [(0, va_rf l0), (1, .int l1), (2, .int l2)] [] (K2 l2)) (l2 : Int32) (l3 : Int32) (s0 : Int32) : pz_Sm X (pz_QM X) J_X12_columnFor pz_vI 53 [(0, va_rf l0), (1, .int l1), (2, .int l2), (3, .int l3)] [.int s0] (X12_columnFor_b53 n K2 l0 l1 l2 l3 s0) := by
  unfold X12_columnFor_b53
  refine pz_istore [(4, .int s0), (0, va_rf l0), (1, .int l1), (2, .int l2), (3, .int l3)] dX12_columnFor_53 (by decide) rfl ?_
  refine pz_iload 0 dX12_columnFor_55 rfl ?_
  refine pz_if_le 64 dX12_columnFor_57 (by decide) ?_ ?_
  · refine pz_iconst 1 dX12_columnFor_64 (by decide) ?_
    exact pz_sub [1, 2, 3, 4, 0] rfl (S_X12_columnFor_b65 X n l0 l1 K2 hK2 l2 l3 s0 1)
  · refine pz_iconst 0 dX12_columnFor_60 (by decide) ?_
    refine pz_goto 65 dX12_columnFor_61 (by decide) ?_
    exact pz_sub [1, 2, 3, 4, 0] rfl (S_X12_columnFor_b65 X n l0 l1 K2 hK2 l2 l3 s0 0)
set_option maxRecDepth 20000 in
theorem S_X12_columnFor_L2_body (X : pz_X) (n : Nat) (l0 : Option Nat) (l1 : Int32) (K2 : Int32 → pz_C Int32) (hK2 : ∀ (l2 : Int32), pz_Sm X (pz_QM X) J_X12_columnFor pz_vI 2 [(0, va_rf l0), (1, .int l1), (2, .int l2)] [] (K2 l2)) (l2 : Int32) : pz_Sm X (pz_QM X) J_X12_columnFor pz_vI 2 [(0, va_rf l0), (1, .int l1), (2, .int l2)] [] (X12_columnFor_L2_body n l0 l1 K2 l2) := by
  unfold X12_columnFor_L2_body
  refine pz_iload_n 2 dX12_columnFor_2 rfl ?_
  refine pz_aload_n 0 dX12_columnFor_3 rfl ?_
  refine pz_getI (ci := 12) (k := 0) ck_12 (by decide) (Or.inl pw_932) dX12_columnFor_4 (fun x1 => ?_)
  refine pz_aload_n 0 dX12_columnFor_7 rfl ?_
  refine pz_getI (ci := 12) (k := 1) ck_12 (by decide) (Or.inl pw_933) dX12_columnFor_8 (fun x2 => ?_)
  refine pz_iadd dX12_columnFor_11 ?_
  refine pz_icmp_ge 132 dX12_columnFor_12 (by decide) ?_ ?_
  · refine pz_iconst (-1) dX12_columnFor_132 (by decide) ?_
    exact pz_iret rfl dX12_columnFor_133
  · refine pz_aload_n 0 dX12_columnFor_15 rfl ?_
    refine pz_iload_n 2 dX12_columnFor_16 rfl ?_
    refine pz_cvI (st := []) (md_X12_columnAt X n l0 l2) ck_12 rfl mk_X12_columnAt (Or.inl pw_1162) pw_1164 ps_53 rfl rfl (by decide) (by decide) (by decide) dX12_columnFor_17 (fun x3 => ?_)
    refine pz_istore_n [(3, .int x3), (0, va_rf l0), (1, .int l1), (2, .int l2)] dX12_columnFor_20 (by decide) rfl ?_
    refine pz_iload_n 0 dX12_columnFor_21 rfl ?_
    refine pz_iconst (-1) dX12_columnFor_22 (by decide) ?_
    refine pz_icmp_eq 126 dX12_columnFor_23 (by decide) ?_ ?_
    · exact pz_sub [1, 2, 3] rfl (S_X12_columnFor_b126 X n l0 l1 K2 hK2 l2)
    · refine pz_aload_n 1 dX12_columnFor_26 rfl ?_
      refine pz_iload_n 2 dX12_columnFor_27 rfl ?_
      refine pz_iload_n 0 dX12_columnFor_28 rfl ?_
      refine pz_csI (st := [va_rf l0]) (md_X12_factorAt X n l1 x3) mk_X12_factorAt (Or.inl pw_1083) pw_1084 rfl rfl (by simp [pz_rf1, pz_ci, pz_cl]) (by decide) (by decide) dX12_columnFor_29 (fun x5 => ?_)
      refine pz_cvI (st := []) (md_X12_sgn X n l0 x5) ck_12 rfl mk_X12_sgn (Or.inl pw_1122) pw_1124 ps_44 rfl rfl (by decide) (by decide) (by decide) dX12_columnFor_32 (fun x6 => ?_)
      refine pz_istore [(4, .int x6), (3, .int x3), (0, va_rf l0), (1, .int l1), (2, .int l2)] dX12_columnFor_35 (by decide) rfl ?_
      refine pz_aload_n 2 dX12_columnFor_37 rfl ?_
      refine pz_getI (ci := 12) (k := 29) ck_12 (by decide) (Or.inl pw_961) dX12_columnFor_38 (fun x7 => ?_)
      refine pz_iconst 1 dX12_columnFor_41 (by decide) ?_
      refine pz_icmp_ne 50 dX12_columnFor_42 (by decide) ?_ ?_
      · refine pz_iload 0 dX12_columnFor_45 rfl ?_
        refine pz_goto 53 dX12_columnFor_47 (by decide) ?_
        exact pz_sub [2, 3, 4, 1] rfl (S_X12_columnFor_b53 X n l0 l1 K2 hK2 l2 x3 x6)
      · refine pz_iload 0 dX12_columnFor_50 rfl ?_
        refine pz_ineg dX12_columnFor_52 ?_
        exact pz_sub [2, 3, 4, 1] rfl (S_X12_columnFor_b53 X n l0 l1 K2 hK2 l2 x3 (-x6))
set_option maxRecDepth 20000 in
theorem S_X12_columnFor_L2 (X : pz_X) (n : Nat) (l0 : Option Nat) (l1 : Int32) (l2 : Int32) : pz_Sm X (pz_QM X) J_X12_columnFor pz_vI 2 [(0, va_rf l0), (1, .int l1), (2, .int l2)] [] (X12_columnFor_L2 n l0 l1 l2) :=
  pz_lp (L := fun (s : Int32) => [(0, va_rf l0), (1, .int l1), (2, .int s)]) (fun K hK s => S_X12_columnFor_L2_body X n l0 l1 (fun l2 => K l2) (fun l2 => hK l2) s) n l2
set_option maxRecDepth 20000 in
theorem S_X12_columnFor (X : pz_X) (n : Nat) (l0 : Option Nat) (l1 : Int32) : pz_Sm X (pz_QM X) J_X12_columnFor pz_vI 0 [(0, va_rf l0), (1, .int l1)] [] (X12_columnFor n l0 l1) := by
  unfold X12_columnFor
  refine pz_iconst 0 dX12_columnFor_0 (by decide) ?_
  refine pz_istore_n [(2, .int 0), (0, va_rf l0), (1, .int l1)] dX12_columnFor_1 (by decide) rfl ?_
  exact pz_sub [1, 2, 0] rfl (S_X12_columnFor_L2 X n l0 l1 0)
set_option maxRecDepth 20000 in
theorem md_X12_columnFor (X : pz_X) (n : Nat) (l0 : Option Nat) (l1 : Int32) : pz_Md X yX12_columnFor J_X12_columnFor pz_vI [va_rf l0, .int l1] (X12_columnFor n l0 l1) :=
  pz_md [(0, va_rf l0), (1, .int l1)] (by decide +kernel) rfl rfl (by cases l0 <;> rfl) (by cases l0 <;> exact Nat.le_of_ble_eq_true rfl) (fun X => S_X12_columnFor X n l0 l1)
set_option maxRecDepth 20000 in
theorem S_X12_less (X : pz_X) (n : Nat) (l0 : Option Nat) (l1 : Int32) : pz_Sm X (pz_QM X) J_X12_less pz_vI 0 [(0, va_rf l0), (1, .int l1)] [] (X12_less n l0 l1) := by
  unfold X12_less
  refine pz_aload_n 0 dX12_less_0 rfl ?_
  refine pz_iload_n 1 dX12_less_1 rfl ?_
  refine pz_cvI (st := []) (md_X12_again X n l0 l1) ck_12 rfl mk_X12_again (Or.inl pw_1130) pw_1132 ps_46 rfl rfl (by decide) (by decide) (by decide) dX12_less_2 (fun x1 => ?_)
  refine pz_istore_n [(2, .int x1), (0, va_rf l0), (1, .int l1)] dX12_less_5 (by decide) rfl ?_
  refine pz_aload_n 1 dX12_less_6 rfl ?_
  refine pz_getR (ci := 12) (k := 34) ck_12 (by decide) (Or.inl pw_966) dX12_less_7 (fun x2 => ?_)
  refine pz_iload_n 0 dX12_less_10 rfl ?_
  refine pz_aload_n 1 dX12_less_11 rfl ?_
  refine pz_getR (ci := 12) (k := 34) ck_12 (by decide) (Or.inl pw_966) dX12_less_12 (fun x3 => ?_)
  refine pz_iload_n 0 dX12_less_15 rfl ?_
  refine pz_iald (t := 0) rfl dX12_less_16 (fun x4 => ?_)
  refine pz_ineg dX12_less_17 ?_
  refine pz_iast (t := 0) rfl dX12_less_18 ?_
  refine pz_iload_n 0 dX12_less_19 rfl ?_
  exact pz_iret rfl dX12_less_20
set_option maxRecDepth 20000 in
theorem md_X12_less (X : pz_X) (n : Nat) (l0 : Option Nat) (l1 : Int32) : pz_Md X yX12_less J_X12_less pz_vI [va_rf l0, .int l1] (X12_less n l0 l1) :=
  pz_md [(0, va_rf l0), (1, .int l1)] (by decide +kernel) rfl rfl (by cases l0 <;> rfl) (by cases l0 <;> exact Nat.le_of_ble_eq_true rfl) (fun X => S_X12_less X n l0 l1)
set_option maxRecDepth 20000 in
theorem S_X12_minus (X : pz_X) (n : Nat) (l0 : Option Nat) (l1 : Int32) (l2 : Int32) : pz_Sm X (pz_QM X) J_X12_minus pz_vI 0 [(0, va_rf l0), (1, .int l1), (2, .int l2)] [] (X12_minus n l0 l1 l2) := by
  unfold X12_minus
  refine pz_aload_n 0 dX12_minus_0 rfl ?_
  refine pz_getI (ci := 12) (k := 35) ck_12 (by decide) (Or.inl pw_967) dX12_minus_1 (fun x1 => ?_)
  refine pz_istore_n [(3, .int x1), (0, va_rf l0), (1, .int l1), (2, .int l2)] dX12_minus_4 (by decide) rfl ?_
  refine pz_aload_n 1 dX12_minus_5 rfl ?_
  refine pz_iload_n 0 dX12_minus_6 rfl ?_
  refine pz_aload_n 1 dX12_minus_7 rfl ?_
  refine pz_iload_n 2 dX12_minus_8 rfl ?_
  refine pz_aload_n 1 dX12_minus_9 rfl ?_
  refine pz_iload_n 3 dX12_minus_10 rfl ?_
  refine pz_cvI (st := [.int l1, va_rf l0, .int x1, va_rf l0]) (md_X12_less X n l0 l2) ck_12 rfl mk_X12_less (Or.inl pw_1174) pw_1176 ps_56 rfl rfl (by simp [pz_rf1, pz_ci, pz_cl]) (by decide) (by decide) dX12_minus_11 (fun x2 => ?_)
  refine pz_cvI (st := [.int x1, va_rf l0]) (md_X12_plus X n l0 l1 x2) ck_12 rfl mk_X12_plus (Or.inl pw_1126) pw_1128 ps_45 rfl rfl (by simp [pz_rf1, pz_ci, pz_cl]) (by decide) (by decide) dX12_minus_14 (fun x3 => ?_)
  refine pz_cvI (st := []) (md_X12_keep X n l0 x1 x3) ck_12 rfl mk_X12_keep (Or.inl pw_1143) pw_1145 ps_49 rfl rfl (by decide) (by decide) (by decide) dX12_minus_17 (fun x4 => ?_)
  exact pz_iret rfl dX12_minus_20
set_option maxRecDepth 20000 in
theorem md_X12_minus (X : pz_X) (n : Nat) (l0 : Option Nat) (l1 : Int32) (l2 : Int32) : pz_Md X yX12_minus J_X12_minus pz_vI [va_rf l0, .int l1, .int l2] (X12_minus n l0 l1 l2) :=
  pz_md [(0, va_rf l0), (1, .int l1), (2, .int l2)] (by decide +kernel) rfl rfl (by cases l0 <;> rfl) (by cases l0 <;> exact Nat.le_of_ble_eq_true rfl) (fun X => S_X12_minus X n l0 l1 l2)
set_option maxRecDepth 20000 in
theorem S_X12_fitsSo_b116 (X : pz_X) (n : Nat) (s0 : Int32) : pz_Sm X (pz_QM X) J_X12_fitsSo pz_vI 116 [] [.int s0] (X12_fitsSo_b116 n s0) := by
  unfold X12_fitsSo_b116
  exact pz_zret rfl dX12_fitsSo_116
set_option maxRecDepth 20000 in
theorem S_X12_fitsSo_b85 (X : pz_X) (n : Nat) (l0 : Option Nat) (l1 : Int32) (l2 : Int32) (l3 : Int32) (l4 : Int32) (l5 : Int64) (K6 : Int64 → Int32 → pz_C Int32) (hK6 : ∀ (l7 : Int64) (l9 : Int32), pz_Sm X (pz_QM X) J_X12_fitsSo pz_vI 6 [(0, va_rf l0), (1, .int l1), (2, .int l2), (3, .int l3), (4, .int l4), (5, .long l5), (7, .long l7), (9, .int l9)] [] (K6 l7 l9)) (l9 : Int32) (l10 : Int64) (s0 : Int64) : pz_Sm X (pz_QM X) J_X12_fitsSo pz_vI 85 [(0, va_rf l0), (1, .int l1), (2, .int l2), (3, .int l3), (4, .int l4), (5, .long l5), (9, .int l9), (10, .long l10)] [.long s0] (X12_fitsSo_b85 n K6 l0 l1 l2 l3 l4 l5 l9 l10 s0) := by
  unfold X12_fitsSo_b85
  refine pz_lstore [(12, .long s0), (0, va_rf l0), (1, .int l1), (2, .int l2), (3, .int l3), (4, .int l4), (5, .long l5), (9, .int l9), (10, .long l10)] dX12_fitsSo_85 (by decide) rfl ?_
  refine pz_lload 0 dX12_fitsSo_87 rfl ?_
  refine pz_lload 8 dX12_fitsSo_89 rfl ?_
  refine pz_lsub dX12_fitsSo_91 ?_
  refine pz_ldc2 1000000000 dX12_fitsSo_92 pw_923 ?_
  refine pz_ldiv dX12_fitsSo_95 (fun x5 => ?_)
  refine pz_lstore [(7, .long x5), (12, .long s0), (0, va_rf l0), (1, .int l1), (2, .int l2), (3, .int l3), (4, .int l4), (5, .long l5), (9, .int l9), (10, .long l10)] dX12_fitsSo_96 (by decide) rfl ?_
  refine pz_iinc 8 1 (fun l9_6 => [(9, .int l9_6), (7, .long x5), (12, .long s0), (0, va_rf l0), (1, .int l1), (2, .int l2), (3, .int l3), (4, .int l4), (5, .long l5), (10, .long l10)]) dX12_fitsSo_98 rfl (by decide) (by decide) (fun l9_6 => rfl) (fun l9_6 => ?_)
  refine pz_goto 6 dX12_fitsSo_101 (by decide) ?_
  exact pz_sub [3, 4, 5, 6, 7, 8, 1, 0] rfl (hK6 x5 l9_6)
set_option maxRecDepth 20000 in
theorem S_X12_fitsSo_b56 (X : pz_X) (n : Nat) (l0 : Option Nat) (l1 : Int32) (l2 : Int32) (l3 : Int32) (l4 : Int32) (l5 : Int64) (K6 : Int64 → Int32 → pz_C Int32) (hK6 : ∀ (l7 : Int64) (l9 : Int32), pz_Sm X (pz_QM X) J_X12_fitsSo pz_vI 6 [(0, va_rf l0), (1, .int l1), (2, .int l2), (3, .int l3), (4, .int l4), (5, .long l5), (7, .long l7), (9, .int l9)] [] (K6 l7 l9)) (l9 : Int32) (s0 : Int64) (s1 : Int64) : pz_Sm X (pz_QM X) J_X12_fitsSo pz_vI 56 [(0, va_rf l0), (1, .int l1), (2, .int l2), (3, .int l3), (4, .int l4), (5, .long l5), (9, .int l9)] [.long s1, .long s0] (X12_fitsSo_b56 n K6 l0 l1 l2 l3 l4 l5 l9 s0 s1) := by
  unfold X12_fitsSo_b56
  refine pz_lsub dX12_fitsSo_56 ?_
  refine pz_nmL (fun l10_3 => ?_)
  refine pz_lstore [(10, .long l10_3), (0, va_rf l0), (1, .int l1), (2, .int l2), (3, .int l3), (4, .int l4), (5, .long l5), (9, .int l9)] dX12_fitsSo_57 (by decide) rfl ?_
  refine pz_lload 0 dX12_fitsSo_59 rfl ?_
  refine pz_ldc2 1000000000 dX12_fitsSo_61 pw_923 ?_
  refine pz_lrem dX12_fitsSo_64 (fun x4 => ?_)
  refine pz_lstore [(12, .long x4), (10, .long l10_3), (0, va_rf l0), (1, .int l1), (2, .int l2), (3, .int l3), (4, .int l4), (5, .long l5), (9, .int l9)] dX12_fitsSo_65 (by decide) rfl ?_
  refine pz_lload 0 dX12_fitsSo_67 rfl ?_
  refine pz_lconst 0 dX12_fitsSo_69 (by decide) ?_
  refine pz_lcmp dX12_fitsSo_70 ?_
  refine pz_if_ge 83 dX12_fitsSo_71 (by decide) ?_ ?_
  · refine pz_lload 0 dX12_fitsSo_83 rfl ?_
    exact pz_sub [2, 3, 4, 5, 6, 7, 8, 1] rfl (S_X12_fitsSo_b85 X n l0 l1 l2 l3 l4 l5 K6 hK6 l9 l10_3 x4)
  · refine pz_lload 0 dX12_fitsSo_74 rfl ?_
    refine pz_ldc2 1000000000 dX12_fitsSo_76 pw_923 ?_
    refine pz_ladd dX12_fitsSo_79 ?_
    refine pz_goto 85 dX12_fitsSo_80 (by decide) ?_
    exact pz_sub [2, 3, 4, 5, 6, 7, 8, 1] rfl (S_X12_fitsSo_b85 X n l0 l1 l2 l3 l4 l5 K6 hK6 l9 l10_3 (x4 + 1000000000))
set_option maxRecDepth 20000 in
theorem S_X12_fitsSo_L6_body (X : pz_X) (n : Nat) (l0 : Option Nat) (l1 : Int32) (l2 : Int32) (l3 : Int32) (l4 : Int32) (l5 : Int64) (K6 : Int64 → Int32 → pz_C Int32) (hK6 : ∀ (l7 : Int64) (l9 : Int32), pz_Sm X (pz_QM X) J_X12_fitsSo pz_vI 6 [(0, va_rf l0), (1, .int l1), (2, .int l2), (3, .int l3), (4, .int l4), (5, .long l5), (7, .long l7), (9, .int l9)] [] (K6 l7 l9)) (l7 : Int64) (l9 : Int32) : pz_Sm X (pz_QM X) J_X12_fitsSo pz_vI 6 [(0, va_rf l0), (1, .int l1), (2, .int l2), (3, .int l3), (4, .int l4), (5, .long l5), (7, .long l7), (9, .int l9)] [] (X12_fitsSo_L6_body n l0 l1 l2 l3 l4 l5 K6 l7 l9) := by
  unfold X12_fitsSo_L6_body
  refine pz_iload 7 dX12_fitsSo_6 rfl ?_
  refine pz_iload 4 dX12_fitsSo_8 rfl ?_
  refine pz_iconst 1 dX12_fitsSo_10 (by decide) ?_
  refine pz_iadd dX12_fitsSo_11 ?_
  refine pz_icmp_gt 104 dX12_fitsSo_12 (by decide) ?_ ?_
  · refine pz_lload 6 dX12_fitsSo_104 rfl ?_
    refine pz_lconst 0 dX12_fitsSo_106 (by decide) ?_
    refine pz_lcmp dX12_fitsSo_107 ?_
    refine pz_if_ne 115 dX12_fitsSo_108 (by decide) ?_ ?_
    · refine pz_iconst 1 dX12_fitsSo_111 (by decide) ?_
      refine pz_goto 116 dX12_fitsSo_112 (by decide) ?_
      exact pz_sub [] rfl (S_X12_fitsSo_b116 X n 1)
    · refine pz_iconst 0 dX12_fitsSo_115 (by decide) ?_
      exact pz_sub [] rfl (S_X12_fitsSo_b116 X n 0)
  · refine pz_aload_n 0 dX12_fitsSo_15 rfl ?_
    refine pz_getR (ci := 12) (k := 34) ck_12 (by decide) (Or.inl pw_966) dX12_fitsSo_16 (fun x1 => ?_)
    refine pz_iload_n 1 dX12_fitsSo_19 rfl ?_
    refine pz_iload_n 2 dX12_fitsSo_20 rfl ?_
    refine pz_iadd dX12_fitsSo_21 ?_
    refine pz_iload 7 dX12_fitsSo_22 rfl ?_
    refine pz_iadd dX12_fitsSo_24 ?_
    refine pz_iconst 1 dX12_fitsSo_25 (by decide) ?_
    refine pz_isub dX12_fitsSo_26 ?_
    refine pz_iald (t := 0) rfl dX12_fitsSo_27 (fun x2 => ?_)
    refine pz_i2l dX12_fitsSo_28 ?_
    refine pz_lload 6 dX12_fitsSo_29 rfl ?_
    refine pz_lsub dX12_fitsSo_31 ?_
    refine pz_iload 7 dX12_fitsSo_32 rfl ?_
    refine pz_iload 4 dX12_fitsSo_34 rfl ?_
    refine pz_icmp_gt 55 dX12_fitsSo_36 (by decide) ?_ ?_
    · refine pz_lconst 0 dX12_fitsSo_55 (by decide) ?_
      exact pz_sub [0, 1, 2, 3, 4, 5, 7] rfl (S_X12_fitsSo_b56 X n l0 l1 l2 l3 l4 l5 K6 hK6 l9 ((Int32.toInt64 x2) - l7) 0)
    · refine pz_lload 5 dX12_fitsSo_39 rfl ?_
      refine pz_aload_n 0 dX12_fitsSo_41 rfl ?_
      refine pz_getR (ci := 12) (k := 34) ck_12 (by decide) (Or.inl pw_966) dX12_fitsSo_42 (fun x7 => ?_)
      refine pz_iload_n 3 dX12_fitsSo_45 rfl ?_
      refine pz_iload 7 dX12_fitsSo_46 rfl ?_
      refine pz_iadd dX12_fitsSo_48 ?_
      refine pz_iald (t := 0) rfl dX12_fitsSo_49 (fun x8 => ?_)
      refine pz_i2l dX12_fitsSo_50 ?_
      refine pz_lmul dX12_fitsSo_51 ?_
      refine pz_goto 56 dX12_fitsSo_52 (by decide) ?_
      exact pz_sub [0, 1, 2, 3, 4, 5, 7] rfl (S_X12_fitsSo_b56 X n l0 l1 l2 l3 l4 l5 K6 hK6 l9 ((Int32.toInt64 x2) - l7) (l5 * (Int32.toInt64 x8)))
set_option maxRecDepth 20000 in
theorem S_X12_fitsSo_L6 (X : pz_X) (n : Nat) (l0 : Option Nat) (l1 : Int32) (l2 : Int32) (l3 : Int32) (l4 : Int32) (l5 : Int64) (l7 : Int64) (l9 : Int32) : pz_Sm X (pz_QM X) J_X12_fitsSo pz_vI 6 [(0, va_rf l0), (1, .int l1), (2, .int l2), (3, .int l3), (4, .int l4), (5, .long l5), (7, .long l7), (9, .int l9)] [] (X12_fitsSo_L6 n l0 l1 l2 l3 l4 l5 l7 l9) :=
  pz_lp (L := fun (s : Int64 × Int32) => [(0, va_rf l0), (1, .int l1), (2, .int l2), (3, .int l3), (4, .int l4), (5, .long l5), (7, .long s.1), (9, .int s.2)]) (fun K hK s => S_X12_fitsSo_L6_body X n l0 l1 l2 l3 l4 l5 (fun l7 l9 => K (l7, l9)) (fun l7 l9 => hK (l7, l9)) s.1 s.2) n (l7, l9)
set_option maxRecDepth 20000 in
theorem S_X12_fitsSo (X : pz_X) (n : Nat) (l0 : Option Nat) (l1 : Int32) (l2 : Int32) (l3 : Int32) (l4 : Int32) (l5 : Int64) : pz_Sm X (pz_QM X) J_X12_fitsSo pz_vI 0 [(0, va_rf l0), (1, .int l1), (2, .int l2), (3, .int l3), (4, .int l4), (5, .long l5)] [] (X12_fitsSo n l0 l1 l2 l3 l4 l5) := by
  unfold X12_fitsSo
  refine pz_lconst 0 dX12_fitsSo_0 (by decide) ?_
  refine pz_lstore [(7, .long 0), (0, va_rf l0), (1, .int l1), (2, .int l2), (3, .int l3), (4, .int l4), (5, .long l5)] dX12_fitsSo_1 (by decide) rfl ?_
  refine pz_iconst 1 dX12_fitsSo_3 (by decide) ?_
  refine pz_istore [(9, .int 1), (7, .long 0), (0, va_rf l0), (1, .int l1), (2, .int l2), (3, .int l3), (4, .int l4), (5, .long l5)] dX12_fitsSo_4 (by decide) rfl ?_
  exact pz_sub [2, 3, 4, 5, 6, 7, 1, 0] rfl (S_X12_fitsSo_L6 X n l0 l1 l2 l3 l4 l5 0 1)
set_option maxRecDepth 20000 in
theorem md_X12_fitsSo (X : pz_X) (n : Nat) (l0 : Option Nat) (l1 : Int32) (l2 : Int32) (l3 : Int32) (l4 : Int32) (l5 : Int64) : pz_Md X yX12_fitsSo J_X12_fitsSo pz_vI [va_rf l0, .int l1, .int l2, .int l3, .int l4, .long l5] (X12_fitsSo n l0 l1 l2 l3 l4 l5) :=
  pz_md [(0, va_rf l0), (1, .int l1), (2, .int l2), (3, .int l3), (4, .int l4), (5, .long l5)] (by decide +kernel) rfl rfl (by cases l0 <;> rfl) (by cases l0 <;> exact Nat.le_of_ble_eq_true rfl) (fun X => S_X12_fitsSo X n l0 l1 l2 l3 l4 l5)
set_option maxRecDepth 20000 in
theorem S_X12_digit_b239 (X : pz_X) (n : Nat) (l0 : Option Nat) (l1 : Int32) (l2 : Int32) (l3 : Int32) (l4 : Int32) (l11 : Int64) (K160 : Int64 → Int32 → pz_C Int32) (hK160 : ∀ (l15 : Int64) (l17 : Int32), pz_Sm X (pz_QM X) J_X12_digit pz_vI 160 [(0, va_rf l0), (1, .int l1), (2, .int l2), (3, .int l3), (4, .int l4), (11, .long l11), (15, .long l15), (17, .int l17)] [] (K160 l15 l17)) (l17 : Int32) (l18 : Int64) (s0 : Int64) : pz_Sm X (pz_QM X) J_X12_digit pz_vI 239 [(0, va_rf l0), (1, .int l1), (2, .int l2), (3, .int l3), (4, .int l4), (11, .long l11), (17, .int l17), (18, .long l18)] [.long s0] (X12_digit_b239 n K160 l0 l1 l2 l3 l4 l11 l17 l18 s0) := by
  unfold X12_digit_b239
  refine pz_lstore [(20, .long s0), (0, va_rf l0), (1, .int l1), (2, .int l2), (3, .int l3), (4, .int l4), (11, .long l11), (17, .int l17), (18, .long l18)] dX12_digit_239 (by decide) rfl ?_
  refine pz_lload 0 dX12_digit_241 rfl ?_
  refine pz_lload 8 dX12_digit_243 rfl ?_
  refine pz_lsub dX12_digit_245 ?_
  refine pz_ldc2 1000000000 dX12_digit_246 pw_923 ?_
  refine pz_ldiv dX12_digit_249 (fun x16 => ?_)
  refine pz_lstore [(15, .long x16), (20, .long s0), (0, va_rf l0), (1, .int l1), (2, .int l2), (3, .int l3), (4, .int l4), (11, .long l11), (17, .int l17), (18, .long l18)] dX12_digit_250 (by decide) rfl ?_
  refine pz_aload_n 2 dX12_digit_252 rfl ?_
  refine pz_getR (ci := 12) (k := 34) ck_12 (by decide) (Or.inl pw_966) dX12_digit_253 (fun x17 => ?_)
  refine pz_iload_n 3 dX12_digit_256 rfl ?_
  refine pz_iload_n 4 dX12_digit_257 rfl ?_
  refine pz_iadd dX12_digit_258 ?_
  refine pz_iload 8 dX12_digit_259 rfl ?_
  refine pz_iadd dX12_digit_261 ?_
  refine pz_iconst 1 dX12_digit_262 (by decide) ?_
  refine pz_isub dX12_digit_263 ?_
  refine pz_lload 1 dX12_digit_264 rfl ?_
  refine pz_l2i dX12_digit_266 ?_
  refine pz_iast (t := 0) rfl dX12_digit_267 ?_
  refine pz_iinc 8 1 (fun l17_18 => [(17, .int l17_18), (15, .long x16), (20, .long s0), (0, va_rf l0), (1, .int l1), (2, .int l2), (3, .int l3), (4, .int l4), (11, .long l11), (18, .long l18)]) dX12_digit_268 rfl (by decide) (by decide) (fun l17_18 => rfl) (fun l17_18 => ?_)
  refine pz_goto 160 dX12_digit_271 (by decide) ?_
  exact pz_sub [3, 4, 5, 6, 7, 8, 1, 0] rfl (hK160 x16 l17_18)
set_option maxRecDepth 20000 in
theorem S_X12_digit_b210 (X : pz_X) (n : Nat) (l0 : Option Nat) (l1 : Int32) (l2 : Int32) (l3 : Int32) (l4 : Int32) (l11 : Int64) (K160 : Int64 → Int32 → pz_C Int32) (hK160 : ∀ (l15 : Int64) (l17 : Int32), pz_Sm X (pz_QM X) J_X12_digit pz_vI 160 [(0, va_rf l0), (1, .int l1), (2, .int l2), (3, .int l3), (4, .int l4), (11, .long l11), (15, .long l15), (17, .int l17)] [] (K160 l15 l17)) (l17 : Int32) (s0 : Int64) (s1 : Int64) : pz_Sm X (pz_QM X) J_X12_digit pz_vI 210 [(0, va_rf l0), (1, .int l1), (2, .int l2), (3, .int l3), (4, .int l4), (11, .long l11), (17, .int l17)] [.long s1, .long s0] (X12_digit_b210 n K160 l0 l1 l2 l3 l4 l11 l17 s0 s1) := by
  unfold X12_digit_b210
  refine pz_lsub dX12_digit_210 ?_
  refine pz_nmL (fun l18_14 => ?_)
  refine pz_lstore [(18, .long l18_14), (0, va_rf l0), (1, .int l1), (2, .int l2), (3, .int l3), (4, .int l4), (11, .long l11), (17, .int l17)] dX12_digit_211 (by decide) rfl ?_
  refine pz_lload 0 dX12_digit_213 rfl ?_
  refine pz_ldc2 1000000000 dX12_digit_215 pw_923 ?_
  refine pz_lrem dX12_digit_218 (fun x15 => ?_)
  refine pz_lstore [(20, .long x15), (18, .long l18_14), (0, va_rf l0), (1, .int l1), (2, .int l2), (3, .int l3), (4, .int l4), (11, .long l11), (17, .int l17)] dX12_digit_219 (by decide) rfl ?_
  refine pz_lload 0 dX12_digit_221 rfl ?_
  refine pz_lconst 0 dX12_digit_223 (by decide) ?_
  refine pz_lcmp dX12_digit_224 ?_
  refine pz_if_ge 237 dX12_digit_225 (by decide) ?_ ?_
  · refine pz_lload 0 dX12_digit_237 rfl ?_
    exact pz_sub [2, 3, 4, 5, 6, 7, 8, 1] rfl (S_X12_digit_b239 X n l0 l1 l2 l3 l4 l11 K160 hK160 l17 l18_14 x15)
  · refine pz_lload 0 dX12_digit_228 rfl ?_
    refine pz_ldc2 1000000000 dX12_digit_230 pw_923 ?_
    refine pz_ladd dX12_digit_233 ?_
    refine pz_goto 239 dX12_digit_234 (by decide) ?_
    exact pz_sub [2, 3, 4, 5, 6, 7, 8, 1] rfl (S_X12_digit_b239 X n l0 l1 l2 l3 l4 l11 K160 hK160 l17 l18_14 (x15 + 1000000000))
set_option maxRecDepth 20000 in
theorem S_X12_digit_L160_body (X : pz_X) (n : Nat) (l0 : Option Nat) (l1 : Int32) (l2 : Int32) (l3 : Int32) (l4 : Int32) (l11 : Int64) (K160 : Int64 → Int32 → pz_C Int32) (hK160 : ∀ (l15 : Int64) (l17 : Int32), pz_Sm X (pz_QM X) J_X12_digit pz_vI 160 [(0, va_rf l0), (1, .int l1), (2, .int l2), (3, .int l3), (4, .int l4), (11, .long l11), (15, .long l15), (17, .int l17)] [] (K160 l15 l17)) (l15 : Int64) (l17 : Int32) : pz_Sm X (pz_QM X) J_X12_digit pz_vI 160 [(0, va_rf l0), (1, .int l1), (2, .int l2), (3, .int l3), (4, .int l4), (11, .long l11), (15, .long l15), (17, .int l17)] [] (X12_digit_L160_body n l0 l1 l2 l3 l4 l11 K160 l15 l17) := by
  unfold X12_digit_L160_body
  refine pz_iload 7 dX12_digit_160 rfl ?_
  refine pz_iload 4 dX12_digit_162 rfl ?_
  refine pz_iconst 1 dX12_digit_164 (by decide) ?_
  refine pz_iadd dX12_digit_165 ?_
  refine pz_icmp_gt 274 dX12_digit_166 (by decide) ?_ ?_
  · refine pz_lload 5 dX12_digit_274 rfl ?_
    refine pz_l2i dX12_digit_276 ?_
    exact pz_iret rfl dX12_digit_277
  · refine pz_aload_n 0 dX12_digit_169 rfl ?_
    refine pz_getR (ci := 12) (k := 34) ck_12 (by decide) (Or.inl pw_966) dX12_digit_170 (fun x12 => ?_)
    refine pz_iload_n 1 dX12_digit_173 rfl ?_
    refine pz_iload_n 2 dX12_digit_174 rfl ?_
    refine pz_iadd dX12_digit_175 ?_
    refine pz_iload 7 dX12_digit_176 rfl ?_
    refine pz_iadd dX12_digit_178 ?_
    refine pz_iconst 1 dX12_digit_179 (by decide) ?_
    refine pz_isub dX12_digit_180 ?_
    refine pz_iald (t := 0) rfl dX12_digit_181 (fun x13 => ?_)
    refine pz_i2l dX12_digit_182 ?_
    refine pz_lload 6 dX12_digit_183 rfl ?_
    refine pz_lsub dX12_digit_185 ?_
    refine pz_iload 7 dX12_digit_186 rfl ?_
    refine pz_iload 4 dX12_digit_188 rfl ?_
    refine pz_icmp_gt 209 dX12_digit_190 (by decide) ?_ ?_
    · refine pz_lconst 0 dX12_digit_209 (by decide) ?_
      exact pz_sub [0, 1, 2, 3, 4, 5, 7] rfl (S_X12_digit_b210 X n l0 l1 l2 l3 l4 l11 K160 hK160 l17 ((Int32.toInt64 x13) - l15) 0)
    · refine pz_lload 5 dX12_digit_193 rfl ?_
      refine pz_aload_n 0 dX12_digit_195 rfl ?_
      refine pz_getR (ci := 12) (k := 34) ck_12 (by decide) (Or.inl pw_966) dX12_digit_196 (fun x19 => ?_)
      refine pz_iload_n 3 dX12_digit_199 rfl ?_
      refine pz_iload 7 dX12_digit_200 rfl ?_
      refine pz_iadd dX12_digit_202 ?_
      refine pz_iald (t := 0) rfl dX12_digit_203 (fun x20 => ?_)
      refine pz_i2l dX12_digit_204 ?_
      refine pz_lmul dX12_digit_205 ?_
      refine pz_goto 210 dX12_digit_206 (by decide) ?_
      exact pz_sub [0, 1, 2, 3, 4, 5, 7] rfl (S_X12_digit_b210 X n l0 l1 l2 l3 l4 l11 K160 hK160 l17 ((Int32.toInt64 x13) - l15) (l11 * (Int32.toInt64 x20)))
set_option maxRecDepth 20000 in
theorem S_X12_digit_L160 (X : pz_X) (n : Nat) (l0 : Option Nat) (l1 : Int32) (l2 : Int32) (l3 : Int32) (l4 : Int32) (l11 : Int64) (l15 : Int64) (l17 : Int32) : pz_Sm X (pz_QM X) J_X12_digit pz_vI 160 [(0, va_rf l0), (1, .int l1), (2, .int l2), (3, .int l3), (4, .int l4), (11, .long l11), (15, .long l15), (17, .int l17)] [] (X12_digit_L160 n l0 l1 l2 l3 l4 l11 l15 l17) :=
  pz_lp (L := fun (s : Int64 × Int32) => [(0, va_rf l0), (1, .int l1), (2, .int l2), (3, .int l3), (4, .int l4), (11, .long l11), (15, .long s.1), (17, .int s.2)]) (fun K hK s => S_X12_digit_L160_body X n l0 l1 l2 l3 l4 l11 (fun l15 l17 => K (l15, l17)) (fun l15 l17 => hK (l15, l17)) s.1 s.2) n (l15, l17)
set_option maxRecDepth 20000 in
theorem S_X12_digit_b151 (X : pz_X) (n : Nat) (l0 : Option Nat) (l1 : Int32) (l2 : Int32) (l3 : Int32) (l4 : Int32) (K103 : Int64 → Int64 → pz_C Int32) (hK103 : ∀ (l11 : Int64) (l13 : Int64), pz_Sm X (pz_QM X) J_X12_digit pz_vI 103 [(0, va_rf l0), (1, .int l1), (2, .int l2), (3, .int l3), (4, .int l4), (11, .long l11), (13, .long l13)] [] (K103 l11 l13)) (l11 : Int64) (l13 : Int64) : pz_Sm X (pz_QM X) J_X12_digit pz_vI 151 [(0, va_rf l0), (1, .int l1), (2, .int l2), (3, .int l3), (4, .int l4), (11, .long l11), (13, .long l13)] [] (X12_digit_b151 n K103 l0 l1 l2 l3 l4 l11 l13) := by
  unfold X12_digit_b151
  refine pz_goto 103 dX12_digit_151 (by decide) ?_
  exact pz_sub [0, 1, 2, 3, 4, 5, 6] rfl (hK103 l11 l13)
set_option maxRecDepth 20000 in
theorem S_X12_digit_L103_body (X : pz_X) (n : Nat) (l0 : Option Nat) (l1 : Int32) (l2 : Int32) (l3 : Int32) (l4 : Int32) (K103 : Int64 → Int64 → pz_C Int32) (hK103 : ∀ (l11 : Int64) (l13 : Int64), pz_Sm X (pz_QM X) J_X12_digit pz_vI 103 [(0, va_rf l0), (1, .int l1), (2, .int l2), (3, .int l3), (4, .int l4), (11, .long l11), (13, .long l13)] [] (K103 l11 l13)) (l11 : Int64) (l13 : Int64) : pz_Sm X (pz_QM X) J_X12_digit pz_vI 103 [(0, va_rf l0), (1, .int l1), (2, .int l2), (3, .int l3), (4, .int l4), (11, .long l11), (13, .long l13)] [] (X12_digit_L103_body n l0 l1 l2 l3 l4 K103 l11 l13) := by
  unfold X12_digit_L103_body
  refine pz_lload 5 dX12_digit_103 rfl ?_
  refine pz_lload 6 dX12_digit_105 rfl ?_
  refine pz_lcmp dX12_digit_107 ?_
  refine pz_if_ge 154 dX12_digit_108 (by decide) ?_ ?_
  · refine pz_lconst 0 dX12_digit_154 (by decide) ?_
    refine pz_lstore [(15, .long 0), (0, va_rf l0), (1, .int l1), (2, .int l2), (3, .int l3), (4, .int l4), (11, .long l11), (13, .long l13)] dX12_digit_155 (by decide) rfl ?_
    refine pz_iconst 1 dX12_digit_157 (by decide) ?_
    refine pz_istore [(17, .int 1), (15, .long 0), (0, va_rf l0), (1, .int l1), (2, .int l2), (3, .int l3), (4, .int l4), (11, .long l11), (13, .long l13)] dX12_digit_158 (by decide) rfl ?_
    exact pz_sub [2, 3, 4, 5, 6, 7, 1, 0] rfl (S_X12_digit_L160 X n l0 l1 l2 l3 l4 l11 0 1)
  · refine pz_lload 5 dX12_digit_111 rfl ?_
    refine pz_lload 6 dX12_digit_113 rfl ?_
    refine pz_ladd dX12_digit_115 ?_
    refine pz_lconst 1 dX12_digit_116 (by decide) ?_
    refine pz_ladd dX12_digit_117 ?_
    refine pz_ldc2 2 dX12_digit_118 pw_1191 ?_
    refine pz_ldiv dX12_digit_121 (fun x21 => ?_)
    refine pz_lstore [(15, .long x21), (0, va_rf l0), (1, .int l1), (2, .int l2), (3, .int l3), (4, .int l4), (11, .long l11), (13, .long l13)] dX12_digit_122 (by decide) rfl ?_
    refine pz_aload_n 1 dX12_digit_124 rfl ?_
    refine pz_iload_n 2 dX12_digit_125 rfl ?_
    refine pz_iload_n 3 dX12_digit_126 rfl ?_
    refine pz_iload_n 4 dX12_digit_127 rfl ?_
    refine pz_iload 5 dX12_digit_128 rfl ?_
    refine pz_lload 0 dX12_digit_130 rfl ?_
    refine pz_cvI (st := []) (md_X12_fitsSo X n l0 l1 l2 l3 l4 x21) ck_12 rfl mk_X12_fitsSo (Or.inl pw_1192) pw_1194 ps_60 rfl rfl (by decide) (by decide) (by decide) dX12_digit_132 (fun x22 => ?_)
    refine pz_if_eq 145 dX12_digit_135 (by decide) ?_ ?_
    · refine pz_lload 0 dX12_digit_145 rfl ?_
      refine pz_lconst 1 dX12_digit_147 (by decide) ?_
      refine pz_lsub dX12_digit_148 ?_
      refine pz_nmL (fun l13_23 => ?_)
      refine pz_lstore [(13, .long l13_23), (15, .long x21), (0, va_rf l0), (1, .int l1), (2, .int l2), (3, .int l3), (4, .int l4), (11, .long l11)] dX12_digit_149 (by decide) rfl ?_
      exact pz_sub [2, 3, 4, 5, 6, 7, 0] rfl (S_X12_digit_b151 X n l0 l1 l2 l3 l4 K103 hK103 l11 l13_23)
    · refine pz_lload 0 dX12_digit_138 rfl ?_
      refine pz_lstore [(11, .long x21), (15, .long x21), (0, va_rf l0), (1, .int l1), (2, .int l2), (3, .int l3), (4, .int l4), (13, .long l13)] dX12_digit_140 (by decide) rfl ?_
      refine pz_goto 151 dX12_digit_142 (by decide) ?_
      exact pz_sub [2, 3, 4, 5, 6, 0, 7] rfl (S_X12_digit_b151 X n l0 l1 l2 l3 l4 K103 hK103 x21 l13)
set_option maxRecDepth 20000 in
theorem S_X12_digit_L103 (X : pz_X) (n : Nat) (l0 : Option Nat) (l1 : Int32) (l2 : Int32) (l3 : Int32) (l4 : Int32) (l11 : Int64) (l13 : Int64) : pz_Sm X (pz_QM X) J_X12_digit pz_vI 103 [(0, va_rf l0), (1, .int l1), (2, .int l2), (3, .int l3), (4, .int l4), (11, .long l11), (13, .long l13)] [] (X12_digit_L103 n l0 l1 l2 l3 l4 l11 l13) :=
  pz_lp (L := fun (s : Int64 × Int64) => [(0, va_rf l0), (1, .int l1), (2, .int l2), (3, .int l3), (4, .int l4), (11, .long s.1), (13, .long s.2)]) (fun K hK s => S_X12_digit_L103_body X n l0 l1 l2 l3 l4 (fun l11 l13 => K (l11, l13)) (fun l11 l13 => hK (l11, l13)) s.1 s.2) n (l11, l13)
set_option maxRecDepth 20000 in
theorem S_X12_digit_b101 (X : pz_X) (n : Nat) (l0 : Option Nat) (l1 : Int32) (l2 : Int32) (l3 : Int32) (l4 : Int32) (l11 : Int64) (s0 : Int64) : pz_Sm X (pz_QM X) J_X12_digit pz_vI 101 [(0, va_rf l0), (1, .int l1), (2, .int l2), (3, .int l3), (4, .int l4), (11, .long l11)] [.long s0] (X12_digit_b101 n l0 l1 l2 l3 l4 l11 s0) := by
  unfold X12_digit_b101
  refine pz_lstore [(13, .long s0), (0, va_rf l0), (1, .int l1), (2, .int l2), (3, .int l3), (4, .int l4), (11, .long l11)] dX12_digit_101 (by decide) rfl ?_
  exact pz_sub [1, 2, 3, 4, 5, 6, 0] rfl (S_X12_digit_L103 X n l0 l1 l2 l3 l4 l11 s0)
set_option maxRecDepth 20000 in
theorem S_X12_digit_b82 (X : pz_X) (n : Nat) (l0 : Option Nat) (l1 : Int32) (l2 : Int32) (l3 : Int32) (l4 : Int32) (l7 : Int64) (s0 : Int64) : pz_Sm X (pz_QM X) J_X12_digit pz_vI 82 [(0, va_rf l0), (1, .int l1), (2, .int l2), (3, .int l3), (4, .int l4), (7, .long l7)] [.long s0] (X12_digit_b82 n l0 l1 l2 l3 l4 l7 s0) := by
  unfold X12_digit_b82
  refine pz_lstore [(11, .long s0), (0, va_rf l0), (1, .int l1), (2, .int l2), (3, .int l3), (4, .int l4), (7, .long l7)] dX12_digit_82 (by decide) rfl ?_
  refine pz_lload 6 dX12_digit_84 rfl ?_
  refine pz_ldc2 999999999 dX12_digit_86 pw_1190 ?_
  refine pz_lcmp dX12_digit_89 ?_
  refine pz_if_le 99 dX12_digit_90 (by decide) ?_ ?_
  · refine pz_lload 6 dX12_digit_99 rfl ?_
    exact pz_sub [1, 2, 3, 4, 5, 0] rfl (S_X12_digit_b101 X n l0 l1 l2 l3 l4 s0 l7)
  · refine pz_ldc2 999999999 dX12_digit_93 pw_1190 ?_
    refine pz_goto 101 dX12_digit_96 (by decide) ?_
    exact pz_sub [1, 2, 3, 4, 5, 0] rfl (S_X12_digit_b101 X n l0 l1 l2 l3 l4 s0 999999999)
set_option maxRecDepth 20000 in
theorem S_X12_digit (X : pz_X) (n : Nat) (l0 : Option Nat) (l1 : Int32) (l2 : Int32) (l3 : Int32) (l4 : Int32) : pz_Sm X (pz_QM X) J_X12_digit pz_vI 0 [(0, va_rf l0), (1, .int l1), (2, .int l2), (3, .int l3), (4, .int l4)] [] (X12_digit n l0 l1 l2 l3 l4) := by
  unfold X12_digit
  refine pz_aload_n 0 dX12_digit_0 rfl ?_
  refine pz_getR (ci := 12) (k := 34) ck_12 (by decide) (Or.inl pw_966) dX12_digit_1 (fun x1 => ?_)
  refine pz_iload_n 1 dX12_digit_4 rfl ?_
  refine pz_iload_n 2 dX12_digit_5 rfl ?_
  refine pz_iadd dX12_digit_6 ?_
  refine pz_iload 4 dX12_digit_7 rfl ?_
  refine pz_iadd dX12_digit_9 ?_
  refine pz_iald (t := 0) rfl dX12_digit_10 (fun x2 => ?_)
  refine pz_i2l dX12_digit_11 ?_
  refine pz_ldc2 1000000000 dX12_digit_12 pw_923 ?_
  refine pz_lmul dX12_digit_15 ?_
  refine pz_aload_n 0 dX12_digit_16 rfl ?_
  refine pz_getR (ci := 12) (k := 34) ck_12 (by decide) (Or.inl pw_966) dX12_digit_17 (fun x3 => ?_)
  refine pz_iload_n 1 dX12_digit_20 rfl ?_
  refine pz_iload_n 2 dX12_digit_21 rfl ?_
  refine pz_iadd dX12_digit_22 ?_
  refine pz_iload 4 dX12_digit_23 rfl ?_
  refine pz_iadd dX12_digit_25 ?_
  refine pz_iconst 1 dX12_digit_26 (by decide) ?_
  refine pz_isub dX12_digit_27 ?_
  refine pz_iald (t := 0) rfl dX12_digit_28 (fun x4 => ?_)
  refine pz_i2l dX12_digit_29 ?_
  refine pz_ladd dX12_digit_30 ?_
  refine pz_nmL (fun l5_5 => ?_)
  refine pz_lstore [(5, .long l5_5), (0, va_rf l0), (1, .int l1), (2, .int l2), (3, .int l3), (4, .int l4)] dX12_digit_31 (by decide) rfl ?_
  refine pz_lload 0 dX12_digit_33 rfl ?_
  refine pz_aload_n 1 dX12_digit_35 rfl ?_
  refine pz_getR (ci := 12) (k := 34) ck_12 (by decide) (Or.inl pw_966) dX12_digit_36 (fun x6 => ?_)
  refine pz_iload_n 4 dX12_digit_39 rfl ?_
  refine pz_iload 5 dX12_digit_40 rfl ?_
  refine pz_iadd dX12_digit_42 ?_
  refine pz_iald (t := 0) rfl dX12_digit_43 (fun x7 => ?_)
  refine pz_i2l dX12_digit_44 ?_
  refine pz_ldiv dX12_digit_45 (fun x8 => ?_)
  refine pz_lstore [(7, .long x8), (5, .long l5_5), (0, va_rf l0), (1, .int l1), (2, .int l2), (3, .int l3), (4, .int l4)] dX12_digit_46 (by decide) rfl ?_
  refine pz_lload 1 dX12_digit_48 rfl ?_
  refine pz_aload_n 2 dX12_digit_50 rfl ?_
  refine pz_getR (ci := 12) (k := 34) ck_12 (by decide) (Or.inl pw_966) dX12_digit_51 (fun x9 => ?_)
  refine pz_iload_n 5 dX12_digit_54 rfl ?_
  refine pz_iload 6 dX12_digit_55 rfl ?_
  refine pz_iadd dX12_digit_57 ?_
  refine pz_iald (t := 0) rfl dX12_digit_58 (fun x10 => ?_)
  refine pz_i2l dX12_digit_59 ?_
  refine pz_lconst 1 dX12_digit_60 (by decide) ?_
  refine pz_ladd dX12_digit_61 ?_
  refine pz_ldiv dX12_digit_62 (fun x11 => ?_)
  refine pz_lstore [(9, .long x11), (7, .long x8), (5, .long l5_5), (0, va_rf l0), (1, .int l1), (2, .int l2), (3, .int l3), (4, .int l4)] dX12_digit_63 (by decide) rfl ?_
  refine pz_lload 0 dX12_digit_65 rfl ?_
  refine pz_ldc2 999999999 dX12_digit_67 pw_1190 ?_
  refine pz_lcmp dX12_digit_70 ?_
  refine pz_if_le 80 dX12_digit_71 (by decide) ?_ ?_
  · refine pz_lload 0 dX12_digit_80 rfl ?_
    exact pz_sub [3, 4, 5, 6, 7, 1] rfl (S_X12_digit_b82 X n l0 l1 l2 l3 l4 x8 x11)
  · refine pz_ldc2 999999999 dX12_digit_74 pw_1190 ?_
    refine pz_goto 82 dX12_digit_77 (by decide) ?_
    exact pz_sub [3, 4, 5, 6, 7, 1] rfl (S_X12_digit_b82 X n l0 l1 l2 l3 l4 x8 999999999)
set_option maxRecDepth 20000 in
theorem md_X12_digit (X : pz_X) (n : Nat) (l0 : Option Nat) (l1 : Int32) (l2 : Int32) (l3 : Int32) (l4 : Int32) : pz_Md X yX12_digit J_X12_digit pz_vI [va_rf l0, .int l1, .int l2, .int l3, .int l4] (X12_digit n l0 l1 l2 l3 l4) :=
  pz_md [(0, va_rf l0), (1, .int l1), (2, .int l2), (3, .int l3), (4, .int l4)] (by decide +kernel) rfl rfl (by cases l0 <;> rfl) (by cases l0 <;> exact Nat.le_of_ble_eq_true rfl) (fun X => S_X12_digit X n l0 l1 l2 l3 l4)
