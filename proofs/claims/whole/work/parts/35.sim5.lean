set_option maxRecDepth 20000 in
theorem S_X12_divide_b252 (X : pz_X) (n : Nat) (l0 : Option Nat) (l6 : Int32) (l8 : Int32) (l10 : Int32) : pz_Sm X (pz_QM X) J_X12_divide pz_vI 252 [(0, va_rf l0), (6, .int l6), (8, .int l8), (10, .int l10)] [] (X12_divide_b252 n l0 l6 l8 l10) := by
  unfold X12_divide_b252
  refine pz_aload_n 0 dX12_divide_252 rfl ?_
  refine pz_getR (ci := 12) (k := 34) ck_12 (by decide) (Or.inl pw_966) dX12_divide_253 (fun x8 => ?_)
  refine pz_iload 2 dX12_divide_256 rfl ?_
  refine pz_iload 3 dX12_divide_258 rfl ?_
  refine pz_iast (t := 0) rfl dX12_divide_260 ?_
  refine pz_aload_n 0 dX12_divide_261 rfl ?_
  refine pz_iload 1 dX12_divide_262 rfl ?_
  refine pz_put (ci := 12) (k := 36) ck_12 (by decide) (Or.inl pw_968) (Or.inl rfl) rfl rfl dX12_divide_264 ?_
  refine pz_iload 2 dX12_divide_267 rfl ?_
  exact pz_iret rfl dX12_divide_269
set_option maxRecDepth 20000 in
theorem S_X12_divide_L228_body (X : pz_X) (n : Nat) (l0 : Option Nat) (l6 : Int32) (l8 : Int32) (K228 : Int32 → pz_C Int32) (hK228 : ∀ (l10 : Int32), pz_Sm X (pz_QM X) J_X12_divide pz_vI 228 [(0, va_rf l0), (6, .int l6), (8, .int l8), (10, .int l10)] [] (K228 l10)) (l10 : Int32) : pz_Sm X (pz_QM X) J_X12_divide pz_vI 228 [(0, va_rf l0), (6, .int l6), (8, .int l8), (10, .int l10)] [] (X12_divide_L228_body n l0 l6 l8 K228 l10) := by
  unfold X12_divide_L228_body
  refine pz_iload 3 dX12_divide_228 rfl ?_
  refine pz_if_le 252 dX12_divide_230 (by decide) ?_ ?_
  · exact pz_sub [0, 1, 2, 3] rfl (S_X12_divide_b252 X n l0 l6 l8 l10)
  · refine pz_aload_n 0 dX12_divide_233 rfl ?_
    refine pz_getR (ci := 12) (k := 34) ck_12 (by decide) (Or.inl pw_966) dX12_divide_234 (fun x9 => ?_)
    refine pz_iload 2 dX12_divide_237 rfl ?_
    refine pz_iload 3 dX12_divide_239 rfl ?_
    refine pz_iadd dX12_divide_241 ?_
    refine pz_iald (t := 0) rfl dX12_divide_242 (fun x10 => ?_)
    refine pz_if_ne 252 dX12_divide_243 (by decide) ?_ ?_
    · refine pz_iinc 3 (-1) (fun l10_11 => [(10, .int l10_11), (0, va_rf l0), (6, .int l6), (8, .int l8)]) dX12_divide_246 rfl (by decide) (by decide) (fun l10_11 => rfl) (fun l10_11 => ?_)
      refine pz_goto 228 dX12_divide_249 (by decide) ?_
      exact pz_sub [1, 2, 3, 0] rfl (hK228 l10_11)
    · exact pz_sub [0, 1, 2, 3] rfl (S_X12_divide_b252 X n l0 l6 l8 l10)
set_option maxRecDepth 20000 in
theorem S_X12_divide_L228 (X : pz_X) (n : Nat) (l0 : Option Nat) (l6 : Int32) (l8 : Int32) (l10 : Int32) : pz_Sm X (pz_QM X) J_X12_divide pz_vI 228 [(0, va_rf l0), (6, .int l6), (8, .int l8), (10, .int l10)] [] (X12_divide_L228 n l0 l6 l8 l10) :=
  pz_lp (L := fun (s : Int32) => [(0, va_rf l0), (6, .int l6), (8, .int l8), (10, .int s)]) (fun K hK s => S_X12_divide_L228_body X n l0 l6 l8 (fun l10 => K l10) (fun l10 => hK l10) s) n l10
set_option maxRecDepth 20000 in
theorem S_X12_divide_b215 (X : pz_X) (n : Nat) (l0 : Option Nat) (l4 : Int32) (l6 : Int32) (l8 : Int32) (l9 : Int32) : pz_Sm X (pz_QM X) J_X12_divide pz_vI 215 [(0, va_rf l0), (4, .int l4), (6, .int l6), (8, .int l8), (9, .int l9)] [] (X12_divide_b215 n l0 l4 l6 l8 l9) := by
  unfold X12_divide_b215
  refine pz_aload_n 0 dX12_divide_215 rfl ?_
  refine pz_getR (ci := 12) (k := 34) ck_12 (by decide) (Or.inl pw_966) dX12_divide_216 (fun x7 => ?_)
  refine pz_iload 2 dX12_divide_219 rfl ?_
  refine pz_iload 4 dX12_divide_221 rfl ?_
  refine pz_iast (t := 0) rfl dX12_divide_223 ?_
  refine pz_iload 1 dX12_divide_224 rfl ?_
  refine pz_istore [(10, .int l4), (0, va_rf l0), (4, .int l4), (6, .int l6), (8, .int l8), (9, .int l9)] dX12_divide_226 (by decide) rfl ?_
  exact pz_sub [1, 3, 4, 0] rfl (S_X12_divide_L228 X n l0 l6 l8 l4)
set_option maxRecDepth 20000 in
theorem S_X12_divide_L191_body (X : pz_X) (n : Nat) (l0 : Option Nat) (l4 : Int32) (l6 : Int32) (l8 : Int32) (K191 : Int32 → pz_C Int32) (hK191 : ∀ (l9 : Int32), pz_Sm X (pz_QM X) J_X12_divide pz_vI 191 [(0, va_rf l0), (4, .int l4), (6, .int l6), (8, .int l8), (9, .int l9)] [] (K191 l9)) (l9 : Int32) : pz_Sm X (pz_QM X) J_X12_divide pz_vI 191 [(0, va_rf l0), (4, .int l4), (6, .int l6), (8, .int l8), (9, .int l9)] [] (X12_divide_L191_body n l0 l4 l6 l8 K191 l9) := by
  unfold X12_divide_L191_body
  refine pz_iload 4 dX12_divide_191 rfl ?_
  refine pz_if_le 215 dX12_divide_193 (by decide) ?_ ?_
  · exact pz_sub [0, 1, 2, 3, 4] rfl (S_X12_divide_b215 X n l0 l4 l6 l8 l9)
  · refine pz_aload_n 0 dX12_divide_196 rfl ?_
    refine pz_getR (ci := 12) (k := 34) ck_12 (by decide) (Or.inl pw_966) dX12_divide_197 (fun x12 => ?_)
    refine pz_iload 2 dX12_divide_200 rfl ?_
    refine pz_iload 4 dX12_divide_202 rfl ?_
    refine pz_iadd dX12_divide_204 ?_
    refine pz_iald (t := 0) rfl dX12_divide_205 (fun x13 => ?_)
    refine pz_if_ne 215 dX12_divide_206 (by decide) ?_ ?_
    · refine pz_iinc 4 (-1) (fun l9_14 => [(9, .int l9_14), (0, va_rf l0), (4, .int l4), (6, .int l6), (8, .int l8)]) dX12_divide_209 rfl (by decide) (by decide) (fun l9_14 => rfl) (fun l9_14 => ?_)
      refine pz_goto 191 dX12_divide_212 (by decide) ?_
      exact pz_sub [1, 2, 3, 4, 0] rfl (hK191 l9_14)
    · exact pz_sub [0, 1, 2, 3, 4] rfl (S_X12_divide_b215 X n l0 l4 l6 l8 l9)
set_option maxRecDepth 20000 in
theorem S_X12_divide_L191 (X : pz_X) (n : Nat) (l0 : Option Nat) (l4 : Int32) (l6 : Int32) (l8 : Int32) (l9 : Int32) : pz_Sm X (pz_QM X) J_X12_divide pz_vI 191 [(0, va_rf l0), (4, .int l4), (6, .int l6), (8, .int l8), (9, .int l9)] [] (X12_divide_L191 n l0 l4 l6 l8 l9) :=
  pz_lp (L := fun (s : Int32) => [(0, va_rf l0), (4, .int l4), (6, .int l6), (8, .int l8), (9, .int s)]) (fun K hK s => S_X12_divide_L191_body X n l0 l4 l6 l8 (fun l9 => K l9) (fun l9 => hK l9) s) n l9
set_option maxRecDepth 20000 in
theorem S_X12_divide_L155_body (X : pz_X) (n : Nat) (l0 : Option Nat) (l2 : Int32) (l4 : Int32) (l5 : Int32) (l6 : Int32) (l7 : Int32) (l8 : Int32) (K155 : Int32 → pz_C Int32) (hK155 : ∀ (l9 : Int32), pz_Sm X (pz_QM X) J_X12_divide pz_vI 155 [(0, va_rf l0), (2, .int l2), (4, .int l4), (5, .int l5), (6, .int l6), (7, .int l7), (8, .int l8), (9, .int l9)] [] (K155 l9)) (l9 : Int32) : pz_Sm X (pz_QM X) J_X12_divide pz_vI 155 [(0, va_rf l0), (2, .int l2), (4, .int l4), (5, .int l5), (6, .int l6), (7, .int l7), (8, .int l8), (9, .int l9)] [] (X12_divide_L155_body n l0 l2 l4 l5 l6 l7 l8 K155 l9) := by
  unfold X12_divide_L155_body
  refine pz_iload 7 dX12_divide_155 rfl ?_
  refine pz_if_le 187 dX12_divide_157 (by decide) ?_ ?_
  · refine pz_iload 5 dX12_divide_187 rfl ?_
    refine pz_istore [(9, .int l7), (0, va_rf l0), (2, .int l2), (4, .int l4), (5, .int l5), (6, .int l6), (7, .int l7), (8, .int l8)] dX12_divide_189 (by decide) rfl ?_
    exact pz_sub [1, 3, 5, 7, 0] rfl (S_X12_divide_L191 X n l0 l4 l6 l8 l7)
  · refine pz_aload_n 0 dX12_divide_160 rfl ?_
    refine pz_getR (ci := 12) (k := 34) ck_12 (by decide) (Or.inl pw_966) dX12_divide_161 (fun x15 => ?_)
    refine pz_iload 4 dX12_divide_164 rfl ?_
    refine pz_iload 7 dX12_divide_166 rfl ?_
    refine pz_iadd dX12_divide_168 ?_
    refine pz_aload_n 0 dX12_divide_169 rfl ?_
    refine pz_iload 6 dX12_divide_170 rfl ?_
    refine pz_iload 7 dX12_divide_172 rfl ?_
    refine pz_iload_n 1 dX12_divide_174 rfl ?_
    refine pz_iload 3 dX12_divide_175 rfl ?_
    refine pz_cvI (st := [.int (l6 + l9), va_rf x15]) (md_X12_digit X n l0 l8 l9 l2 l5) ck_12 rfl mk_X12_digit (Or.inl pw_1186) pw_1188 ps_59 rfl rfl (by simp [pz_rf1, pz_ci, pz_cl]) (by decide) (by decide) dX12_divide_177 (fun x16 => ?_)
    refine pz_iast (t := 0) rfl dX12_divide_180 ?_
    refine pz_iinc 7 (-1) (fun l9_17 => [(9, .int l9_17), (0, va_rf l0), (2, .int l2), (4, .int l4), (5, .int l5), (6, .int l6), (7, .int l7), (8, .int l8)]) dX12_divide_181 rfl (by decide) (by decide) (fun l9_17 => rfl) (fun l9_17 => ?_)
    refine pz_goto 155 dX12_divide_184 (by decide) ?_
    exact pz_sub [1, 2, 3, 4, 5, 6, 7, 0] rfl (hK155 l9_17)
set_option maxRecDepth 20000 in
theorem S_X12_divide_L155 (X : pz_X) (n : Nat) (l0 : Option Nat) (l2 : Int32) (l4 : Int32) (l5 : Int32) (l6 : Int32) (l7 : Int32) (l8 : Int32) (l9 : Int32) : pz_Sm X (pz_QM X) J_X12_divide pz_vI 155 [(0, va_rf l0), (2, .int l2), (4, .int l4), (5, .int l5), (6, .int l6), (7, .int l7), (8, .int l8), (9, .int l9)] [] (X12_divide_L155 n l0 l2 l4 l5 l6 l7 l8 l9) :=
  pz_lp (L := fun (s : Int32) => [(0, va_rf l0), (2, .int l2), (4, .int l4), (5, .int l5), (6, .int l6), (7, .int l7), (8, .int l8), (9, .int s)]) (fun K hK s => S_X12_divide_L155_body X n l0 l2 l4 l5 l6 l7 l8 (fun l9 => K l9) (fun l9 => hK l9) s) n l9
set_option maxRecDepth 20000 in
theorem S_X12_divide_L95_body (X : pz_X) (n : Nat) (l0 : Option Nat) (l1 : Int32) (l2 : Int32) (l4 : Int32) (l5 : Int32) (l6 : Int32) (l7 : Int32) (l8 : Int32) (K95 : Int32 → pz_C Int32) (hK95 : ∀ (l9 : Int32), pz_Sm X (pz_QM X) J_X12_divide pz_vI 95 [(0, va_rf l0), (1, .int l1), (2, .int l2), (4, .int l4), (5, .int l5), (6, .int l6), (7, .int l7), (8, .int l8), (9, .int l9)] [] (K95 l9)) (l9 : Int32) : pz_Sm X (pz_QM X) J_X12_divide pz_vI 95 [(0, va_rf l0), (1, .int l1), (2, .int l2), (4, .int l4), (5, .int l5), (6, .int l6), (7, .int l7), (8, .int l8), (9, .int l9)] [] (X12_divide_L95_body n l0 l1 l2 l4 l5 l6 l7 l8 K95 l9) := by
  unfold X12_divide_L95_body
  refine pz_iload 8 dX12_divide_95 rfl ?_
  refine pz_iload 3 dX12_divide_97 rfl ?_
  refine pz_icmp_gt 127 dX12_divide_99 (by decide) ?_ ?_
  · refine pz_aload_n 0 dX12_divide_127 rfl ?_
    refine pz_getR (ci := 12) (k := 34) ck_12 (by decide) (Or.inl pw_966) dX12_divide_128 (fun x6 => ?_)
    refine pz_iload 7 dX12_divide_131 rfl ?_
    refine pz_iload 3 dX12_divide_133 rfl ?_
    refine pz_iadd dX12_divide_135 ?_
    refine pz_iconst 1 dX12_divide_136 (by decide) ?_
    refine pz_iadd dX12_divide_137 ?_
    refine pz_iconst 0 dX12_divide_138 (by decide) ?_
    refine pz_iast (t := 0) rfl dX12_divide_139 ?_
    refine pz_aload_n 0 dX12_divide_140 rfl ?_
    refine pz_iload 7 dX12_divide_141 rfl ?_
    refine pz_iload 3 dX12_divide_143 rfl ?_
    refine pz_iadd dX12_divide_145 ?_
    refine pz_iconst 2 dX12_divide_146 (by decide) ?_
    refine pz_iadd dX12_divide_147 ?_
    refine pz_put (ci := 12) (k := 35) ck_12 (by decide) (Or.inl pw_967) (Or.inl rfl) rfl rfl dX12_divide_148 ?_
    refine pz_iload 6 dX12_divide_151 rfl ?_
    refine pz_istore [(9, .int l7), (0, va_rf l0), (1, .int l1), (2, .int l2), (4, .int l4), (5, .int l5), (6, .int l6), (7, .int l7), (8, .int l8)] dX12_divide_153 (by decide) rfl ?_
    exact pz_sub [1, 3, 4, 5, 6, 7, 8, 0] rfl (S_X12_divide_L155 X n l0 l2 l4 l5 l6 l7 l8 l7)
  · refine pz_aload_n 0 dX12_divide_102 rfl ?_
    refine pz_getR (ci := 12) (k := 34) ck_12 (by decide) (Or.inl pw_966) dX12_divide_103 (fun x18 => ?_)
    refine pz_iload 7 dX12_divide_106 rfl ?_
    refine pz_iload 8 dX12_divide_108 rfl ?_
    refine pz_iadd dX12_divide_110 ?_
    refine pz_aload_n 0 dX12_divide_111 rfl ?_
    refine pz_getR (ci := 12) (k := 34) ck_12 (by decide) (Or.inl pw_966) dX12_divide_112 (fun x19 => ?_)
    refine pz_iload_n 1 dX12_divide_115 rfl ?_
    refine pz_iload 8 dX12_divide_116 rfl ?_
    refine pz_iadd dX12_divide_118 ?_
    refine pz_iald (t := 0) rfl dX12_divide_119 (fun x20 => ?_)
    refine pz_iast (t := 0) rfl dX12_divide_120 ?_
    refine pz_iinc 8 1 (fun l9_21 => [(9, .int l9_21), (0, va_rf l0), (1, .int l1), (2, .int l2), (4, .int l4), (5, .int l5), (6, .int l6), (7, .int l7), (8, .int l8)]) dX12_divide_121 rfl (by decide) (by decide) (fun l9_21 => rfl) (fun l9_21 => ?_)
    refine pz_goto 95 dX12_divide_124 (by decide) ?_
    exact pz_sub [1, 2, 3, 4, 5, 6, 7, 8, 0] rfl (hK95 l9_21)
set_option maxRecDepth 20000 in
theorem S_X12_divide_L95 (X : pz_X) (n : Nat) (l0 : Option Nat) (l1 : Int32) (l2 : Int32) (l4 : Int32) (l5 : Int32) (l6 : Int32) (l7 : Int32) (l8 : Int32) (l9 : Int32) : pz_Sm X (pz_QM X) J_X12_divide pz_vI 95 [(0, va_rf l0), (1, .int l1), (2, .int l2), (4, .int l4), (5, .int l5), (6, .int l6), (7, .int l7), (8, .int l8), (9, .int l9)] [] (X12_divide_L95 n l0 l1 l2 l4 l5 l6 l7 l8 l9) :=
  pz_lp (L := fun (s : Int32) => [(0, va_rf l0), (1, .int l1), (2, .int l2), (4, .int l4), (5, .int l5), (6, .int l6), (7, .int l7), (8, .int l8), (9, .int s)]) (fun K hK s => S_X12_divide_L95_body X n l0 l1 l2 l4 l5 l6 l7 l8 (fun l9 => K l9) (fun l9 => hK l9) s) n l9
set_option maxRecDepth 20000 in
theorem S_X12_divide_L51_body (X : pz_X) (n : Nat) (l0 : Option Nat) (l1 : Int32) (l2 : Int32) (l4 : Int32) (l5 : Int32) (l6 : Int32) (l7 : Int32) (K51 : Int32 → pz_C Int32) (hK51 : ∀ (l8 : Int32), pz_Sm X (pz_QM X) J_X12_divide pz_vI 51 [(0, va_rf l0), (1, .int l1), (2, .int l2), (4, .int l4), (5, .int l5), (6, .int l6), (7, .int l7), (8, .int l8)] [] (K51 l8)) (l8 : Int32) : pz_Sm X (pz_QM X) J_X12_divide pz_vI 51 [(0, va_rf l0), (1, .int l1), (2, .int l2), (4, .int l4), (5, .int l5), (6, .int l6), (7, .int l7), (8, .int l8)] [] (X12_divide_L51_body n l0 l1 l2 l4 l5 l6 l7 K51 l8) := by
  unfold X12_divide_L51_body
  refine pz_iload 7 dX12_divide_51 rfl ?_
  refine pz_iload 6 dX12_divide_53 rfl ?_
  refine pz_icmp_gt 75 dX12_divide_55 (by decide) ?_ ?_
  · refine pz_aload_n 0 dX12_divide_75 rfl ?_
    refine pz_iload 5 dX12_divide_76 rfl ?_
    refine pz_iload 6 dX12_divide_78 rfl ?_
    refine pz_iadd dX12_divide_80 ?_
    refine pz_iconst 1 dX12_divide_81 (by decide) ?_
    refine pz_iadd dX12_divide_82 ?_
    refine pz_put (ci := 12) (k := 35) ck_12 (by decide) (Or.inl pw_967) (Or.inl rfl) rfl rfl dX12_divide_83 ?_
    refine pz_aload_n 0 dX12_divide_86 rfl ?_
    refine pz_getI (ci := 12) (k := 35) ck_12 (by decide) (Or.inl pw_967) dX12_divide_87 (fun x5 => ?_)
    refine pz_istore [(8, .int x5), (0, va_rf l0), (1, .int l1), (2, .int l2), (4, .int l4), (5, .int l5), (6, .int l6), (7, .int l7)] dX12_divide_90 (by decide) rfl ?_
    refine pz_iconst 1 dX12_divide_92 (by decide) ?_
    refine pz_istore [(9, .int 1), (8, .int x5), (0, va_rf l0), (1, .int l1), (2, .int l2), (4, .int l4), (5, .int l5), (6, .int l6), (7, .int l7)] dX12_divide_93 (by decide) rfl ?_
    exact pz_sub [2, 3, 4, 5, 6, 7, 8, 1, 0] rfl (S_X12_divide_L95 X n l0 l1 l2 l4 l5 l6 l7 x5 1)
  · refine pz_aload_n 0 dX12_divide_58 rfl ?_
    refine pz_getR (ci := 12) (k := 34) ck_12 (by decide) (Or.inl pw_966) dX12_divide_59 (fun x22 => ?_)
    refine pz_iload 5 dX12_divide_62 rfl ?_
    refine pz_iload 7 dX12_divide_64 rfl ?_
    refine pz_iadd dX12_divide_66 ?_
    refine pz_iconst 0 dX12_divide_67 (by decide) ?_
    refine pz_iast (t := 0) rfl dX12_divide_68 ?_
    refine pz_iinc 7 1 (fun l8_23 => [(8, .int l8_23), (0, va_rf l0), (1, .int l1), (2, .int l2), (4, .int l4), (5, .int l5), (6, .int l6), (7, .int l7)]) dX12_divide_69 rfl (by decide) (by decide) (fun l8_23 => rfl) (fun l8_23 => ?_)
    refine pz_goto 51 dX12_divide_72 (by decide) ?_
    exact pz_sub [1, 2, 3, 4, 5, 6, 7, 0] rfl (hK51 l8_23)
set_option maxRecDepth 20000 in
theorem S_X12_divide_L51 (X : pz_X) (n : Nat) (l0 : Option Nat) (l1 : Int32) (l2 : Int32) (l4 : Int32) (l5 : Int32) (l6 : Int32) (l7 : Int32) (l8 : Int32) : pz_Sm X (pz_QM X) J_X12_divide pz_vI 51 [(0, va_rf l0), (1, .int l1), (2, .int l2), (4, .int l4), (5, .int l5), (6, .int l6), (7, .int l7), (8, .int l8)] [] (X12_divide_L51 n l0 l1 l2 l4 l5 l6 l7 l8) :=
  pz_lp (L := fun (s : Int32) => [(0, va_rf l0), (1, .int l1), (2, .int l2), (4, .int l4), (5, .int l5), (6, .int l6), (7, .int l7), (8, .int s)]) (fun K hK s => S_X12_divide_L51_body X n l0 l1 l2 l4 l5 l6 l7 (fun l8 => K l8) (fun l8 => hK l8) s) n l8
set_option maxRecDepth 20000 in
theorem S_X12_divide_b46 (X : pz_X) (n : Nat) (l0 : Option Nat) (l1 : Int32) (l2 : Int32) (l4 : Int32) (l5 : Int32) (l6 : Int32) (s0 : Int32) : pz_Sm X (pz_QM X) J_X12_divide pz_vI 46 [(0, va_rf l0), (1, .int l1), (2, .int l2), (4, .int l4), (5, .int l5), (6, .int l6)] [.int s0] (X12_divide_b46 n l0 l1 l2 l4 l5 l6 s0) := by
  unfold X12_divide_b46
  refine pz_istore [(7, .int s0), (0, va_rf l0), (1, .int l1), (2, .int l2), (4, .int l4), (5, .int l5), (6, .int l6)] dX12_divide_46 (by decide) rfl ?_
  refine pz_iconst 0 dX12_divide_48 (by decide) ?_
  refine pz_istore [(8, .int 0), (7, .int s0), (0, va_rf l0), (1, .int l1), (2, .int l2), (4, .int l4), (5, .int l5), (6, .int l6)] dX12_divide_49 (by decide) rfl ?_
  exact pz_sub [2, 3, 4, 5, 6, 7, 1, 0] rfl (S_X12_divide_L51 X n l0 l1 l2 l4 l5 l6 s0 0)
set_option maxRecDepth 20000 in
theorem S_X12_divide (X : pz_X) (n : Nat) (l0 : Option Nat) (l1 : Int32) (l2 : Int32) : pz_Sm X (pz_QM X) J_X12_divide pz_vI 0 [(0, va_rf l0), (1, .int l1), (2, .int l2)] [] (X12_divide n l0 l1 l2) := by
  unfold X12_divide
  refine pz_aload_n 0 dX12_divide_0 rfl ?_
  refine pz_getI (ci := 12) (k := 35) ck_12 (by decide) (Or.inl pw_967) dX12_divide_1 (fun x1 => ?_)
  refine pz_istore_n [(3, .int x1), (0, va_rf l0), (1, .int l1), (2, .int l2)] dX12_divide_4 (by decide) rfl ?_
  refine pz_aload_n 1 dX12_divide_5 rfl ?_
  refine pz_iload_n 2 dX12_divide_6 rfl ?_
  refine pz_cvI (st := []) (md_X12_limbs X n l0 l1) ck_12 rfl mk_X12_limbs (Or.inl pw_928) pw_930 ps_32 rfl rfl (by decide) (by decide) (by decide) dX12_divide_7 (fun x2 => ?_)
  refine pz_istore [(4, .int x2), (3, .int x1), (0, va_rf l0), (1, .int l1), (2, .int l2)] dX12_divide_10 (by decide) rfl ?_
  refine pz_aload_n 2 dX12_divide_12 rfl ?_
  refine pz_iload_n 4 dX12_divide_13 rfl ?_
  refine pz_cvI (st := []) (md_X12_limbs X n l0 l2) ck_12 rfl mk_X12_limbs (Or.inl pw_928) pw_930 ps_32 rfl rfl (by decide) (by decide) (by decide) dX12_divide_14 (fun x3 => ?_)
  refine pz_istore [(5, .int x3), (4, .int x2), (3, .int x1), (0, va_rf l0), (1, .int l1), (2, .int l2)] dX12_divide_17 (by decide) rfl ?_
  refine pz_aload_n 3 dX12_divide_19 rfl ?_
  refine pz_getI (ci := 12) (k := 35) ck_12 (by decide) (Or.inl pw_967) dX12_divide_20 (fun x4 => ?_)
  refine pz_istore [(6, .int x4), (5, .int x3), (4, .int x2), (3, .int x1), (0, va_rf l0), (1, .int l1), (2, .int l2)] dX12_divide_23 (by decide) rfl ?_
  refine pz_iload 2 dX12_divide_25 rfl ?_
  refine pz_iload 1 dX12_divide_27 rfl ?_
  refine pz_isub dX12_divide_29 ?_
  refine pz_iconst 1 dX12_divide_30 (by decide) ?_
  refine pz_iadd dX12_divide_31 ?_
  refine pz_if_le 45 dX12_divide_32 (by decide) ?_ ?_
  · refine pz_iconst 0 dX12_divide_45 (by decide) ?_
    exact pz_sub [4, 5, 6, 2, 1, 0] rfl (S_X12_divide_b46 X n l0 l1 l2 x2 x3 x4 0)
  · refine pz_iload 2 dX12_divide_35 rfl ?_
    refine pz_iload 1 dX12_divide_37 rfl ?_
    refine pz_isub dX12_divide_39 ?_
    refine pz_iconst 1 dX12_divide_40 (by decide) ?_
    refine pz_iadd dX12_divide_41 ?_
    refine pz_goto 46 dX12_divide_42 (by decide) ?_
    exact pz_sub [4, 5, 6, 2, 1, 0] rfl (S_X12_divide_b46 X n l0 l1 l2 x2 x3 x4 ((x2 - x3) + 1))
set_option maxRecDepth 20000 in
theorem md_X12_divide (X : pz_X) (n : Nat) (l0 : Option Nat) (l1 : Int32) (l2 : Int32) : pz_Md X yX12_divide J_X12_divide pz_vI [va_rf l0, .int l1, .int l2] (X12_divide n l0 l1 l2) :=
  pz_md [(0, va_rf l0), (1, .int l1), (2, .int l2)] (by decide +kernel) rfl rfl (by cases l0 <;> rfl) (by cases l0 <;> exact Nat.le_of_ble_eq_true rfl) (fun X => S_X12_divide X n l0 l1 l2)
set_option maxRecDepth 20000 in
theorem S_X12_over_b110 (X : pz_X) (n : Nat) (l0 : Option Nat) (l3 : Int32) (l5 : Int32) : pz_Sm X (pz_QM X) J_X12_over pz_vI 110 [(0, va_rf l0), (3, .int l3), (5, .int l5)] [] (X12_over_b110 n l0 l3 l5) := by
  unfold X12_over_b110
  refine pz_aload_n 0 dX12_over_110 rfl ?_
  refine pz_iload_n 1 dX12_over_111 rfl ?_
  refine pz_iload 2 dX12_over_112 rfl ?_
  refine pz_cvI (st := []) (md_X12_keep X n l0 l3 l5) ck_12 rfl mk_X12_keep (Or.inl pw_1143) pw_1145 ps_49 rfl rfl (by decide) (by decide) (by decide) dX12_over_114 (fun x11 => ?_)
  exact pz_iret rfl dX12_over_117
set_option maxRecDepth 20000 in
theorem S_X12_over_b86 (X : pz_X) (n : Nat) (l0 : Option Nat) (l3 : Int32) (l5 : Int32) (l6 : Int32) (l7 : Int32) (s0 : Option Nat) (s1 : Int32) (s2 : Int32) : pz_Sm X (pz_QM X) J_X12_over pz_vI 86 [(0, va_rf l0), (3, .int l3), (5, .int l5), (6, .int l6), (7, .int l7)] [.int s2, .int s1, va_rf s0] (X12_over_b86 n l0 l3 l5 l6 l7 s0 s1 s2) := by
  unfold X12_over_b86
  refine pz_iast (t := 0) rfl dX12_over_86 ?_
  refine pz_iload 3 dX12_over_87 rfl ?_
  refine pz_if_eq 110 dX12_over_89 (by decide) ?_ ?_
  · exact pz_sub [0, 1, 2] rfl (S_X12_over_b110 X n l0 l3 l5)
  · refine pz_iload 4 dX12_over_92 rfl ?_
    refine pz_if_eq 110 dX12_over_94 (by decide) ?_ ?_
    · exact pz_sub [0, 1, 2] rfl (S_X12_over_b110 X n l0 l3 l5)
    · refine pz_aload_n 0 dX12_over_97 rfl ?_
      refine pz_iload 2 dX12_over_98 rfl ?_
      refine pz_aload_n 0 dX12_over_100 rfl ?_
      refine pz_lconst 1 dX12_over_101 (by decide) ?_
      refine pz_cvI (st := [.int l5, va_rf l0]) (md_X12_plainOf X n l0 1) ck_12 rfl mk_X12_plainOf (Or.inl pw_919) pw_921 ps_30 rfl rfl (by simp [pz_rf1, pz_ci, pz_cl]) (by decide) (by decide) dX12_over_102 (fun x12 => ?_)
      refine pz_cvI (st := []) (md_X12_minus X n l0 l5 x12) ck_12 rfl mk_X12_minus (Or.inl pw_1170) pw_1172 ps_55 rfl rfl (by decide) (by decide) (by decide) dX12_over_105 (fun x13 => ?_)
      refine pz_istore [(5, .int x13), (0, va_rf l0), (3, .int l3), (6, .int l6), (7, .int l7)] dX12_over_108 (by decide) rfl ?_
      exact pz_sub [1, 2, 0] rfl (S_X12_over_b110 X n l0 l3 x13)
set_option maxRecDepth 20000 in
theorem S_X12_over_b55 (X : pz_X) (n : Nat) (l0 : Option Nat) (l3 : Int32) (l5 : Int32) (l6 : Int32) (s0 : Int32) : pz_Sm X (pz_QM X) J_X12_over pz_vI 55 [(0, va_rf l0), (3, .int l3), (5, .int l5), (6, .int l6)] [.int s0] (X12_over_b55 n l0 l3 l5 l6 s0) := by
  unfold X12_over_b55
  refine pz_istore [(7, .int s0), (0, va_rf l0), (3, .int l3), (5, .int l5), (6, .int l6)] dX12_over_55 (by decide) rfl ?_
  refine pz_aload_n 1 dX12_over_57 rfl ?_
  refine pz_getR (ci := 12) (k := 34) ck_12 (by decide) (Or.inl pw_966) dX12_over_58 (fun x8 => ?_)
  refine pz_iload 3 dX12_over_61 rfl ?_
  refine pz_iload 4 dX12_over_63 rfl ?_
  refine pz_if_eq 79 dX12_over_65 (by decide) ?_ ?_
  · refine pz_aload_n 1 dX12_over_79 rfl ?_
    refine pz_getR (ci := 12) (k := 34) ck_12 (by decide) (Or.inl pw_966) dX12_over_80 (fun x9 => ?_)
    refine pz_iload 3 dX12_over_83 rfl ?_
    refine pz_iald (t := 0) rfl dX12_over_85 (fun x10 => ?_)
    exact pz_sub [1, 2, 3, 4, 0] rfl (S_X12_over_b86 X n l0 l3 l5 l6 s0 x8 l5 x10)
  · refine pz_aload_n 1 dX12_over_68 rfl ?_
    refine pz_getR (ci := 12) (k := 34) ck_12 (by decide) (Or.inl pw_966) dX12_over_69 (fun x14 => ?_)
    refine pz_iload 3 dX12_over_72 rfl ?_
    refine pz_iald (t := 0) rfl dX12_over_74 (fun x15 => ?_)
    refine pz_ineg dX12_over_75 ?_
    refine pz_goto 86 dX12_over_76 (by decide) ?_
    exact pz_sub [1, 2, 3, 4, 0] rfl (S_X12_over_b86 X n l0 l3 l5 l6 s0 x8 l5 (-x15))
set_option maxRecDepth 20000 in
theorem S_X12_over_b38 (X : pz_X) (n : Nat) (l0 : Option Nat) (l3 : Int32) (l4 : Int32) (l5 : Int32) (s0 : Int32) : pz_Sm X (pz_QM X) J_X12_over pz_vI 38 [(0, va_rf l0), (3, .int l3), (4, .int l4), (5, .int l5)] [.int s0] (X12_over_b38 n l0 l3 l4 l5 s0) := by
  unfold X12_over_b38
  refine pz_istore [(6, .int s0), (0, va_rf l0), (3, .int l3), (4, .int l4), (5, .int l5)] dX12_over_38 (by decide) rfl ?_
  refine pz_aload_n 1 dX12_over_40 rfl ?_
  refine pz_getR (ci := 12) (k := 34) ck_12 (by decide) (Or.inl pw_966) dX12_over_41 (fun x6 => ?_)
  refine pz_iload 3 dX12_over_44 rfl ?_
  refine pz_iald (t := 0) rfl dX12_over_46 (fun x7 => ?_)
  refine pz_if_eq 54 dX12_over_47 (by decide) ?_ ?_
  · refine pz_iconst 0 dX12_over_54 (by decide) ?_
    exact pz_sub [1, 2, 4, 0] rfl (S_X12_over_b55 X n l0 l3 l5 s0 0)
  · refine pz_iconst 1 dX12_over_50 (by decide) ?_
    refine pz_goto 55 dX12_over_51 (by decide) ?_
    exact pz_sub [1, 2, 4, 0] rfl (S_X12_over_b55 X n l0 l3 l5 s0 1)
set_option maxRecDepth 20000 in
theorem S_X12_over (X : pz_X) (n : Nat) (l0 : Option Nat) (l1 : Int32) (l2 : Int32) : pz_Sm X (pz_QM X) J_X12_over pz_vI 0 [(0, va_rf l0), (1, .int l1), (2, .int l2)] [] (X12_over n l0 l1 l2) := by
  unfold X12_over
  refine pz_aload_n 0 dX12_over_0 rfl ?_
  refine pz_getI (ci := 12) (k := 35) ck_12 (by decide) (Or.inl pw_967) dX12_over_1 (fun x1 => ?_)
  refine pz_istore_n [(3, .int x1), (0, va_rf l0), (1, .int l1), (2, .int l2)] dX12_over_4 (by decide) rfl ?_
  refine pz_aload_n 1 dX12_over_5 rfl ?_
  refine pz_iload_n 2 dX12_over_6 rfl ?_
  refine pz_iload_n 3 dX12_over_7 rfl ?_
  refine pz_cvI (st := []) (md_X12_divide X n l0 l1 l2) ck_12 rfl mk_X12_divide (Or.inl pw_1182) pw_1184 ps_58 rfl rfl (by decide) (by decide) (by decide) dX12_over_8 (fun x2 => ?_)
  refine pz_istore [(4, .int x2), (3, .int x1), (0, va_rf l0), (1, .int l1), (2, .int l2)] dX12_over_11 (by decide) rfl ?_
  refine pz_aload_n 2 dX12_over_13 rfl ?_
  refine pz_getI (ci := 12) (k := 36) ck_12 (by decide) (Or.inl pw_968) dX12_over_14 (fun x3 => ?_)
  refine pz_istore [(5, .int x3), (4, .int x2), (3, .int x1), (0, va_rf l0), (1, .int l1), (2, .int l2)] dX12_over_17 (by decide) rfl ?_
  refine pz_aload_n 3 dX12_over_19 rfl ?_
  refine pz_iload_n 4 dX12_over_20 rfl ?_
  refine pz_cvI (st := []) (md_X12_sgn X n l0 l1) ck_12 rfl mk_X12_sgn (Or.inl pw_1122) pw_1124 ps_44 rfl rfl (by decide) (by decide) (by decide) dX12_over_21 (fun x4 => ?_)
  refine pz_aload_n 3 dX12_over_24 rfl ?_
  refine pz_iload_n 5 dX12_over_25 rfl ?_
  refine pz_cvI (st := [.int x4]) (md_X12_sgn X n l0 l2) ck_12 rfl mk_X12_sgn (Or.inl pw_1122) pw_1124 ps_44 rfl rfl (by simp [pz_rf1, pz_ci, pz_cl]) (by decide) (by decide) dX12_over_26 (fun x5 => ?_)
  refine pz_imul dX12_over_29 ?_
  refine pz_if_ge 37 dX12_over_30 (by decide) ?_ ?_
  · refine pz_iconst 0 dX12_over_37 (by decide) ?_
    exact pz_sub [3, 2, 1, 0] rfl (S_X12_over_b38 X n l0 x1 x2 x3 0)
  · refine pz_iconst 1 dX12_over_33 (by decide) ?_
    refine pz_goto 38 dX12_over_34 (by decide) ?_
    exact pz_sub [3, 2, 1, 0] rfl (S_X12_over_b38 X n l0 x1 x2 x3 1)
set_option maxRecDepth 20000 in
theorem md_X12_over (X : pz_X) (n : Nat) (l0 : Option Nat) (l1 : Int32) (l2 : Int32) : pz_Md X yX12_over J_X12_over pz_vI [va_rf l0, .int l1, .int l2] (X12_over n l0 l1 l2) :=
  pz_md [(0, va_rf l0), (1, .int l1), (2, .int l2)] (by decide +kernel) rfl rfl (by cases l0 <;> rfl) (by cases l0 <;> exact Nat.le_of_ble_eq_true rfl) (fun X => S_X12_over X n l0 l1 l2)
set_option maxRecDepth 20000 in
theorem S_X12_exchange_b354 (X : pz_X) (n : Nat) (l0 : Option Nat) (l1 : Int32) (l2 : Int32) (l3 : Int32) (l4 : Int32) (l5 : Int32) (s0 : Option Nat) (s1 : Int32) : pz_Sm X (pz_QM X) J_X12_exchange pz_vU 354 [(0, va_rf l0), (1, .int l1), (2, .int l2), (3, .int l3), (4, .int l4), (5, .int l5)] [.int s1, va_rf s0] (X12_exchange_b354 n l0 l1 l2 l3 l4 l5 s0 s1) := by
  unfold X12_exchange_b354
  refine pz_iconst 0 dX12_exchange_354 (by decide) ?_
  refine pz_cvU (st := []) (md_X12_copyTo X n s0 s1 0) ck_12 rfl mk_X12_copyTo (Or.inl pw_924) pw_926 ps_31 rfl rfl (by decide) (by decide) (by decide) dX12_exchange_355 (fun _ => ?_)
  refine pz_aload_n 0 dX12_exchange_358 rfl ?_
  refine pz_iload 5 dX12_exchange_359 rfl ?_
  refine pz_put (ci := 12) (k := 35) ck_12 (by decide) (Or.inl pw_967) (Or.inl rfl) rfl rfl dX12_exchange_361 ?_
  refine pz_aload_n 0 dX12_exchange_364 rfl ?_
  refine pz_getR (ci := 12) (k := 13) ck_12 (by decide) (Or.inl pw_945) dX12_exchange_365 (fun x20 => ?_)
  refine pz_iload_n 1 dX12_exchange_368 rfl ?_
  refine pz_iload 4 dX12_exchange_369 rfl ?_
  refine pz_iast (t := 0) rfl dX12_exchange_371 ?_
  refine pz_aload_n 0 dX12_exchange_372 rfl ?_
  refine pz_getR (ci := 12) (k := 14) ck_12 (by decide) (Or.inl pw_946) dX12_exchange_373 (fun x21 => ?_)
  refine pz_iload_n 2 dX12_exchange_376 rfl ?_
  refine pz_iload_n 3 dX12_exchange_377 rfl ?_
  refine pz_iast (t := 0) rfl dX12_exchange_378 ?_
  exact pz_vret rfl dX12_exchange_379
set_option maxRecDepth 20000 in
theorem S_X12_exchange_b329 (X : pz_X) (n : Nat) (l0 : Option Nat) (l1 : Int32) (l2 : Int32) (l3 : Int32) (l4 : Int32) (l5 : Int32) (l6 : Int32) (l7 : Int32) (s0 : Option Nat) (s1 : Int32) : pz_Sm X (pz_QM X) J_X12_exchange pz_vU 329 [(0, va_rf l0), (1, .int l1), (2, .int l2), (3, .int l3), (4, .int l4), (5, .int l5), (6, .int l6), (7, .int l7)] [.int s1, va_rf s0] (X12_exchange_b329 n l0 l1 l2 l3 l4 l5 l6 l7 s0 s1) := by
  unfold X12_exchange_b329
  refine pz_iload_n 1 dX12_exchange_329 rfl ?_
  refine pz_iload_n 2 dX12_exchange_330 rfl ?_
  refine pz_csI (st := [.int s1, va_rf s0]) (md_X12_factorAt X n l1 l2) mk_X12_factorAt (Or.inl pw_1083) pw_1084 rfl rfl (by simp [pz_rf1, pz_ci, pz_cl]) (by decide) (by decide) dX12_exchange_331 (fun x17 => ?_)
  refine pz_cvU (st := []) (md_X12_copyTo X n s0 s1 x17) ck_12 rfl mk_X12_copyTo (Or.inl pw_924) pw_926 ps_31 rfl rfl (by decide) (by decide) (by decide) dX12_exchange_334 (fun _ => ?_)
  refine pz_aload_n 0 dX12_exchange_337 rfl ?_
  refine pz_iload 7 dX12_exchange_338 rfl ?_
  refine pz_if_eq 352 dX12_exchange_340 (by decide) ?_ ?_
  · refine pz_iload 6 dX12_exchange_352 rfl ?_
    exact pz_sub [0, 1, 2, 3, 4, 5] rfl (S_X12_exchange_b354 X n l0 l1 l2 l3 l4 l5 l0 l6)
  · refine pz_aload_n 0 dX12_exchange_343 rfl ?_
    refine pz_iload 6 dX12_exchange_344 rfl ?_
    refine pz_cvI (st := [va_rf l0]) (md_X12_less X n l0 l6) ck_12 rfl mk_X12_less (Or.inl pw_1174) pw_1176 ps_56 rfl rfl (by simp [pz_rf1, pz_ci, pz_cl]) (by decide) (by decide) dX12_exchange_346 (fun x22 => ?_)
    refine pz_goto 354 dX12_exchange_349 (by decide) ?_
    exact pz_sub [0, 1, 2, 3, 4, 5] rfl (S_X12_exchange_b354 X n l0 l1 l2 l3 l4 l5 l0 x22)
set_option maxRecDepth 20000 in
theorem S_X12_exchange_b306 (X : pz_X) (n : Nat) (l0 : Option Nat) (l1 : Int32) (l2 : Int32) (l3 : Int32) (l4 : Int32) (l5 : Int32) (l6 : Int32) (l7 : Int32) (l8 : Int32) (K253 : Int32 → pz_C Unit) (hK253 : ∀ (l9 : Int32), pz_Sm X (pz_QM X) J_X12_exchange pz_vU 253 [(0, va_rf l0), (1, .int l1), (2, .int l2), (3, .int l3), (4, .int l4), (5, .int l5), (6, .int l6), (7, .int l7), (8, .int l8), (9, .int l9)] [] (K253 l9)) (l9 : Int32) : pz_Sm X (pz_QM X) J_X12_exchange pz_vU 306 [(0, va_rf l0), (1, .int l1), (2, .int l2), (3, .int l3), (4, .int l4), (5, .int l5), (6, .int l6), (7, .int l7), (8, .int l8), (9, .int l9)] [] (X12_exchange_b306 n K253 l0 l1 l2 l3 l4 l5 l6 l7 l8 l9) := by
  unfold X12_exchange_b306
  refine pz_iinc 9 1 (fun l9_24 => [(9, .int l9_24), (0, va_rf l0), (1, .int l1), (2, .int l2), (3, .int l3), (4, .int l4), (5, .int l5), (6, .int l6), (7, .int l7), (8, .int l8)]) dX12_exchange_306 rfl (by decide) (by decide) (fun l9_24 => rfl) (fun l9_24 => ?_)
  refine pz_goto 253 dX12_exchange_309 (by decide) ?_
  exact pz_sub [1, 2, 3, 4, 5, 6, 7, 8, 9, 0] rfl (hK253 l9_24)
set_option maxRecDepth 20000 in
theorem S_X12_exchange_b297 (X : pz_X) (n : Nat) (l0 : Option Nat) (l1 : Int32) (l2 : Int32) (l3 : Int32) (l4 : Int32) (l5 : Int32) (l6 : Int32) (l7 : Int32) (l8 : Int32) (K253 : Int32 → pz_C Unit) (hK253 : ∀ (l9 : Int32), pz_Sm X (pz_QM X) J_X12_exchange pz_vU 253 [(0, va_rf l0), (1, .int l1), (2, .int l2), (3, .int l3), (4, .int l4), (5, .int l5), (6, .int l6), (7, .int l7), (8, .int l8), (9, .int l9)] [] (K253 l9)) (l9 : Int32) (s0 : Option Nat) (s1 : Int32) : pz_Sm X (pz_QM X) J_X12_exchange pz_vU 297 [(0, va_rf l0), (1, .int l1), (2, .int l2), (3, .int l3), (4, .int l4), (5, .int l5), (6, .int l6), (7, .int l7), (8, .int l8), (9, .int l9)] [.int s1, va_rf s0] (X12_exchange_b297 n K253 l0 l1 l2 l3 l4 l5 l6 l7 l8 l9 s0 s1) := by
  unfold X12_exchange_b297
  refine pz_iload_n 1 dX12_exchange_297 rfl ?_
  refine pz_iload 9 dX12_exchange_298 rfl ?_
  refine pz_csI (st := [.int s1, va_rf s0]) (md_X12_factorAt X n l1 l9) mk_X12_factorAt (Or.inl pw_1083) pw_1084 rfl rfl (by simp [pz_rf1, pz_ci, pz_cl]) (by decide) (by decide) dX12_exchange_300 (fun x27 => ?_)
  refine pz_cvU (st := []) (md_X12_copyTo X n s0 s1 x27) ck_12 rfl mk_X12_copyTo (Or.inl pw_924) pw_926 ps_31 rfl rfl (by decide) (by decide) (by decide) dX12_exchange_303 (fun _ => ?_)
  exact pz_sub [0, 1, 2, 3, 4, 5, 6, 7, 8, 9] rfl (S_X12_exchange_b306 X n l0 l1 l2 l3 l4 l5 l6 l7 l8 K253 hK253 l9)
set_option maxRecDepth 20000 in
theorem S_X12_exchange_L253_body (X : pz_X) (n : Nat) (l0 : Option Nat) (l1 : Int32) (l2 : Int32) (l3 : Int32) (l4 : Int32) (l5 : Int32) (l6 : Int32) (l7 : Int32) (l8 : Int32) (K253 : Int32 → pz_C Unit) (hK253 : ∀ (l9 : Int32), pz_Sm X (pz_QM X) J_X12_exchange pz_vU 253 [(0, va_rf l0), (1, .int l1), (2, .int l2), (3, .int l3), (4, .int l4), (5, .int l5), (6, .int l6), (7, .int l7), (8, .int l8), (9, .int l9)] [] (K253 l9)) (l9 : Int32) : pz_Sm X (pz_QM X) J_X12_exchange pz_vU 253 [(0, va_rf l0), (1, .int l1), (2, .int l2), (3, .int l3), (4, .int l4), (5, .int l5), (6, .int l6), (7, .int l7), (8, .int l8), (9, .int l9)] [] (X12_exchange_L253_body n l0 l1 l2 l3 l4 l5 l6 l7 l8 K253 l9) := by
  unfold X12_exchange_L253_body
  refine pz_iload 9 dX12_exchange_253 rfl ?_
  refine pz_aload_n 0 dX12_exchange_255 rfl ?_
  refine pz_getI (ci := 12) (k := 0) ck_12 (by decide) (Or.inl pw_932) dX12_exchange_256 (fun x16 => ?_)
  refine pz_icmp_ge 312 dX12_exchange_259 (by decide) ?_ ?_
  · refine pz_aload_n 0 dX12_exchange_312 rfl ?_
    refine pz_iload 7 dX12_exchange_313 rfl ?_
    refine pz_if_eq 327 dX12_exchange_315 (by decide) ?_ ?_
    · refine pz_iload 8 dX12_exchange_327 rfl ?_
      exact pz_sub [0, 1, 2, 3, 4, 5, 6, 7] rfl (S_X12_exchange_b329 X n l0 l1 l2 l3 l4 l5 l6 l7 l0 l8)
    · refine pz_aload_n 0 dX12_exchange_318 rfl ?_
      refine pz_iload 8 dX12_exchange_319 rfl ?_
      refine pz_cvI (st := [va_rf l0]) (md_X12_less X n l0 l8) ck_12 rfl mk_X12_less (Or.inl pw_1174) pw_1176 ps_56 rfl rfl (by simp [pz_rf1, pz_ci, pz_cl]) (by decide) (by decide) dX12_exchange_321 (fun x23 => ?_)
      refine pz_goto 329 dX12_exchange_324 (by decide) ?_
      exact pz_sub [0, 1, 2, 3, 4, 5, 6, 7] rfl (S_X12_exchange_b329 X n l0 l1 l2 l3 l4 l5 l6 l7 l0 x23)
  · refine pz_iload 9 dX12_exchange_262 rfl ?_
    refine pz_iload_n 2 dX12_exchange_264 rfl ?_
    refine pz_icmp_eq 306 dX12_exchange_265 (by decide) ?_ ?_
    · exact pz_sub [0, 1, 2, 3, 4, 5, 6, 7, 8, 9] rfl (S_X12_exchange_b306 X n l0 l1 l2 l3 l4 l5 l6 l7 l8 K253 hK253 l9)
    · refine pz_aload_n 0 dX12_exchange_268 rfl ?_
      refine pz_iload 7 dX12_exchange_269 rfl ?_
      refine pz_if_eq 287 dX12_exchange_271 (by decide) ?_ ?_
      · refine pz_aload_n 0 dX12_exchange_287 rfl ?_
        refine pz_iload_n 1 dX12_exchange_288 rfl ?_
        refine pz_iload 9 dX12_exchange_289 rfl ?_
        refine pz_csI (st := [va_rf l0, va_rf l0]) (md_X12_factorAt X n l1 l9) mk_X12_factorAt (Or.inl pw_1083) pw_1084 rfl rfl (by simp [pz_rf1, pz_ci, pz_cl]) (by decide) (by decide) dX12_exchange_291 (fun x25 => ?_)
        refine pz_cvI (st := [va_rf l0]) (md_X12_less X n l0 x25) ck_12 rfl mk_X12_less (Or.inl pw_1174) pw_1176 ps_56 rfl rfl (by simp [pz_rf1, pz_ci, pz_cl]) (by decide) (by decide) dX12_exchange_294 (fun x26 => ?_)
        exact pz_sub [0, 1, 2, 3, 4, 5, 6, 7, 8, 9] rfl (S_X12_exchange_b297 X n l0 l1 l2 l3 l4 l5 l6 l7 l8 K253 hK253 l9 l0 x26)
      · refine pz_aload_n 0 dX12_exchange_274 rfl ?_
        refine pz_iload_n 1 dX12_exchange_275 rfl ?_
        refine pz_iload 9 dX12_exchange_276 rfl ?_
        refine pz_csI (st := [va_rf l0, va_rf l0]) (md_X12_factorAt X n l1 l9) mk_X12_factorAt (Or.inl pw_1083) pw_1084 rfl rfl (by simp [pz_rf1, pz_ci, pz_cl]) (by decide) (by decide) dX12_exchange_278 (fun x29 => ?_)
        refine pz_cvI (st := [va_rf l0]) (md_X12_again X n l0 x29) ck_12 rfl mk_X12_again (Or.inl pw_1130) pw_1132 ps_46 rfl rfl (by simp [pz_rf1, pz_ci, pz_cl]) (by decide) (by decide) dX12_exchange_281 (fun x30 => ?_)
        refine pz_goto 297 dX12_exchange_284 (by decide) ?_
        exact pz_sub [0, 1, 2, 3, 4, 5, 6, 7, 8, 9] rfl (S_X12_exchange_b297 X n l0 l1 l2 l3 l4 l5 l6 l7 l8 K253 hK253 l9 l0 x30)
set_option maxRecDepth 20000 in
theorem S_X12_exchange_L253 (X : pz_X) (n : Nat) (l0 : Option Nat) (l1 : Int32) (l2 : Int32) (l3 : Int32) (l4 : Int32) (l5 : Int32) (l6 : Int32) (l7 : Int32) (l8 : Int32) (l9 : Int32) : pz_Sm X (pz_QM X) J_X12_exchange pz_vU 253 [(0, va_rf l0), (1, .int l1), (2, .int l2), (3, .int l3), (4, .int l4), (5, .int l5), (6, .int l6), (7, .int l7), (8, .int l8), (9, .int l9)] [] (X12_exchange_L253 n l0 l1 l2 l3 l4 l5 l6 l7 l8 l9) :=
  pz_lp (L := fun (s : Int32) => [(0, va_rf l0), (1, .int l1), (2, .int l2), (3, .int l3), (4, .int l4), (5, .int l5), (6, .int l6), (7, .int l7), (8, .int l8), (9, .int s)]) (fun K hK s => S_X12_exchange_L253_body X n l0 l1 l2 l3 l4 l5 l6 l7 l8 (fun l9 => K l9) (fun l9 => hK l9) s) n l9
set_option maxRecDepth 20000 in
theorem S_X12_exchange_b244 (X : pz_X) (n : Nat) (l0 : Option Nat) (l1 : Int32) (l2 : Int32) (l3 : Int32) (l4 : Int32) (l5 : Int32) (l6 : Int32) (l7 : Int32) (l8 : Int32) (K91 : Int32 → pz_C Unit) (hK91 : ∀ (l9 : Int32), pz_Sm X (pz_QM X) J_X12_exchange pz_vU 91 [(0, va_rf l0), (1, .int l1), (2, .int l2), (3, .int l3), (4, .int l4), (5, .int l5), (6, .int l6), (7, .int l7), (8, .int l8), (9, .int l9)] [] (K91 l9)) (l9 : Int32) : pz_Sm X (pz_QM X) J_X12_exchange pz_vU 244 [(0, va_rf l0), (1, .int l1), (2, .int l2), (3, .int l3), (4, .int l4), (5, .int l5), (6, .int l6), (7, .int l7), (8, .int l8), (9, .int l9)] [] (X12_exchange_b244 n K91 l0 l1 l2 l3 l4 l5 l6 l7 l8 l9) := by
  unfold X12_exchange_b244
  refine pz_iinc 9 1 (fun l9_31 => [(9, .int l9_31), (0, va_rf l0), (1, .int l1), (2, .int l2), (3, .int l3), (4, .int l4), (5, .int l5), (6, .int l6), (7, .int l7), (8, .int l8)]) dX12_exchange_244 rfl (by decide) (by decide) (fun l9_31 => rfl) (fun l9_31 => ?_)
  refine pz_goto 91 dX12_exchange_247 (by decide) ?_
  exact pz_sub [1, 2, 3, 4, 5, 6, 7, 8, 9, 0] rfl (hK91 l9_31)
set_option maxRecDepth 20000 in
theorem S_X12_exchange_b235 (X : pz_X) (n : Nat) (l0 : Option Nat) (l1 : Int32) (l2 : Int32) (l3 : Int32) (l4 : Int32) (l5 : Int32) (l6 : Int32) (l7 : Int32) (l8 : Int32) (K91 : Int32 → pz_C Unit) (hK91 : ∀ (l9 : Int32), pz_Sm X (pz_QM X) J_X12_exchange pz_vU 91 [(0, va_rf l0), (1, .int l1), (2, .int l2), (3, .int l3), (4, .int l4), (5, .int l5), (6, .int l6), (7, .int l7), (8, .int l8), (9, .int l9)] [] (K91 l9)) (l9 : Int32) (s0 : Option Nat) (s1 : Int32) : pz_Sm X (pz_QM X) J_X12_exchange pz_vU 235 [(0, va_rf l0), (1, .int l1), (2, .int l2), (3, .int l3), (4, .int l4), (5, .int l5), (6, .int l6), (7, .int l7), (8, .int l8), (9, .int l9)] [.int s1, va_rf s0] (X12_exchange_b235 n K91 l0 l1 l2 l3 l4 l5 l6 l7 l8 l9 s0 s1) := by
  unfold X12_exchange_b235
  refine pz_iload 9 dX12_exchange_235 rfl ?_
  refine pz_iload_n 2 dX12_exchange_237 rfl ?_
  refine pz_csI (st := [.int s1, va_rf s0]) (md_X12_factorAt X n l9 l2) mk_X12_factorAt (Or.inl pw_1083) pw_1084 rfl rfl (by simp [pz_rf1, pz_ci, pz_cl]) (by decide) (by decide) dX12_exchange_238 (fun x35 => ?_)
  refine pz_cvU (st := []) (md_X12_copyTo X n s0 s1 x35) ck_12 rfl mk_X12_copyTo (Or.inl pw_924) pw_926 ps_31 rfl rfl (by decide) (by decide) (by decide) dX12_exchange_241 (fun _ => ?_)
  exact pz_sub [0, 1, 2, 3, 4, 5, 6, 7, 8, 9] rfl (S_X12_exchange_b244 X n l0 l1 l2 l3 l4 l5 l6 l7 l8 K91 hK91 l9)
set_option maxRecDepth 20000 in
theorem S_X12_exchange_b212 (X : pz_X) (n : Nat) (l0 : Option Nat) (l1 : Int32) (l2 : Int32) (l3 : Int32) (l4 : Int32) (l5 : Int32) (l6 : Int32) (l7 : Int32) (l8 : Int32) (l9 : Int32) (l10 : Int32) (K91 : Int32 → pz_C Unit) (K121 : Int32 → pz_C Unit) (hK91 : ∀ (l9 : Int32), pz_Sm X (pz_QM X) J_X12_exchange pz_vU 91 [(0, va_rf l0), (1, .int l1), (2, .int l2), (3, .int l3), (4, .int l4), (5, .int l5), (6, .int l6), (7, .int l7), (8, .int l8), (9, .int l9)] [] (K91 l9)) (hK121 : ∀ (l11 : Int32), pz_Sm X (pz_QM X) J_X12_exchange pz_vU 121 [(0, va_rf l0), (1, .int l1), (2, .int l2), (3, .int l3), (4, .int l4), (5, .int l5), (6, .int l6), (7, .int l7), (8, .int l8), (9, .int l9), (10, .int l10), (11, .int l11)] [] (K121 l11)) (l11 : Int32) : pz_Sm X (pz_QM X) J_X12_exchange pz_vU 212 [(0, va_rf l0), (1, .int l1), (2, .int l2), (3, .int l3), (4, .int l4), (5, .int l5), (6, .int l6), (7, .int l7), (8, .int l8), (9, .int l9), (10, .int l10), (11, .int l11)] [] (X12_exchange_b212 n K91 K121 l0 l1 l2 l3 l4 l5 l6 l7 l8 l9 l10 l11) := by
  unfold X12_exchange_b212
  refine pz_iinc 11 1 (fun l11_38 => [(11, .int l11_38), (0, va_rf l0), (1, .int l1), (2, .int l2), (3, .int l3), (4, .int l4), (5, .int l5), (6, .int l6), (7, .int l7), (8, .int l8), (9, .int l9), (10, .int l10)]) dX12_exchange_212 rfl (by decide) (by decide) (fun l11_38 => rfl) (fun l11_38 => ?_)
  refine pz_goto 121 dX12_exchange_215 (by decide) ?_
  exact pz_sub [1, 2, 3, 4, 5, 6, 7, 8, 9, 10, 11, 0] rfl (hK121 l11_38)
set_option maxRecDepth 20000 in
theorem S_X12_exchange_b196 (X : pz_X) (n : Nat) (l0 : Option Nat) (l1 : Int32) (l2 : Int32) (l3 : Int32) (l4 : Int32) (l5 : Int32) (l6 : Int32) (l7 : Int32) (l8 : Int32) (l9 : Int32) (l10 : Int32) (K91 : Int32 → pz_C Unit) (K121 : Int32 → pz_C Unit) (hK91 : ∀ (l9 : Int32), pz_Sm X (pz_QM X) J_X12_exchange pz_vU 91 [(0, va_rf l0), (1, .int l1), (2, .int l2), (3, .int l3), (4, .int l4), (5, .int l5), (6, .int l6), (7, .int l7), (8, .int l8), (9, .int l9)] [] (K91 l9)) (hK121 : ∀ (l11 : Int32), pz_Sm X (pz_QM X) J_X12_exchange pz_vU 121 [(0, va_rf l0), (1, .int l1), (2, .int l2), (3, .int l3), (4, .int l4), (5, .int l5), (6, .int l6), (7, .int l7), (8, .int l8), (9, .int l9), (10, .int l10), (11, .int l11)] [] (K121 l11)) (l11 : Int32) (l12 : Int32) (s0 : Option Nat) (s1 : Int32) : pz_Sm X (pz_QM X) J_X12_exchange pz_vU 196 [(0, va_rf l0), (1, .int l1), (2, .int l2), (3, .int l3), (4, .int l4), (5, .int l5), (6, .int l6), (7, .int l7), (8, .int l8), (9, .int l9), (10, .int l10), (11, .int l11), (12, .int l12)] [.int s1, va_rf s0] (X12_exchange_b196 n K91 K121 l0 l1 l2 l3 l4 l5 l6 l7 l8 l9 l10 l11 l12 s0 s1) := by
  unfold X12_exchange_b196
  refine pz_iload 9 dX12_exchange_196 rfl ?_
  refine pz_iload 11 dX12_exchange_198 rfl ?_
  refine pz_csI (st := [.int s1, va_rf s0]) (md_X12_factorAt X n l9 l11) mk_X12_factorAt (Or.inl pw_1083) pw_1084 rfl rfl (by simp [pz_rf1, pz_ci, pz_cl]) (by decide) (by decide) dX12_exchange_200 (fun x46 => ?_)
  refine pz_cvU (st := []) (md_X12_copyTo X n s0 s1 x46) ck_12 rfl mk_X12_copyTo (Or.inl pw_924) pw_926 ps_31 rfl rfl (by decide) (by decide) (by decide) dX12_exchange_203 (fun _ => ?_)
  refine pz_aload_n 0 dX12_exchange_206 rfl ?_
  refine pz_iload 12 dX12_exchange_207 rfl ?_
  refine pz_put (ci := 12) (k := 35) ck_12 (by decide) (Or.inl pw_967) (Or.inl rfl) rfl rfl dX12_exchange_209 ?_
  exact pz_sub [0, 1, 2, 3, 4, 5, 6, 7, 8, 9, 10, 11] rfl (S_X12_exchange_b212 X n l0 l1 l2 l3 l4 l5 l6 l7 l8 l9 l10 K91 K121 hK91 hK121 l11)
set_option maxRecDepth 20000 in
theorem S_X12_exchange_L121_body (X : pz_X) (n : Nat) (l0 : Option Nat) (l1 : Int32) (l2 : Int32) (l3 : Int32) (l4 : Int32) (l5 : Int32) (l6 : Int32) (l7 : Int32) (l8 : Int32) (K91 : Int32 → pz_C Unit) (hK91 : ∀ (l9 : Int32), pz_Sm X (pz_QM X) J_X12_exchange pz_vU 91 [(0, va_rf l0), (1, .int l1), (2, .int l2), (3, .int l3), (4, .int l4), (5, .int l5), (6, .int l6), (7, .int l7), (8, .int l8), (9, .int l9)] [] (K91 l9)) (l9 : Int32) (l10 : Int32) (K121 : Int32 → pz_C Unit) (hK121 : ∀ (l11 : Int32), pz_Sm X (pz_QM X) J_X12_exchange pz_vU 121 [(0, va_rf l0), (1, .int l1), (2, .int l2), (3, .int l3), (4, .int l4), (5, .int l5), (6, .int l6), (7, .int l7), (8, .int l8), (9, .int l9), (10, .int l10), (11, .int l11)] [] (K121 l11)) (l11 : Int32) : pz_Sm X (pz_QM X) J_X12_exchange pz_vU 121 [(0, va_rf l0), (1, .int l1), (2, .int l2), (3, .int l3), (4, .int l4), (5, .int l5), (6, .int l6), (7, .int l7), (8, .int l8), (9, .int l9), (10, .int l10), (11, .int l11)] [] (X12_exchange_L121_body n K91 l0 l1 l2 l3 l4 l5 l6 l7 l8 l9 l10 K121 l11) := by
  unfold X12_exchange_L121_body
  refine pz_iload 11 dX12_exchange_121 rfl ?_
  refine pz_aload_n 0 dX12_exchange_123 rfl ?_
  refine pz_getI (ci := 12) (k := 0) ck_12 (by decide) (Or.inl pw_932) dX12_exchange_124 (fun x34 => ?_)
  refine pz_icmp_ge 218 dX12_exchange_127 (by decide) ?_ ?_
  · refine pz_aload_n 0 dX12_exchange_218 rfl ?_
    refine pz_iload 7 dX12_exchange_219 rfl ?_
    refine pz_if_eq 233 dX12_exchange_221 (by decide) ?_ ?_
    · refine pz_iload 10 dX12_exchange_233 rfl ?_
      exact pz_sub [0, 1, 2, 3, 4, 5, 6, 7, 8, 9] rfl (S_X12_exchange_b235 X n l0 l1 l2 l3 l4 l5 l6 l7 l8 K91 hK91 l9 l0 l10)
    · refine pz_aload_n 0 dX12_exchange_224 rfl ?_
      refine pz_iload 10 dX12_exchange_225 rfl ?_
      refine pz_cvI (st := [va_rf l0]) (md_X12_less X n l0 l10) ck_12 rfl mk_X12_less (Or.inl pw_1174) pw_1176 ps_56 rfl rfl (by simp [pz_rf1, pz_ci, pz_cl]) (by decide) (by decide) dX12_exchange_227 (fun x37 => ?_)
      refine pz_goto 235 dX12_exchange_230 (by decide) ?_
      exact pz_sub [0, 1, 2, 3, 4, 5, 6, 7, 8, 9] rfl (S_X12_exchange_b235 X n l0 l1 l2 l3 l4 l5 l6 l7 l8 K91 hK91 l9 l0 x37)
  · refine pz_iload 11 dX12_exchange_130 rfl ?_
    refine pz_iload_n 2 dX12_exchange_132 rfl ?_
    refine pz_icmp_eq 212 dX12_exchange_133 (by decide) ?_ ?_
    · exact pz_sub [0, 1, 2, 3, 4, 5, 6, 7, 8, 9, 10, 11] rfl (S_X12_exchange_b212 X n l0 l1 l2 l3 l4 l5 l6 l7 l8 l9 l10 K91 K121 hK91 hK121 l11)
    · refine pz_aload_n 0 dX12_exchange_136 rfl ?_
      refine pz_getI (ci := 12) (k := 35) ck_12 (by decide) (Or.inl pw_967) dX12_exchange_137 (fun x39 => ?_)
      refine pz_istore [(12, .int x39), (0, va_rf l0), (1, .int l1), (2, .int l2), (3, .int l3), (4, .int l4), (5, .int l5), (6, .int l6), (7, .int l7), (8, .int l8), (9, .int l9), (10, .int l10), (11, .int l11)] dX12_exchange_140 (by decide) rfl ?_
      refine pz_aload_n 1 dX12_exchange_142 rfl ?_
      refine pz_aload_n 1 dX12_exchange_143 rfl ?_
      refine pz_aload_n 1 dX12_exchange_144 rfl ?_
      refine pz_iload 10 dX12_exchange_145 rfl ?_
      refine pz_iload 12 dX12_exchange_147 rfl ?_
      refine pz_csI (st := [va_rf l0, va_rf l0, va_rf l0]) (md_X12_factorAt X n l9 l11) mk_X12_factorAt (Or.inl pw_1083) pw_1084 rfl rfl (by simp [pz_rf1, pz_ci, pz_cl]) (by decide) (by decide) dX12_exchange_149 (fun x40 => ?_)
      refine pz_iload 7 dX12_exchange_152 rfl ?_
      refine pz_cvI (st := [va_rf l0, va_rf l0]) (md_X12_by X n l0 x40 l6) ck_12 rfl mk_X12_by (Or.inl pw_1118) pw_1120 ps_43 rfl rfl (by simp [pz_rf1, pz_ci, pz_cl]) (by decide) (by decide) dX12_exchange_154 (fun x41 => ?_)
      refine pz_aload_n 1 dX12_exchange_157 rfl ?_
      refine pz_iload 11 dX12_exchange_158 rfl ?_
      refine pz_iload_n 2 dX12_exchange_160 rfl ?_
      refine pz_iload 12 dX12_exchange_161 rfl ?_
      refine pz_csI (st := [.int l10, va_rf l0, .int x41, va_rf l0, va_rf l0]) (md_X12_factorAt X n l1 l11) mk_X12_factorAt (Or.inl pw_1083) pw_1084 rfl rfl (by simp [pz_rf1, pz_ci, pz_cl]) (by decide) (by decide) dX12_exchange_163 (fun x42 => ?_)
      refine pz_cvI (st := [.int x41, va_rf l0, va_rf l0]) (md_X12_by X n l0 l10 x42) ck_12 rfl mk_X12_by (Or.inl pw_1118) pw_1120 ps_43 rfl rfl (by simp [pz_rf1, pz_ci, pz_cl]) (by decide) (by decide) dX12_exchange_166 (fun x43 => ?_)
      refine pz_cvI (st := [va_rf l0]) (md_X12_minus X n l0 x41 x43) ck_12 rfl mk_X12_minus (Or.inl pw_1170) pw_1172 ps_55 rfl rfl (by simp [pz_rf1, pz_ci, pz_cl]) (by decide) (by decide) dX12_exchange_169 (fun x44 => ?_)
      refine pz_iload 9 dX12_exchange_172 rfl ?_
      refine pz_cvI (st := []) (md_X12_over X n l0 x44 l8) ck_12 rfl mk_X12_over (Or.inl pw_1178) pw_1180 ps_57 rfl rfl (by decide) (by decide) (by decide) dX12_exchange_174 (fun x45 => ?_)
      refine pz_istore [(13, .int x45), (12, .int x39), (0, va_rf l0), (1, .int l1), (2, .int l2), (3, .int l3), (4, .int l4), (5, .int l5), (6, .int l6), (7, .int l7), (8, .int l8), (9, .int l9), (10, .int l10), (11, .int l11)] dX12_exchange_177 (by decide) rfl ?_
      refine pz_aload_n 2 dX12_exchange_179 rfl ?_
      refine pz_iload 9 dX12_exchange_180 rfl ?_
      refine pz_if_eq 194 dX12_exchange_182 (by decide) ?_ ?_
      · refine pz_iload 0 dX12_exchange_194 rfl ?_
        exact pz_sub [2, 3, 4, 5, 6, 7, 8, 9, 10, 11, 12, 13, 1] rfl (S_X12_exchange_b196 X n l0 l1 l2 l3 l4 l5 l6 l7 l8 l9 l10 K91 K121 hK91 hK121 l11 x39 l0 x45)
      · refine pz_aload_n 2 dX12_exchange_185 rfl ?_
        refine pz_iload 0 dX12_exchange_186 rfl ?_
        refine pz_cvI (st := [va_rf l0]) (md_X12_less X n l0 x45) ck_12 rfl mk_X12_less (Or.inl pw_1174) pw_1176 ps_56 rfl rfl (by simp [pz_rf1, pz_ci, pz_cl]) (by decide) (by decide) dX12_exchange_188 (fun x48 => ?_)
        refine pz_goto 196 dX12_exchange_191 (by decide) ?_
        exact pz_sub [2, 3, 4, 5, 6, 7, 8, 9, 10, 11, 12, 13, 1] rfl (S_X12_exchange_b196 X n l0 l1 l2 l3 l4 l5 l6 l7 l8 l9 l10 K91 K121 hK91 hK121 l11 x39 l0 x48)
set_option maxRecDepth 20000 in
theorem S_X12_exchange_L121 (X : pz_X) (n : Nat) (l0 : Option Nat) (l1 : Int32) (l2 : Int32) (l3 : Int32) (l4 : Int32) (l5 : Int32) (l6 : Int32) (l7 : Int32) (l8 : Int32) (K91 : Int32 → pz_C Unit) (hK91 : ∀ (l9 : Int32), pz_Sm X (pz_QM X) J_X12_exchange pz_vU 91 [(0, va_rf l0), (1, .int l1), (2, .int l2), (3, .int l3), (4, .int l4), (5, .int l5), (6, .int l6), (7, .int l7), (8, .int l8), (9, .int l9)] [] (K91 l9)) (l9 : Int32) (l10 : Int32) (l11 : Int32) : pz_Sm X (pz_QM X) J_X12_exchange pz_vU 121 [(0, va_rf l0), (1, .int l1), (2, .int l2), (3, .int l3), (4, .int l4), (5, .int l5), (6, .int l6), (7, .int l7), (8, .int l8), (9, .int l9), (10, .int l10), (11, .int l11)] [] (X12_exchange_L121 n K91 l0 l1 l2 l3 l4 l5 l6 l7 l8 l9 l10 l11) :=
  pz_lp (L := fun (s : Int32) => [(0, va_rf l0), (1, .int l1), (2, .int l2), (3, .int l3), (4, .int l4), (5, .int l5), (6, .int l6), (7, .int l7), (8, .int l8), (9, .int l9), (10, .int l10), (11, .int s)]) (fun K hK s => S_X12_exchange_L121_body X n l0 l1 l2 l3 l4 l5 l6 l7 l8 K91 hK91 l9 l10 (fun l11 => K l11) (fun l11 => hK l11) s) n l11
set_option maxRecDepth 20000 in
theorem S_X12_exchange_L91_body (X : pz_X) (n : Nat) (l0 : Option Nat) (l1 : Int32) (l2 : Int32) (l3 : Int32) (l4 : Int32) (l5 : Int32) (l6 : Int32) (l7 : Int32) (l8 : Int32) (K91 : Int32 → pz_C Unit) (hK91 : ∀ (l9 : Int32), pz_Sm X (pz_QM X) J_X12_exchange pz_vU 91 [(0, va_rf l0), (1, .int l1), (2, .int l2), (3, .int l3), (4, .int l4), (5, .int l5), (6, .int l6), (7, .int l7), (8, .int l8), (9, .int l9)] [] (K91 l9)) (l9 : Int32) : pz_Sm X (pz_QM X) J_X12_exchange pz_vU 91 [(0, va_rf l0), (1, .int l1), (2, .int l2), (3, .int l3), (4, .int l4), (5, .int l5), (6, .int l6), (7, .int l7), (8, .int l8), (9, .int l9)] [] (X12_exchange_L91_body n l0 l1 l2 l3 l4 l5 l6 l7 l8 K91 l9) := by
  unfold X12_exchange_L91_body
  refine pz_iload 9 dX12_exchange_91 rfl ?_
  refine pz_aload_n 0 dX12_exchange_93 rfl ?_
  refine pz_getI (ci := 12) (k := 1) ck_12 (by decide) (Or.inl pw_933) dX12_exchange_94 (fun x15 => ?_)
  refine pz_icmp_ge 250 dX12_exchange_97 (by decide) ?_ ?_
  · refine pz_iconst 0 dX12_exchange_250 (by decide) ?_
    refine pz_istore [(9, .int 0), (0, va_rf l0), (1, .int l1), (2, .int l2), (3, .int l3), (4, .int l4), (5, .int l5), (6, .int l6), (7, .int l7), (8, .int l8)] dX12_exchange_251 (by decide) rfl ?_
    exact pz_sub [1, 2, 3, 4, 5, 6, 7, 8, 9, 0] rfl (S_X12_exchange_L253 X n l0 l1 l2 l3 l4 l5 l6 l7 l8 0)
  · refine pz_iload 9 dX12_exchange_100 rfl ?_
    refine pz_iload_n 1 dX12_exchange_102 rfl ?_
    refine pz_icmp_eq 244 dX12_exchange_103 (by decide) ?_ ?_
    · exact pz_sub [0, 1, 2, 3, 4, 5, 6, 7, 8, 9] rfl (S_X12_exchange_b244 X n l0 l1 l2 l3 l4 l5 l6 l7 l8 K91 hK91 l9)
    · refine pz_aload_n 0 dX12_exchange_106 rfl ?_
      refine pz_iload 9 dX12_exchange_107 rfl ?_
      refine pz_iload_n 2 dX12_exchange_109 rfl ?_
      refine pz_csI (st := [va_rf l0]) (md_X12_factorAt X n l9 l2) mk_X12_factorAt (Or.inl pw_1083) pw_1084 rfl rfl (by simp [pz_rf1, pz_ci, pz_cl]) (by decide) (by decide) dX12_exchange_110 (fun x32 => ?_)
      refine pz_cvI (st := []) (md_X12_again X n l0 x32) ck_12 rfl mk_X12_again (Or.inl pw_1130) pw_1132 ps_46 rfl rfl (by decide) (by decide) (by decide) dX12_exchange_113 (fun x33 => ?_)
      refine pz_istore [(10, .int x33), (0, va_rf l0), (1, .int l1), (2, .int l2), (3, .int l3), (4, .int l4), (5, .int l5), (6, .int l6), (7, .int l7), (8, .int l8), (9, .int l9)] dX12_exchange_116 (by decide) rfl ?_
      refine pz_iconst 0 dX12_exchange_118 (by decide) ?_
      refine pz_istore [(11, .int 0), (10, .int x33), (0, va_rf l0), (1, .int l1), (2, .int l2), (3, .int l3), (4, .int l4), (5, .int l5), (6, .int l6), (7, .int l7), (8, .int l8), (9, .int l9)] dX12_exchange_119 (by decide) rfl ?_
      exact pz_sub [2, 3, 4, 5, 6, 7, 8, 9, 10, 11, 1, 0] rfl (S_X12_exchange_L121 X n l0 l1 l2 l3 l4 l5 l6 l7 l8 K91 hK91 l9 x33 0)
set_option maxRecDepth 20000 in
theorem S_X12_exchange_L91 (X : pz_X) (n : Nat) (l0 : Option Nat) (l1 : Int32) (l2 : Int32) (l3 : Int32) (l4 : Int32) (l5 : Int32) (l6 : Int32) (l7 : Int32) (l8 : Int32) (l9 : Int32) : pz_Sm X (pz_QM X) J_X12_exchange pz_vU 91 [(0, va_rf l0), (1, .int l1), (2, .int l2), (3, .int l3), (4, .int l4), (5, .int l5), (6, .int l6), (7, .int l7), (8, .int l8), (9, .int l9)] [] (X12_exchange_L91 n l0 l1 l2 l3 l4 l5 l6 l7 l8 l9) :=
  pz_lp (L := fun (s : Int32) => [(0, va_rf l0), (1, .int l1), (2, .int l2), (3, .int l3), (4, .int l4), (5, .int l5), (6, .int l6), (7, .int l7), (8, .int l8), (9, .int s)]) (fun K hK s => S_X12_exchange_L91_body X n l0 l1 l2 l3 l4 l5 l6 l7 l8 (fun l9 => K l9) (fun l9 => hK l9) s) n l9
set_option maxRecDepth 20000 in
theorem S_X12_exchange_b79 (X : pz_X) (n : Nat) (l0 : Option Nat) (l1 : Int32) (l2 : Int32) (l3 : Int32) (l4 : Int32) (l5 : Int32) (l6 : Int32) (s0 : Int32) : pz_Sm X (pz_QM X) J_X12_exchange pz_vU 79 [(0, va_rf l0), (1, .int l1), (2, .int l2), (3, .int l3), (4, .int l4), (5, .int l5), (6, .int l6)] [.int s0] (X12_exchange_b79 n l0 l1 l2 l3 l4 l5 l6 s0) := by
  unfold X12_exchange_b79
  refine pz_istore [(7, .int s0), (0, va_rf l0), (1, .int l1), (2, .int l2), (3, .int l3), (4, .int l4), (5, .int l5), (6, .int l6)] dX12_exchange_79 (by decide) rfl ?_
  refine pz_aload_n 1 dX12_exchange_81 rfl ?_
  refine pz_iconst 0 dX12_exchange_82 (by decide) ?_
  refine pz_cvI (st := []) (md_X12_again X n l0 0) ck_12 rfl mk_X12_again (Or.inl pw_1130) pw_1132 ps_46 rfl rfl (by decide) (by decide) (by decide) dX12_exchange_83 (fun x14 => ?_)
  refine pz_istore [(8, .int x14), (7, .int s0), (0, va_rf l0), (1, .int l1), (2, .int l2), (3, .int l3), (4, .int l4), (5, .int l5), (6, .int l6)] dX12_exchange_86 (by decide) rfl ?_
  refine pz_iconst 0 dX12_exchange_88 (by decide) ?_
  refine pz_istore [(9, .int 0), (8, .int x14), (7, .int s0), (0, va_rf l0), (1, .int l1), (2, .int l2), (3, .int l3), (4, .int l4), (5, .int l5), (6, .int l6)] dX12_exchange_89 (by decide) rfl ?_
  exact pz_sub [3, 4, 5, 6, 7, 8, 9, 2, 1, 0] rfl (S_X12_exchange_L91 X n l0 l1 l2 l3 l4 l5 l6 s0 x14 0)
set_option maxRecDepth 20000 in
theorem S_X12_exchange (X : pz_X) (n : Nat) (l0 : Option Nat) (l1 : Int32) (l2 : Int32) : pz_Sm X (pz_QM X) J_X12_exchange pz_vU 0 [(0, va_rf l0), (1, .int l1), (2, .int l2)] [] (X12_exchange n l0 l1 l2) := by
  unfold X12_exchange
  refine pz_aload_n 0 dX12_exchange_0 rfl ?_
  refine pz_dup dX12_exchange_1 (pz_rf1 _) ?_
  refine pz_getI (ci := 12) (k := 9) ck_12 (by decide) (Or.inl pw_941) dX12_exchange_2 (fun x1 => ?_)
  refine pz_iconst 1 dX12_exchange_5 (by decide) ?_
  refine pz_iadd dX12_exchange_6 ?_
  refine pz_put (ci := 12) (k := 9) ck_12 (by decide) (Or.inl pw_941) (Or.inl rfl) rfl rfl dX12_exchange_7 ?_
  refine pz_aload_n 0 dX12_exchange_10 rfl ?_
  refine pz_getR (ci := 12) (k := 13) ck_12 (by decide) (Or.inl pw_945) dX12_exchange_11 (fun x2 => ?_)
  refine pz_iload_n 1 dX12_exchange_14 rfl ?_
  refine pz_iald (t := 0) rfl dX12_exchange_15 (fun x3 => ?_)
  refine pz_istore_n [(3, .int x3), (0, va_rf l0), (1, .int l1), (2, .int l2)] dX12_exchange_16 (by decide) rfl ?_
  refine pz_aload_n 1 dX12_exchange_17 rfl ?_
  refine pz_getR (ci := 12) (k := 14) ck_12 (by decide) (Or.inl pw_946) dX12_exchange_18 (fun x4 => ?_)
  refine pz_iload_n 3 dX12_exchange_21 rfl ?_
  refine pz_iald (t := 0) rfl dX12_exchange_22 (fun x5 => ?_)
  refine pz_istore [(4, .int x5), (3, .int x3), (0, va_rf l0), (1, .int l1), (2, .int l2)] dX12_exchange_23 (by decide) rfl ?_
  refine pz_aload_n 2 dX12_exchange_25 rfl ?_
  refine pz_getI (ci := 12) (k := 35) ck_12 (by decide) (Or.inl pw_967) dX12_exchange_26 (fun x6 => ?_)
  refine pz_istore [(5, .int x6), (4, .int x5), (3, .int x3), (0, va_rf l0), (1, .int l1), (2, .int l2)] dX12_exchange_29 (by decide) rfl ?_
  refine pz_aload_n 3 dX12_exchange_31 rfl ?_
  refine pz_aload_n 3 dX12_exchange_32 rfl ?_
  refine pz_iload_n 2 dX12_exchange_33 rfl ?_
  refine pz_aload_n 3 dX12_exchange_34 rfl ?_
  refine pz_getI (ci := 12) (k := 29) ck_12 (by decide) (Or.inl pw_961) dX12_exchange_35 (fun x7 => ?_)
  refine pz_cvI (st := [va_rf l0]) (md_X12_bound X n l0 x3 x7) ck_12 rfl mk_X12_bound (Or.inl pw_1147) pw_1149 ps_50 rfl rfl (by simp [pz_rf1, pz_ci, pz_cl]) (by decide) (by decide) dX12_exchange_38 (fun x8 => ?_)
  refine pz_iload_n 2 dX12_exchange_41 rfl ?_
  refine pz_csI (st := [.int x8, va_rf l0]) (md_X12_valueAt X n x3) mk_X12_valueAt (Or.inl pw_1080) pw_1081 rfl rfl (by simp [pz_rf1, pz_ci, pz_cl]) (by decide) (by decide) dX12_exchange_42 (fun x9 => ?_)
  refine pz_cvU (st := []) (md_X12_copyTo X n l0 x8 x9) ck_12 rfl mk_X12_copyTo (Or.inl pw_924) pw_926 ps_31 rfl rfl (by decide) (by decide) (by decide) dX12_exchange_45 (fun _ => ?_)
  refine pz_aload_n 3 dX12_exchange_48 rfl ?_
  refine pz_iload 0 dX12_exchange_49 rfl ?_
  refine pz_put (ci := 12) (k := 35) ck_12 (by decide) (Or.inl pw_967) (Or.inl rfl) rfl rfl dX12_exchange_51 ?_
  refine pz_aload_n 3 dX12_exchange_54 rfl ?_
  refine pz_iload_n 4 dX12_exchange_55 rfl ?_
  refine pz_iload_n 5 dX12_exchange_56 rfl ?_
  refine pz_csI (st := [va_rf l0]) (md_X12_factorAt X n l1 l2) mk_X12_factorAt (Or.inl pw_1083) pw_1084 rfl rfl (by simp [pz_rf1, pz_ci, pz_cl]) (by decide) (by decide) dX12_exchange_57 (fun x11 => ?_)
  refine pz_cvI (st := []) (md_X12_again X n l0 x11) ck_12 rfl mk_X12_again (Or.inl pw_1130) pw_1132 ps_46 rfl rfl (by decide) (by decide) (by decide) dX12_exchange_60 (fun x12 => ?_)
  refine pz_istore [(6, .int x12), (5, .int x6), (4, .int x5), (3, .int x3), (0, va_rf l0), (1, .int l1), (2, .int l2)] dX12_exchange_63 (by decide) rfl ?_
  refine pz_aload_n 4 dX12_exchange_65 rfl ?_
  refine pz_iload 0 dX12_exchange_66 rfl ?_
  refine pz_cvI (st := []) (md_X12_sgn X n l0 x12) ck_12 rfl mk_X12_sgn (Or.inl pw_1122) pw_1124 ps_44 rfl rfl (by decide) (by decide) (by decide) dX12_exchange_68 (fun x13 => ?_)
  refine pz_if_ge 78 dX12_exchange_71 (by decide) ?_ ?_
  · refine pz_iconst 0 dX12_exchange_78 (by decide) ?_
    exact pz_sub [4, 5, 6, 3, 2, 1, 0] rfl (S_X12_exchange_b79 X n l0 l1 l2 x3 x5 x6 x12 0)
  · refine pz_iconst 1 dX12_exchange_74 (by decide) ?_
    refine pz_goto 79 dX12_exchange_75 (by decide) ?_
    exact pz_sub [4, 5, 6, 3, 2, 1, 0] rfl (S_X12_exchange_b79 X n l0 l1 l2 x3 x5 x6 x12 1)
set_option maxRecDepth 20000 in
theorem md_X12_exchange (X : pz_X) (n : Nat) (l0 : Option Nat) (l1 : Int32) (l2 : Int32) : pz_Md X yX12_exchange J_X12_exchange pz_vU [va_rf l0, .int l1, .int l2] (X12_exchange n l0 l1 l2) :=
  pz_md [(0, va_rf l0), (1, .int l1), (2, .int l2)] (by decide +kernel) rfl rfl (by cases l0 <;> rfl) (by cases l0 <;> exact Nat.le_of_ble_eq_true rfl) (fun X => S_X12_exchange X n l0 l1 l2)
set_option maxRecDepth 20000 in
theorem S_X12_multiplierOf_b32 (X : pz_X) (n : Nat) (s0 : Int32) : pz_Sm X (pz_QM X) J_X12_multiplierOf pz_vI 32 [] [.int s0] (X12_multiplierOf_b32 n s0) := by
  unfold X12_multiplierOf_b32
  exact pz_iret rfl dX12_multiplierOf_32
set_option maxRecDepth 20000 in
theorem S_X12_multiplierOf (X : pz_X) (n : Nat) (l0 : Option Nat) (l1 : Int32) (l2 : Int32) : pz_Sm X (pz_QM X) J_X12_multiplierOf pz_vI 0 [(0, va_rf l0), (1, .int l1), (2, .int l2)] [] (X12_multiplierOf n l0 l1 l2) := by
  unfold X12_multiplierOf
  refine pz_iload_n 1 dX12_multiplierOf_0 rfl ?_
  refine pz_aload_n 0 dX12_multiplierOf_1 rfl ?_
  refine pz_getI (ci := 12) (k := 0) ck_12 (by decide) (Or.inl pw_932) dX12_multiplierOf_2 (fun x1 => ?_)
  refine pz_icmp_lt 17 dX12_multiplierOf_5 (by decide) ?_ ?_
  · refine pz_iload_n 2 dX12_multiplierOf_17 rfl ?_
    refine pz_if_ne 28 dX12_multiplierOf_18 (by decide) ?_ ?_
    · refine pz_bipush 12 dX12_multiplierOf_21 (by decide) ?_
      refine pz_iload_n 1 dX12_multiplierOf_23 rfl ?_
      refine pz_iadd dX12_multiplierOf_24 ?_
      refine pz_goto 32 dX12_multiplierOf_25 (by decide) ?_
      exact pz_sub [] rfl (S_X12_multiplierOf_b32 X n (12 + l1))
    · refine pz_bipush 22 dX12_multiplierOf_28 (by decide) ?_
      refine pz_iload_n 1 dX12_multiplierOf_30 rfl ?_
      refine pz_iadd dX12_multiplierOf_31 ?_
      exact pz_sub [] rfl (S_X12_multiplierOf_b32 X n (22 + l1))
  · refine pz_iload_n 1 dX12_multiplierOf_8 rfl ?_
    refine pz_aload_n 0 dX12_multiplierOf_9 rfl ?_
    refine pz_getI (ci := 12) (k := 0) ck_12 (by decide) (Or.inl pw_932) dX12_multiplierOf_10 (fun x2 => ?_)
    refine pz_isub dX12_multiplierOf_13 ?_
    refine pz_goto 32 dX12_multiplierOf_14 (by decide) ?_
    exact pz_sub [] rfl (S_X12_multiplierOf_b32 X n (l1 - x2))
set_option maxRecDepth 20000 in
theorem md_X12_multiplierOf (X : pz_X) (n : Nat) (l0 : Option Nat) (l1 : Int32) (l2 : Int32) : pz_Md X yX12_multiplierOf J_X12_multiplierOf pz_vI [va_rf l0, .int l1, .int l2] (X12_multiplierOf n l0 l1 l2) :=
  pz_md [(0, va_rf l0), (1, .int l1), (2, .int l2)] (by decide +kernel) rfl rfl (by cases l0 <;> rfl) (by cases l0 <;> exact Nat.le_of_ble_eq_true rfl) (fun X => S_X12_multiplierOf X n l0 l1 l2)
set_option maxRecDepth 20000 in
theorem S_X12_gcd_L45_body (X : pz_X) (n : Nat) (l0 : Option Nat) (l3 : Int32) (K45 : Int32 → Int32 → pz_C Int32) (hK45 : ∀ (l4 : Int32) (l5 : Int32), pz_Sm X (pz_QM X) J_X12_gcd pz_vI 45 [(0, va_rf l0), (3, .int l3), (4, .int l4), (5, .int l5)] [] (K45 l4 l5)) (l4 : Int32) (l5 : Int32) : pz_Sm X (pz_QM X) J_X12_gcd pz_vI 45 [(0, va_rf l0), (3, .int l3), (4, .int l4), (5, .int l5)] [] (X12_gcd_L45_body n l0 l3 K45 l4 l5) := by
  unfold X12_gcd_L45_body
  refine pz_aload_n 0 dX12_gcd_45 rfl ?_
  refine pz_getR (ci := 12) (k := 34) ck_12 (by decide) (Or.inl pw_966) dX12_gcd_46 (fun x8 => ?_)
  refine pz_iload 3 dX12_gcd_49 rfl ?_
  refine pz_iald (t := 0) rfl dX12_gcd_51 (fun x9 => ?_)
  refine pz_if_eq 133 dX12_gcd_52 (by decide) ?_ ?_
  · refine pz_aload_n 0 dX12_gcd_133 rfl ?_
    refine pz_iload_n 1 dX12_gcd_134 rfl ?_
    refine pz_iload 2 dX12_gcd_135 rfl ?_
    refine pz_cvI (st := []) (md_X12_keep X n l0 l3 l4) ck_12 rfl mk_X12_keep (Or.inl pw_1143) pw_1145 ps_49 rfl rfl (by decide) (by decide) (by decide) dX12_gcd_137 (fun x10 => ?_)
    exact pz_iret rfl dX12_gcd_140
  · refine pz_aload_n 0 dX12_gcd_55 rfl ?_
    refine pz_iload 2 dX12_gcd_56 rfl ?_
    refine pz_iload 3 dX12_gcd_58 rfl ?_
    refine pz_cvI (st := []) (md_X12_divide X n l0 l4 l5) ck_12 rfl mk_X12_divide (Or.inl pw_1182) pw_1184 ps_58 rfl rfl (by decide) (by decide) (by decide) dX12_gcd_60 (fun x11 => ?_)
    refine pz_istore [(6, .int x11), (0, va_rf l0), (3, .int l3), (4, .int l4), (5, .int l5)] dX12_gcd_63 (by decide) rfl ?_
    refine pz_aload_n 1 dX12_gcd_65 rfl ?_
    refine pz_iload 4 dX12_gcd_66 rfl ?_
    refine pz_cvI (st := []) (md_X12_again X n l0 l5) ck_12 rfl mk_X12_again (Or.inl pw_1130) pw_1132 ps_46 rfl rfl (by decide) (by decide) (by decide) dX12_gcd_68 (fun x12 => ?_)
    refine pz_istore [(7, .int x12), (6, .int x11), (0, va_rf l0), (3, .int l3), (4, .int l4), (5, .int l5)] dX12_gcd_71 (by decide) rfl ?_
    refine pz_aload_n 2 dX12_gcd_73 rfl ?_
    refine pz_iload 1 dX12_gcd_74 rfl ?_
    refine pz_cvI (st := []) (md_X12_again X n l0 x11) ck_12 rfl mk_X12_again (Or.inl pw_1130) pw_1132 ps_46 rfl rfl (by decide) (by decide) (by decide) dX12_gcd_76 (fun x13 => ?_)
    refine pz_istore [(8, .int x13), (7, .int x12), (6, .int x11), (0, va_rf l0), (3, .int l3), (4, .int l4), (5, .int l5)] dX12_gcd_79 (by decide) rfl ?_
    refine pz_aload_n 3 dX12_gcd_81 rfl ?_
    refine pz_iload 1 dX12_gcd_82 rfl ?_
    refine pz_iload_n 4 dX12_gcd_84 rfl ?_
    refine pz_cvU (st := []) (md_X12_copyTo X n l0 x12 l3) ck_12 rfl mk_X12_copyTo (Or.inl pw_924) pw_926 ps_31 rfl rfl (by decide) (by decide) (by decide) dX12_gcd_85 (fun _ => ?_)
    refine pz_iload_n 4 dX12_gcd_88 rfl ?_
    refine pz_istore [(4, .int l3), (8, .int x13), (7, .int x12), (6, .int x11), (0, va_rf l0), (3, .int l3), (5, .int l5)] dX12_gcd_89 (by decide) rfl ?_
    refine pz_iload_n 5 dX12_gcd_91 rfl ?_
    refine pz_aload_n 4 dX12_gcd_92 rfl ?_
    refine pz_iload 0 dX12_gcd_93 rfl ?_
    refine pz_cvI (st := [.int l3]) (md_X12_limbs X n l0 l3) ck_12 rfl mk_X12_limbs (Or.inl pw_928) pw_930 ps_32 rfl rfl (by simp [pz_rf1, pz_ci, pz_cl]) (by decide) (by decide) dX12_gcd_95 (fun x15 => ?_)
    refine pz_iadd dX12_gcd_98 ?_
    refine pz_iconst 1 dX12_gcd_99 (by decide) ?_
    refine pz_iadd dX12_gcd_100 ?_
    refine pz_nmI (fun l9_16 => ?_)
    refine pz_istore [(9, .int l9_16), (4, .int l3), (8, .int x13), (7, .int x12), (6, .int x11), (0, va_rf l0), (3, .int l3), (5, .int l5)] dX12_gcd_101 (by decide) rfl ?_
    refine pz_aload_n 5 dX12_gcd_103 rfl ?_
    refine pz_iload 2 dX12_gcd_104 rfl ?_
    refine pz_iload 0 dX12_gcd_106 rfl ?_
    refine pz_cvU (st := []) (md_X12_copyTo X n l0 x13 l9_16) ck_12 rfl mk_X12_copyTo (Or.inl pw_924) pw_926 ps_31 rfl rfl (by decide) (by decide) (by decide) dX12_gcd_108 (fun _ => ?_)
    refine pz_iload 0 dX12_gcd_111 rfl ?_
    refine pz_istore [(5, .int l9_16), (9, .int l9_16), (4, .int l3), (8, .int x13), (7, .int x12), (6, .int x11), (0, va_rf l0), (3, .int l3)] dX12_gcd_113 (by decide) rfl ?_
    refine pz_aload_n 6 dX12_gcd_115 rfl ?_
    refine pz_iload 0 dX12_gcd_116 rfl ?_
    refine pz_aload_n 6 dX12_gcd_118 rfl ?_
    refine pz_iload 0 dX12_gcd_119 rfl ?_
    refine pz_cvI (st := [.int l9_16, va_rf l0]) (md_X12_limbs X n l0 l9_16) ck_12 rfl mk_X12_limbs (Or.inl pw_928) pw_930 ps_32 rfl rfl (by simp [pz_rf1, pz_ci, pz_cl]) (by decide) (by decide) dX12_gcd_121 (fun x18 => ?_)
    refine pz_iadd dX12_gcd_124 ?_
    refine pz_iconst 1 dX12_gcd_125 (by decide) ?_
    refine pz_iadd dX12_gcd_126 ?_
    refine pz_put (ci := 12) (k := 35) ck_12 (by decide) (Or.inl pw_967) (Or.inl rfl) rfl rfl dX12_gcd_127 ?_
    refine pz_goto 45 dX12_gcd_130 (by decide) ?_
    exact pz_sub [6, 7, 2, 0] rfl (hK45 l3 l9_16)
set_option maxRecDepth 20000 in
theorem S_X12_gcd_L45 (X : pz_X) (n : Nat) (l0 : Option Nat) (l3 : Int32) (l4 : Int32) (l5 : Int32) : pz_Sm X (pz_QM X) J_X12_gcd pz_vI 45 [(0, va_rf l0), (3, .int l3), (4, .int l4), (5, .int l5)] [] (X12_gcd_L45 n l0 l3 l4 l5) :=
  pz_lp (L := fun (s : Int32 × Int32) => [(0, va_rf l0), (3, .int l3), (4, .int s.1), (5, .int s.2)]) (fun K hK s => S_X12_gcd_L45_body X n l0 l3 (fun l4 l5 => K (l4, l5)) (fun l4 l5 => hK (l4, l5)) s.1 s.2) n (l4, l5)
set_option maxRecDepth 20000 in
theorem S_X12_gcd (X : pz_X) (n : Nat) (l0 : Option Nat) (l1 : Int32) (l2 : Int32) : pz_Sm X (pz_QM X) J_X12_gcd pz_vI 0 [(0, va_rf l0), (1, .int l1), (2, .int l2)] [] (X12_gcd n l0 l1 l2) := by
  unfold X12_gcd
  refine pz_aload_n 0 dX12_gcd_0 rfl ?_
  refine pz_getI (ci := 12) (k := 35) ck_12 (by decide) (Or.inl pw_967) dX12_gcd_1 (fun x1 => ?_)
  refine pz_istore_n [(3, .int x1), (0, va_rf l0), (1, .int l1), (2, .int l2)] dX12_gcd_4 (by decide) rfl ?_
  refine pz_aload_n 1 dX12_gcd_5 rfl ?_
  refine pz_iload_n 2 dX12_gcd_6 rfl ?_
  refine pz_cvI (st := []) (md_X12_again X n l0 l1) ck_12 rfl mk_X12_again (Or.inl pw_1130) pw_1132 ps_46 rfl rfl (by decide) (by decide) (by decide) dX12_gcd_7 (fun x2 => ?_)
  refine pz_istore [(4, .int x2), (3, .int x1), (0, va_rf l0), (1, .int l1), (2, .int l2)] dX12_gcd_10 (by decide) rfl ?_
  refine pz_aload_n 2 dX12_gcd_12 rfl ?_
  refine pz_getR (ci := 12) (k := 34) ck_12 (by decide) (Or.inl pw_966) dX12_gcd_13 (fun x3 => ?_)
  refine pz_iload 0 dX12_gcd_16 rfl ?_
  refine pz_aload_n 2 dX12_gcd_18 rfl ?_
  refine pz_iload 0 dX12_gcd_19 rfl ?_
  refine pz_cvI (st := [.int x2, va_rf x3]) (md_X12_limbs X n l0 x2) ck_12 rfl mk_X12_limbs (Or.inl pw_928) pw_930 ps_32 rfl rfl (by simp [pz_rf1, pz_ci, pz_cl]) (by decide) (by decide) dX12_gcd_21 (fun x4 => ?_)
  refine pz_iast (t := 0) rfl dX12_gcd_24 ?_
  refine pz_aload_n 2 dX12_gcd_25 rfl ?_
  refine pz_iload_n 4 dX12_gcd_26 rfl ?_
  refine pz_cvI (st := []) (md_X12_again X n l0 l2) ck_12 rfl mk_X12_again (Or.inl pw_1130) pw_1132 ps_46 rfl rfl (by decide) (by decide) (by decide) dX12_gcd_27 (fun x5 => ?_)
  refine pz_istore [(5, .int x5), (4, .int x2), (3, .int x1), (0, va_rf l0), (1, .int l1), (2, .int l2)] dX12_gcd_30 (by decide) rfl ?_
  refine pz_aload_n 3 dX12_gcd_32 rfl ?_
  refine pz_getR (ci := 12) (k := 34) ck_12 (by decide) (Or.inl pw_966) dX12_gcd_33 (fun x6 => ?_)
  refine pz_iload 0 dX12_gcd_36 rfl ?_
  refine pz_aload_n 3 dX12_gcd_38 rfl ?_
  refine pz_iload 0 dX12_gcd_39 rfl ?_
  refine pz_cvI (st := [.int x5, va_rf x6]) (md_X12_limbs X n l0 x5) ck_12 rfl mk_X12_limbs (Or.inl pw_928) pw_930 ps_32 rfl rfl (by simp [pz_rf1, pz_ci, pz_cl]) (by decide) (by decide) dX12_gcd_41 (fun x7 => ?_)
  refine pz_iast (t := 0) rfl dX12_gcd_44 ?_
  exact pz_sub [3, 2, 1, 0] rfl (S_X12_gcd_L45 X n l0 x1 x2 x5)
set_option maxRecDepth 20000 in
theorem md_X12_gcd (X : pz_X) (n : Nat) (l0 : Option Nat) (l1 : Int32) (l2 : Int32) : pz_Md X yX12_gcd J_X12_gcd pz_vI [va_rf l0, .int l1, .int l2] (X12_gcd n l0 l1 l2) :=
  pz_md [(0, va_rf l0), (1, .int l1), (2, .int l2)] (by decide +kernel) rfl rfl (by cases l0 <;> rfl) (by cases l0 <;> exact Nat.le_of_ble_eq_true rfl) (fun X => S_X12_gcd X n l0 l1 l2)
set_option maxRecDepth 20000 in
theorem S_X12_multiply (X : pz_X) (n : Nat) (l0 : Option Nat) (l1 : Int32) (l2 : Int32) (l3 : Int32) : pz_Sm X (pz_QM X) J_X12_multiply pz_vU 0 [(0, va_rf l0), (1, .int l1), (2, .int l2), (3, .int l3)] [] (X12_multiply n l0 l1 l2 l3) := by
  unfold X12_multiply
  refine pz_aload_n 0 dX12_multiply_0 rfl ?_
  refine pz_getI (ci := 12) (k := 35) ck_12 (by decide) (Or.inl pw_967) dX12_multiply_1 (fun x1 => ?_)
  refine pz_istore [(4, .int x1), (0, va_rf l0), (1, .int l1), (2, .int l2), (3, .int l3)] dX12_multiply_4 (by decide) rfl ?_
  refine pz_aload_n 1 dX12_multiply_6 rfl ?_
  refine pz_iload_n 3 dX12_multiply_7 rfl ?_
  refine pz_iload_n 4 dX12_multiply_8 rfl ?_
  refine pz_cvI (st := []) (md_X12_gcd X n l0 l2 l3) ck_12 rfl mk_X12_gcd (Or.inl pw_1208) pw_1210 ps_64 rfl rfl (by decide) (by decide) (by decide) dX12_multiply_9 (fun x2 => ?_)
  refine pz_istore [(5, .int x2), (4, .int x1), (0, va_rf l0), (1, .int l1), (2, .int l2), (3, .int l3)] dX12_multiply_12 (by decide) rfl ?_
  refine pz_aload_n 2 dX12_multiply_14 rfl ?_
  refine pz_aload_n 2 dX12_multiply_15 rfl ?_
  refine pz_iload_n 4 dX12_multiply_16 rfl ?_
  refine pz_iload 0 dX12_multiply_17 rfl ?_
  refine pz_cvI (st := [va_rf l0]) (md_X12_over X n l0 l2 x2) ck_12 rfl mk_X12_over (Or.inl pw_1178) pw_1180 ps_57 rfl rfl (by simp [pz_rf1, pz_ci, pz_cl]) (by decide) (by decide) dX12_multiply_19 (fun x3 => ?_)
  refine pz_aload_n 2 dX12_multiply_22 rfl ?_
  refine pz_getR (ci := 12) (k := 22) ck_12 (by decide) (Or.inl pw_954) dX12_multiply_23 (fun x4 => ?_)
  refine pz_aload_n 2 dX12_multiply_26 rfl ?_
  refine pz_getI (ci := 12) (k := 24) ck_12 (by decide) (Or.inl pw_956) dX12_multiply_27 (fun x5 => ?_)
  refine pz_iald (t := 0) rfl dX12_multiply_30 (fun x6 => ?_)
  refine pz_iload_n 3 dX12_multiply_31 rfl ?_
  refine pz_iconst 0 dX12_multiply_32 (by decide) ?_
  refine pz_csI (st := [.int x3, va_rf l0]) (md_X12_multiplierAt X n x6 l1 0) mk_X12_multiplierAt (Or.inl pw_1090) pw_1091 rfl rfl (by simp [pz_rf1, pz_ci, pz_cl]) (by decide) (by decide) dX12_multiply_33 (fun x7 => ?_)
  refine pz_cvU (st := []) (md_X12_copyTo X n l0 x3 x7) ck_12 rfl mk_X12_copyTo (Or.inl pw_924) pw_926 ps_31 rfl rfl (by decide) (by decide) (by decide) dX12_multiply_36 (fun _ => ?_)
  refine pz_aload_n 2 dX12_multiply_39 rfl ?_
  refine pz_aload_n 2 dX12_multiply_40 rfl ?_
  refine pz_iload_n 5 dX12_multiply_41 rfl ?_
  refine pz_iload 0 dX12_multiply_42 rfl ?_
  refine pz_cvI (st := [va_rf l0]) (md_X12_over X n l0 l3 x2) ck_12 rfl mk_X12_over (Or.inl pw_1178) pw_1180 ps_57 rfl rfl (by simp [pz_rf1, pz_ci, pz_cl]) (by decide) (by decide) dX12_multiply_44 (fun x9 => ?_)
  refine pz_aload_n 2 dX12_multiply_47 rfl ?_
  refine pz_getR (ci := 12) (k := 22) ck_12 (by decide) (Or.inl pw_954) dX12_multiply_48 (fun x10 => ?_)
  refine pz_aload_n 2 dX12_multiply_51 rfl ?_
  refine pz_getI (ci := 12) (k := 24) ck_12 (by decide) (Or.inl pw_956) dX12_multiply_52 (fun x11 => ?_)
  refine pz_iald (t := 0) rfl dX12_multiply_55 (fun x12 => ?_)
  refine pz_iload_n 3 dX12_multiply_56 rfl ?_
  refine pz_iconst 1 dX12_multiply_57 (by decide) ?_
  refine pz_csI (st := [.int x9, va_rf l0]) (md_X12_multiplierAt X n x12 l1 1) mk_X12_multiplierAt (Or.inl pw_1090) pw_1091 rfl rfl (by simp [pz_rf1, pz_ci, pz_cl]) (by decide) (by decide) dX12_multiply_58 (fun x13 => ?_)
  refine pz_cvU (st := []) (md_X12_copyTo X n l0 x9 x13) ck_12 rfl mk_X12_copyTo (Or.inl pw_924) pw_926 ps_31 rfl rfl (by decide) (by decide) (by decide) dX12_multiply_61 (fun _ => ?_)
  refine pz_aload_n 2 dX12_multiply_64 rfl ?_
  refine pz_iload 1 dX12_multiply_65 rfl ?_
  refine pz_put (ci := 12) (k := 35) ck_12 (by decide) (Or.inl pw_967) (Or.inl rfl) rfl rfl dX12_multiply_67 ?_
  exact pz_vret rfl dX12_multiply_70
set_option maxRecDepth 20000 in
theorem md_X12_multiply (X : pz_X) (n : Nat) (l0 : Option Nat) (l1 : Int32) (l2 : Int32) (l3 : Int32) : pz_Md X yX12_multiply J_X12_multiply pz_vU [va_rf l0, .int l1, .int l2, .int l3] (X12_multiply n l0 l1 l2 l3) :=
  pz_md [(0, va_rf l0), (1, .int l1), (2, .int l2), (3, .int l3)] (by decide +kernel) rfl rfl (by cases l0 <;> rfl) (by cases l0 <;> exact Nat.le_of_ble_eq_true rfl) (fun X => S_X12_multiply X n l0 l1 l2 l3)
set_option maxRecDepth 20000 in
theorem S_X12_foundAt (X : pz_X) (n : Nat) (l0 : Int32) : pz_Sm X (pz_QM X) J_X12_foundAt pz_vI 0 [(0, .int l0)] [] (X12_foundAt n l0) := by
  unfold X12_foundAt
  refine pz_ldc 440000 dX12_foundAt_0 pw_1219 ?_
  refine pz_sipush 300 dX12_foundAt_2 (by decide) ?_
  refine pz_iload_n 0 dX12_foundAt_5 rfl ?_
  refine pz_imul dX12_foundAt_6 ?_
  refine pz_iadd dX12_foundAt_7 ?_
  exact pz_iret rfl dX12_foundAt_8
set_option maxRecDepth 20000 in
theorem md_X12_foundAt (X : pz_X) (n : Nat) (l0 : Int32) : pz_Md X yX12_foundAt J_X12_foundAt pz_vI [.int l0] (X12_foundAt n l0) :=
  pz_md [(0, .int l0)] (by decide +kernel) rfl rfl (by rfl) (by exact Nat.le_of_ble_eq_true rfl) (fun X => S_X12_foundAt X n l0)
set_option maxRecDepth 20000 in
theorem S_X12_takeBounds_b172 (X : pz_X) (n : Nat) (l0 : Option Nat) (K23 : Int32 → pz_C Unit) (hK23 : ∀ (l1 : Int32), pz_Sm X (pz_QM X) J_X12_takeBounds pz_vU 23 [(0, va_rf l0), (1, .int l1)] [] (K23 l1)) (l1 : Int32) (l4 : Int32) : pz_Sm X (pz_QM X) J_X12_takeBounds pz_vU 172 [(0, va_rf l0), (1, .int l1), (4, .int l4)] [] (X12_takeBounds_b172 n K23 l0 l1 l4) := by
  unfold X12_takeBounds_b172
  refine pz_aload_n 0 dX12_takeBounds_172 rfl ?_
  refine pz_iload 2 dX12_takeBounds_173 rfl ?_
  refine pz_put (ci := 12) (k := 35) ck_12 (by decide) (Or.inl pw_967) (Or.inl rfl) rfl rfl dX12_takeBounds_175 ?_
  refine pz_iinc 1 1 (fun l1_12 => [(1, .int l1_12), (0, va_rf l0), (4, .int l4)]) dX12_takeBounds_178 rfl (by decide) (by decide) (fun l1_12 => (by cases l0 <;> rfl)) (fun l1_12 => ?_)
  refine pz_goto 23 dX12_takeBounds_181 (by decide) ?_
  exact pz_sub [1, 0] rfl (hK23 l1_12)
set_option maxRecDepth 20000 in
theorem S_X12_takeBounds_b143 (X : pz_X) (n : Nat) (l0 : Option Nat) (K23 : Int32 → pz_C Unit) (hK23 : ∀ (l1 : Int32), pz_Sm X (pz_QM X) J_X12_takeBounds pz_vU 23 [(0, va_rf l0), (1, .int l1)] [] (K23 l1)) (l1 : Int32) (l2 : Int32) (l3 : Int32) (l4 : Int32) (l5 : Int32) (s0 : Int32) : pz_Sm X (pz_QM X) J_X12_takeBounds pz_vU 143 [(0, va_rf l0), (1, .int l1), (2, .int l2), (3, .int l3), (4, .int l4), (5, .int l5)] [.int s0] (X12_takeBounds_b143 n K23 l0 l1 l2 l3 l4 l5 s0) := by
  unfold X12_takeBounds_b143
  refine pz_istore [(6, .int s0), (0, va_rf l0), (1, .int l1), (2, .int l2), (3, .int l3), (4, .int l4), (5, .int l5)] dX12_takeBounds_143 (by decide) rfl ?_
  refine pz_iload 0 dX12_takeBounds_145 rfl ?_
  refine pz_if_eq 172 dX12_takeBounds_147 (by decide) ?_ ?_
  · exact pz_sub [1, 2, 5] rfl (S_X12_takeBounds_b172 X n l0 K23 hK23 l1 l4)
  · refine pz_aload_n 1 dX12_takeBounds_150 rfl ?_
    refine pz_iload 6 dX12_takeBounds_151 rfl ?_
    refine pz_iload_n 3 dX12_takeBounds_153 rfl ?_
    refine pz_iload_n 4 dX12_takeBounds_154 rfl ?_
    refine pz_csI (st := [.int l5, va_rf l0]) (md_X12_boundAt X n l2 l3) mk_X12_boundAt (Or.inl pw_1151) pw_1152 rfl rfl (by simp [pz_rf1, pz_ci, pz_cl]) (by decide) (by decide) dX12_takeBounds_155 (fun x13 => ?_)
    refine pz_cvU (st := []) (md_X12_copyTo X n l0 l5 x13) ck_12 rfl mk_X12_copyTo (Or.inl pw_924) pw_926 ps_31 rfl rfl (by decide) (by decide) (by decide) dX12_takeBounds_158 (fun _ => ?_)
    refine pz_aload_n 1 dX12_takeBounds_161 rfl ?_
    refine pz_getR (ci := 12) (k := 12) ck_12 (by decide) (Or.inl pw_944) dX12_takeBounds_162 (fun x15 => ?_)
    refine pz_iconst 2 dX12_takeBounds_165 (by decide) ?_
    refine pz_iload_n 3 dX12_takeBounds_166 rfl ?_
    refine pz_imul dX12_takeBounds_167 ?_
    refine pz_iload_n 4 dX12_takeBounds_168 rfl ?_
    refine pz_iadd dX12_takeBounds_169 ?_
    refine pz_iconst 1 dX12_takeBounds_170 (by decide) ?_
    refine pz_zast (t := 1) rfl dX12_takeBounds_171 ?_
    exact pz_sub [1, 2, 5] rfl (S_X12_takeBounds_b172 X n l0 K23 hK23 l1 l4)
set_option maxRecDepth 20000 in
theorem S_X12_takeBounds_b138 (X : pz_X) (n : Nat) (l0 : Option Nat) (K23 : Int32 → pz_C Unit) (hK23 : ∀ (l1 : Int32), pz_Sm X (pz_QM X) J_X12_takeBounds pz_vU 23 [(0, va_rf l0), (1, .int l1)] [] (K23 l1)) (l1 : Int32) (l2 : Int32) (l3 : Int32) (l4 : Int32) (l5 : Int32) : pz_Sm X (pz_QM X) J_X12_takeBounds pz_vU 138 [(0, va_rf l0), (1, .int l1), (2, .int l2), (3, .int l3), (4, .int l4), (5, .int l5)] [] (X12_takeBounds_b138 n K23 l0 l1 l2 l3 l4 l5) := by
  unfold X12_takeBounds_b138
  refine pz_iconst 1 dX12_takeBounds_138 (by decide) ?_
  refine pz_goto 143 dX12_takeBounds_139 (by decide) ?_
  exact pz_sub [0, 1, 2, 3, 4, 5] rfl (S_X12_takeBounds_b143 X n l0 K23 hK23 l1 l2 l3 l4 l5 1)
set_option maxRecDepth 20000 in
theorem S_X12_takeBounds_b142 (X : pz_X) (n : Nat) (l0 : Option Nat) (K23 : Int32 → pz_C Unit) (hK23 : ∀ (l1 : Int32), pz_Sm X (pz_QM X) J_X12_takeBounds pz_vU 23 [(0, va_rf l0), (1, .int l1)] [] (K23 l1)) (l1 : Int32) (l2 : Int32) (l3 : Int32) (l4 : Int32) (l5 : Int32) : pz_Sm X (pz_QM X) J_X12_takeBounds pz_vU 142 [(0, va_rf l0), (1, .int l1), (2, .int l2), (3, .int l3), (4, .int l4), (5, .int l5)] [] (X12_takeBounds_b142 n K23 l0 l1 l2 l3 l4 l5) := by
  unfold X12_takeBounds_b142
  refine pz_iconst 0 dX12_takeBounds_142 (by decide) ?_
  exact pz_sub [0, 1, 2, 3, 4, 5] rfl (S_X12_takeBounds_b143 X n l0 K23 hK23 l1 l2 l3 l4 l5 0)
set_option maxRecDepth 20000 in
theorem S_X12_takeBounds_b88 (X : pz_X) (n : Nat) (l0 : Option Nat) (K23 : Int32 → pz_C Unit) (hK23 : ∀ (l1 : Int32), pz_Sm X (pz_QM X) J_X12_takeBounds pz_vU 23 [(0, va_rf l0), (1, .int l1)] [] (K23 l1)) (l1 : Int32) (l2 : Int32) (l3 : Int32) (l4 : Int32) (s0 : Int32) : pz_Sm X (pz_QM X) J_X12_takeBounds pz_vU 88 [(0, va_rf l0), (1, .int l1), (2, .int l2), (3, .int l3), (4, .int l4)] [.int s0] (X12_takeBounds_b88 n K23 l0 l1 l2 l3 l4 s0) := by
  unfold X12_takeBounds_b88
  refine pz_istore [(5, .int s0), (0, va_rf l0), (1, .int l1), (2, .int l2), (3, .int l3), (4, .int l4)] dX12_takeBounds_88 (by decide) rfl ?_
  refine pz_aload_n 1 dX12_takeBounds_90 rfl ?_
  refine pz_getR (ci := 12) (k := 12) ck_12 (by decide) (Or.inl pw_944) dX12_takeBounds_91 (fun x10 => ?_)
  refine pz_iconst 2 dX12_takeBounds_94 (by decide) ?_
  refine pz_iload_n 3 dX12_takeBounds_95 rfl ?_
  refine pz_imul dX12_takeBounds_96 ?_
  refine pz_iload_n 4 dX12_takeBounds_97 rfl ?_
  refine pz_iadd dX12_takeBounds_98 ?_
  refine pz_zald (t := 1) rfl dX12_takeBounds_99 (fun x11 => ?_)
  refine pz_if_eq 138 dX12_takeBounds_100 (by decide) ?_ ?_
  · exact pz_sub [1, 2, 3, 4, 5, 0] rfl (S_X12_takeBounds_b138 X n l0 K23 hK23 l1 l2 l3 l4 s0)
  · refine pz_iload_n 4 dX12_takeBounds_103 rfl ?_
    refine pz_if_ne 124 dX12_takeBounds_104 (by decide) ?_ ?_
    · refine pz_aload_n 1 dX12_takeBounds_107 rfl ?_
      refine pz_iload 0 dX12_takeBounds_108 rfl ?_
      refine pz_iload_n 3 dX12_takeBounds_110 rfl ?_
      refine pz_iconst 0 dX12_takeBounds_111 (by decide) ?_
      refine pz_csI (st := [.int s0, va_rf l0]) (md_X12_boundAt X n l2 0) mk_X12_boundAt (Or.inl pw_1151) pw_1152 rfl rfl (by simp [pz_rf1, pz_ci, pz_cl]) (by decide) (by decide) dX12_takeBounds_112 (fun x16 => ?_)
      refine pz_cvI (st := []) (md_X12_compare X n l0 s0 x16) ck_12 rfl mk_X12_compare (Or.inl pw_1154) pw_1156 ps_51 rfl rfl (by decide) (by decide) (by decide) dX12_takeBounds_115 (fun x17 => ?_)
      refine pz_if_ge 142 dX12_takeBounds_118 (by decide) ?_ ?_
      · exact pz_sub [1, 2, 3, 4, 5, 0] rfl (S_X12_takeBounds_b142 X n l0 K23 hK23 l1 l2 l3 l4 s0)
      · refine pz_goto 138 dX12_takeBounds_121 (by decide) ?_
        exact pz_sub [1, 2, 3, 4, 5, 0] rfl (S_X12_takeBounds_b138 X n l0 K23 hK23 l1 l2 l3 l4 s0)
    · refine pz_aload_n 1 dX12_takeBounds_124 rfl ?_
      refine pz_iload 0 dX12_takeBounds_125 rfl ?_
      refine pz_iload_n 3 dX12_takeBounds_127 rfl ?_
      refine pz_iconst 1 dX12_takeBounds_128 (by decide) ?_
      refine pz_csI (st := [.int s0, va_rf l0]) (md_X12_boundAt X n l2 1) mk_X12_boundAt (Or.inl pw_1151) pw_1152 rfl rfl (by simp [pz_rf1, pz_ci, pz_cl]) (by decide) (by decide) dX12_takeBounds_129 (fun x18 => ?_)
      refine pz_cvI (st := []) (md_X12_compare X n l0 s0 x18) ck_12 rfl mk_X12_compare (Or.inl pw_1154) pw_1156 ps_51 rfl rfl (by decide) (by decide) (by decide) dX12_takeBounds_132 (fun x19 => ?_)
      refine pz_if_le 142 dX12_takeBounds_135 (by decide) ?_ ?_
      · exact pz_sub [1, 2, 3, 4, 5, 0] rfl (S_X12_takeBounds_b142 X n l0 K23 hK23 l1 l2 l3 l4 s0)
      · exact pz_sub [1, 2, 3, 4, 5, 0] rfl (S_X12_takeBounds_b138 X n l0 K23 hK23 l1 l2 l3 l4 s0)
set_option maxRecDepth 20000 in
theorem S_X12_takeBounds_b57 (X : pz_X) (n : Nat) (l0 : Option Nat) (K23 : Int32 → pz_C Unit) (hK23 : ∀ (l1 : Int32), pz_Sm X (pz_QM X) J_X12_takeBounds pz_vU 23 [(0, va_rf l0), (1, .int l1)] [] (K23 l1)) (l1 : Int32) (l2 : Int32) (s0 : Int32) : pz_Sm X (pz_QM X) J_X12_takeBounds pz_vU 57 [(0, va_rf l0), (1, .int l1), (2, .int l2)] [.int s0] (X12_takeBounds_b57 n K23 l0 l1 l2 s0) := by
  unfold X12_takeBounds_b57
  refine pz_istore_n [(3, .int s0), (0, va_rf l0), (1, .int l1), (2, .int l2)] dX12_takeBounds_57 (by decide) rfl ?_
  refine pz_aload_n 1 dX12_takeBounds_58 rfl ?_
  refine pz_getI (ci := 12) (k := 35) ck_12 (by decide) (Or.inl pw_967) dX12_takeBounds_59 (fun x8 => ?_)
  refine pz_istore [(4, .int x8), (3, .int s0), (0, va_rf l0), (1, .int l1), (2, .int l2)] dX12_takeBounds_62 (by decide) rfl ?_
  refine pz_iload_n 1 dX12_takeBounds_64 rfl ?_
  refine pz_if_ne 75 dX12_takeBounds_65 (by decide) ?_ ?_
  · refine pz_iload_n 3 dX12_takeBounds_68 rfl ?_
    refine pz_csI (st := []) (md_X12_foundAt X n l1) mk_X12_foundAt (Or.inl pw_1216) pw_1217 rfl rfl (by decide) (by decide) (by decide) dX12_takeBounds_69 (fun x9 => ?_)
    refine pz_goto 88 dX12_takeBounds_72 (by decide) ?_
    exact pz_sub [2, 3, 4, 1, 0] rfl (S_X12_takeBounds_b88 X n l0 K23 hK23 l1 l2 s0 x8 x9)
  · refine pz_aload_n 2 dX12_takeBounds_75 rfl ?_
    refine pz_iload_n 3 dX12_takeBounds_76 rfl ?_
    refine pz_csI (st := [va_rf l0]) (md_X12_foundAt X n l1) mk_X12_foundAt (Or.inl pw_1216) pw_1217 rfl rfl (by simp [pz_rf1, pz_ci, pz_cl]) (by decide) (by decide) dX12_takeBounds_77 (fun x20 => ?_)
    refine pz_aload_n 2 dX12_takeBounds_80 rfl ?_
    refine pz_lconst 1 dX12_takeBounds_81 (by decide) ?_
    refine pz_cvI (st := [.int x20, va_rf l0]) (md_X12_plainOf X n l0 1) ck_12 rfl mk_X12_plainOf (Or.inl pw_919) pw_921 ps_30 rfl rfl (by simp [pz_rf1, pz_ci, pz_cl]) (by decide) (by decide) dX12_takeBounds_82 (fun x21 => ?_)
    refine pz_cvI (st := []) (md_X12_plus X n l0 x20 x21) ck_12 rfl mk_X12_plus (Or.inl pw_1126) pw_1128 ps_45 rfl rfl (by decide) (by decide) (by decide) dX12_takeBounds_85 (fun x22 => ?_)
    exact pz_sub [2, 3, 4, 1, 0] rfl (S_X12_takeBounds_b88 X n l0 K23 hK23 l1 l2 s0 x8 x22)
set_option maxRecDepth 20000 in
theorem S_X12_takeBounds_L23_body (X : pz_X) (n : Nat) (l0 : Option Nat) (K23 : Int32 → pz_C Unit) (hK23 : ∀ (l1 : Int32), pz_Sm X (pz_QM X) J_X12_takeBounds pz_vU 23 [(0, va_rf l0), (1, .int l1)] [] (K23 l1)) (l1 : Int32) : pz_Sm X (pz_QM X) J_X12_takeBounds pz_vU 23 [(0, va_rf l0), (1, .int l1)] [] (X12_takeBounds_L23_body n l0 K23 l1) := by
  unfold X12_takeBounds_L23_body
  refine pz_iload_n 1 dX12_takeBounds_23 rfl ?_
  refine pz_aload_n 0 dX12_takeBounds_24 rfl ?_
  refine pz_getI (ci := 12) (k := 25) ck_12 (by decide) (Or.inl pw_957) dX12_takeBounds_25 (fun x1 => ?_)
  refine pz_icmp_ge 184 dX12_takeBounds_28 (by decide) ?_ ?_
  · exact pz_vret rfl dX12_takeBounds_184
  · refine pz_aload_n 0 dX12_takeBounds_31 rfl ?_
    refine pz_getR (ci := 12) (k := 18) ck_12 (by decide) (Or.inl pw_950) dX12_takeBounds_32 (fun x2 => ?_)
    refine pz_aload_n 0 dX12_takeBounds_35 rfl ?_
    refine pz_getR (ci := 12) (k := 26) ck_12 (by decide) (Or.inl pw_958) dX12_takeBounds_36 (fun x3 => ?_)
    refine pz_iload_n 1 dX12_takeBounds_39 rfl ?_
    refine pz_iald (t := 0) rfl dX12_takeBounds_40 (fun x4 => ?_)
    refine pz_iald (t := 0) rfl dX12_takeBounds_41 (fun x5 => ?_)
    refine pz_istore_n [(2, .int x5), (0, va_rf l0), (1, .int l1)] dX12_takeBounds_42 (by decide) rfl ?_
    refine pz_aload_n 1 dX12_takeBounds_43 rfl ?_
    refine pz_getR (ci := 12) (k := 27) ck_12 (by decide) (Or.inl pw_959) dX12_takeBounds_44 (fun x6 => ?_)
    refine pz_iload_n 2 dX12_takeBounds_47 rfl ?_
    refine pz_zald (t := 1) rfl dX12_takeBounds_48 (fun x7 => ?_)
    refine pz_if_eq 56 dX12_takeBounds_49 (by decide) ?_ ?_
    · refine pz_iconst 0 dX12_takeBounds_56 (by decide) ?_
      exact pz_sub [1, 2, 0] rfl (S_X12_takeBounds_b57 X n l0 K23 hK23 l1 x5 0)
    · refine pz_iconst 1 dX12_takeBounds_52 (by decide) ?_
      refine pz_goto 57 dX12_takeBounds_53 (by decide) ?_
      exact pz_sub [1, 2, 0] rfl (S_X12_takeBounds_b57 X n l0 K23 hK23 l1 x5 1)
set_option maxRecDepth 20000 in
theorem S_X12_takeBounds_L23 (X : pz_X) (n : Nat) (l0 : Option Nat) (l1 : Int32) : pz_Sm X (pz_QM X) J_X12_takeBounds pz_vU 23 [(0, va_rf l0), (1, .int l1)] [] (X12_takeBounds_L23 n l0 l1) :=
  pz_lp (L := fun (s : Int32) => [(0, va_rf l0), (1, .int s)]) (fun K hK s => S_X12_takeBounds_L23_body X n l0 (fun l1 => K l1) (fun l1 => hK l1) s) n l1
set_option maxRecDepth 20000 in
theorem S_X12_takeBounds_L2_body (X : pz_X) (n : Nat) (l0 : Option Nat) (K2 : Int32 → pz_C Unit) (hK2 : ∀ (l1 : Int32), pz_Sm X (pz_QM X) J_X12_takeBounds pz_vU 2 [(0, va_rf l0), (1, .int l1)] [] (K2 l1)) (l1 : Int32) : pz_Sm X (pz_QM X) J_X12_takeBounds pz_vU 2 [(0, va_rf l0), (1, .int l1)] [] (X12_takeBounds_L2_body n l0 K2 l1) := by
  unfold X12_takeBounds_L2_body
  refine pz_iload_n 1 dX12_takeBounds_2 rfl ?_
  refine pz_bipush 20 dX12_takeBounds_3 (by decide) ?_
  refine pz_icmp_ge 21 dX12_takeBounds_5 (by decide) ?_ ?_
  · refine pz_iconst 0 dX12_takeBounds_21 (by decide) ?_
    refine pz_istore_n [(1, .int 0), (0, va_rf l0)] dX12_takeBounds_22 (by decide) (by cases l0 <;> rfl) ?_
    exact pz_sub [1, 0] rfl (S_X12_takeBounds_L23 X n l0 0)
  · refine pz_aload_n 0 dX12_takeBounds_8 rfl ?_
    refine pz_getR (ci := 12) (k := 12) ck_12 (by decide) (Or.inl pw_944) dX12_takeBounds_9 (fun x23 => ?_)
    refine pz_iload_n 1 dX12_takeBounds_12 rfl ?_
    refine pz_iconst 0 dX12_takeBounds_13 (by decide) ?_
    refine pz_zast (t := 1) rfl dX12_takeBounds_14 ?_
    refine pz_iinc 1 1 (fun l1_24 => [(1, .int l1_24), (0, va_rf l0)]) dX12_takeBounds_15 rfl (by decide) (by decide) (fun l1_24 => (by cases l0 <;> rfl)) (fun l1_24 => ?_)
    refine pz_goto 2 dX12_takeBounds_18 (by decide) ?_
    exact pz_sub [1, 0] rfl (hK2 l1_24)
set_option maxRecDepth 20000 in
theorem S_X12_takeBounds_L2 (X : pz_X) (n : Nat) (l0 : Option Nat) (l1 : Int32) : pz_Sm X (pz_QM X) J_X12_takeBounds pz_vU 2 [(0, va_rf l0), (1, .int l1)] [] (X12_takeBounds_L2 n l0 l1) :=
  pz_lp (L := fun (s : Int32) => [(0, va_rf l0), (1, .int s)]) (fun K hK s => S_X12_takeBounds_L2_body X n l0 (fun l1 => K l1) (fun l1 => hK l1) s) n l1
set_option maxRecDepth 20000 in
theorem S_X12_takeBounds (X : pz_X) (n : Nat) (l0 : Option Nat) : pz_Sm X (pz_QM X) J_X12_takeBounds pz_vU 0 [(0, va_rf l0)] [] (X12_takeBounds n l0) := by
  unfold X12_takeBounds
  refine pz_iconst 0 dX12_takeBounds_0 (by decide) ?_
  refine pz_istore_n [(1, .int 0), (0, va_rf l0)] dX12_takeBounds_1 (by decide) (by cases l0 <;> rfl) ?_
  exact pz_sub [1, 0] rfl (S_X12_takeBounds_L2 X n l0 0)
set_option maxRecDepth 20000 in
theorem md_X12_takeBounds (X : pz_X) (n : Nat) (l0 : Option Nat) : pz_Md X yX12_takeBounds J_X12_takeBounds pz_vU [va_rf l0] (X12_takeBounds n l0) :=
  pz_md [(0, va_rf l0)] (by decide +kernel) rfl rfl (by cases l0 <;> rfl) (by cases l0 <;> exact Nat.le_of_ble_eq_true rfl) (fun X => S_X12_takeBounds X n l0)
set_option maxRecDepth 20000 in
theorem S_X12_conflict_b310 (X : pz_X) (n : Nat) : pz_Sm X (pz_QM X) J_X12_conflict pz_vU 310 [] [] (X12_conflict_b310 n) := by
  unfold X12_conflict_b310
  exact pz_vret rfl dX12_conflict_310
set_option maxRecDepth 20000 in
theorem S_X12_conflict_b196 (X : pz_X) (n : Nat) (l0 : Option Nat) (l3 : Int32) : pz_Sm X (pz_QM X) J_X12_conflict pz_vU 196 [(0, va_rf l0), (3, .int l3)] [] (X12_conflict_b196 n l0 l3) := by
  unfold X12_conflict_b196
  refine pz_iload_n 1 dX12_conflict_196 rfl ?_
  refine pz_if_ge 211 dX12_conflict_197 (by decide) ?_ ?_
  · refine pz_aload_n 0 dX12_conflict_211 rfl ?_
    refine pz_iload_n 1 dX12_conflict_212 rfl ?_
    refine pz_iconst 1 dX12_conflict_213 (by decide) ?_
    refine pz_iadd dX12_conflict_214 ?_
    refine pz_put (ci := 12) (k := 25) ck_12 (by decide) (Or.inl pw_957) (Or.inl rfl) rfl rfl dX12_conflict_215 ?_
    refine pz_aload_n 0 dX12_conflict_218 rfl ?_
    refine pz_getR (ci := 12) (k := 27) ck_12 (by decide) (Or.inl pw_959) dX12_conflict_219 (fun x16 => ?_)
    refine pz_iload_n 1 dX12_conflict_222 rfl ?_
    refine pz_iconst 1 dX12_conflict_223 (by decide) ?_
    refine pz_zast (t := 1) rfl dX12_conflict_224 ?_
    refine pz_aload_n 0 dX12_conflict_225 rfl ?_
    refine pz_cvU (st := []) (md_X12_takeBounds X n l0) ck_12 rfl mk_X12_takeBounds (Or.inl pw_1212) pw_1214 ps_65 rfl rfl (by decide) (by decide) (by decide) dX12_conflict_226 (fun _ => ?_)
    refine pz_aload_n 0 dX12_conflict_229 rfl ?_
    refine pz_getR (ci := 12) (k := 26) ck_12 (by decide) (Or.inl pw_958) dX12_conflict_230 (fun x18 => ?_)
    refine pz_iload_n 1 dX12_conflict_233 rfl ?_
    refine pz_iald (t := 0) rfl dX12_conflict_234 (fun x19 => ?_)
    refine pz_istore [(4, .int x19), (0, va_rf l0), (3, .int l3)] dX12_conflict_235 (by decide) rfl ?_
    refine pz_aload_n 1 dX12_conflict_237 rfl ?_
    refine pz_aload_n 1 dX12_conflict_238 rfl ?_
    refine pz_iload 0 dX12_conflict_239 rfl ?_
    refine pz_cvI (st := [va_rf l0]) (md_X12_newNode X n l0 x19) ck_12 rfl mk_X12_newNode (Or.inl pw_1086) pw_1088 ps_36 rfl rfl (by simp [pz_rf1, pz_ci, pz_cl]) (by decide) (by decide) dX12_conflict_241 (fun x20 => ?_)
    refine pz_put (ci := 12) (k := 24) ck_12 (by decide) (Or.inl pw_956) (Or.inl rfl) rfl rfl dX12_conflict_244 ?_
    refine pz_aload_n 1 dX12_conflict_247 rfl ?_
    refine pz_getR (ci := 12) (k := 20) ck_12 (by decide) (Or.inl pw_952) dX12_conflict_248 (fun x21 => ?_)
    refine pz_iload 0 dX12_conflict_251 rfl ?_
    refine pz_aload_n 1 dX12_conflict_253 rfl ?_
    refine pz_getI (ci := 12) (k := 24) ck_12 (by decide) (Or.inl pw_956) dX12_conflict_254 (fun x22 => ?_)
    refine pz_iast (t := 0) rfl dX12_conflict_257 ?_
    refine pz_aload_n 1 dX12_conflict_258 rfl ?_
    refine pz_getR (ci := 12) (k := 18) ck_12 (by decide) (Or.inl pw_950) dX12_conflict_259 (fun x23 => ?_)
    refine pz_iload 0 dX12_conflict_262 rfl ?_
    refine pz_iald (t := 0) rfl dX12_conflict_264 (fun x24 => ?_)
    refine pz_istore [(5, .int x24), (4, .int x19), (0, va_rf l0), (3, .int l3)] dX12_conflict_265 (by decide) rfl ?_
    refine pz_aload_n 2 dX12_conflict_267 rfl ?_
    refine pz_iload 0 dX12_conflict_268 rfl ?_
    refine pz_cvI (st := []) (md_X12_columnAt X n l0 x24) ck_12 rfl mk_X12_columnAt (Or.inl pw_1162) pw_1164 ps_53 rfl rfl (by decide) (by decide) (by decide) dX12_conflict_270 (fun x25 => ?_)
    refine pz_iconst (-1) dX12_conflict_273 (by decide) ?_
    refine pz_icmp_eq 310 dX12_conflict_274 (by decide) ?_ ?_
    · exact pz_sub [] rfl (S_X12_conflict_b310 X n)
    · refine pz_aload_n 2 dX12_conflict_277 rfl ?_
      refine pz_iload 0 dX12_conflict_278 rfl ?_
      refine pz_csI (st := [va_rf l0]) (md_X12_valueAt X n x24) mk_X12_valueAt (Or.inl pw_1080) pw_1081 rfl rfl (by simp [pz_rf1, pz_ci, pz_cl]) (by decide) (by decide) dX12_conflict_280 (fun x26 => ?_)
      refine pz_iload 0 dX12_conflict_283 rfl ?_
      refine pz_iconst 1 dX12_conflict_285 (by decide) ?_
      refine pz_csI (st := [.int x26, va_rf l0]) (md_X12_boundAt X n x24 1) mk_X12_boundAt (Or.inl pw_1151) pw_1152 rfl rfl (by simp [pz_rf1, pz_ci, pz_cl]) (by decide) (by decide) dX12_conflict_286 (fun x27 => ?_)
      refine pz_cvI (st := []) (md_X12_compare X n l0 x26 x27) ck_12 rfl mk_X12_compare (Or.inl pw_1154) pw_1156 ps_51 rfl rfl (by decide) (by decide) (by decide) dX12_conflict_289 (fun x28 => ?_)
      refine pz_if_ge 310 dX12_conflict_292 (by decide) ?_ ?_
      · exact pz_sub [] rfl (S_X12_conflict_b310 X n)
      · refine pz_aload_n 2 dX12_conflict_295 rfl ?_
        refine pz_iload 0 dX12_conflict_296 rfl ?_
        refine pz_iconst 1 dX12_conflict_298 (by decide) ?_
        refine pz_csI (st := [va_rf l0]) (md_X12_boundAt X n x24 1) mk_X12_boundAt (Or.inl pw_1151) pw_1152 rfl rfl (by simp [pz_rf1, pz_ci, pz_cl]) (by decide) (by decide) dX12_conflict_299 (fun x29 => ?_)
        refine pz_iload 0 dX12_conflict_302 rfl ?_
        refine pz_csI (st := [.int x29, va_rf l0]) (md_X12_valueAt X n x24) mk_X12_valueAt (Or.inl pw_1080) pw_1081 rfl rfl (by simp [pz_rf1, pz_ci, pz_cl]) (by decide) (by decide) dX12_conflict_304 (fun x30 => ?_)
        refine pz_cvU (st := []) (md_X12_copyTo X n l0 x29 x30) ck_12 rfl mk_X12_copyTo (Or.inl pw_924) pw_926 ps_31 rfl rfl (by decide) (by decide) (by decide) dX12_conflict_307 (fun _ => ?_)
        exact pz_sub [] rfl (S_X12_conflict_b310 X n)
  · refine pz_aload_n 0 dX12_conflict_200 rfl ?_
    refine pz_iconst 0 dX12_conflict_201 (by decide) ?_
    refine pz_put (ci := 12) (k := 25) ck_12 (by decide) (Or.inl pw_957) (Or.inl rfl) rfl rfl dX12_conflict_202 ?_
    refine pz_aload_n 0 dX12_conflict_205 rfl ?_
    refine pz_iconst 3 dX12_conflict_206 (by decide) ?_
    refine pz_put (ci := 12) (k := 7) ck_12 (by decide) (Or.inl pw_939) (Or.inl rfl) rfl rfl dX12_conflict_207 ?_
    exact pz_vret rfl dX12_conflict_210
set_option maxRecDepth 20000 in
theorem S_X12_conflict_L177_body (X : pz_X) (n : Nat) (l0 : Option Nat) (K177 : Int32 → pz_C Unit) (hK177 : ∀ (l3 : Int32), pz_Sm X (pz_QM X) J_X12_conflict pz_vU 177 [(0, va_rf l0), (3, .int l3)] [] (K177 l3)) (l3 : Int32) : pz_Sm X (pz_QM X) J_X12_conflict pz_vU 177 [(0, va_rf l0), (3, .int l3)] [] (X12_conflict_L177_body n l0 K177 l3) := by
  unfold X12_conflict_L177_body
  refine pz_iload_n 1 dX12_conflict_177 rfl ?_
  refine pz_if_lt 196 dX12_conflict_178 (by decide) ?_ ?_
  · exact pz_sub [0, 1] rfl (S_X12_conflict_b196 X n l0 l3)
  · refine pz_aload_n 0 dX12_conflict_181 rfl ?_
    refine pz_getR (ci := 12) (k := 27) ck_12 (by decide) (Or.inl pw_959) dX12_conflict_182 (fun x32 => ?_)
    refine pz_iload_n 1 dX12_conflict_185 rfl ?_
    refine pz_zald (t := 1) rfl dX12_conflict_186 (fun x33 => ?_)
    refine pz_if_eq 196 dX12_conflict_187 (by decide) ?_ ?_
    · exact pz_sub [0, 1] rfl (S_X12_conflict_b196 X n l0 l3)
    · refine pz_iinc 1 (-1) (fun l3_34 => [(3, .int l3_34), (0, va_rf l0)]) dX12_conflict_190 rfl (by decide) (by decide) (fun l3_34 => rfl) (fun l3_34 => ?_)
      refine pz_goto 177 dX12_conflict_193 (by decide) ?_
      exact pz_sub [1, 0] rfl (hK177 l3_34)
set_option maxRecDepth 20000 in
theorem S_X12_conflict_L177 (X : pz_X) (n : Nat) (l0 : Option Nat) (l3 : Int32) : pz_Sm X (pz_QM X) J_X12_conflict pz_vU 177 [(0, va_rf l0), (3, .int l3)] [] (X12_conflict_L177 n l0 l3) :=
  pz_lp (L := fun (s : Int32) => [(0, va_rf l0), (3, .int s)]) (fun K hK s => S_X12_conflict_L177_body X n l0 (fun l3 => K l3) (fun l3 => hK l3) s) n l3
set_option maxRecDepth 20000 in
theorem S_X12_conflict_b149 (X : pz_X) (n : Nat) (l0 : Option Nat) (l1 : Int32) (l2 : Int32) (K59 : Int32 → pz_C Unit) (hK59 : ∀ (l3 : Int32), pz_Sm X (pz_QM X) J_X12_conflict pz_vU 59 [(0, va_rf l0), (1, .int l1), (2, .int l2), (3, .int l3)] [] (K59 l3)) (l3 : Int32) : pz_Sm X (pz_QM X) J_X12_conflict pz_vU 149 [(0, va_rf l0), (1, .int l1), (2, .int l2), (3, .int l3)] [] (X12_conflict_b149 n K59 l0 l1 l2 l3) := by
  unfold X12_conflict_b149
  refine pz_iinc 3 1 (fun l3_38 => [(3, .int l3_38), (0, va_rf l0), (1, .int l1), (2, .int l2)]) dX12_conflict_149 rfl (by decide) (by decide) (fun l3_38 => rfl) (fun l3_38 => ?_)
  refine pz_goto 59 dX12_conflict_152 (by decide) ?_
  exact pz_sub [1, 2, 3, 0] rfl (hK59 l3_38)
set_option maxRecDepth 20000 in
theorem S_X12_conflict_b145 (X : pz_X) (n : Nat) (l0 : Option Nat) (l1 : Int32) (l2 : Int32) (K59 : Int32 → pz_C Unit) (hK59 : ∀ (l3 : Int32), pz_Sm X (pz_QM X) J_X12_conflict pz_vU 59 [(0, va_rf l0), (1, .int l1), (2, .int l2), (3, .int l3)] [] (K59 l3)) (l3 : Int32) (s0 : Option Nat) (s1 : Int32) (s2 : Int32) : pz_Sm X (pz_QM X) J_X12_conflict pz_vU 145 [(0, va_rf l0), (1, .int l1), (2, .int l2), (3, .int l3)] [.int s2, .int s1, va_rf s0] (X12_conflict_b145 n K59 l0 l1 l2 l3 s0 s1 s2) := by
  unfold X12_conflict_b145
  refine pz_iconst 0 dX12_conflict_145 (by decide) ?_
  refine pz_cvU (st := []) (md_X12_multiply X n s0 s1 s2 0) ck_12 rfl mk_X12_multiply (Or.inl pw_1204) pw_1206 ps_63 rfl rfl (by decide) (by decide) (by decide) dX12_conflict_146 (fun _ => ?_)
  exact pz_sub [0, 1, 2, 3] rfl (S_X12_conflict_b149 X n l0 l1 l2 K59 hK59 l3)
set_option maxRecDepth 20000 in
theorem S_X12_conflict_b123 (X : pz_X) (n : Nat) (l0 : Option Nat) (l1 : Int32) (l2 : Int32) (K59 : Int32 → pz_C Unit) (hK59 : ∀ (l3 : Int32), pz_Sm X (pz_QM X) J_X12_conflict pz_vU 59 [(0, va_rf l0), (1, .int l1), (2, .int l2), (3, .int l3)] [] (K59 l3)) (l3 : Int32) (l4 : Int32) (s0 : Option Nat) (s1 : Option Nat) (s2 : Int32) (s3 : Int32) : pz_Sm X (pz_QM X) J_X12_conflict pz_vU 123 [(0, va_rf l0), (1, .int l1), (2, .int l2), (3, .int l3), (4, .int l4)] [.int s3, .int s2, va_rf s1, va_rf s0] (X12_conflict_b123 n K59 l0 l1 l2 l3 l4 s0 s1 s2 s3) := by
  unfold X12_conflict_b123
  refine pz_cvI (st := [va_rf s0]) (md_X12_multiplierOf X n s1 s2 s3) ck_12 rfl mk_X12_multiplierOf (Or.inl pw_1200) pw_1202 ps_62 rfl rfl (by simp [pz_rf1, pz_ci, pz_cl]) (by decide) (by decide) dX12_conflict_123 (fun x41 => ?_)
  refine pz_aload_n 0 dX12_conflict_126 rfl ?_
  refine pz_getI (ci := 12) (k := 29) ck_12 (by decide) (Or.inl pw_961) dX12_conflict_127 (fun x42 => ?_)
  refine pz_iconst 1 dX12_conflict_130 (by decide) ?_
  refine pz_icmp_ne 139 dX12_conflict_131 (by decide) ?_ ?_
  · refine pz_iload 4 dX12_conflict_134 rfl ?_
    refine pz_goto 145 dX12_conflict_136 (by decide) ?_
    exact pz_sub [0, 1, 2, 3] rfl (S_X12_conflict_b145 X n l0 l1 l2 K59 hK59 l3 s0 x41 l4)
  · refine pz_aload_n 0 dX12_conflict_139 rfl ?_
    refine pz_iload 4 dX12_conflict_140 rfl ?_
    refine pz_cvI (st := [.int x41, va_rf s0]) (md_X12_less X n l0 l4) ck_12 rfl mk_X12_less (Or.inl pw_1174) pw_1176 ps_56 rfl rfl (by simp [pz_rf1, pz_ci, pz_cl]) (by decide) (by decide) dX12_conflict_142 (fun x44 => ?_)
    exact pz_sub [0, 1, 2, 3] rfl (S_X12_conflict_b145 X n l0 l1 l2 K59 hK59 l3 s0 x41 x44)
set_option maxRecDepth 20000 in
theorem S_X12_conflict_b98 (X : pz_X) (n : Nat) (l0 : Option Nat) (l1 : Int32) (l2 : Int32) (K59 : Int32 → pz_C Unit) (hK59 : ∀ (l3 : Int32), pz_Sm X (pz_QM X) J_X12_conflict pz_vU 59 [(0, va_rf l0), (1, .int l1), (2, .int l2), (3, .int l3)] [] (K59 l3)) (l3 : Int32) (l4 : Int32) (s0 : Int32) : pz_Sm X (pz_QM X) J_X12_conflict pz_vU 98 [(0, va_rf l0), (1, .int l1), (2, .int l2), (3, .int l3), (4, .int l4)] [.int s0] (X12_conflict_b98 n K59 l0 l1 l2 l3 l4 s0) := by
  unfold X12_conflict_b98
  refine pz_istore [(5, .int s0), (0, va_rf l0), (1, .int l1), (2, .int l2), (3, .int l3), (4, .int l4)] dX12_conflict_98 (by decide) rfl ?_
  refine pz_iload 0 dX12_conflict_100 rfl ?_
  refine pz_if_eq 149 dX12_conflict_102 (by decide) ?_ ?_
  · exact pz_sub [1, 2, 3, 4] rfl (S_X12_conflict_b149 X n l0 l1 l2 K59 hK59 l3)
  · refine pz_aload_n 1 dX12_conflict_105 rfl ?_
    refine pz_aload_n 1 dX12_conflict_106 rfl ?_
    refine pz_aload_n 1 dX12_conflict_107 rfl ?_
    refine pz_getR (ci := 12) (k := 14) ck_12 (by decide) (Or.inl pw_946) dX12_conflict_108 (fun x39 => ?_)
    refine pz_iload_n 4 dX12_conflict_111 rfl ?_
    refine pz_iald (t := 0) rfl dX12_conflict_112 (fun x40 => ?_)
    refine pz_iload 0 dX12_conflict_113 rfl ?_
    refine pz_if_le 122 dX12_conflict_115 (by decide) ?_ ?_
    · refine pz_iconst 1 dX12_conflict_122 (by decide) ?_
      exact pz_sub [1, 2, 3, 4, 5] rfl (S_X12_conflict_b123 X n l0 l1 l2 K59 hK59 l3 l4 l0 l0 x40 1)
    · refine pz_iconst 0 dX12_conflict_118 (by decide) ?_
      refine pz_goto 123 dX12_conflict_119 (by decide) ?_
      exact pz_sub [1, 2, 3, 4, 5] rfl (S_X12_conflict_b123 X n l0 l1 l2 K59 hK59 l3 l4 l0 l0 x40 0)
set_option maxRecDepth 20000 in
theorem S_X12_conflict_L59_body (X : pz_X) (n : Nat) (l0 : Option Nat) (l1 : Int32) (l2 : Int32) (K59 : Int32 → pz_C Unit) (hK59 : ∀ (l3 : Int32), pz_Sm X (pz_QM X) J_X12_conflict pz_vU 59 [(0, va_rf l0), (1, .int l1), (2, .int l2), (3, .int l3)] [] (K59 l3)) (l3 : Int32) : pz_Sm X (pz_QM X) J_X12_conflict pz_vU 59 [(0, va_rf l0), (1, .int l1), (2, .int l2), (3, .int l3)] [] (X12_conflict_L59_body n l0 l1 l2 K59 l3) := by
  unfold X12_conflict_L59_body
  refine pz_iload_n 3 dX12_conflict_59 rfl ?_
  refine pz_aload_n 0 dX12_conflict_60 rfl ?_
  refine pz_getI (ci := 12) (k := 0) ck_12 (by decide) (Or.inl pw_932) dX12_conflict_61 (fun x11 => ?_)
  refine pz_icmp_ge 155 dX12_conflict_64 (by decide) ?_ ?_
  · refine pz_aload_n 0 dX12_conflict_155 rfl ?_
    refine pz_iload_n 2 dX12_conflict_156 rfl ?_
    refine pz_put (ci := 12) (k := 35) ck_12 (by decide) (Or.inl pw_967) (Or.inl rfl) rfl rfl dX12_conflict_157 ?_
    refine pz_aload_n 0 dX12_conflict_160 rfl ?_
    refine pz_getR (ci := 12) (k := 17) ck_12 (by decide) (Or.inl pw_949) dX12_conflict_161 (fun x12 => ?_)
    refine pz_aload_n 0 dX12_conflict_164 rfl ?_
    refine pz_getI (ci := 12) (k := 24) ck_12 (by decide) (Or.inl pw_956) dX12_conflict_165 (fun x13 => ?_)
    refine pz_iconst 1 dX12_conflict_168 (by decide) ?_
    refine pz_zast (t := 1) rfl dX12_conflict_169 ?_
    refine pz_aload_n 0 dX12_conflict_170 rfl ?_
    refine pz_getI (ci := 12) (k := 25) ck_12 (by decide) (Or.inl pw_957) dX12_conflict_171 (fun x14 => ?_)
    refine pz_iconst 1 dX12_conflict_174 (by decide) ?_
    refine pz_isub dX12_conflict_175 ?_
    refine pz_nmI (fun l3_15 => ?_)
    refine pz_istore_n [(3, .int l3_15), (0, va_rf l0), (1, .int l1), (2, .int l2)] dX12_conflict_176 (by decide) rfl ?_
    exact pz_sub [1, 0] rfl (S_X12_conflict_L177 X n l0 l3_15)
  · refine pz_iload_n 1 dX12_conflict_67 rfl ?_
    refine pz_iload_n 3 dX12_conflict_68 rfl ?_
    refine pz_csI (st := []) (md_X12_factorAt X n l1 l3) mk_X12_factorAt (Or.inl pw_1083) pw_1084 rfl rfl (by decide) (by decide) (by decide) dX12_conflict_69 (fun x35 => ?_)
    refine pz_istore [(4, .int x35), (0, va_rf l0), (1, .int l1), (2, .int l2), (3, .int l3)] dX12_conflict_72 (by decide) rfl ?_
    refine pz_aload_n 1 dX12_conflict_74 rfl ?_
    refine pz_getI (ci := 12) (k := 29) ck_12 (by decide) (Or.inl pw_961) dX12_conflict_75 (fun x36 => ?_)
    refine pz_iconst 1 dX12_conflict_78 (by decide) ?_
    refine pz_icmp_ne 91 dX12_conflict_79 (by decide) ?_ ?_
    · refine pz_aload_n 1 dX12_conflict_82 rfl ?_
      refine pz_iload 0 dX12_conflict_83 rfl ?_
      refine pz_cvI (st := []) (md_X12_sgn X n l0 x35) ck_12 rfl mk_X12_sgn (Or.inl pw_1122) pw_1124 ps_44 rfl rfl (by decide) (by decide) (by decide) dX12_conflict_85 (fun x37 => ?_)
      refine pz_goto 98 dX12_conflict_88 (by decide) ?_
      exact pz_sub [1, 2, 3, 4, 0] rfl (S_X12_conflict_b98 X n l0 l1 l2 K59 hK59 l3 x35 x37)
    · refine pz_aload_n 1 dX12_conflict_91 rfl ?_
      refine pz_iload 0 dX12_conflict_92 rfl ?_
      refine pz_cvI (st := []) (md_X12_sgn X n l0 x35) ck_12 rfl mk_X12_sgn (Or.inl pw_1122) pw_1124 ps_44 rfl rfl (by decide) (by decide) (by decide) dX12_conflict_94 (fun x45 => ?_)
      refine pz_ineg dX12_conflict_97 ?_
      exact pz_sub [1, 2, 3, 4, 0] rfl (S_X12_conflict_b98 X n l0 l1 l2 K59 hK59 l3 x35 (-x45))
set_option maxRecDepth 20000 in
theorem S_X12_conflict_L59 (X : pz_X) (n : Nat) (l0 : Option Nat) (l1 : Int32) (l2 : Int32) (l3 : Int32) : pz_Sm X (pz_QM X) J_X12_conflict pz_vU 59 [(0, va_rf l0), (1, .int l1), (2, .int l2), (3, .int l3)] [] (X12_conflict_L59 n l0 l1 l2 l3) :=
  pz_lp (L := fun (s : Int32) => [(0, va_rf l0), (1, .int l1), (2, .int l2), (3, .int s)]) (fun K hK s => S_X12_conflict_L59_body X n l0 l1 l2 (fun l3 => K l3) (fun l3 => hK l3) s) n l3
set_option maxRecDepth 20000 in
theorem S_X12_conflict_b46 (X : pz_X) (n : Nat) (l0 : Option Nat) (l1 : Int32) (l2 : Int32) (s0 : Option Nat) (s1 : Int32) (s2 : Option Nat) (s3 : Int64) : pz_Sm X (pz_QM X) J_X12_conflict pz_vU 46 [(0, va_rf l0), (1, .int l1), (2, .int l2)] [.long s3, va_rf s2, .int s1, va_rf s0] (X12_conflict_b46 n l0 l1 l2 s0 s1 s2 s3) := by
  unfold X12_conflict_b46
  refine pz_cvI (st := [.int s1, va_rf s0]) (md_X12_plainOf X n s2 s3) ck_12 rfl mk_X12_plainOf (Or.inl pw_919) pw_921 ps_30 rfl rfl (by simp [pz_rf1, pz_ci, pz_cl]) (by decide) (by decide) dX12_conflict_46 (fun x8 => ?_)
  refine pz_aload_n 0 dX12_conflict_49 rfl ?_
  refine pz_lconst 1 dX12_conflict_50 (by decide) ?_
  refine pz_cvI (st := [.int x8, .int s1, va_rf s0]) (md_X12_plainOf X n l0 1) ck_12 rfl mk_X12_plainOf (Or.inl pw_919) pw_921 ps_30 rfl rfl (by simp [pz_rf1, pz_ci, pz_cl]) (by decide) (by decide) dX12_conflict_51 (fun x9 => ?_)
  refine pz_cvU (st := []) (md_X12_multiply X n s0 s1 x8 x9) ck_12 rfl mk_X12_multiply (Or.inl pw_1204) pw_1206 ps_63 rfl rfl (by decide) (by decide) (by decide) dX12_conflict_54 (fun _ => ?_)
  refine pz_iconst 0 dX12_conflict_57 (by decide) ?_
  refine pz_istore_n [(3, .int 0), (0, va_rf l0), (1, .int l1), (2, .int l2)] dX12_conflict_58 (by decide) rfl ?_
  exact pz_sub [1, 2, 3, 0] rfl (S_X12_conflict_L59 X n l0 l1 l2 0)
set_option maxRecDepth 20000 in
theorem S_X12_conflict (X : pz_X) (n : Nat) (l0 : Option Nat) (l1 : Int32) : pz_Sm X (pz_QM X) J_X12_conflict pz_vU 0 [(0, va_rf l0), (1, .int l1)] [] (X12_conflict n l0 l1) := by
  unfold X12_conflict
  refine pz_aload_n 0 dX12_conflict_0 rfl ?_
  refine pz_dup dX12_conflict_1 (pz_rf1 _) ?_
  refine pz_getI (ci := 12) (k := 10) ck_12 (by decide) (Or.inl pw_942) dX12_conflict_2 (fun x1 => ?_)
  refine pz_iconst 1 dX12_conflict_5 (by decide) ?_
  refine pz_iadd dX12_conflict_6 ?_
  refine pz_put (ci := 12) (k := 10) ck_12 (by decide) (Or.inl pw_942) (Or.inl rfl) rfl rfl dX12_conflict_7 ?_
  refine pz_aload_n 0 dX12_conflict_10 rfl ?_
  refine pz_getI (ci := 12) (k := 35) ck_12 (by decide) (Or.inl pw_967) dX12_conflict_11 (fun x2 => ?_)
  refine pz_istore_n [(2, .int x2), (0, va_rf l0), (1, .int l1)] dX12_conflict_14 (by decide) rfl ?_
  refine pz_aload_n 1 dX12_conflict_15 rfl ?_
  refine pz_aload_n 1 dX12_conflict_16 rfl ?_
  refine pz_aload_n 1 dX12_conflict_17 rfl ?_
  refine pz_getR (ci := 12) (k := 13) ck_12 (by decide) (Or.inl pw_945) dX12_conflict_18 (fun x3 => ?_)
  refine pz_iload_n 2 dX12_conflict_21 rfl ?_
  refine pz_iald (t := 0) rfl dX12_conflict_22 (fun x4 => ?_)
  refine pz_aload_n 1 dX12_conflict_23 rfl ?_
  refine pz_getI (ci := 12) (k := 29) ck_12 (by decide) (Or.inl pw_961) dX12_conflict_24 (fun x5 => ?_)
  refine pz_cvI (st := [va_rf l0]) (md_X12_multiplierOf X n l0 x4 x5) ck_12 rfl mk_X12_multiplierOf (Or.inl pw_1200) pw_1202 ps_62 rfl rfl (by simp [pz_rf1, pz_ci, pz_cl]) (by decide) (by decide) dX12_conflict_27 (fun x6 => ?_)
  refine pz_aload_n 1 dX12_conflict_30 rfl ?_
  refine pz_aload_n 1 dX12_conflict_31 rfl ?_
  refine pz_getI (ci := 12) (k := 29) ck_12 (by decide) (Or.inl pw_961) dX12_conflict_32 (fun x7 => ?_)
  refine pz_iconst 1 dX12_conflict_35 (by decide) ?_
  refine pz_icmp_ne 45 dX12_conflict_36 (by decide) ?_ ?_
  · refine pz_ldc2 (-1) dX12_conflict_39 pw_1138 ?_
    refine pz_goto 46 dX12_conflict_42 (by decide) ?_
    exact pz_sub [1, 2, 0] rfl (S_X12_conflict_b46 X n l0 l1 x2 l0 x6 l0 (-1))
  · refine pz_lconst 1 dX12_conflict_45 (by decide) ?_
    exact pz_sub [1, 2, 0] rfl (S_X12_conflict_b46 X n l0 l1 x2 l0 x6 l0 1)
set_option maxRecDepth 20000 in
theorem md_X12_conflict (X : pz_X) (n : Nat) (l0 : Option Nat) (l1 : Int32) : pz_Md X yX12_conflict J_X12_conflict pz_vU [va_rf l0, .int l1] (X12_conflict n l0 l1) :=
  pz_md [(0, va_rf l0), (1, .int l1)] (by decide +kernel) rfl rfl (by cases l0 <;> rfl) (by cases l0 <;> exact Nat.le_of_ble_eq_true rfl) (fun X => S_X12_conflict X n l0 l1)
set_option maxRecDepth 20000 in
theorem S_X12_splitAt (X : pz_X) (n : Nat) (l0 : Int32) : pz_Sm X (pz_QM X) J_X12_splitAt pz_vI 0 [(0, .int l0)] [] (X12_splitAt n l0) := by
  unfold X12_splitAt
  refine pz_sipush 16456 dX12_splitAt_0 (by decide) ?_
  refine pz_sipush 300 dX12_splitAt_3 (by decide) ?_
  refine pz_iload_n 0 dX12_splitAt_6 rfl ?_
  refine pz_imul dX12_splitAt_7 ?_
  refine pz_iadd dX12_splitAt_8 ?_
  exact pz_iret rfl dX12_splitAt_9
set_option maxRecDepth 20000 in
theorem md_X12_splitAt (X : pz_X) (n : Nat) (l0 : Int32) : pz_Md X yX12_splitAt J_X12_splitAt pz_vI [.int l0] (X12_splitAt n l0) :=
  pz_md [(0, .int l0)] (by decide +kernel) rfl rfl (by rfl) (by exact Nat.le_of_ble_eq_true rfl) (fun X => S_X12_splitAt X n l0)
set_option maxRecDepth 20000 in
theorem S_X12_brokenVariable_b108 (X : pz_X) (n : Nat) (l0 : Option Nat) (K2 : Int32 → pz_C Int32) (hK2 : ∀ (l1 : Int32), pz_Sm X (pz_QM X) J_X12_brokenVariable pz_vI 2 [(0, va_rf l0), (1, .int l1)] [] (K2 l1)) (l1 : Int32) : pz_Sm X (pz_QM X) J_X12_brokenVariable pz_vI 108 [(0, va_rf l0), (1, .int l1)] [] (X12_brokenVariable_b108 n K2 l0 l1) := by
  unfold X12_brokenVariable_b108
  refine pz_iinc 1 1 (fun l1_4 => [(1, .int l1_4), (0, va_rf l0)]) dX12_brokenVariable_108 rfl (by decide) (by decide) (fun l1_4 => (by cases l0 <;> rfl)) (fun l1_4 => ?_)
  refine pz_goto 2 dX12_brokenVariable_111 (by decide) ?_
  exact pz_sub [1, 0] rfl (hK2 l1_4)
set_option maxRecDepth 20000 in
theorem S_X12_brokenVariable_b96 (X : pz_X) (n : Nat) (l0 : Option Nat) (K2 : Int32 → pz_C Int32) (hK2 : ∀ (l1 : Int32), pz_Sm X (pz_QM X) J_X12_brokenVariable pz_vI 2 [(0, va_rf l0), (1, .int l1)] [] (K2 l1)) (l1 : Int32) (l3 : Int32) (l6 : Int32) : pz_Sm X (pz_QM X) J_X12_brokenVariable pz_vI 96 [(0, va_rf l0), (1, .int l1), (3, .int l3), (6, .int l6)] [] (X12_brokenVariable_b96 n K2 l0 l1 l3 l6) := by
  unfold X12_brokenVariable_b96
  refine pz_aload_n 0 dX12_brokenVariable_96 rfl ?_
  refine pz_iload_n 2 dX12_brokenVariable_97 rfl ?_
  refine pz_put (ci := 12) (k := 35) ck_12 (by decide) (Or.inl pw_967) (Or.inl rfl) rfl rfl dX12_brokenVariable_98 ?_
  refine pz_iload 3 dX12_brokenVariable_101 rfl ?_
  refine pz_if_eq 108 dX12_brokenVariable_103 (by decide) ?_ ?_
  · exact pz_sub [0, 1] rfl (S_X12_brokenVariable_b108 X n l0 K2 hK2 l1)
  · refine pz_iload_n 1 dX12_brokenVariable_106 rfl ?_
    exact pz_iret rfl dX12_brokenVariable_107
set_option maxRecDepth 20000 in
theorem S_X12_brokenVariable_b76 (X : pz_X) (n : Nat) (l0 : Option Nat) (K2 : Int32 → pz_C Int32) (hK2 : ∀ (l1 : Int32), pz_Sm X (pz_QM X) J_X12_brokenVariable pz_vI 2 [(0, va_rf l0), (1, .int l1)] [] (K2 l1)) (l1 : Int32) (l3 : Int32) (l5 : Int32) (s0 : Int32) : pz_Sm X (pz_QM X) J_X12_brokenVariable pz_vI 76 [(0, va_rf l0), (1, .int l1), (3, .int l3), (5, .int l5)] [.int s0] (X12_brokenVariable_b76 n K2 l0 l1 l3 l5 s0) := by
  unfold X12_brokenVariable_b76
  refine pz_istore [(6, .int s0), (0, va_rf l0), (1, .int l1), (3, .int l3), (5, .int l5)] dX12_brokenVariable_76 (by decide) rfl ?_
  refine pz_iload 0 dX12_brokenVariable_78 rfl ?_
  refine pz_if_eq 96 dX12_brokenVariable_80 (by decide) ?_ ?_
  · exact pz_sub [1, 2, 3, 0] rfl (S_X12_brokenVariable_b96 X n l0 K2 hK2 l1 l3 s0)
  · refine pz_aload_n 1 dX12_brokenVariable_83 rfl ?_
    refine pz_iload 4 dX12_brokenVariable_84 rfl ?_
    refine pz_aload_n 1 dX12_brokenVariable_86 rfl ?_
    refine pz_getI (ci := 12) (k := 24) ck_12 (by decide) (Or.inl pw_956) dX12_brokenVariable_87 (fun x10 => ?_)
    refine pz_csI (st := [.int l5, va_rf l0]) (md_X12_splitAt X n x10) mk_X12_splitAt (Or.inl pw_1224) pw_1225 rfl rfl (by simp [pz_rf1, pz_ci, pz_cl]) (by decide) (by decide) dX12_brokenVariable_90 (fun x11 => ?_)
    refine pz_cvU (st := []) (md_X12_copyTo X n l0 l5 x11) ck_12 rfl mk_X12_copyTo (Or.inl pw_924) pw_926 ps_31 rfl rfl (by decide) (by decide) (by decide) dX12_brokenVariable_93 (fun _ => ?_)
    exact pz_sub [1, 2, 3, 0] rfl (S_X12_brokenVariable_b96 X n l0 K2 hK2 l1 l3 s0)
set_option maxRecDepth 20000 in
theorem S_X12_brokenVariable_b28 (X : pz_X) (n : Nat) (l0 : Option Nat) (K2 : Int32 → pz_C Int32) (hK2 : ∀ (l1 : Int32), pz_Sm X (pz_QM X) J_X12_brokenVariable pz_vI 2 [(0, va_rf l0), (1, .int l1)] [] (K2 l1)) (l1 : Int32) (s0 : Int32) : pz_Sm X (pz_QM X) J_X12_brokenVariable pz_vI 28 [(0, va_rf l0), (1, .int l1)] [.int s0] (X12_brokenVariable_b28 n K2 l0 l1 s0) := by
  unfold X12_brokenVariable_b28
  refine pz_istore_n [(2, .int s0), (0, va_rf l0), (1, .int l1)] dX12_brokenVariable_28 (by decide) rfl ?_
  refine pz_iload_n 0 dX12_brokenVariable_29 rfl ?_
  refine pz_iconst (-1) dX12_brokenVariable_30 (by decide) ?_
  refine pz_icmp_eq 108 dX12_brokenVariable_31 (by decide) ?_ ?_
  · exact pz_sub [1, 2] rfl (S_X12_brokenVariable_b108 X n l0 K2 hK2 l1)
  · refine pz_aload_n 1 dX12_brokenVariable_34 rfl ?_
    refine pz_getI (ci := 12) (k := 35) ck_12 (by decide) (Or.inl pw_967) dX12_brokenVariable_35 (fun x5 => ?_)
    refine pz_istore_n [(3, .int x5), (2, .int s0), (0, va_rf l0), (1, .int l1)] dX12_brokenVariable_38 (by decide) rfl ?_
    refine pz_aload_n 2 dX12_brokenVariable_39 rfl ?_
    refine pz_iload_n 1 dX12_brokenVariable_40 rfl ?_
    refine pz_cvI (st := []) (md_X12_sumOf X n l0 s0) ck_12 rfl mk_X12_sumOf (Or.inl pw_1114) pw_1116 ps_42 rfl rfl (by decide) (by decide) (by decide) dX12_brokenVariable_41 (fun x6 => ?_)
    refine pz_istore [(4, .int x6), (3, .int x5), (2, .int s0), (0, va_rf l0), (1, .int l1)] dX12_brokenVariable_44 (by decide) rfl ?_
    refine pz_aload_n 3 dX12_brokenVariable_46 rfl ?_
    refine pz_iload 0 dX12_brokenVariable_47 rfl ?_
    refine pz_iconst 0 dX12_brokenVariable_49 (by decide) ?_
    refine pz_cvI (st := []) (md_X12_over X n l0 x6 0) ck_12 rfl mk_X12_over (Or.inl pw_1178) pw_1180 ps_57 rfl rfl (by decide) (by decide) (by decide) dX12_brokenVariable_50 (fun x7 => ?_)
    refine pz_istore [(5, .int x7), (4, .int x6), (3, .int x5), (2, .int s0), (0, va_rf l0), (1, .int l1)] dX12_brokenVariable_53 (by decide) rfl ?_
    refine pz_aload_n 4 dX12_brokenVariable_55 rfl ?_
    refine pz_aload_n 4 dX12_brokenVariable_56 rfl ?_
    refine pz_iload 0 dX12_brokenVariable_57 rfl ?_
    refine pz_iconst 0 dX12_brokenVariable_59 (by decide) ?_
    refine pz_cvI (st := [va_rf l0]) (md_X12_by X n l0 x7 0) ck_12 rfl mk_X12_by (Or.inl pw_1118) pw_1120 ps_43 rfl rfl (by simp [pz_rf1, pz_ci, pz_cl]) (by decide) (by decide) dX12_brokenVariable_60 (fun x8 => ?_)
    refine pz_iload 1 dX12_brokenVariable_63 rfl ?_
    refine pz_cvI (st := []) (md_X12_compare X n l0 x8 x6) ck_12 rfl mk_X12_compare (Or.inl pw_1154) pw_1156 ps_51 rfl rfl (by decide) (by decide) (by decide) dX12_brokenVariable_65 (fun x9 => ?_)
    refine pz_if_eq 75 dX12_brokenVariable_68 (by decide) ?_ ?_
    · refine pz_iconst 0 dX12_brokenVariable_75 (by decide) ?_
      exact pz_sub [4, 5, 2, 0] rfl (S_X12_brokenVariable_b76 X n l0 K2 hK2 l1 x5 x7 0)
    · refine pz_iconst 1 dX12_brokenVariable_71 (by decide) ?_
      refine pz_goto 76 dX12_brokenVariable_72 (by decide) ?_
      exact pz_sub [4, 5, 2, 0] rfl (S_X12_brokenVariable_b76 X n l0 K2 hK2 l1 x5 x7 1)
set_option maxRecDepth 20000 in
theorem S_X12_brokenVariable_L2_body (X : pz_X) (n : Nat) (l0 : Option Nat) (K2 : Int32 → pz_C Int32) (hK2 : ∀ (l1 : Int32), pz_Sm X (pz_QM X) J_X12_brokenVariable pz_vI 2 [(0, va_rf l0), (1, .int l1)] [] (K2 l1)) (l1 : Int32) : pz_Sm X (pz_QM X) J_X12_brokenVariable pz_vI 2 [(0, va_rf l0), (1, .int l1)] [] (X12_brokenVariable_L2_body n l0 K2 l1) := by
  unfold X12_brokenVariable_L2_body
  refine pz_iload_n 1 dX12_brokenVariable_2 rfl ?_
  refine pz_aload_n 0 dX12_brokenVariable_3 rfl ?_
  refine pz_getI (ci := 12) (k := 0) ck_12 (by decide) (Or.inl pw_932) dX12_brokenVariable_4 (fun x1 => ?_)
  refine pz_icmp_ge 114 dX12_brokenVariable_7 (by decide) ?_ ?_
  · refine pz_iconst (-1) dX12_brokenVariable_114 (by decide) ?_
    exact pz_iret rfl dX12_brokenVariable_115
  · refine pz_aload_n 0 dX12_brokenVariable_10 rfl ?_
    refine pz_getR (ci := 12) (k := 6) ck_12 (by decide) (Or.inl pw_938) dX12_brokenVariable_11 (fun x2 => ?_)
    refine pz_iload_n 1 dX12_brokenVariable_14 rfl ?_
    refine pz_zald (t := 1) rfl dX12_brokenVariable_15 (fun x3 => ?_)
    refine pz_if_eq 27 dX12_brokenVariable_16 (by decide) ?_ ?_
    · refine pz_iconst (-1) dX12_brokenVariable_27 (by decide) ?_
      exact pz_sub [0, 1] rfl (S_X12_brokenVariable_b28 X n l0 K2 hK2 l1 (-1))
    · refine pz_aload_n 0 dX12_brokenVariable_19 rfl ?_
      refine pz_iload_n 1 dX12_brokenVariable_20 rfl ?_
      refine pz_cvI (st := []) (md_X12_rowOf X n l0 l1) ck_12 rfl mk_X12_rowOf (Or.inl pw_1102) pw_1104 ps_39 rfl rfl (by decide) (by decide) (by decide) dX12_brokenVariable_21 (fun x13 => ?_)
      refine pz_goto 28 dX12_brokenVariable_24 (by decide) ?_
      exact pz_sub [0, 1] rfl (S_X12_brokenVariable_b28 X n l0 K2 hK2 l1 x13)
set_option maxRecDepth 20000 in
theorem S_X12_brokenVariable_L2 (X : pz_X) (n : Nat) (l0 : Option Nat) (l1 : Int32) : pz_Sm X (pz_QM X) J_X12_brokenVariable pz_vI 2 [(0, va_rf l0), (1, .int l1)] [] (X12_brokenVariable_L2 n l0 l1) :=
  pz_lp (L := fun (s : Int32) => [(0, va_rf l0), (1, .int s)]) (fun K hK s => S_X12_brokenVariable_L2_body X n l0 (fun l1 => K l1) (fun l1 => hK l1) s) n l1
set_option maxRecDepth 20000 in
theorem S_X12_brokenVariable (X : pz_X) (n : Nat) (l0 : Option Nat) : pz_Sm X (pz_QM X) J_X12_brokenVariable pz_vI 0 [(0, va_rf l0)] [] (X12_brokenVariable n l0) := by
  unfold X12_brokenVariable
  refine pz_iconst 0 dX12_brokenVariable_0 (by decide) ?_
  refine pz_istore_n [(1, .int 0), (0, va_rf l0)] dX12_brokenVariable_1 (by decide) (by cases l0 <;> rfl) ?_
  exact pz_sub [1, 0] rfl (S_X12_brokenVariable_L2 X n l0 0)
set_option maxRecDepth 20000 in
theorem md_X12_brokenVariable (X : pz_X) (n : Nat) (l0 : Option Nat) : pz_Md X yX12_brokenVariable J_X12_brokenVariable pz_vI [va_rf l0] (X12_brokenVariable n l0) :=
  pz_md [(0, va_rf l0)] (by decide +kernel) rfl rfl (by cases l0 <;> rfl) (by cases l0 <;> exact Nat.le_of_ble_eq_true rfl) (fun X => S_X12_brokenVariable X n l0)
set_option maxRecDepth 20000 in
theorem S_X12_split_b83 (X : pz_X) (n : Nat) (l0 : Option Nat) : pz_Sm X (pz_QM X) J_X12_split pz_vU 83 [(0, va_rf l0)] [] (X12_split_b83 n l0) := by
  unfold X12_split_b83
  refine pz_aload_n 0 dX12_split_83 rfl ?_
  refine pz_iconst 4 dX12_split_84 (by decide) ?_
  refine pz_put (ci := 12) (k := 7) ck_12 (by decide) (Or.inl pw_939) (Or.inl rfl) rfl rfl dX12_split_85 ?_
  exact pz_vret rfl dX12_split_88
set_option maxRecDepth 20000 in
theorem S_X12_split_b52 (X : pz_X) (n : Nat) (l0 : Option Nat) (l1 : Int32) (l2 : Int32) (s0 : Int32) : pz_Sm X (pz_QM X) J_X12_split pz_vU 52 [(0, va_rf l0), (1, .int l1), (2, .int l2)] [.int s0] (X12_split_b52 n l0 l1 l2 s0) := by
  unfold X12_split_b52
  refine pz_istore [(4, .int s0), (0, va_rf l0), (1, .int l1), (2, .int l2)] dX12_split_52 (by decide) rfl ?_
  refine pz_aload_n 1 dX12_split_54 rfl ?_
  refine pz_iload_n 3 dX12_split_55 rfl ?_
  refine pz_put (ci := 12) (k := 35) ck_12 (by decide) (Or.inl pw_967) (Or.inl rfl) rfl rfl dX12_split_56 ?_
  refine pz_aload_n 1 dX12_split_59 rfl ?_
  refine pz_getI (ci := 12) (k := 25) ck_12 (by decide) (Or.inl pw_957) dX12_split_60 (fun x6 => ?_)
  refine pz_bipush 24 dX12_split_63 (by decide) ?_
  refine pz_icmp_eq 83 dX12_split_65 (by decide) ?_ ?_
  · exact pz_sub [1] rfl (S_X12_split_b83 X n l0)
  · refine pz_aload_n 1 dX12_split_68 rfl ?_
    refine pz_getI (ci := 12) (k := 11) ck_12 (by decide) (Or.inl pw_943) dX12_split_69 (fun x7 => ?_)
    refine pz_sipush 150 dX12_split_72 (by decide) ?_
    refine pz_icmp_eq 83 dX12_split_75 (by decide) ?_ ?_
    · exact pz_sub [1] rfl (S_X12_split_b83 X n l0)
    · refine pz_iload 0 dX12_split_78 rfl ?_
      refine pz_if_eq 89 dX12_split_80 (by decide) ?_ ?_
      · refine pz_aload_n 1 dX12_split_89 rfl ?_
        refine pz_dup dX12_split_90 (pz_rf1 _) ?_
        refine pz_getI (ci := 12) (k := 11) ck_12 (by decide) (Or.inl pw_943) dX12_split_91 (fun x8 => ?_)
        refine pz_iconst 1 dX12_split_94 (by decide) ?_
        refine pz_iadd dX12_split_95 ?_
        refine pz_put (ci := 12) (k := 11) ck_12 (by decide) (Or.inl pw_943) (Or.inl rfl) rfl rfl dX12_split_96 ?_
        refine pz_aload_n 1 dX12_split_99 rfl ?_
        refine pz_getI (ci := 12) (k := 24) ck_12 (by decide) (Or.inl pw_956) dX12_split_100 (fun x9 => ?_)
        refine pz_istore [(5, .int x9), (4, .int s0), (0, va_rf l0), (1, .int l1), (2, .int l2)] dX12_split_103 (by decide) rfl ?_
        refine pz_aload_n 2 dX12_split_105 rfl ?_
        refine pz_getR (ci := 12) (k := 16) ck_12 (by decide) (Or.inl pw_948) dX12_split_106 (fun x10 => ?_)
        refine pz_iload 0 dX12_split_109 rfl ?_
        refine pz_iconst 1 dX12_split_111 (by decide) ?_
        refine pz_zast (t := 1) rfl dX12_split_112 ?_
        refine pz_aload_n 2 dX12_split_113 rfl ?_
        refine pz_getR (ci := 12) (k := 18) ck_12 (by decide) (Or.inl pw_950) dX12_split_114 (fun x11 => ?_)
        refine pz_iload 0 dX12_split_117 rfl ?_
        refine pz_iload_n 3 dX12_split_119 rfl ?_
        refine pz_iast (t := 0) rfl dX12_split_120 ?_
        refine pz_aload_n 2 dX12_split_121 rfl ?_
        refine pz_dup dX12_split_122 (pz_rf1 _) ?_
        refine pz_getI (ci := 12) (k := 23) ck_12 (by decide) (Or.inl pw_955) dX12_split_123 (fun x12 => ?_)
        refine pz_iconst 1 dX12_split_126 (by decide) ?_
        refine pz_isub dX12_split_127 ?_
        refine pz_put (ci := 12) (k := 23) ck_12 (by decide) (Or.inl pw_955) (Or.inl rfl) rfl rfl dX12_split_128 ?_
        refine pz_aload_n 2 dX12_split_131 rfl ?_
        refine pz_getR (ci := 12) (k := 26) ck_12 (by decide) (Or.inl pw_958) dX12_split_132 (fun x13 => ?_)
        refine pz_aload_n 2 dX12_split_135 rfl ?_
        refine pz_getI (ci := 12) (k := 25) ck_12 (by decide) (Or.inl pw_957) dX12_split_136 (fun x14 => ?_)
        refine pz_iload 0 dX12_split_139 rfl ?_
        refine pz_iast (t := 0) rfl dX12_split_141 ?_
        refine pz_aload_n 2 dX12_split_142 rfl ?_
        refine pz_iload 0 dX12_split_143 rfl ?_
        refine pz_csI (st := [va_rf l0]) (md_X12_splitAt X n x9) mk_X12_splitAt (Or.inl pw_1224) pw_1225 rfl rfl (by simp [pz_rf1, pz_ci, pz_cl]) (by decide) (by decide) dX12_split_145 (fun x15 => ?_)
        refine pz_aload_n 2 dX12_split_148 rfl ?_
        refine pz_getI (ci := 12) (k := 25) ck_12 (by decide) (Or.inl pw_957) dX12_split_149 (fun x16 => ?_)
        refine pz_csI (st := [.int x15, va_rf l0]) (md_X12_foundAt X n x16) mk_X12_foundAt (Or.inl pw_1216) pw_1217 rfl rfl (by simp [pz_rf1, pz_ci, pz_cl]) (by decide) (by decide) dX12_split_152 (fun x17 => ?_)
        refine pz_cvU (st := []) (md_X12_copyTo X n l0 x15 x17) ck_12 rfl mk_X12_copyTo (Or.inl pw_924) pw_926 ps_31 rfl rfl (by decide) (by decide) (by decide) dX12_split_155 (fun _ => ?_)
        refine pz_aload_n 2 dX12_split_158 rfl ?_
        refine pz_getR (ci := 12) (k := 27) ck_12 (by decide) (Or.inl pw_959) dX12_split_159 (fun x19 => ?_)
        refine pz_aload_n 2 dX12_split_162 rfl ?_
        refine pz_getI (ci := 12) (k := 25) ck_12 (by decide) (Or.inl pw_957) dX12_split_163 (fun x20 => ?_)
        refine pz_iconst 0 dX12_split_166 (by decide) ?_
        refine pz_zast (t := 1) rfl dX12_split_167 ?_
        refine pz_aload_n 2 dX12_split_168 rfl ?_
        refine pz_dup dX12_split_169 (pz_rf1 _) ?_
        refine pz_getI (ci := 12) (k := 25) ck_12 (by decide) (Or.inl pw_957) dX12_split_170 (fun x21 => ?_)
        refine pz_iconst 1 dX12_split_173 (by decide) ?_
        refine pz_iadd dX12_split_174 ?_
        refine pz_put (ci := 12) (k := 25) ck_12 (by decide) (Or.inl pw_957) (Or.inl rfl) rfl rfl dX12_split_175 ?_
        refine pz_aload_n 2 dX12_split_178 rfl ?_
        refine pz_aload_n 2 dX12_split_179 rfl ?_
        refine pz_iload 0 dX12_split_180 rfl ?_
        refine pz_cvI (st := [va_rf l0]) (md_X12_newNode X n l0 x9) ck_12 rfl mk_X12_newNode (Or.inl pw_1086) pw_1088 ps_36 rfl rfl (by simp [pz_rf1, pz_ci, pz_cl]) (by decide) (by decide) dX12_split_182 (fun x22 => ?_)
        refine pz_put (ci := 12) (k := 24) ck_12 (by decide) (Or.inl pw_956) (Or.inl rfl) rfl rfl dX12_split_185 ?_
        refine pz_aload_n 2 dX12_split_188 rfl ?_
        refine pz_getR (ci := 12) (k := 19) ck_12 (by decide) (Or.inl pw_951) dX12_split_189 (fun x23 => ?_)
        refine pz_iload 0 dX12_split_192 rfl ?_
        refine pz_aload_n 2 dX12_split_194 rfl ?_
        refine pz_getI (ci := 12) (k := 24) ck_12 (by decide) (Or.inl pw_956) dX12_split_195 (fun x24 => ?_)
        refine pz_iast (t := 0) rfl dX12_split_198 ?_
        refine pz_aload_n 2 dX12_split_199 rfl ?_
        refine pz_cvU (st := []) (md_X12_takeBounds X n l0) ck_12 rfl mk_X12_takeBounds (Or.inl pw_1212) pw_1214 ps_65 rfl rfl (by decide) (by decide) (by decide) dX12_split_200 (fun _ => ?_)
        exact pz_vret rfl dX12_split_203
      · exact pz_sub [1] rfl (S_X12_split_b83 X n l0)
set_option maxRecDepth 20000 in
theorem S_X12_split_b47 (X : pz_X) (n : Nat) (l0 : Option Nat) (l1 : Int32) (l2 : Int32) : pz_Sm X (pz_QM X) J_X12_split pz_vU 47 [(0, va_rf l0), (1, .int l1), (2, .int l2)] [] (X12_split_b47 n l0 l1 l2) := by
  unfold X12_split_b47
  refine pz_iconst 1 dX12_split_47 (by decide) ?_
  refine pz_goto 52 dX12_split_48 (by decide) ?_
  exact pz_sub [0, 1, 2] rfl (S_X12_split_b52 X n l0 l1 l2 1)
set_option maxRecDepth 20000 in
theorem S_X12_split (X : pz_X) (n : Nat) (l0 : Option Nat) (l1 : Int32) : pz_Sm X (pz_QM X) J_X12_split pz_vU 0 [(0, va_rf l0), (1, .int l1)] [] (X12_split n l0 l1) := by
  unfold X12_split
  refine pz_aload_n 0 dX12_split_0 rfl ?_
  refine pz_getI (ci := 12) (k := 35) ck_12 (by decide) (Or.inl pw_967) dX12_split_1 (fun x1 => ?_)
  refine pz_istore_n [(2, .int x1), (0, va_rf l0), (1, .int l1)] dX12_split_4 (by decide) rfl ?_
  refine pz_aload_n 1 dX12_split_5 rfl ?_
  refine pz_ldc2 1000000000000000000 dX12_split_6 pw_1231 ?_
  refine pz_cvI (st := []) (md_X12_plainOf X n l0 1000000000000000000) ck_12 rfl mk_X12_plainOf (Or.inl pw_919) pw_921 ps_30 rfl rfl (by decide) (by decide) (by decide) dX12_split_9 (fun x2 => ?_)
  refine pz_istore_n [(3, .int x2), (2, .int x1), (0, va_rf l0), (1, .int l1)] dX12_split_12 (by decide) rfl ?_
  refine pz_aload_n 2 dX12_split_13 rfl ?_
  refine pz_aload_n 2 dX12_split_14 rfl ?_
  refine pz_getI (ci := 12) (k := 24) ck_12 (by decide) (Or.inl pw_956) dX12_split_15 (fun x3 => ?_)
  refine pz_csI (st := [va_rf l0]) (md_X12_splitAt X n x3) mk_X12_splitAt (Or.inl pw_1224) pw_1225 rfl rfl (by simp [pz_rf1, pz_ci, pz_cl]) (by decide) (by decide) dX12_split_18 (fun x4 => ?_)
  refine pz_iload_n 0 dX12_split_21 rfl ?_
  refine pz_cvI (st := []) (md_X12_compare X n l0 x4 x2) ck_12 rfl mk_X12_compare (Or.inl pw_1154) pw_1156 ps_51 rfl rfl (by decide) (by decide) (by decide) dX12_split_22 (fun x5 => ?_)
  refine pz_if_gt 47 dX12_split_25 (by decide) ?_ ?_
  · exact pz_sub [2, 3, 1] rfl (S_X12_split_b47 X n l0 l1 x1)
  · refine pz_aload_n 2 dX12_split_28 rfl ?_
    refine pz_aload_n 2 dX12_split_29 rfl ?_
    refine pz_getI (ci := 12) (k := 24) ck_12 (by decide) (Or.inl pw_956) dX12_split_30 (fun x26 => ?_)
    refine pz_csI (st := [va_rf l0]) (md_X12_splitAt X n x26) mk_X12_splitAt (Or.inl pw_1224) pw_1225 rfl rfl (by simp [pz_rf1, pz_ci, pz_cl]) (by decide) (by decide) dX12_split_33 (fun x27 => ?_)
    refine pz_aload_n 2 dX12_split_36 rfl ?_
    refine pz_iload_n 0 dX12_split_37 rfl ?_
    refine pz_cvI (st := [.int x27, va_rf l0]) (md_X12_less X n l0 x2) ck_12 rfl mk_X12_less (Or.inl pw_1174) pw_1176 ps_56 rfl rfl (by simp [pz_rf1, pz_ci, pz_cl]) (by decide) (by decide) dX12_split_38 (fun x28 => ?_)
    refine pz_cvI (st := []) (md_X12_compare X n l0 x27 x28) ck_12 rfl mk_X12_compare (Or.inl pw_1154) pw_1156 ps_51 rfl rfl (by decide) (by decide) (by decide) dX12_split_41 (fun x29 => ?_)
    refine pz_if_ge 51 dX12_split_44 (by decide) ?_ ?_
    · refine pz_iconst 0 dX12_split_51 (by decide) ?_
      exact pz_sub [2, 3, 1] rfl (S_X12_split_b52 X n l0 l1 x1 0)
    · exact pz_sub [2, 3, 1] rfl (S_X12_split_b47 X n l0 l1 x1)
set_option maxRecDepth 20000 in
theorem md_X12_split (X : pz_X) (n : Nat) (l0 : Option Nat) (l1 : Int32) : pz_Md X yX12_split J_X12_split pz_vU [va_rf l0, .int l1] (X12_split n l0 l1) :=
  pz_md [(0, va_rf l0), (1, .int l1)] (by decide +kernel) rfl rfl (by cases l0 <;> rfl) (by cases l0 <;> exact Nat.le_of_ble_eq_true rfl) (fun X => S_X12_split X n l0 l1)
