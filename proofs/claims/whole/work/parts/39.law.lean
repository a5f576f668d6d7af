def L_law_b670 (n L : Nat) (xs : Nat → Int32) (K18 : Int32 → pz_C Unit) (l1 : Option Nat) (l2 : Option Nat) (l3 : Int32) : pz_C Unit :=
  pz_let (l3 + 6) fun l3_10 =>
  K18 l3_10
def L_law_b250 (n L : Nat) (xs : Nat → Int32) (K18 : Int32 → pz_C Unit) (l1 : Option Nat) (l2 : Option Nat) (l3 : Int32) (s0 : Int32) (s1 : Option Nat) (s2 : Int32) (s3 : Int32) : pz_C Unit :=
  pz_cV 12 s1 (X12_whole n s1 s2 s3) fun x28 =>
  pz_if (s0 = x28) (L_law_b670 n L xs K18 l1 l2 l3) <|
  pz_none
def L_law_b228 (n L : Nat) (xs : Nat → Int32) (K18 : Int32 → pz_C Unit) (l1 : Option Nat) (l2 : Option Nat) (l3 : Int32) (s0 : Option Nat) (s1 : Int32) (s2 : Int32) : pz_C Unit :=
  pz_cV 11 s0 (X11_whole n s0 s1 s2) fun x25 =>
  pz_gB (pz_scr L xs (l3 + 1)) fun x26 =>
  pz_gB (pz_scr L xs (l3 + 2)) fun x27 =>
  pz_if (x27 = 0) (L_law_b250 n L xs K18 l1 l2 l3 x25 l2 x26 0) <|
  L_law_b250 n L xs K18 l1 l2 l3 x25 l2 x26 1
def L_law_L18_body (n L : Nat) (xs : Nat → Int32) (l1 : Option Nat) (l2 : Option Nat) (K18 : Int32 → pz_C Unit) (l3 : Int32) : pz_C Unit :=
  pz_let (nI L) fun _ =>
  pz_if (((nI L) - 6) < l3) (pz_ret ()) <|
  pz_gB (pz_scr L xs l3) fun x5 =>
  pz_tsw 0 [
      pz_gB (pz_scr L xs (l3 + 1)) fun x6 =>
      pz_cV 11 l1 (X11_variables n l1 x6) fun x7 =>
      pz_gB (pz_scr L xs (l3 + 1)) fun x8 =>
      pz_cV 12 l2 (X12_variables n l2 x8) fun x9 =>
      pz_if (x7 = x9) (L_law_b670 n L xs K18 l1 l2 l3) <|
      pz_none,
      pz_gB (pz_scr L xs (l3 + 1)) fun x11 =>
      pz_gB (pz_scr L xs (l3 + 2)) fun x12 =>
      pz_cV 11 l1 (X11_factor n l1 x11 x12) fun x13 =>
      pz_gB (pz_scr L xs (l3 + 1)) fun x14 =>
      pz_gB (pz_scr L xs (l3 + 2)) fun x15 =>
      pz_cV 12 l2 (X12_factor n l2 x14 x15) fun x16 =>
      pz_if (x13 = x16) (L_law_b670 n L xs K18 l1 l2 l3) <|
      pz_none,
      pz_gB (pz_scr L xs (l3 + 1)) fun x17 =>
      pz_gB (pz_scr L xs (l3 + 2)) fun x18 =>
      pz_cV 11 l1 (X11_row n l1 x17 x18) fun x19 =>
      pz_gB (pz_scr L xs (l3 + 1)) fun x20 =>
      pz_gB (pz_scr L xs (l3 + 2)) fun x21 =>
      pz_cV 12 l2 (X12_row n l2 x20 x21) fun x22 =>
      pz_if (x19 = x22) (L_law_b670 n L xs K18 l1 l2 l3) <|
      pz_none,
      pz_gB (pz_scr L xs (l3 + 1)) fun x23 =>
      pz_gB (pz_scr L xs (l3 + 2)) fun x24 =>
      pz_if (x24 = 0) (L_law_b228 n L xs K18 l1 l2 l3 l1 x23 0) <|
      L_law_b228 n L xs K18 l1 l2 l3 l1 x23 1,
      pz_gB (pz_scr L xs (l3 + 1)) fun x29 =>
      pz_cV 11 l1 (X11_solve n l1 x29) fun x30 =>
      pz_gB (pz_scr L xs (l3 + 1)) fun x31 =>
      pz_cV 12 l2 (X12_solve n l2 x31) fun x32 =>
      pz_if (x30 = x32) (L_law_b670 n L xs K18 l1 l2 l3) <|
      pz_none,
      pz_gB (pz_scr L xs (l3 + 1)) fun x33 =>
      pz_cV 11 l1 (X11_state n l1 x33) fun x34 =>
      pz_gB (pz_scr L xs (l3 + 1)) fun x35 =>
      pz_cV 12 l2 (X12_state n l2 x35) fun x36 =>
      pz_if (x34 = x36) (L_law_b670 n L xs K18 l1 l2 l3) <|
      pz_none,
      pz_gB (pz_scr L xs (l3 + 1)) fun x37 =>
      pz_cV 11 l1 (X11_basic n l1 x37) fun x38 =>
      pz_gB (pz_scr L xs (l3 + 1)) fun x39 =>
      pz_cV 12 l2 (X12_basic n l2 x39) fun x40 =>
      pz_if (x38 = x40) (L_law_b670 n L xs K18 l1 l2 l3) <|
      pz_none,
      pz_gB (pz_scr L xs (l3 + 1)) fun x41 =>
      pz_cV 11 l1 (X11_value n l1 x41) fun x42 =>
      pz_gB (pz_scr L xs (l3 + 1)) fun x43 =>
      pz_cV 12 l2 (X12_value n l2 x43) fun x44 =>
      pz_if (x42 = x44) (L_law_b670 n L xs K18 l1 l2 l3) <|
      pz_none,
      pz_gB (pz_scr L xs (l3 + 1)) fun x45 =>
      pz_gB (pz_scr L xs (l3 + 2)) fun x46 =>
      pz_cV 11 l1 (X11_told n l1 x45 x46) fun x47 =>
      pz_gB (pz_scr L xs (l3 + 1)) fun x48 =>
      pz_gB (pz_scr L xs (l3 + 2)) fun x49 =>
      pz_cV 12 l2 (X12_told n l2 x48 x49) fun x50 =>
      pz_if (x47 = x50) (L_law_b670 n L xs K18 l1 l2 l3) <|
      pz_none,
      pz_gB (pz_scr L xs (l3 + 1)) fun x51 =>
      pz_gB (pz_scr L xs (l3 + 2)) fun x52 =>
      pz_cV 11 l1 (X11_digits n l1 x51 x52) fun x53 =>
      pz_gB (pz_scr L xs (l3 + 1)) fun x54 =>
      pz_gB (pz_scr L xs (l3 + 2)) fun x55 =>
      pz_cV 12 l2 (X12_digits n l2 x54 x55) fun x56 =>
      pz_if (x53 = x56) (L_law_b670 n L xs K18 l1 l2 l3) <|
      pz_none,
      pz_cV 11 l1 (X11_witness n l1) fun x57 =>
      pz_cV 12 l2 (X12_witness n l2) fun x58 =>
      pz_if (x57 = x58) (L_law_b670 n L xs K18 l1 l2 l3) <|
      pz_none,
      pz_gB (pz_scr L xs (l3 + 1)) fun x59 =>
      pz_gB (pz_scr L xs (l3 + 2)) fun x60 =>
      pz_gB (pz_scr L xs (l3 + 3)) fun x61 =>
      pz_cV 11 l1 (X11_setWitness n l1 x59 x60 x61) fun x62 =>
      pz_gB (pz_scr L xs (l3 + 1)) fun x63 =>
      pz_gB (pz_scr L xs (l3 + 2)) fun x64 =>
      pz_gB (pz_scr L xs (l3 + 3)) fun x65 =>
      pz_cV 12 l2 (X12_setWitness n l2 x63 x64 x65) fun x66 =>
      pz_if (x62 = x66) (L_law_b670 n L xs K18 l1 l2 l3) <|
      pz_none,
      pz_cV 11 l1 (X11_judgeWitness n l1) fun x67 =>
      pz_cV 12 l2 (X12_judgeWitness n l2) fun x68 =>
      pz_if (x67 = x68) (L_law_b670 n L xs K18 l1 l2 l3) <|
      pz_none,
      pz_gB (pz_scr L xs (l3 + 1)) fun x69 =>
      pz_gB (pz_scr L xs (l3 + 2)) fun x70 =>
      pz_cV 11 l1 (X11_node n l1 x69 x70) fun x71 =>
      pz_gB (pz_scr L xs (l3 + 1)) fun x72 =>
      pz_gB (pz_scr L xs (l3 + 2)) fun x73 =>
      pz_cV 12 l2 (X12_node n l2 x72 x73) fun x74 =>
      pz_if (x71 = x74) (L_law_b670 n L xs K18 l1 l2 l3) <|
      pz_none,
      pz_gB (pz_scr L xs (l3 + 1)) fun x75 =>
      pz_gB (pz_scr L xs (l3 + 2)) fun x76 =>
      pz_gB (pz_scr L xs (l3 + 3)) fun x77 =>
      pz_cV 11 l1 (X11_multiplier n l1 x75 x76 x77) fun x78 =>
      pz_gB (pz_scr L xs (l3 + 1)) fun x79 =>
      pz_gB (pz_scr L xs (l3 + 2)) fun x80 =>
      pz_gB (pz_scr L xs (l3 + 3)) fun x81 =>
      pz_cV 12 l2 (X12_multiplier n l2 x79 x80 x81) fun x82 =>
      pz_if (x78 = x82) (L_law_b670 n L xs K18 l1 l2 l3) <|
      pz_none,
      pz_gB (pz_scr L xs (l3 + 1)) fun x83 =>
      pz_gB (pz_scr L xs (l3 + 2)) fun x84 =>
      pz_gB (pz_scr L xs (l3 + 3)) fun x85 =>
      pz_gB (pz_scr L xs (l3 + 4)) fun x86 =>
      pz_gB (pz_scr L xs (l3 + 5)) fun x87 =>
      pz_cV 11 l1 (X11_setMultiplier n l1 x83 x84 x85 x86 x87) fun x88 =>
      pz_gB (pz_scr L xs (l3 + 1)) fun x89 =>
      pz_gB (pz_scr L xs (l3 + 2)) fun x90 =>
      pz_gB (pz_scr L xs (l3 + 3)) fun x91 =>
      pz_gB (pz_scr L xs (l3 + 4)) fun x92 =>
      pz_gB (pz_scr L xs (l3 + 5)) fun x93 =>
      pz_cV 12 l2 (X12_setMultiplier n l2 x89 x90 x91 x92 x93) fun x94 =>
      pz_if (x88 = x94) (L_law_b670 n L xs K18 l1 l2 l3) <|
      pz_none,
      pz_gB (pz_scr L xs (l3 + 1)) fun x95 =>
      pz_gB (pz_scr L xs (l3 + 2)) fun x96 =>
      pz_cV 11 l1 (X11_setSplit n l1 x95 x96) fun x97 =>
      pz_gB (pz_scr L xs (l3 + 1)) fun x98 =>
      pz_gB (pz_scr L xs (l3 + 2)) fun x99 =>
      pz_cV 12 l2 (X12_setSplit n l2 x98 x99) fun x100 =>
      pz_if (x97 = x100) (L_law_b670 n L xs K18 l1 l2 l3) <|
      pz_none,
      pz_cV 11 l1 (X11_judgeTree n l1) fun x101 =>
      pz_cV 12 l2 (X12_judgeTree n l2) fun x102 =>
      pz_if (x101 = x102) (L_law_b670 n L xs K18 l1 l2 l3) <|
      pz_none]
    (L_law_b670 n L xs K18 l1 l2 l3) (x5 &&& 31)
def L_law_L18 (n L : Nat) (xs : Nat → Int32) (l1 : Option Nat) (l2 : Option Nat) (l3 : Int32) : pz_C Unit := pz_loop (fun (K : Int32 → pz_C Unit) (s : Int32) => L_law_L18_body n L xs l1 l2 (fun l3 => K l3) s) n l3
def L_law (n L : Nat) (xs : Nat → Int32) : pz_C Unit :=
  pz_new 11 10 [.null, .null, .null, .null, .null, .null, .null, .null, .null, .int 0] fun x1 =>
  pz_nn x1 <| pz_cB (X11_init n x1) fun _ =>
  pz_new 12 37 [.int 0, .int 0, .null, .null, .null, .null, .null, .int 0, .int 0, .int 0, .int 0, .int 0, .null, .null, .null, .int 0, .null, .null, .null, .null, .null, .null, .null, .int 0, .int 0, .int 0, .null, .null, .int 0, .int 0, .int 0, .int 0, .null, .null, .null, .int 0, .int 0] fun x3 =>
  pz_nn x3 <| pz_cB (X12_init n x3) fun _ =>
  L_law_L18 n L xs x1 x3 0
abbrev J_L (nm : String) : pz_J := (cL_law, RL, 4, some .boolean, nm, 11, 238)
set_option maxRecDepth 20000 in
theorem S_L_law_b670 (X : pz_X) (Qx : Option Value → pz_H → State → Prop) (nm : String) (b : Nat) (n L : Nat) (xs : Nat → Int32) (hX : pz_scX X b L xs) (hR : ∀ (pc : Nat) (lv : List (Nat × Value)), decode cL_law pc = .ok (.ireturn, 1) → pz_Sm X Qx (J_L nm) pz_vU pc lv [.int 1] (pz_ret ())) (l1 : Option Nat) (l2 : Option Nat) (K18 : Int32 → pz_C Unit) (hK18 : ∀ (l3 : Int32), pz_Sm X (Qx) (J_L nm) pz_vU 18 [(0, va_rf (some b)), (1, va_rf l1), (2, va_rf l2), (3, .int l3)] [] (K18 l3)) (l3 : Int32) : pz_Sm X (Qx) (J_L nm) pz_vU 670 [(0, va_rf (some b)), (1, va_rf l1), (2, va_rf l2), (3, .int l3)] [] (L_law_b670 n L xs K18 l1 l2 l3) := by
  unfold L_law_b670
  refine pz_iinc 3 6 (fun l3_10 => [(3, .int l3_10), (0, va_rf (some b)), (1, va_rf l1), (2, va_rf l2)]) dL_law_670 rfl (by decide) (Nat.le_of_ble_eq_true rfl) (fun l3_10 => (by cases l2 <;> rfl)) (fun l3_10 => ?_)
  refine pz_goto 18 dL_law_673 (by decide) ?_
  exact pz_sub [1, 2, 3, 0] rfl (hK18 l3_10)
set_option maxRecDepth 20000 in
theorem S_L_law_b250 (X : pz_X) (Qx : Option Value → pz_H → State → Prop) (nm : String) (b : Nat) (n L : Nat) (xs : Nat → Int32) (hX : pz_scX X b L xs) (hR : ∀ (pc : Nat) (lv : List (Nat × Value)), decode cL_law pc = .ok (.ireturn, 1) → pz_Sm X Qx (J_L nm) pz_vU pc lv [.int 1] (pz_ret ())) (l1 : Option Nat) (l2 : Option Nat) (K18 : Int32 → pz_C Unit) (hK18 : ∀ (l3 : Int32), pz_Sm X (Qx) (J_L nm) pz_vU 18 [(0, va_rf (some b)), (1, va_rf l1), (2, va_rf l2), (3, .int l3)] [] (K18 l3)) (l3 : Int32) (s0 : Int32) (s1 : Option Nat) (s2 : Int32) (s3 : Int32) : pz_Sm X (Qx) (J_L nm) pz_vU 250 [(0, va_rf (some b)), (1, va_rf l1), (2, va_rf l2), (3, .int l3)] [.int s3, .int s2, va_rf s1, .int s0] (L_law_b250 n L xs K18 l1 l2 l3 s0 s1 s2 s3) := by
  unfold L_law_b250
  refine pz_cvI (st := [.int s0]) (md_X12_whole X n s1 s2 s3) ck_12 rfl mk_X12_whole (Or.inl pw_1068) pw_1069 pw_1070 rfl rfl (by simp [pz_rf1, pz_ci, pz_cl]) (Nat.le_of_ble_eq_true rfl) (Nat.le_of_ble_eq_true rfl) dL_law_250 (fun x28 => ?_)
  refine pz_icmp_eq 670 dL_law_253 (by decide) ?_ ?_
  · exact pz_sub [0, 1, 2, 3] rfl (S_L_law_b670 X Qx nm b n L xs hX hR l1 l2 K18 hK18 l3)
  · refine pz_iconst 0 dL_law_256 (by decide) ?_
    exact pz_none_ok
set_option maxRecDepth 20000 in
theorem S_L_law_b228 (X : pz_X) (Qx : Option Value → pz_H → State → Prop) (nm : String) (b : Nat) (n L : Nat) (xs : Nat → Int32) (hX : pz_scX X b L xs) (hR : ∀ (pc : Nat) (lv : List (Nat × Value)), decode cL_law pc = .ok (.ireturn, 1) → pz_Sm X Qx (J_L nm) pz_vU pc lv [.int 1] (pz_ret ())) (l1 : Option Nat) (l2 : Option Nat) (K18 : Int32 → pz_C Unit) (hK18 : ∀ (l3 : Int32), pz_Sm X (Qx) (J_L nm) pz_vU 18 [(0, va_rf (some b)), (1, va_rf l1), (2, va_rf l2), (3, .int l3)] [] (K18 l3)) (l3 : Int32) (s0 : Option Nat) (s1 : Int32) (s2 : Int32) : pz_Sm X (Qx) (J_L nm) pz_vU 228 [(0, va_rf (some b)), (1, va_rf l1), (2, va_rf l2), (3, .int l3)] [.int s2, .int s1, va_rf s0] (L_law_b228 n L xs K18 l1 l2 l3 s0 s1 s2) := by
  unfold L_law_b228
  refine pz_cvI (st := []) (md_X11_whole X n s0 s1 s2) ck_11 rfl mk_X11_whole (Or.inl pw_465) pw_466 pw_467 rfl rfl (by decide) (Nat.le_of_ble_eq_true rfl) (Nat.le_of_ble_eq_true rfl) dL_law_228 (fun x25 => ?_)
  refine pz_aload_n 2 dL_law_231 rfl ?_
  refine pz_aload_n 0 dL_law_232 rfl ?_
  refine pz_iload_n 3 dL_law_233 rfl ?_
  refine pz_iconst 1 dL_law_234 (by decide) ?_
  refine pz_iadd dL_law_235 ?_
  refine pz_sld hX dL_law_236 (fun x26 => ?_)
  refine pz_aload_n 0 dL_law_237 rfl ?_
  refine pz_iload_n 3 dL_law_238 rfl ?_
  refine pz_iconst 2 dL_law_239 (by decide) ?_
  refine pz_iadd dL_law_240 ?_
  refine pz_sld hX dL_law_241 (fun x27 => ?_)
  refine pz_if_eq 249 dL_law_242 (by decide) ?_ ?_
  · refine pz_iconst 0 dL_law_249 (by decide) ?_
    exact pz_sub [0, 1, 2, 3] rfl (S_L_law_b250 X Qx nm b n L xs hX hR l1 l2 K18 hK18 l3 x25 l2 x26 0)
  · refine pz_iconst 1 dL_law_245 (by decide) ?_
    refine pz_goto 250 dL_law_246 (by decide) ?_
    exact pz_sub [0, 1, 2, 3] rfl (S_L_law_b250 X Qx nm b n L xs hX hR l1 l2 K18 hK18 l3 x25 l2 x26 1)
set_option maxRecDepth 20000 in
theorem S_L_law_L18_body (X : pz_X) (Qx : Option Value → pz_H → State → Prop) (nm : String) (b : Nat) (n L : Nat) (xs : Nat → Int32) (hX : pz_scX X b L xs) (hR : ∀ (pc : Nat) (lv : List (Nat × Value)), decode cL_law pc = .ok (.ireturn, 1) → pz_Sm X Qx (J_L nm) pz_vU pc lv [.int 1] (pz_ret ())) (l1 : Option Nat) (l2 : Option Nat) (K18 : Int32 → pz_C Unit) (hK18 : ∀ (l3 : Int32), pz_Sm X (Qx) (J_L nm) pz_vU 18 [(0, va_rf (some b)), (1, va_rf l1), (2, va_rf l2), (3, .int l3)] [] (K18 l3)) (l3 : Int32) : pz_Sm X (Qx) (J_L nm) pz_vU 18 [(0, va_rf (some b)), (1, va_rf l1), (2, va_rf l2), (3, .int l3)] [] (L_law_L18_body n L xs l1 l2 K18 l3) := by
  unfold L_law_L18_body
  refine pz_iload_n 3 dL_law_18 rfl ?_
  refine pz_aload_n 0 dL_law_19 rfl ?_
  refine pz_sln hX dL_law_20 ?_
  refine pz_bipush 6 dL_law_21 (by decide) ?_
  refine pz_isub dL_law_23 ?_
  refine pz_icmp_gt 676 dL_law_24 (by decide) ?_ ?_
  · refine pz_iconst 1 dL_law_676 (by decide) ?_
    exact hR _ _ dL_law_677
  · refine pz_aload_n 0 dL_law_27 rfl ?_
    refine pz_iload_n 3 dL_law_28 rfl ?_
    refine pz_sld hX dL_law_29 (fun x5 => ?_)
    refine pz_bipush 31 dL_law_30 (by decide) ?_
    refine pz_iand dL_law_32 ?_
    refine pz_table 670 dL_law_33 (by decide) (by decide) ⟨⟨120, (by decide), ?_⟩, ⟨143, (by decide), ?_⟩, ⟨176, (by decide), ?_⟩, ⟨209, (by decide), ?_⟩, ⟨258, (by decide), ?_⟩, ⟨281, (by decide), ?_⟩, ⟨304, (by decide), ?_⟩, ⟨327, (by decide), ?_⟩, ⟨350, (by decide), ?_⟩, ⟨383, (by decide), ?_⟩, ⟨416, (by decide), ?_⟩, ⟨429, (by decide), ?_⟩, ⟨472, (by decide), ?_⟩, ⟨485, (by decide), ?_⟩, ⟨518, (by decide), ?_⟩, ⟨561, (by decide), ?_⟩, ⟨624, (by decide), ?_⟩, ⟨657, (by decide), ?_⟩, trivial⟩ ?_
    · refine pz_aload_n 1 dL_law_120 rfl ?_
      refine pz_aload_n 0 dL_law_121 rfl ?_
      refine pz_iload_n 3 dL_law_122 rfl ?_
      refine pz_iconst 1 dL_law_123 (by decide) ?_
      refine pz_iadd dL_law_124 ?_
      refine pz_sld hX dL_law_125 (fun x6 => ?_)
      refine pz_cvI (st := []) (md_X11_variables X n l1 x6) ck_11 rfl mk_X11_variables (Or.inl pw_431) pw_432 pw_433 rfl rfl (by decide) (Nat.le_of_ble_eq_true rfl) (Nat.le_of_ble_eq_true rfl) dL_law_126 (fun x7 => ?_)
      refine pz_aload_n 2 dL_law_129 rfl ?_
      refine pz_aload_n 0 dL_law_130 rfl ?_
      refine pz_iload_n 3 dL_law_131 rfl ?_
      refine pz_iconst 1 dL_law_132 (by decide) ?_
      refine pz_iadd dL_law_133 ?_
      refine pz_sld hX dL_law_134 (fun x8 => ?_)
      refine pz_cvI (st := [.int x7]) (md_X12_variables X n l2 x8) ck_12 rfl mk_X12_variables (Or.inl pw_1044) pw_1045 pw_1046 rfl rfl (by simp [pz_rf1, pz_ci, pz_cl]) (Nat.le_of_ble_eq_true rfl) (Nat.le_of_ble_eq_true rfl) dL_law_135 (fun x9 => ?_)
      refine pz_icmp_eq 670 dL_law_138 (by decide) ?_ ?_
      · exact pz_sub [0, 1, 2, 3] rfl (S_L_law_b670 X Qx nm b n L xs hX hR l1 l2 K18 hK18 l3)
      · refine pz_iconst 0 dL_law_141 (by decide) ?_
        exact pz_none_ok
    · refine pz_aload_n 1 dL_law_143 rfl ?_
      refine pz_aload_n 0 dL_law_144 rfl ?_
      refine pz_iload_n 3 dL_law_145 rfl ?_
      refine pz_iconst 1 dL_law_146 (by decide) ?_
      refine pz_iadd dL_law_147 ?_
      refine pz_sld hX dL_law_148 (fun x11 => ?_)
      refine pz_aload_n 0 dL_law_149 rfl ?_
      refine pz_iload_n 3 dL_law_150 rfl ?_
      refine pz_iconst 2 dL_law_151 (by decide) ?_
      refine pz_iadd dL_law_152 ?_
      refine pz_sld hX dL_law_153 (fun x12 => ?_)
      refine pz_cvI (st := []) (md_X11_factor X n l1 x11 x12) ck_11 rfl mk_X11_factor (Or.inl pw_447) pw_448 pw_449 rfl rfl (by decide) (Nat.le_of_ble_eq_true rfl) (Nat.le_of_ble_eq_true rfl) dL_law_154 (fun x13 => ?_)
      refine pz_aload_n 2 dL_law_157 rfl ?_
      refine pz_aload_n 0 dL_law_158 rfl ?_
      refine pz_iload_n 3 dL_law_159 rfl ?_
      refine pz_iconst 1 dL_law_160 (by decide) ?_
      refine pz_iadd dL_law_161 ?_
      refine pz_sld hX dL_law_162 (fun x14 => ?_)
      refine pz_aload_n 0 dL_law_163 rfl ?_
      refine pz_iload_n 3 dL_law_164 rfl ?_
      refine pz_iconst 2 dL_law_165 (by decide) ?_
      refine pz_iadd dL_law_166 ?_
      refine pz_sld hX dL_law_167 (fun x15 => ?_)
      refine pz_cvI (st := [.int x13]) (md_X12_factor X n l2 x14 x15) ck_12 rfl mk_X12_factor (Or.inl pw_1052) pw_1053 pw_1054 rfl rfl (by simp [pz_rf1, pz_ci, pz_cl]) (Nat.le_of_ble_eq_true rfl) (Nat.le_of_ble_eq_true rfl) dL_law_168 (fun x16 => ?_)
      refine pz_icmp_eq 670 dL_law_171 (by decide) ?_ ?_
      · exact pz_sub [0, 1, 2, 3] rfl (S_L_law_b670 X Qx nm b n L xs hX hR l1 l2 K18 hK18 l3)
      · refine pz_iconst 0 dL_law_174 (by decide) ?_
        exact pz_none_ok
    · refine pz_aload_n 1 dL_law_176 rfl ?_
      refine pz_aload_n 0 dL_law_177 rfl ?_
      refine pz_iload_n 3 dL_law_178 rfl ?_
      refine pz_iconst 1 dL_law_179 (by decide) ?_
      refine pz_iadd dL_law_180 ?_
      refine pz_sld hX dL_law_181 (fun x17 => ?_)
      refine pz_aload_n 0 dL_law_182 rfl ?_
      refine pz_iload_n 3 dL_law_183 rfl ?_
      refine pz_iconst 2 dL_law_184 (by decide) ?_
      refine pz_iadd dL_law_185 ?_
      refine pz_sld hX dL_law_186 (fun x18 => ?_)
      refine pz_cvI (st := []) (md_X11_row X n l1 x17 x18) ck_11 rfl mk_X11_row (Or.inl pw_457) pw_458 pw_459 rfl rfl (by decide) (Nat.le_of_ble_eq_true rfl) (Nat.le_of_ble_eq_true rfl) dL_law_187 (fun x19 => ?_)
      refine pz_aload_n 2 dL_law_190 rfl ?_
      refine pz_aload_n 0 dL_law_191 rfl ?_
      refine pz_iload_n 3 dL_law_192 rfl ?_
      refine pz_iconst 1 dL_law_193 (by decide) ?_
      refine pz_iadd dL_law_194 ?_
      refine pz_sld hX dL_law_195 (fun x20 => ?_)
      refine pz_aload_n 0 dL_law_196 rfl ?_
      refine pz_iload_n 3 dL_law_197 rfl ?_
      refine pz_iconst 2 dL_law_198 (by decide) ?_
      refine pz_iadd dL_law_199 ?_
      refine pz_sld hX dL_law_200 (fun x21 => ?_)
      refine pz_cvI (st := [.int x19]) (md_X12_row X n l2 x20 x21) ck_12 rfl mk_X12_row (Or.inl pw_1064) pw_1065 pw_1066 rfl rfl (by simp [pz_rf1, pz_ci, pz_cl]) (Nat.le_of_ble_eq_true rfl) (Nat.le_of_ble_eq_true rfl) dL_law_201 (fun x22 => ?_)
      refine pz_icmp_eq 670 dL_law_204 (by decide) ?_ ?_
      · exact pz_sub [0, 1, 2, 3] rfl (S_L_law_b670 X Qx nm b n L xs hX hR l1 l2 K18 hK18 l3)
      · refine pz_iconst 0 dL_law_207 (by decide) ?_
        exact pz_none_ok
    · refine pz_aload_n 1 dL_law_209 rfl ?_
      refine pz_aload_n 0 dL_law_210 rfl ?_
      refine pz_iload_n 3 dL_law_211 rfl ?_
      refine pz_iconst 1 dL_law_212 (by decide) ?_
      refine pz_iadd dL_law_213 ?_
      refine pz_sld hX dL_law_214 (fun x23 => ?_)
      refine pz_aload_n 0 dL_law_215 rfl ?_
      refine pz_iload_n 3 dL_law_216 rfl ?_
      refine pz_iconst 2 dL_law_217 (by decide) ?_
      refine pz_iadd dL_law_218 ?_
      refine pz_sld hX dL_law_219 (fun x24 => ?_)
      refine pz_if_eq 227 dL_law_220 (by decide) ?_ ?_
      · refine pz_iconst 0 dL_law_227 (by decide) ?_
        exact pz_sub [0, 1, 2, 3] rfl (S_L_law_b228 X Qx nm b n L xs hX hR l1 l2 K18 hK18 l3 l1 x23 0)
      · refine pz_iconst 1 dL_law_223 (by decide) ?_
        refine pz_goto 228 dL_law_224 (by decide) ?_
        exact pz_sub [0, 1, 2, 3] rfl (S_L_law_b228 X Qx nm b n L xs hX hR l1 l2 K18 hK18 l3 l1 x23 1)
    · refine pz_aload_n 1 dL_law_258 rfl ?_
      refine pz_aload_n 0 dL_law_259 rfl ?_
      refine pz_iload_n 3 dL_law_260 rfl ?_
      refine pz_iconst 1 dL_law_261 (by decide) ?_
      refine pz_iadd dL_law_262 ?_
      refine pz_sld hX dL_law_263 (fun x29 => ?_)
      refine pz_cvI (st := []) (md_X11_solve X n l1 x29) ck_11 rfl mk_X11_solve (Or.inl pw_469) pw_470 pw_471 rfl rfl (by decide) (Nat.le_of_ble_eq_true rfl) (Nat.le_of_ble_eq_true rfl) dL_law_264 (fun x30 => ?_)
      refine pz_aload_n 2 dL_law_267 rfl ?_
      refine pz_aload_n 0 dL_law_268 rfl ?_
      refine pz_iload_n 3 dL_law_269 rfl ?_
      refine pz_iconst 1 dL_law_270 (by decide) ?_
      refine pz_iadd dL_law_271 ?_
      refine pz_sld hX dL_law_272 (fun x31 => ?_)
      refine pz_cvI (st := [.int x30]) (md_X12_solve X n l2 x31) ck_12 rfl mk_X12_solve (Or.inl pw_1072) pw_1073 pw_1074 rfl rfl (by simp [pz_rf1, pz_ci, pz_cl]) (Nat.le_of_ble_eq_true rfl) (Nat.le_of_ble_eq_true rfl) dL_law_273 (fun x32 => ?_)
      refine pz_icmp_eq 670 dL_law_276 (by decide) ?_ ?_
      · exact pz_sub [0, 1, 2, 3] rfl (S_L_law_b670 X Qx nm b n L xs hX hR l1 l2 K18 hK18 l3)
      · refine pz_iconst 0 dL_law_279 (by decide) ?_
        exact pz_none_ok
    · refine pz_aload_n 1 dL_law_281 rfl ?_
      refine pz_aload_n 0 dL_law_282 rfl ?_
      refine pz_iload_n 3 dL_law_283 rfl ?_
      refine pz_iconst 1 dL_law_284 (by decide) ?_
      refine pz_iadd dL_law_285 ?_
      refine pz_sld hX dL_law_286 (fun x33 => ?_)
      refine pz_cvI (st := []) (md_X11_state X n l1 x33) ck_11 rfl mk_X11_state (Or.inl pw_746) pw_747 pw_748 rfl rfl (by decide) (Nat.le_of_ble_eq_true rfl) (Nat.le_of_ble_eq_true rfl) dL_law_287 (fun x34 => ?_)
      refine pz_aload_n 2 dL_law_290 rfl ?_
      refine pz_aload_n 0 dL_law_291 rfl ?_
      refine pz_iload_n 3 dL_law_292 rfl ?_
      refine pz_iconst 1 dL_law_293 (by decide) ?_
      refine pz_iadd dL_law_294 ?_
      refine pz_sld hX dL_law_295 (fun x35 => ?_)
      refine pz_cvI (st := [.int x34]) (md_X12_state X n l2 x35) ck_12 rfl mk_X12_state (Or.inl pw_1232) pw_1233 pw_1234 rfl rfl (by simp [pz_rf1, pz_ci, pz_cl]) (Nat.le_of_ble_eq_true rfl) (Nat.le_of_ble_eq_true rfl) dL_law_296 (fun x36 => ?_)
      refine pz_icmp_eq 670 dL_law_299 (by decide) ?_ ?_
      · exact pz_sub [0, 1, 2, 3] rfl (S_L_law_b670 X Qx nm b n L xs hX hR l1 l2 K18 hK18 l3)
      · refine pz_iconst 0 dL_law_302 (by decide) ?_
        exact pz_none_ok
    · refine pz_aload_n 1 dL_law_304 rfl ?_
      refine pz_aload_n 0 dL_law_305 rfl ?_
      refine pz_iload_n 3 dL_law_306 rfl ?_
      refine pz_iconst 1 dL_law_307 (by decide) ?_
      refine pz_iadd dL_law_308 ?_
      refine pz_sld hX dL_law_309 (fun x37 => ?_)
      refine pz_cvI (st := []) (md_X11_basic X n l1 x37) ck_11 rfl mk_X11_basic (Or.inl pw_751) pw_752 pw_753 rfl rfl (by decide) (Nat.le_of_ble_eq_true rfl) (Nat.le_of_ble_eq_true rfl) dL_law_310 (fun x38 => ?_)
      refine pz_aload_n 2 dL_law_313 rfl ?_
      refine pz_aload_n 0 dL_law_314 rfl ?_
      refine pz_iload_n 3 dL_law_315 rfl ?_
      refine pz_iconst 1 dL_law_316 (by decide) ?_
      refine pz_iadd dL_law_317 ?_
      refine pz_sld hX dL_law_318 (fun x39 => ?_)
      refine pz_cvI (st := [.int x38]) (md_X12_basic X n l2 x39) ck_12 rfl mk_X12_basic (Or.inl pw_1236) pw_1237 pw_1238 rfl rfl (by simp [pz_rf1, pz_ci, pz_cl]) (Nat.le_of_ble_eq_true rfl) (Nat.le_of_ble_eq_true rfl) dL_law_319 (fun x40 => ?_)
      refine pz_icmp_eq 670 dL_law_322 (by decide) ?_ ?_
      · exact pz_sub [0, 1, 2, 3] rfl (S_L_law_b670 X Qx nm b n L xs hX hR l1 l2 K18 hK18 l3)
      · refine pz_iconst 0 dL_law_325 (by decide) ?_
        exact pz_none_ok
    · refine pz_aload_n 1 dL_law_327 rfl ?_
      refine pz_aload_n 0 dL_law_328 rfl ?_
      refine pz_iload_n 3 dL_law_329 rfl ?_
      refine pz_iconst 1 dL_law_330 (by decide) ?_
      refine pz_iadd dL_law_331 ?_
      refine pz_sld hX dL_law_332 (fun x41 => ?_)
      refine pz_cvI (st := []) (md_X11_value X n l1 x41) ck_11 rfl mk_X11_value (Or.inl pw_760) pw_761 pw_762 rfl rfl (by decide) (Nat.le_of_ble_eq_true rfl) (Nat.le_of_ble_eq_true rfl) dL_law_333 (fun x42 => ?_)
      refine pz_aload_n 2 dL_law_336 rfl ?_
      refine pz_aload_n 0 dL_law_337 rfl ?_
      refine pz_iload_n 3 dL_law_338 rfl ?_
      refine pz_iconst 1 dL_law_339 (by decide) ?_
      refine pz_iadd dL_law_340 ?_
      refine pz_sld hX dL_law_341 (fun x43 => ?_)
      refine pz_cvI (st := [.int x42]) (md_X12_value X n l2 x43) ck_12 rfl mk_X12_value (Or.inl pw_1244) pw_1245 pw_1246 rfl rfl (by simp [pz_rf1, pz_ci, pz_cl]) (Nat.le_of_ble_eq_true rfl) (Nat.le_of_ble_eq_true rfl) dL_law_342 (fun x44 => ?_)
      refine pz_icmp_eq 670 dL_law_345 (by decide) ?_ ?_
      · exact pz_sub [0, 1, 2, 3] rfl (S_L_law_b670 X Qx nm b n L xs hX hR l1 l2 K18 hK18 l3)
      · refine pz_iconst 0 dL_law_348 (by decide) ?_
        exact pz_none_ok
    · refine pz_aload_n 1 dL_law_350 rfl ?_
      refine pz_aload_n 0 dL_law_351 rfl ?_
      refine pz_iload_n 3 dL_law_352 rfl ?_
      refine pz_iconst 1 dL_law_353 (by decide) ?_
      refine pz_iadd dL_law_354 ?_
      refine pz_sld hX dL_law_355 (fun x45 => ?_)
      refine pz_aload_n 0 dL_law_356 rfl ?_
      refine pz_iload_n 3 dL_law_357 rfl ?_
      refine pz_iconst 2 dL_law_358 (by decide) ?_
      refine pz_iadd dL_law_359 ?_
      refine pz_sld hX dL_law_360 (fun x46 => ?_)
      refine pz_cvI (st := []) (md_X11_told X n l1 x45 x46) ck_11 rfl mk_X11_told (Or.inl pw_790) pw_791 pw_792 rfl rfl (by decide) (Nat.le_of_ble_eq_true rfl) (Nat.le_of_ble_eq_true rfl) dL_law_361 (fun x47 => ?_)
      refine pz_aload_n 2 dL_law_364 rfl ?_
      refine pz_aload_n 0 dL_law_365 rfl ?_
      refine pz_iload_n 3 dL_law_366 rfl ?_
      refine pz_iconst 1 dL_law_367 (by decide) ?_
      refine pz_iadd dL_law_368 ?_
      refine pz_sld hX dL_law_369 (fun x48 => ?_)
      refine pz_aload_n 0 dL_law_370 rfl ?_
      refine pz_iload_n 3 dL_law_371 rfl ?_
      refine pz_iconst 2 dL_law_372 (by decide) ?_
      refine pz_iadd dL_law_373 ?_
      refine pz_sld hX dL_law_374 (fun x49 => ?_)
      refine pz_cvI (st := [.int x47]) (md_X12_told X n l2 x48 x49) ck_12 rfl mk_X12_told (Or.inl pw_1254) pw_1255 pw_1256 rfl rfl (by simp [pz_rf1, pz_ci, pz_cl]) (Nat.le_of_ble_eq_true rfl) (Nat.le_of_ble_eq_true rfl) dL_law_375 (fun x50 => ?_)
      refine pz_icmp_eq 670 dL_law_378 (by decide) ?_ ?_
      · exact pz_sub [0, 1, 2, 3] rfl (S_L_law_b670 X Qx nm b n L xs hX hR l1 l2 K18 hK18 l3)
      · refine pz_iconst 0 dL_law_381 (by decide) ?_
        exact pz_none_ok
    · refine pz_aload_n 1 dL_law_383 rfl ?_
      refine pz_aload_n 0 dL_law_384 rfl ?_
      refine pz_iload_n 3 dL_law_385 rfl ?_
      refine pz_iconst 1 dL_law_386 (by decide) ?_
      refine pz_iadd dL_law_387 ?_
      refine pz_sld hX dL_law_388 (fun x51 => ?_)
      refine pz_aload_n 0 dL_law_389 rfl ?_
      refine pz_iload_n 3 dL_law_390 rfl ?_
      refine pz_iconst 2 dL_law_391 (by decide) ?_
      refine pz_iadd dL_law_392 ?_
      refine pz_sld hX dL_law_393 (fun x52 => ?_)
      refine pz_cvI (st := []) (md_X11_digits X n l1 x51 x52) ck_11 rfl mk_X11_digits (Or.inl pw_797) pw_798 pw_799 rfl rfl (by decide) (Nat.le_of_ble_eq_true rfl) (Nat.le_of_ble_eq_true rfl) dL_law_394 (fun x53 => ?_)
      refine pz_aload_n 2 dL_law_397 rfl ?_
      refine pz_aload_n 0 dL_law_398 rfl ?_
      refine pz_iload_n 3 dL_law_399 rfl ?_
      refine pz_iconst 1 dL_law_400 (by decide) ?_
      refine pz_iadd dL_law_401 ?_
      refine pz_sld hX dL_law_402 (fun x54 => ?_)
      refine pz_aload_n 0 dL_law_403 rfl ?_
      refine pz_iload_n 3 dL_law_404 rfl ?_
      refine pz_iconst 2 dL_law_405 (by decide) ?_
      refine pz_iadd dL_law_406 ?_
      refine pz_sld hX dL_law_407 (fun x55 => ?_)
      refine pz_cvI (st := [.int x53]) (md_X12_digits X n l2 x54 x55) ck_12 rfl mk_X12_digits (Or.inl pw_1258) pw_1259 pw_1260 rfl rfl (by simp [pz_rf1, pz_ci, pz_cl]) (Nat.le_of_ble_eq_true rfl) (Nat.le_of_ble_eq_true rfl) dL_law_408 (fun x56 => ?_)
      refine pz_icmp_eq 670 dL_law_411 (by decide) ?_ ?_
      · exact pz_sub [0, 1, 2, 3] rfl (S_L_law_b670 X Qx nm b n L xs hX hR l1 l2 K18 hK18 l3)
      · refine pz_iconst 0 dL_law_414 (by decide) ?_
        exact pz_none_ok
    · refine pz_aload_n 1 dL_law_416 rfl ?_
      refine pz_cvI (st := []) (md_X11_witness X n l1) ck_11 rfl mk_X11_witness (Or.inl pw_802) pw_803 pw_804 rfl rfl (by decide) (Nat.le_of_ble_eq_true rfl) (Nat.le_of_ble_eq_true rfl) dL_law_417 (fun x57 => ?_)
      refine pz_aload_n 2 dL_law_420 rfl ?_
      refine pz_cvI (st := [.int x57]) (md_X12_witness X n l2) ck_12 rfl mk_X12_witness (Or.inl pw_1262) pw_1263 pw_1264 rfl rfl (by simp [pz_rf1, pz_ci, pz_cl]) (Nat.le_of_ble_eq_true rfl) (Nat.le_of_ble_eq_true rfl) dL_law_421 (fun x58 => ?_)
      refine pz_icmp_eq 670 dL_law_424 (by decide) ?_ ?_
      · exact pz_sub [0, 1, 2, 3] rfl (S_L_law_b670 X Qx nm b n L xs hX hR l1 l2 K18 hK18 l3)
      · refine pz_iconst 0 dL_law_427 (by decide) ?_
        exact pz_none_ok
    · refine pz_aload_n 1 dL_law_429 rfl ?_
      refine pz_aload_n 0 dL_law_430 rfl ?_
      refine pz_iload_n 3 dL_law_431 rfl ?_
      refine pz_iconst 1 dL_law_432 (by decide) ?_
      refine pz_iadd dL_law_433 ?_
      refine pz_sld hX dL_law_434 (fun x59 => ?_)
      refine pz_aload_n 0 dL_law_435 rfl ?_
      refine pz_iload_n 3 dL_law_436 rfl ?_
      refine pz_iconst 2 dL_law_437 (by decide) ?_
      refine pz_iadd dL_law_438 ?_
      refine pz_sld hX dL_law_439 (fun x60 => ?_)
      refine pz_aload_n 0 dL_law_440 rfl ?_
      refine pz_iload_n 3 dL_law_441 rfl ?_
      refine pz_iconst 3 dL_law_442 (by decide) ?_
      refine pz_iadd dL_law_443 ?_
      refine pz_sld hX dL_law_444 (fun x61 => ?_)
      refine pz_cvI (st := []) (md_X11_setWitness X n l1 x59 x60 x61) ck_11 rfl mk_X11_setWitness (Or.inl pw_806) pw_807 pw_808 rfl rfl (by decide) (Nat.le_of_ble_eq_true rfl) (Nat.le_of_ble_eq_true rfl) dL_law_445 (fun x62 => ?_)
      refine pz_aload_n 2 dL_law_448 rfl ?_
      refine pz_aload_n 0 dL_law_449 rfl ?_
      refine pz_iload_n 3 dL_law_450 rfl ?_
      refine pz_iconst 1 dL_law_451 (by decide) ?_
      refine pz_iadd dL_law_452 ?_
      refine pz_sld hX dL_law_453 (fun x63 => ?_)
      refine pz_aload_n 0 dL_law_454 rfl ?_
      refine pz_iload_n 3 dL_law_455 rfl ?_
      refine pz_iconst 2 dL_law_456 (by decide) ?_
      refine pz_iadd dL_law_457 ?_
      refine pz_sld hX dL_law_458 (fun x64 => ?_)
      refine pz_aload_n 0 dL_law_459 rfl ?_
      refine pz_iload_n 3 dL_law_460 rfl ?_
      refine pz_iconst 3 dL_law_461 (by decide) ?_
      refine pz_iadd dL_law_462 ?_
      refine pz_sld hX dL_law_463 (fun x65 => ?_)
      refine pz_cvI (st := [.int x62]) (md_X12_setWitness X n l2 x63 x64 x65) ck_12 rfl mk_X12_setWitness (Or.inl pw_1266) pw_1267 pw_1268 rfl rfl (by simp [pz_rf1, pz_ci, pz_cl]) (Nat.le_of_ble_eq_true rfl) (Nat.le_of_ble_eq_true rfl) dL_law_464 (fun x66 => ?_)
      refine pz_icmp_eq 670 dL_law_467 (by decide) ?_ ?_
      · exact pz_sub [0, 1, 2, 3] rfl (S_L_law_b670 X Qx nm b n L xs hX hR l1 l2 K18 hK18 l3)
      · refine pz_iconst 0 dL_law_470 (by decide) ?_
        exact pz_none_ok
    · refine pz_aload_n 1 dL_law_472 rfl ?_
      refine pz_cvI (st := []) (md_X11_judgeWitness X n l1) ck_11 rfl mk_X11_judgeWitness (Or.inl pw_816) pw_817 pw_818 rfl rfl (by decide) (Nat.le_of_ble_eq_true rfl) (Nat.le_of_ble_eq_true rfl) dL_law_473 (fun x67 => ?_)
      refine pz_aload_n 2 dL_law_476 rfl ?_
      refine pz_cvI (st := [.int x67]) (md_X12_judgeWitness X n l2) ck_12 rfl mk_X12_judgeWitness (Or.inl pw_1274) pw_1275 pw_1276 rfl rfl (by simp [pz_rf1, pz_ci, pz_cl]) (Nat.le_of_ble_eq_true rfl) (Nat.le_of_ble_eq_true rfl) dL_law_477 (fun x68 => ?_)
      refine pz_icmp_eq 670 dL_law_480 (by decide) ?_ ?_
      · exact pz_sub [0, 1, 2, 3] rfl (S_L_law_b670 X Qx nm b n L xs hX hR l1 l2 K18 hK18 l3)
      · refine pz_iconst 0 dL_law_483 (by decide) ?_
        exact pz_none_ok
    · refine pz_aload_n 1 dL_law_485 rfl ?_
      refine pz_aload_n 0 dL_law_486 rfl ?_
      refine pz_iload_n 3 dL_law_487 rfl ?_
      refine pz_iconst 1 dL_law_488 (by decide) ?_
      refine pz_iadd dL_law_489 ?_
      refine pz_sld hX dL_law_490 (fun x69 => ?_)
      refine pz_aload_n 0 dL_law_491 rfl ?_
      refine pz_iload_n 3 dL_law_492 rfl ?_
      refine pz_iconst 2 dL_law_493 (by decide) ?_
      refine pz_iadd dL_law_494 ?_
      refine pz_sld hX dL_law_495 (fun x70 => ?_)
      refine pz_cvI (st := []) (md_X11_node X n l1 x69 x70) ck_11 rfl mk_X11_node (Or.inl pw_848) pw_849 pw_850 rfl rfl (by decide) (Nat.le_of_ble_eq_true rfl) (Nat.le_of_ble_eq_true rfl) dL_law_496 (fun x71 => ?_)
      refine pz_aload_n 2 dL_law_499 rfl ?_
      refine pz_aload_n 0 dL_law_500 rfl ?_
      refine pz_iload_n 3 dL_law_501 rfl ?_
      refine pz_iconst 1 dL_law_502 (by decide) ?_
      refine pz_iadd dL_law_503 ?_
      refine pz_sld hX dL_law_504 (fun x72 => ?_)
      refine pz_aload_n 0 dL_law_505 rfl ?_
      refine pz_iload_n 3 dL_law_506 rfl ?_
      refine pz_iconst 2 dL_law_507 (by decide) ?_
      refine pz_iadd dL_law_508 ?_
      refine pz_sld hX dL_law_509 (fun x73 => ?_)
      refine pz_cvI (st := [.int x71]) (md_X12_node X n l2 x72 x73) ck_12 rfl mk_X12_node (Or.inl pw_1290) pw_1291 pw_1292 rfl rfl (by simp [pz_rf1, pz_ci, pz_cl]) (Nat.le_of_ble_eq_true rfl) (Nat.le_of_ble_eq_true rfl) dL_law_510 (fun x74 => ?_)
      refine pz_icmp_eq 670 dL_law_513 (by decide) ?_ ?_
      · exact pz_sub [0, 1, 2, 3] rfl (S_L_law_b670 X Qx nm b n L xs hX hR l1 l2 K18 hK18 l3)
      · refine pz_iconst 0 dL_law_516 (by decide) ?_
        exact pz_none_ok
    · refine pz_aload_n 1 dL_law_518 rfl ?_
      refine pz_aload_n 0 dL_law_519 rfl ?_
      refine pz_iload_n 3 dL_law_520 rfl ?_
      refine pz_iconst 1 dL_law_521 (by decide) ?_
      refine pz_iadd dL_law_522 ?_
      refine pz_sld hX dL_law_523 (fun x75 => ?_)
      refine pz_aload_n 0 dL_law_524 rfl ?_
      refine pz_iload_n 3 dL_law_525 rfl ?_
      refine pz_iconst 2 dL_law_526 (by decide) ?_
      refine pz_iadd dL_law_527 ?_
      refine pz_sld hX dL_law_528 (fun x76 => ?_)
      refine pz_aload_n 0 dL_law_529 rfl ?_
      refine pz_iload_n 3 dL_law_530 rfl ?_
      refine pz_iconst 3 dL_law_531 (by decide) ?_
      refine pz_iadd dL_law_532 ?_
      refine pz_sld hX dL_law_533 (fun x77 => ?_)
      refine pz_cvI (st := []) (md_X11_multiplier X n l1 x75 x76 x77) ck_11 rfl mk_X11_multiplier (Or.inl pw_859) pw_860 pw_861 rfl rfl (by decide) (Nat.le_of_ble_eq_true rfl) (Nat.le_of_ble_eq_true rfl) dL_law_534 (fun x78 => ?_)
      refine pz_aload_n 2 dL_law_537 rfl ?_
      refine pz_aload_n 0 dL_law_538 rfl ?_
      refine pz_iload_n 3 dL_law_539 rfl ?_
      refine pz_iconst 1 dL_law_540 (by decide) ?_
      refine pz_iadd dL_law_541 ?_
      refine pz_sld hX dL_law_542 (fun x79 => ?_)
      refine pz_aload_n 0 dL_law_543 rfl ?_
      refine pz_iload_n 3 dL_law_544 rfl ?_
      refine pz_iconst 2 dL_law_545 (by decide) ?_
      refine pz_iadd dL_law_546 ?_
      refine pz_sld hX dL_law_547 (fun x80 => ?_)
      refine pz_aload_n 0 dL_law_548 rfl ?_
      refine pz_iload_n 3 dL_law_549 rfl ?_
      refine pz_iconst 3 dL_law_550 (by decide) ?_
      refine pz_iadd dL_law_551 ?_
      refine pz_sld hX dL_law_552 (fun x81 => ?_)
      refine pz_cvI (st := [.int x78]) (md_X12_multiplier X n l2 x79 x80 x81) ck_12 rfl mk_X12_multiplier (Or.inl pw_1306) pw_1307 pw_1308 rfl rfl (by simp [pz_rf1, pz_ci, pz_cl]) (Nat.le_of_ble_eq_true rfl) (Nat.le_of_ble_eq_true rfl) dL_law_553 (fun x82 => ?_)
      refine pz_icmp_eq 670 dL_law_556 (by decide) ?_ ?_
      · exact pz_sub [0, 1, 2, 3] rfl (S_L_law_b670 X Qx nm b n L xs hX hR l1 l2 K18 hK18 l3)
      · refine pz_iconst 0 dL_law_559 (by decide) ?_
        exact pz_none_ok
    · refine pz_aload_n 1 dL_law_561 rfl ?_
      refine pz_aload_n 0 dL_law_562 rfl ?_
      refine pz_iload_n 3 dL_law_563 rfl ?_
      refine pz_iconst 1 dL_law_564 (by decide) ?_
      refine pz_iadd dL_law_565 ?_
      refine pz_sld hX dL_law_566 (fun x83 => ?_)
      refine pz_aload_n 0 dL_law_567 rfl ?_
      refine pz_iload_n 3 dL_law_568 rfl ?_
      refine pz_iconst 2 dL_law_569 (by decide) ?_
      refine pz_iadd dL_law_570 ?_
      refine pz_sld hX dL_law_571 (fun x84 => ?_)
      refine pz_aload_n 0 dL_law_572 rfl ?_
      refine pz_iload_n 3 dL_law_573 rfl ?_
      refine pz_iconst 3 dL_law_574 (by decide) ?_
      refine pz_iadd dL_law_575 ?_
      refine pz_sld hX dL_law_576 (fun x85 => ?_)
      refine pz_aload_n 0 dL_law_577 rfl ?_
      refine pz_iload_n 3 dL_law_578 rfl ?_
      refine pz_iconst 4 dL_law_579 (by decide) ?_
      refine pz_iadd dL_law_580 ?_
      refine pz_sld hX dL_law_581 (fun x86 => ?_)
      refine pz_aload_n 0 dL_law_582 rfl ?_
      refine pz_iload_n 3 dL_law_583 rfl ?_
      refine pz_iconst 5 dL_law_584 (by decide) ?_
      refine pz_iadd dL_law_585 ?_
      refine pz_sld hX dL_law_586 (fun x87 => ?_)
      refine pz_cvI (st := []) (md_X11_setMultiplier X n l1 x83 x84 x85 x86 x87) ck_11 rfl mk_X11_setMultiplier (Or.inl pw_872) pw_873 pw_874 rfl rfl (by decide) (Nat.le_of_ble_eq_true rfl) (Nat.le_of_ble_eq_true rfl) dL_law_587 (fun x88 => ?_)
      refine pz_aload_n 2 dL_law_590 rfl ?_
      refine pz_aload_n 0 dL_law_591 rfl ?_
      refine pz_iload_n 3 dL_law_592 rfl ?_
      refine pz_iconst 1 dL_law_593 (by decide) ?_
      refine pz_iadd dL_law_594 ?_
      refine pz_sld hX dL_law_595 (fun x89 => ?_)
      refine pz_aload_n 0 dL_law_596 rfl ?_
      refine pz_iload_n 3 dL_law_597 rfl ?_
      refine pz_iconst 2 dL_law_598 (by decide) ?_
      refine pz_iadd dL_law_599 ?_
      refine pz_sld hX dL_law_600 (fun x90 => ?_)
      refine pz_aload_n 0 dL_law_601 rfl ?_
      refine pz_iload_n 3 dL_law_602 rfl ?_
      refine pz_iconst 3 dL_law_603 (by decide) ?_
      refine pz_iadd dL_law_604 ?_
      refine pz_sld hX dL_law_605 (fun x91 => ?_)
      refine pz_aload_n 0 dL_law_606 rfl ?_
      refine pz_iload_n 3 dL_law_607 rfl ?_
      refine pz_iconst 4 dL_law_608 (by decide) ?_
      refine pz_iadd dL_law_609 ?_
      refine pz_sld hX dL_law_610 (fun x92 => ?_)
      refine pz_aload_n 0 dL_law_611 rfl ?_
      refine pz_iload_n 3 dL_law_612 rfl ?_
      refine pz_iconst 5 dL_law_613 (by decide) ?_
      refine pz_iadd dL_law_614 ?_
      refine pz_sld hX dL_law_615 (fun x93 => ?_)
      refine pz_cvI (st := [.int x88]) (md_X12_setMultiplier X n l2 x89 x90 x91 x92 x93) ck_12 rfl mk_X12_setMultiplier (Or.inl pw_1314) pw_1315 pw_1316 rfl rfl (by simp [pz_rf1, pz_ci, pz_cl]) (Nat.le_of_ble_eq_true rfl) (Nat.le_of_ble_eq_true rfl) dL_law_616 (fun x94 => ?_)
      refine pz_icmp_eq 670 dL_law_619 (by decide) ?_ ?_
      · exact pz_sub [0, 1, 2, 3] rfl (S_L_law_b670 X Qx nm b n L xs hX hR l1 l2 K18 hK18 l3)
      · refine pz_iconst 0 dL_law_622 (by decide) ?_
        exact pz_none_ok
    · refine pz_aload_n 1 dL_law_624 rfl ?_
      refine pz_aload_n 0 dL_law_625 rfl ?_
      refine pz_iload_n 3 dL_law_626 rfl ?_
      refine pz_iconst 1 dL_law_627 (by decide) ?_
      refine pz_iadd dL_law_628 ?_
      refine pz_sld hX dL_law_629 (fun x95 => ?_)
      refine pz_aload_n 0 dL_law_630 rfl ?_
      refine pz_iload_n 3 dL_law_631 rfl ?_
      refine pz_iconst 2 dL_law_632 (by decide) ?_
      refine pz_iadd dL_law_633 ?_
      refine pz_sld hX dL_law_634 (fun x96 => ?_)
      refine pz_cvI (st := []) (md_X11_setSplit X n l1 x95 x96) ck_11 rfl mk_X11_setSplit (Or.inl pw_876) pw_877 pw_878 rfl rfl (by decide) (Nat.le_of_ble_eq_true rfl) (Nat.le_of_ble_eq_true rfl) dL_law_635 (fun x97 => ?_)
      refine pz_aload_n 2 dL_law_638 rfl ?_
      refine pz_aload_n 0 dL_law_639 rfl ?_
      refine pz_iload_n 3 dL_law_640 rfl ?_
      refine pz_iconst 1 dL_law_641 (by decide) ?_
      refine pz_iadd dL_law_642 ?_
      refine pz_sld hX dL_law_643 (fun x98 => ?_)
      refine pz_aload_n 0 dL_law_644 rfl ?_
      refine pz_iload_n 3 dL_law_645 rfl ?_
      refine pz_iconst 2 dL_law_646 (by decide) ?_
      refine pz_iadd dL_law_647 ?_
      refine pz_sld hX dL_law_648 (fun x99 => ?_)
      refine pz_cvI (st := [.int x97]) (md_X12_setSplit X n l2 x98 x99) ck_12 rfl mk_X12_setSplit (Or.inl pw_1318) pw_1319 pw_1320 rfl rfl (by simp [pz_rf1, pz_ci, pz_cl]) (Nat.le_of_ble_eq_true rfl) (Nat.le_of_ble_eq_true rfl) dL_law_649 (fun x100 => ?_)
      refine pz_icmp_eq 670 dL_law_652 (by decide) ?_ ?_
      · exact pz_sub [0, 1, 2, 3] rfl (S_L_law_b670 X Qx nm b n L xs hX hR l1 l2 K18 hK18 l3)
      · refine pz_iconst 0 dL_law_655 (by decide) ?_
        exact pz_none_ok
    · refine pz_aload_n 1 dL_law_657 rfl ?_
      refine pz_cvI (st := []) (md_X11_judgeTree X n l1) ck_11 rfl mk_X11_judgeTree (Or.inl pw_880) pw_881 pw_882 rfl rfl (by decide) (Nat.le_of_ble_eq_true rfl) (Nat.le_of_ble_eq_true rfl) dL_law_658 (fun x101 => ?_)
      refine pz_aload_n 2 dL_law_661 rfl ?_
      refine pz_cvI (st := [.int x101]) (md_X12_judgeTree X n l2) ck_12 rfl mk_X12_judgeTree (Or.inl pw_1322) pw_1323 pw_1324 rfl rfl (by simp [pz_rf1, pz_ci, pz_cl]) (Nat.le_of_ble_eq_true rfl) (Nat.le_of_ble_eq_true rfl) dL_law_662 (fun x102 => ?_)
      refine pz_icmp_eq 670 dL_law_665 (by decide) ?_ ?_
      · exact pz_sub [0, 1, 2, 3] rfl (S_L_law_b670 X Qx nm b n L xs hX hR l1 l2 K18 hK18 l3)
      · refine pz_iconst 0 dL_law_668 (by decide) ?_
        exact pz_none_ok
    · exact pz_sub [0, 1, 2, 3] rfl (S_L_law_b670 X Qx nm b n L xs hX hR l1 l2 K18 hK18 l3)
set_option maxRecDepth 20000 in
theorem S_L_law_L18 (X : pz_X) (Qx : Option Value → pz_H → State → Prop) (nm : String) (b : Nat) (n L : Nat) (xs : Nat → Int32) (hX : pz_scX X b L xs) (hR : ∀ (pc : Nat) (lv : List (Nat × Value)), decode cL_law pc = .ok (.ireturn, 1) → pz_Sm X Qx (J_L nm) pz_vU pc lv [.int 1] (pz_ret ())) (l1 : Option Nat) (l2 : Option Nat) (l3 : Int32) : pz_Sm X (Qx) (J_L nm) pz_vU 18 [(0, va_rf (some b)), (1, va_rf l1), (2, va_rf l2), (3, .int l3)] [] (L_law_L18 n L xs l1 l2 l3) :=
  pz_lp (L := fun (s : Int32) => [(0, va_rf (some b)), (1, va_rf l1), (2, va_rf l2), (3, .int s)]) (fun K hK s => S_L_law_L18_body X Qx nm b n L xs hX hR l1 l2 (fun l3 => K l3) (fun l3 => hK l3) s) n l3
set_option maxRecDepth 20000 in
theorem S_L_law (X : pz_X) (Qx : Option Value → pz_H → State → Prop) (nm : String) (b : Nat) (n L : Nat) (xs : Nat → Int32) (hX : pz_scX X b L xs) (hR : ∀ (pc : Nat) (lv : List (Nat × Value)), decode cL_law pc = .ok (.ireturn, 1) → pz_Sm X Qx (J_L nm) pz_vU pc lv [.int 1] (pz_ret ())) : pz_Sm X (Qx) (J_L nm) pz_vU 0 [(0, va_rf (some b))] [] (L_law n L xs) := by
  unfold L_law
  refine pz_newo (ci := 11) ck_11 pw_15 pw_16 pw_1 df_11 dL_law_0 (fun x1 => ?_)
  refine pz_dup dL_law_3 (pz_rf1 _) ?_
  refine pz_callI (st := [va_rf x1]) (md_X11_init X n x1) mk_X11_init rfl (Or.inl pw_17) pw_18 rfl rfl rfl (by simp [pz_rf1, pz_ci, pz_cl]) (Nat.le_of_ble_eq_true rfl) (Nat.le_of_ble_eq_true rfl) dL_law_4 (fun _ => ?_)
  refine pz_astore_n [(1, va_rf x1), (0, va_rf (some b))] dL_law_7 (Nat.le_of_ble_eq_true rfl) rfl ?_
  refine pz_newo (ci := 12) ck_12 pw_903 pw_904 pw_12 df_12 dL_law_8 (fun x3 => ?_)
  refine pz_dup dL_law_11 (pz_rf1 _) ?_
  refine pz_callI (st := [va_rf x3]) (md_X12_init X n x3) mk_X12_init rfl (Or.inl pw_905) pw_906 rfl rfl rfl (by simp [pz_rf1, pz_ci, pz_cl]) (Nat.le_of_ble_eq_true rfl) (Nat.le_of_ble_eq_true rfl) dL_law_12 (fun _ => ?_)
  refine pz_astore_n [(2, va_rf x3), (1, va_rf x1), (0, va_rf (some b))] dL_law_15 (Nat.le_of_ble_eq_true rfl) (by cases x1 <;> rfl) ?_
  refine pz_iconst 0 dL_law_16 (by decide) ?_
  refine pz_istore_n [(3, .int 0), (2, va_rf x3), (1, va_rf x1), (0, va_rf (some b))] dL_law_17 (Nat.le_of_ble_eq_true rfl) (by cases x3 <;> rfl) ?_
  exact pz_sub [3, 2, 1, 0] rfl (S_L_law_L18 X Qx nm b n L xs hX hR x1 x3 0)
