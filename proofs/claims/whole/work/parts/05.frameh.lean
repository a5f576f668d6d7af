/-! ===== the rules that read and write cells, make them, call ===== -/
/-- what is known of a class ci -/
def pz_CK (ci : Nat) (C : String) (T : u_T) (N : Nat) (ty : Nat → FieldType) : Prop := vwCl[ci]? = some (C, T, N) ∧ (∀ w ∈ u_ws C T N, w ∈ pz_ws) ∧ (∀ k, k < N → parseFieldDescriptor (T k).2.2.1 = some (ty k)) ∧ (∀ a, a < N → ∀ b, b < N → a ≠ b → (T a).2.1 ≠ (T b).2.1)
def pz_FL (own : String) (idx : Nat) (q : String × String × String × Bool) : Prop := Cond.fieldLink own idx q.1 q.2.1 q.2.2.1 ∈ pz_ws ∨ ∃ host, Cond.fieldLinkNest own idx q.1 q.2.1 q.2.2.1 host ∈ pz_nw
theorem pz_tys_at {dA : Nat → ClassId} {t : Nat} {ft : FieldType} (h : pz_ty[t]? = some ft) : (pz_tys dA)[t]? = some (dA t, ft) := by
  simp [pz_tys, h]
theorem pz_ob_at {X : pz_X} {h : pz_H} {H : Heap} {ci : Nat} {r : Option Nat} {fs : List Value} (hR : pz_Rep (pz_xD X) (pz_xA X) (pz_xB X) h H) (ho : pz_ob ci r h = some fs) : ∃ a : Nat, r = some a ∧ pz_xB X ≤ a ∧ h.2.2 a = some (.inr (ci, fs)) ∧ va_at (pz_xD X) vwCl (a, .inr (ci, fs)) H := by
  cases r with
  | none => simp [pz_ob] at ho
  | some a =>
    simp only [pz_ob] at ho
    cases hc : h.2.2 a with
    | none => rw [hc] at ho; cases ho
    | some e =>
      rw [hc] at ho
      cases e with
      | inl o => cases ho
      | inr o =>
        obtain ⟨c, f⟩ := o
        by_cases hk : c = ci
        · simp only [hk, if_true] at ho
          cases ho
          subst hk
          exact ⟨a, rfl, (hR.2.2 a _ hc).1, hc, (hR.2.2 a _ hc).2⟩
        · simp [hk] at ho
theorem pz_ar_at {X : pz_X} {h : pz_H} {H : Heap} {t : Nat} {r : Option Nat} {x : vp_A} (hR : pz_Rep (pz_xD X) (pz_xA X) (pz_xB X) h H) (ho : pz_ar t r h = some x) : ∃ a : Nat, r = some a ∧ pz_xB X ≤ a ∧ h.2.2 a = some (.inl (t, x)) ∧ va_at (pz_xD X) vwCl (a, .inl (pz_xA X t, x)) H := by
  cases r with
  | none => simp [pz_ar] at ho
  | some a =>
    simp only [pz_ar] at ho
    cases hc : h.2.2 a with
    | none => rw [hc] at ho; cases ho
    | some e =>
      rw [hc] at ho
      cases e with
      | inr o => cases ho
      | inl o =>
        obtain ⟨c, f⟩ := o
        by_cases hk : c = t
        · simp only [hk, if_true] at ho
          cases ho
          subst hk
          exact ⟨a, rfl, (hR.2.2 a _ hc).1, hc, (hR.2.2 a _ hc).2⟩
        · simp [hk] at ho
theorem pz_P1 {D : va_G} {q : Nat × va_E} {H : Heap} (h : va_at D vwCl q H) : va_P D vwCl [q] H := by
  intro k q' hk
  cases k with
  | zero => cases hk; exact h
  | succ k => simp at hk
theorem pz_Rep_set {D : va_G} {dA : Nat → ClassId} {base a : Nat} {h : pz_H} {H H' : Heap} {e : pz_E} (hR : pz_Rep D dA base h H) (hb : base ≤ a) (he : va_at D vwCl (a, pz_toE dA e) H') (hz : H'.size = H.size) (ho : ∀ q : Nat, q ≠ a → H'[q]? = H[q]?) : pz_Rep D dA base (pz_set h a e) H' := by
  refine ⟨hR.1.trans hz.symm, hz ▸ hR.2.1, fun q e' hq => ?_⟩
  by_cases hqa : q = a
  · subst hqa
    simp [pz_set, va_up] at hq
    subst hq
    exact ⟨hb, he⟩
  · simp [pz_set, va_up, hqa] at hq
    exact ⟨(hR.2.2 q e' hq).1, (hR.2.2 q e' hq).2.kept (ho q hqa)⟩
theorem pz_In_set {X : pz_X} {h h' : pz_H} {H H' : Heap} {locs : List Loc} {cells slots a k : Nat} {e : pz_E} (hI : pz_In X h H locs cells slots h') (hb : pz_xB X ≤ a) (he : va_at (pz_xD X) vwCl (a, pz_toE (pz_xA X) e) H') (hz : H'.size = H.size) (ho : ∀ q : Nat, q ≠ a → H'[q]? = H[q]?) : pz_In X (pz_set h a e) H' (locs ++ [⟨a, k⟩]) cells slots h' := by
  obtain ⟨h1, h2, h3, h4, h5⟩ := hI
  refine ⟨pz_Rep_set h1 hb he hz ho, fun q hq => ?_, fun q hq => ?_, h4, h5⟩
  · rcases List.mem_append.mp hq with h | h
    · exact h2 q h
    · rw [List.mem_singleton.mp h]; exact hb
  · rw [ho q (by omega)]; exact h3 q hq
theorem pz_In_mk {X : pz_X} {h h' : pz_H} {H H' : Heap} {locs : List Loc} {cells slots n : Nat} {e : pz_E} (hI : pz_In X h H locs cells slots h') (he : va_at (pz_xD X) vwCl (H.size, pz_toE (pz_xA X) e) H') (hz : H'.size = H.size + 1) (ho : ∀ q : Nat, q < H.size → H'[q]? = H[q]?) : pz_In X (pz_mk h n e) H' locs (cells + 1) (slots + n) h' := by
  obtain ⟨⟨a1, a2, a3⟩, h2, h3, h4, h5⟩ := hI
  refine ⟨⟨?_, by omega, fun q e' hq => ?_⟩, h2, fun q hq => ?_, ?_, ?_⟩
  · show h.1 + 1 = H'.size
    omega
  · by_cases hqa : q = h.1
    · subst hqa
      simp [pz_mk, va_up] at hq
      subst hq
      exact ⟨by omega, by rw [a1]; exact he⟩
    · simp [pz_mk, va_up, hqa] at hq
      have h8 := a3 q e' hq
      exact ⟨h8.1, h8.2.kept (ho q h8.2.lt)⟩
  · rw [ho q (by omega)]; exact h3 q hq
  · show cells + 1 + h'.1 ≤ _ + (h.1 + 1)
    omega
  · show slots + n + h'.2.1 ≤ _ + (h.2.1 + n)
    omega
section PZ2
variable {X : pz_X} {Qx : Option Value → pz_H → State → Prop} {J : pz_J} {ρ : Type} {rv : ρ → Option Value} {pc : Nat} {lv : List (Nat × Value)} {st : List Value} {m m1 m2 : pz_C ρ}
theorem pz_getf {α : Type} {as : Option Value → Option α} {mkv : α → Value} (has : ∀ (v : Option Value) (x : α), as v = some x → v = some (mkv x)) {ci k N idx : Nat} {C : String} {T : u_T} {ty : Nat → FieldType} {r : Option Nat} {K : α → pz_C ρ} (ck : pz_CK ci C T N ty) (hk : k < N) (hl : pz_FL J.2.1 idx (T k)) (d : decode J.1 pc = .ok (.getfield idx, 3))
    (kk : ∀ x, pz_Sm X Qx J rv (pc + 3) lv (mkv x :: st) (K x)) : pz_Sm X Qx J rv pc lv (va_rf r :: st) (pz_gB (fun h => as (pz_fd ci k r h)) K) := by
  intro h y hm
  simp only [pz_gB] at hm
  cases hx : as (pz_fd ci k r h) with
  | none => rw [hx] at hm; cases hm
  | some x =>
    rw [hx] at hm
    have hv := has _ _ hx
    unfold pz_fd at hv
    cases hob : pz_ob ci r h with
    | none => rw [hob] at hv; cases hv
    | some fs =>
      rw [hob] at hv
      obtain ⟨g1, g2⟩ := kk x h y hm
      refine ⟨g1, fun A H locs cells slots ls hI hl' => ?_⟩
      obtain ⟨a, rfl, hb, -, hat⟩ := pz_ob_at hI.1 hob
      have k2 := g2 A H locs cells slots ls hI hl'
      rcases hl with hw | ⟨host, hw⟩
      · exact va_get (ws := [(a, .inr (ci, fs))]) A.1 A.2.1 A.2.2.2.2.2.2.2.2.1 ck.2.1 A.2.2.1 A.2.2.2.2.2.2.2.2.2.1.1 (pz_P1 hat) 0 rfl ck.1 k hk (A.2.2.2.2.2.2.2.2.1 _ hw) (fun _ q => q) hv d k2
      · exact va_getN (ws := [(a, .inr (ci, fs))]) A.1 A.2.1 A.2.2.2.2.2.2.2.2.1 ck.2.1 A.2.2.1 A.2.2.2.2.2.2.2.2.2.1.1 (pz_P1 hat) 0 rfl ck.1 k hk (va_Nw.use rfl (A.2.2.2.2.2.2.2.2.2.1.2.1 _ hw)) (fun _ q => q) hv d k2
theorem pz_asI_v (v : Option Value) (x : Int32) (h : pz_asI v = some x) : v = some (.int x) := by
  unfold pz_asI at h
  split at h
  · cases h; rfl
  · cases h
theorem pz_asL_v (v : Option Value) (x : Int64) (h : pz_asL v = some x) : v = some (.long x) := by
  unfold pz_asL at h
  split at h
  · cases h; rfl
  · cases h
theorem pz_asR_v (v : Option Value) (x : Option Nat) (h : pz_asR v = some x) : v = some (va_rf x) := by
  unfold pz_asR at h
  split at h
  · cases h; rfl
  · cases h; rfl
  · cases h
theorem pz_getI {ci k N idx : Nat} {C : String} {T : u_T} {ty : Nat → FieldType} {r : Option Nat} {K : Int32 → pz_C ρ} (ck : pz_CK ci C T N ty) (hk : k < N) (hl : pz_FL J.2.1 idx (T k)) (d : decode J.1 pc = .ok (.getfield idx, 3))
    (kk : ∀ x, pz_Sm X Qx J rv (pc + 3) lv (.int x :: st) (K x)) : pz_Sm X Qx J rv pc lv (va_rf r :: st) (pz_gB (pz_rI ci k r) K) := pz_getf pz_asI_v ck hk hl d kk
theorem pz_getL {ci k N idx : Nat} {C : String} {T : u_T} {ty : Nat → FieldType} {r : Option Nat} {K : Int64 → pz_C ρ} (ck : pz_CK ci C T N ty) (hk : k < N) (hl : pz_FL J.2.1 idx (T k)) (d : decode J.1 pc = .ok (.getfield idx, 3))
    (kk : ∀ x, pz_Sm X Qx J rv (pc + 3) lv (.long x :: st) (K x)) : pz_Sm X Qx J rv pc lv (va_rf r :: st) (pz_gB (pz_rL ci k r) K) := pz_getf pz_asL_v ck hk hl d kk
theorem pz_getR {ci k N idx : Nat} {C : String} {T : u_T} {ty : Nat → FieldType} {r : Option Nat} {K : Option Nat → pz_C ρ} (ck : pz_CK ci C T N ty) (hk : k < N) (hl : pz_FL J.2.1 idx (T k)) (d : decode J.1 pc = .ok (.getfield idx, 3))
    (kk : ∀ x, pz_Sm X Qx J rv (pc + 3) lv (va_rf x :: st) (K x)) : pz_Sm X Qx J rv pc lv (va_rf r :: st) (pz_gB (pz_rR ci k r) K) := pz_getf pz_asR_v ck hk hl d kk
/-- a field is written -/
theorem pz_put {ci k N idx : Nat} {C : String} {T : u_T} {ty : Nat → FieldType} {r : Option Nat} {v : Value} (ck : pz_CK ci C T N ty) (hk : k < N) (hl : pz_FL J.2.1 idx (T k)) (hfin : (T k).2.2.2 = false ∨ ((T k).2.2.2 = true ∧ J.2.2.2.2.1 = "<init>" ∧ (T k).1 = J.2.1 ∧ Cond.fieldLink J.2.1 idx (T k).1 (T k).2.1 (T k).2.2.1 ∈ pz_ws))
    (hn : narrow (ty k) v = v) (hfit : fits (ty k) v = true) (d : decode J.1 pc = .ok (.putfield idx, 3)) (kk : pz_Sm X Qx J rv (pc + 3) lv st m) : pz_Sm X Qx J rv pc lv (v :: va_rf r :: st) (pz_uB (pz_wF ci k r v) m) := by
  intro h y hm
  simp only [pz_uB] at hm
  cases hx : pz_wF ci k r v h with
  | none => rw [hx] at hm; cases hm
  | some h' =>
    rw [hx] at hm
    cases hr : r with
    | none => rw [hr] at hx; simp [pz_wF] at hx
    | some a =>
      subst hr
      simp only [pz_wF] at hx
      cases hob : pz_ob ci (some a) h with
      | none => rw [hob] at hx; cases hx
      | some fs =>
        rw [hob] at hx
        by_cases hlen : k < fs.length
        · simp only [hlen, if_true] at hx
          cases hx
          obtain ⟨g1, g2⟩ := kk _ y hm
          refine ⟨g1, fun A H locs cells slots ls hI hl' => ?_⟩
          obtain ⟨a', ha', hb, -, hat⟩ := pz_ob_at hI.1 hob
          cases ha'
          have hts := A.2.2.2.2.2.2.2.2.1
          have hK := A.2.2.2.2.2.2.2.2.2.1.1
          have hap := va_apart (own := J.2.1) hts ck.2.1 ty ck.2.2.1 ck.2.2.2 hK ck.1
          obtain ⟨rr, h1, cell, q1, q2, q3, q4⟩ := hat
          have hrr : rr = (C, T, N) := Option.some.inj (h1.symm.trans ck.1)
          subst hrr
          obtain ⟨hS, hfc, kC, hkC, hkind⟩ := hK.1 ci _ ck.1
          obtain ⟨cf, kf, fi, f, hi, hsl⟩ := hS k hk
          have hlay := hts _ (ck.2.1 _ (u_in_lay hk))
          have hst := (u_facts hfc hkC (u_lays hts ck.2.1 hk) hi).1
          have hd := ck.2.2.1 k hk
          have fin : ∀ (H' : Heap) (sl : Nat), f.slot = sl → H'[a]? = some (cell.setSlot (pz_xD X |>.2 ci k) v) → H'.size = H.size → (∀ q, q ≠ a → H'[q]? = H[q]?) → pz_W X H' (locs ++ [⟨a, sl⟩]) cells slots (Qx (rv y.1) y.2) (F0 (pz_xm X) (pc + 3) ls st) := by
            intro H' sl _ e1 e2 e3
            refine g2 A H' _ cells slots ls (pz_In_set hI hb ?_ e2 e3) hl'
            exact ⟨_, ck.1, t_OB.to (V := updV (vp_V fs) k v) ⟨_, e1, q2, q3, t_set q4 hap hk v⟩ (fun j _ => vp_updV_set hlen v j)⟩
          rcases hfin with hfin | ⟨hfin, hin, hown, hw⟩
          · unfold u_lay at hlay
            rw [if_neg (by rw [hfin]; decide)] at hlay
            have h6 := u_store hfc hkC hkind hlay hi hd hn hfit
            rcases hl with hw | ⟨host, hw⟩
            · refine W.putK A.1 A.2.1 (f := f) ⟨A.2.2.1, hts _ hw, ⟨_, _, _, hi⟩, hst⟩ (by rw [q2]; exact h6) q1 q3 (by rw [hsl]; exact k2_hasslot (q4 k hk)) rfl rfl d fun H' e1 e2 e3 => ?_
              exact fin H' f.slot rfl (by rw [hsl] at e1; exact e1) e2 e3
            · refine va_WputK A.1 A.2.1 (f := f) A.2.2.1 (va_Nw.use rfl (A.2.2.2.2.2.2.2.2.2.1.2.1 _ hw)) hi hst (by rw [q2]; exact h6) q1 q3 (by rw [hsl]; exact k2_hasslot (q4 k hk)) rfl rfl d fun H' e1 e2 e3 => ?_
              exact fin H' f.slot rfl (by rw [hsl] at e1; exact e1) e2 e3
          · unfold u_lay at hlay
            rw [if_pos hfin] at hlay
            have hcf : (pz_xm X).cls = cf := by
              obtain ⟨_, _, c', _, _, _, -, -, hf', -, -, -, hown2, -⟩ := Cond.laysFinal_spec hlay
              have e1 : c' = cf := by have := hi.symm.trans hf'; simp at this; exact this.1.symm
              rw [hown] at hown2
              rw [← e1]; exact Option.some.inj (A.2.2.1.symm.trans hown2)
            have h6 := u_fits hfc hkC hkind (Or.inr hlay) hi hd hn hfit
            refine W.putFinK A.1 A.2.1 A.2.2.1 (hts _ hw) hi hst hcf (A.2.2.2.2.2.1.trans hin) (by rw [q2]; exact h6) q1 q3 (by rw [hsl]; exact k2_hasslot (q4 k hk)) rfl rfl d fun H' e1 e2 e3 => ?_
            exact fin H' f.slot rfl (by rw [hsl] at e1; exact e1) e2 e3
        · simp [hlen] at hx
/-- a boolean that is 0 or 1 -/
theorem pz_bool {x : Int32} (kk : (x = 0 ∨ x = 1) → pz_Sm X Qx J rv pc lv st m) : pz_Sm X Qx J rv pc lv st (pz_zz x m) := by
  intro h y hm
  by_cases hx : x = 0 ∨ x = 1
  · exact kk hx h y (by simpa [pz_zz, hx] using hm)
  · simp [pz_zz, hx] at hm
theorem pz_nz {x : Int32} (h : x = 0 ∨ x = 1) : narrow .boolean (.int x) = .int x := by rcases h with rfl | rfl <;> rfl
theorem pz_fz {x : Int32} (h : x = 0 ∨ x = 1) : fits .boolean (.int x) = true := by rcases h with rfl | rfl <;> rfl
theorem pz_fr {r : Option Nat} {C : String} : fits (.object C) (va_rf r) = true := by cases r <;> rfl
theorem pz_fa {r : Option Nat} {t : FieldType} : fits (.array t) (va_rf r) = true := by cases r <;> rfl
theorem pz_nr {r : Option Nat} {C : String} : narrow (.object C) (va_rf r) = va_rf r := by cases r <;> rfl
theorem pz_na {r : Option Nat} {t : FieldType} : narrow (.array t) (va_rf r) = va_rf r := by cases r <;> rfl
end PZ2
