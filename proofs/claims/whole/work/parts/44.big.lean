/-! ===== Big: what is written; Sum.signNow, Sum.store ===== -/
def bPut (σ : tz_S) (a b : Nat) (f : Nat → Int32) (k : Nat) (sg : Int32) : tz_S := tz_sF (tz_sF (tz_rowA σ b f) a 1 (nI k)) a 2 sg
theorem bPut_A {σ : tz_S} {a b k : Nat} {f : Nat → Int32} {sg : Int32} : tz_A (bPut σ a b f k sg) b = f := tz_rowA_at σ b f
theorem bPut_An {σ : tz_S} {a b c k : Nat} {f : Nat → Int32} {sg : Int32} (h : c ≠ b) : tz_A (bPut σ a b f k sg) c = tz_A σ c := tz_rowA_ne σ f h
theorem bPut_F1 {σ : tz_S} {a b k : Nat} {f : Nat → Int32} {sg : Int32} : tz_F (bPut σ a b f k sg) a 1 = nI k := by
  show tz_u2 (tz_u2 (tz_F σ) a 1 (nI k)) a 2 sg a 1 = _
  rw [tz_u2_ne _ _ (Or.inr (by decide)), tz_u2_same]
theorem bPut_F2 {σ : tz_S} {a b k : Nat} {f : Nat → Int32} {sg : Int32} : tz_F (bPut σ a b f k sg) a 2 = sg := tz_u2_same _ _ _ _
theorem bPut_Fn {σ : tz_S} {a b c i k : Nat} {f : Nat → Int32} {sg : Int32} (h : c ≠ a) : tz_F (bPut σ a b f k sg) c i = tz_F σ c i := by
  show tz_u2 (tz_u2 (tz_F σ) a 1 (nI k)) a 2 sg c i = _
  rw [tz_u2_ne _ _ (Or.inl h), tz_u2_ne _ _ (Or.inl h)]
theorem BigV_put {σ : tz_S} {a b n k : Nat} {f : Nat → Int32} {sg : Int32} {v : Int} (hB : bSh σ a b n) (hk : k ≤ n) (h : bN f k sg v) : BigV (bPut σ a b f k sg) a b n k v := ⟨hB, hk, bPut_F1, by rw [bPut_A, bPut_F2]; exact h⟩
theorem BigV_ne {σ : tz_S} {a b a2 b2 n2 k2 k : Nat} {f : Nat → Int32} {sg : Int32} {v : Int} (h1 : a2 ≠ a) (h2 : b2 ≠ b) (hB : BigV σ a2 b2 n2 k2 v) : BigV (bPut σ a b f k sg) a2 b2 n2 k2 v := by
  obtain ⟨c1, c2, c3, c4⟩ := hB
  exact ⟨c1, c2, by rw [bPut_Fn h1]; exact c3, by rw [bPut_An h2, bPut_Fn h1]; exact c4⟩
theorem SumV_bPut {σ : tz_S} {s l N u a b n k : Nat} {f : Nat → Int32} {sg : Int32} {S : Int} (hB : bSh σ a b n) (hV : SumV σ s l N u S) : SumV (bPut σ a b f k sg) s l N u S := by
  have hne := sS_ne hV.1 hB
  exact ⟨hV.1, by rw [bPut_Fn hne.symm]; exact hV.2.1, hV.2.2⟩
/-- the sign of a number -/
def isg (v : Int) : Int32 := if 0 < v then 1 else if v < 0 then -1 else 0
theorem isg_pos {v : Int} (h : 0 < v) : isg v = 1 := by simp [isg, h]
theorem isg_neg {v : Int} (h : v < 0) : isg v = -1 := by simp [isg, h, show ¬ 0 < v by omega]
theorem isg_zero : isg 0 = 0 := by simp [isg]
theorem isg_cases (v : Int) : (0 < v ∧ isg v = 1) ∨ (v < 0 ∧ isg v = -1) ∨ (v = 0 ∧ isg v = 0) := by
  rcases Int.lt_trichotomy v 0 with h | h | h
  · exact Or.inr (Or.inl ⟨h, isg_neg h⟩)
  · subst h; exact Or.inr (Or.inr ⟨rfl, isg_zero⟩)
  · exact Or.inl ⟨h, isg_pos h⟩
set_option maxHeartbeats 1000000 in
theorem c_signNow {n s l N u : Nat} {S : Int} {σ : tz_S} (hV : SumV σ s l N u S) (hn : 2000 ≤ n) : gp (X8_signNow n (some s)) σ (fun r σ' => σ' = σ ∧ r = isg S) := by
  obtain ⟨hS, hu, ⟨o1, o2, o3⟩, hv⟩ := hV
  have hN := hS.2.2
  unfold X8_signNow
  refine gp_rI hS.1 rfl ?_
  rw [hu]
  refine gp_let ?_
  unfold X8_signNow_L7
  refine gp_loop (I := fun (τ : Int32) (σ' : tz_S) => σ' = σ ∧ ∃ j, j ≤ u ∧ τ = nI j - 1 ∧ ∀ i, j ≤ i → i < N → tz_L σ l i = 0) (fun τ _ => (τ + 1).toNatClampNeg) ?_ n _ _ ⟨rfl, u, Nat.le_refl _, rfl, o3⟩ (by rw [show nI u - 1 + 1 = nI u from Int32.sub_add_cancel _ _, nI_clamp (by omega)]; omega)
  rintro K l1 σ' ⟨rfl, j, hj, rfl, hz⟩ hK
  show gp (X8_signNow_L7_body n (some s) (fun l1 => K l1) (nI j - 1)) σ' _
  unfold X8_signNow_L7_body
  cases j with
  | zero =>
    refine gp_t (by decide) ?_
    refine gp_ret ⟨rfl, ?_⟩
    have h0 : mg (dL (tz_L σ' l)) N = 0 := by rw [mg_congr (e := fun _ => 0) (fun i hi => by show (tz_L σ' l i).toInt = 0; rw [hz i (by omega) hi]; rfl), mg_zero]
    rw [← hv, h0, isg_zero]
  | succ j =>
    rw [nI_pred]
    refine gp_f (nI_pos (by omega)) ?_
    refine gp_rR hS.1 rfl ?_
    refine gp_aL (j := j) hS.2.1 (by omega) (by omega) rfl ?_
    refine gp_if (fun h0 => ?_) (fun h0 => ?_)
    · rw [lg_cmp_eq] at h0
      refine gp_let ?_
      refine hK _ _ ⟨rfl, j, by omega, by rw [Int32.sub_eq_add_neg], fun i h1 h2 => ?_⟩ ?_
      · by_cases hij : i = j
        · subst hij; exact h0
        · exact hz i (by omega) h2
      · rw [show nI j + -1 + 1 = nI j by rw [← Int32.sub_eq_add_neg, Int32.sub_add_cancel], show nI (j + 1) - 1 + 1 = nI (j + 1) from Int32.sub_add_cancel _ _, nI_clamp (by omega), nI_clamp (by omega)]
        omega
    · rw [lg_cmp_eq] at h0
      refine gp_rR hS.1 rfl ?_
      refine gp_aL (j := j) hS.2.1 (by omega) (by omega) rfl ?_
      have hz2 : mg (dL (tz_L σ' l)) N = mg (dL (tz_L σ' l)) (j + 1) := by
        have := mg_z (d := dL (tz_L σ' l)) (k := j + 1) (m := N - (j + 1)) (fun i h1 h2 => by show (tz_L σ' l i).toInt = 0; rw [hz i h1 (by omega)]; rfl)
        rw [show j + 1 + (N - (j + 1)) = N by omega] at this
        exact this
      obtain ⟨t1, t2⟩ := mg_top (d := dL (tz_L σ' l)) (k := j) (fun i hi => o2 i (by omega))
      have hne : dL (tz_L σ' l) j ≠ 0 := fun q => h0 (az_lz.mp q)
      unfold X8_signNow_b38
      refine gp_if (fun hc => ?_) (fun hc => ?_)
      · rw [lg_cmp_le, Int64.le_iff_toInt_le] at hc
        refine gp_ret ⟨rfl, ?_⟩
        rw [← hv, hz2, isg_neg (t2 (by have : dL (tz_L σ' l) j ≤ 0 := hc; omega))]
      · rw [lg_cmp_le, Int64.le_iff_toInt_le] at hc
        refine gp_ret ⟨rfl, ?_⟩
        rw [← hv, hz2, isg_pos (t1 (by have : ¬ dL (tz_L σ' l) j ≤ 0 := hc; omega))]
theorem az_l2iB {x : Int64} (h1 : 0 ≤ x.toInt) (h2 : x.toInt < 1000000000) : x.toInt32.toInt = x.toInt := az_l2i (by omega) (by omega)
theorem rg_7 (sg M1 x P M2 bo b2 : Int) (h : sg * M1 = M2 - bo * P) : sg * (M1 + x * P) = M2 + (sg * x - bo + b2 * 1000000000) * P - b2 * (P * 1000000000) := by grind
theorem mg_pos {d : Nat → Int} {k : Nat} (h : ∀ j, j < k → 0 ≤ d j) (hk : 0 < k) (ht : d (k - 1) ≠ 0) : 0 < mg d k := by
  obtain ⟨m, rfl⟩ : ∃ m, k = m + 1 := ⟨k - 1, by omega⟩
  have h1 := mg_ge h (by simpa using ht)
  have h2 := mg_pw m
  omega
set_option maxHeartbeats 2000000 in
theorem c_store {n s l N u a b nb : Nat} {S : Int} {σ : tz_S} (hV : SumV σ s l N u S) (hB : bSh σ a b nb) (hn : 2000 ≤ n) (hlt : -(1000000000 ^ nb) < S ∧ S < 1000000000 ^ nb) :
    gp (X8_store n (some s) (some a)) σ (fun _ σ' => ∃ (f : Nat → Int32) (k : Nat), σ' = bPut σ a b f k (isg S) ∧ k ≤ nb ∧ bN f k (isg S) S) := by
  have hV0 := hV
  obtain ⟨hS, hu, ⟨o1, o2, o3⟩, hv⟩ := hV
  have hN := hS.2.2
  have hne := sS_ne hS hB
  have hnb := hB.2.2
  unfold X8_store
  refine gp_cV hS.1 (gp_mono (c_signNow hV0 hn) ?_)
  rintro _ _ ⟨rfl, rfl⟩
  rename_i σ
  have hsg : (isg S).toInt = 0 ∨ (isg S).toInt = 1 ∨ (isg S).toInt = -1 := by rcases isg_cases S with h | h | h <;> rw [h.2] <;> decide
  unfold X8_store_L13
  refine gp_loop (I := fun (τ : Int64 × Int32 × Int32) (σ' : tz_S) => ∃ (f : Nat → Int32) (i len : Nat), σ' = tz_rowA σ b f ∧ τ.2.2 = nI i ∧ τ.2.1 = nI len ∧ i ≤ u ∧ i ≤ nb ∧ len ≤ i ∧ (τ.1.toInt = 0 ∨ τ.1.toInt = 1) ∧ (∀ j, j < i → 0 ≤ dI f j ∧ dI f j < 1000000000) ∧ (∀ j, len ≤ j → j < i → dI f j = 0) ∧ (0 < len → dI f (len - 1) ≠ 0) ∧ (isg S).toInt * mg (dL (tz_L σ l)) i = mg (dI f) i - τ.1.toInt * 1000000000 ^ i) (fun τ _ => 1000 - τ.2.2.toNatClampNeg) ?_ n _ _ ⟨tz_A σ b, 0, 0, (tz_rowA_self σ b).symm, rfl, rfl, by omega, by omega, by omega, Or.inl rfl, fun j h => absurd h (Nat.not_lt_zero _), fun j _ h => absurd h (Nat.not_lt_zero _), fun h => absurd h (Nat.lt_irrefl _), by show _ * 0 = 0 - 0 * _; simp⟩ (by omega)
  rintro K ⟨l3, l5, l6⟩ σ' ⟨f, i, len, rfl, h6, h5, hiu, hin, hli, hbo, hd, hz, ht, hval⟩ hK
  simp only at h6 h5 hbo hval hK
  subst h6
  subst h5
  show gp (X8_store_L13_body n (some s) (some a) (isg S) (fun l3 l5 l6 => K (l3, l5, l6)) l3 (nI len) (nI i)) (tz_rowA σ b f) _
  unfold X8_store_L13_body
  have hS1 : tz_sh (tz_rowA σ b f) s = some (.inl (8, [some (some l), none])) := hS.1
  have hS2 : tz_sh (tz_rowA σ b f) l = some (.inr (2, N)) := hS.2.1
  have hB1 : tz_sh (tz_rowA σ b f) a = some (.inl (0, [some (some b), none, none])) := hB.1
  have hB2 : tz_sh (tz_rowA σ b f) b = some (.inr (0, nb)) := hB.2.1
  have hSS : (isg S).toInt * S = (isg S).toInt * mg (dL (tz_L σ l)) N := by rw [hv]
  have hSpos : 0 ≤ (isg S).toInt * S := by
    rcases isg_cases S with h | h | h <;> rw [h.2]
    · show 0 ≤ 1 * S; omega
    · show 0 ≤ (-1) * S; omega
    · show 0 ≤ 0 * S; omega
  have hSlt : (isg S).toInt * S < 1000000000 ^ nb := by
    rcases isg_cases S with h | h | h <;> rw [h.2]
    · show 1 * S < _; omega
    · show (-1) * S < _; omega
    · show 0 * S < _; omega
  have hf0 := mg_nn (d := dI f) (k := i) (fun j hj => (hd j hj).1)
  have hf1 := (mg_abs (d := dI f) (k := i) (fun j hj => ⟨by have := (hd j hj).1; omega, (hd j hj).2⟩)).2
  have hpi := mg_pw i
  -- the end
  have hend : (u ≤ i ∨ nb ≤ i) → gp (X8_store_b98 n (some a) (isg S) (nI len)) (tz_rowA σ b f) (fun _ σ' => ∃ (f : Nat → Int32) (k : Nat), σ' = bPut σ a b f k (isg S) ∧ k ≤ nb ∧ bN f k (isg S) S) := by
    intro hor
    have hfi : (isg S).toInt * S = mg (dI f) i := by
      rcases hor with h | h
      · have hiu' : i = u := by omega
        have hz2 : mg (dL (tz_L σ l)) N = mg (dL (tz_L σ l)) i := by
          have := mg_z (d := dL (tz_L σ l)) (k := i) (m := N - i) (fun j h1 h2 => by show (tz_L σ l j).toInt = 0; rw [o3 j (by omega) (by omega)]; rfl)
          rw [show i + (N - i) = N by omega] at this
          exact this
        rw [hSS, hz2, hval]
        rw [hSS, hz2, hval] at hSpos
        rcases hbo with q | q
        · rw [q]; omega
        · rw [q] at hSpos; omega
      · have hinb : i = nb := by omega
        have hsp := mg_add (d := dL (tz_L σ l)) (k := i) (m := N - i)
        rw [show i + (N - i) = N by omega] at hsp
        generalize mg (fun j => dL (tz_L σ l) (i + j)) (N - i) = H at hsp
        have e1 : (isg S).toInt * S = mg (dI f) i + ((isg S).toInt * H - l3.toInt) * 1000000000 ^ i := by
          rw [hSS, hsp, Int.mul_add, hval, Int.sub_mul]
          rw [show (isg S).toInt * (1000000000 ^ i * H) = (isg S).toInt * H * 1000000000 ^ i by rw [Int.mul_comm (1000000000 ^ i), Int.mul_assoc]]
          omega
        rw [← hinb] at hSlt
        generalize (isg S).toInt * H - l3.toInt = Z at e1
        have hZ : Z = 0 := by
          rcases Int.lt_trichotomy Z 0 with q | q | q
          · have : Z * 1000000000 ^ i ≤ (-1) * 1000000000 ^ i := Int.mul_le_mul_of_nonneg_right (by omega) (by omega)
            omega
          · exact q
          · have : 1 * 1000000000 ^ i ≤ Z * 1000000000 ^ i := Int.mul_le_mul_of_nonneg_right (by omega) (by omega)
            omega
        rw [e1, hZ]
        omega
    have hlen : mg (dI f) i = mg (dI f) len := by
      have := mg_z (d := dI f) (k := len) (m := i - len) (fun j h1 h2 => hz j h1 (by omega))
      rw [show len + (i - len) = i by omega] at this
      exact this
    have hl0 : len = 0 ↔ S = 0 := by
      constructor
      · intro q
        subst q
        rw [hlen] at hfi
        have h0 : (isg S).toInt * S = 0 := hfi
        rcases isg_cases S with h | h | h <;> rw [h.2] at h0
        · have : 1 * S = 0 := h0; omega
        · have : (-1) * S = 0 := h0; omega
        · exact h.1
      · intro q
        rcases Nat.eq_zero_or_pos len with h | h
        · exact h
        · have := mg_pos (d := dI f) (fun j hj => (hd j (by omega)).1) h (ht h)
          rw [hlen, q] at hfi
          rw [← hfi] at this
          simp at this
    unfold X8_store_b98
    refine gp_wI hB1 rfl ?_
    have hbn : bN f len (isg S) S := by
      refine ⟨fun j hj => hd j (by omega), ht, ?_, ?_, ?_⟩
      · rcases isg_cases S with h | h | h <;> rw [h.2] <;> simp
      · rw [hl0]
        rcases isg_cases S with h | h | h <;> rw [h.2]
        · simp; omega
        · simp; omega
        · simp [h.1]
      · rw [← hlen, ← hfi]
        rcases isg_cases S with h | h | h <;> rw [h.2]
        · show S = 1 * (1 * S); omega
        · show S = (-1) * ((-1) * S); omega
        · rw [h.1]; rfl
    unfold X8_store_b115
    refine gp_if (fun h0 => ?_) (fun h0 => ?_)
    · rw [show (0 : Int32) = nI 0 from rfl, nI_eq (by omega) (by omega)] at h0
      refine gp_wI (σ := tz_sF (tz_rowA σ b f) a 1 (nI len)) hB.1 rfl ?_
      have e0 : isg S = 0 := by rw [hl0.mp h0]; exact isg_zero
      refine gp_ret ⟨f, len, ?_, by omega, hbn⟩
      rw [e0]
      rfl
    · refine gp_wI (σ := tz_sF (tz_rowA σ b f) a 1 (nI len)) hB.1 rfl ?_
      exact gp_ret ⟨f, len, rfl, by omega, hbn⟩
  refine gp_rI hS1 rfl ?_
  rw [show tz_F (tz_rowA σ b f) s 1 = nI u from hu]
  refine gp_if (fun hc => ?_) (fun hc => ?_)
  · rw [nI_leI (by omega) (by omega)] at hc
    exact hend (Or.inl hc)
  · rw [nI_leI (by omega) (by omega)] at hc
    refine gp_rR hB1 rfl ?_
    refine gp_len hB2 ?_
    refine gp_if (fun hc2 => ?_) (fun hc2 => ?_)
    · rw [nI_leI (by omega) (by omega)] at hc2
      exact hend (Or.inr hc2)
    · rw [nI_leI (by omega) (by omega)] at hc2
      clear hend hSS hSpos hSlt
      refine gp_rR hS1 rfl ?_
      refine gp_aL (j := i) hS2 (by omega) (by omega) rfl ?_
      rw [show tz_L (tz_rowA σ b f) l = tz_L σ l from rfl]
      refine gp_let ?_
      have hL := o2 i (by omega)
      have e1 : ((isg S).toInt64 * tz_L σ l i).toInt = (isg S).toInt * (tz_L σ l i).toInt := by
        have e : (isg S).toInt64.toInt = (isg S).toInt := Int32.toInt_toInt64 _
        rw [az_lmul (by rw [e]; rcases hsg with h | h | h <;> rw [h] <;> omega) (by rw [e]; rcases hsg with h | h | h <;> rw [h] <;> omega), e]
      have hb1 : -1000000000 < (isg S).toInt * (tz_L σ l i).toInt ∧ (isg S).toInt * (tz_L σ l i).toInt < 1000000000 := by rcases hsg with h | h | h <;> rw [h] <;> omega
      have e2 : ((isg S).toInt64 * tz_L σ l i - l3).toInt = (isg S).toInt * (tz_L σ l i).toInt - l3.toInt := by rw [az_lsub (by rw [e1]; omega) (by rw [e1]; omega), e1]
      generalize hw : (isg S).toInt64 * tz_L σ l i - l3 = w at e2 ⊢
      generalize hx : (isg S).toInt * (tz_L σ l i).toInt = x at e2 hb1
      have step : ∀ (bo : Int64), (bo.toInt = 0 ∨ bo.toInt = 1) → 0 ≤ w.toInt + bo.toInt * 1000000000 → w.toInt + bo.toInt * 1000000000 < 1000000000 → gp (X8_store_b58 n (fun l3 l5 l6 => K (l3, l5, l6)) (some s) (some a) (isg S) (nI len) (nI i) w bo) (tz_rowA σ b f) (fun _ σ' => ∃ (f : Nat → Int32) (k : Nat), σ' = bPut σ a b f k (isg S) ∧ k ≤ nb ∧ bN f k (isg S) S) := by
        intro bo hbo2 hlo hhi
        unfold X8_store_b58
        refine gp_let ?_
        have e3 : (bo * 1000000000).toInt = bo.toInt * 1000000000 := by rw [az_lmul (by rw [az_B]; omega) (by rw [az_B]; omega), az_B]
        have e4 : (w + bo * 1000000000).toInt = w.toInt + bo.toInt * 1000000000 := by rw [az_ladd (by rw [e3]; omega) (by rw [e3]; omega), e3]
        refine gp_rR hB1 rfl ?_
        refine gp_sI (j := i) hB2 (by decide) (by omega) (by omega) rfl ?_
        rw [tz_rowA_put]
        have e5 : ((w + bo * 1000000000).toInt32).toInt = w.toInt + bo.toInt * 1000000000 := by rw [az_l2iB (by rw [e4]; exact hlo) (by rw [e4]; exact hhi), e4]
        generalize hy : (w + bo * 1000000000).toInt32 = y at e5 ⊢
        have hd' : ∀ j, j < i + 1 → 0 ≤ dI (upd f i y) j ∧ dI (upd f i y) j < 1000000000 := by
          intro j hj
          by_cases hji : j = i
          · subst hji
            rw [dI_upd]; simp only [if_true]; rw [e5]; exact ⟨hlo, hhi⟩
          · rw [dI_upd]; simp only [hji, if_false]; exact hd j (by omega)
        have hval' : (isg S).toInt * mg (dL (tz_L σ l)) (i + 1) = mg (dI (upd f i y)) (i + 1) - bo.toInt * 1000000000 ^ (i + 1) := by
          simp only [mg]
          rw [dI_upd, mg_congr (e := dI f) (fun j hj => if_neg (by omega)), mg_ps]
          simp only [if_true]
          rw [e5, e2, ← hx]
          generalize mg (dL (tz_L σ l)) i = M1 at hval ⊢
          generalize mg (dI f) i = M2 at hval ⊢
          generalize (1000000000 : Int) ^ i = P at hval ⊢
          show (isg S).toInt * (M1 + (tz_L σ l i).toInt * P) = _
          exact rg_7 _ _ _ _ _ _ _ hval
        have hmeas : 1000 - (nI (i + 1)).toNatClampNeg < 1000 - (nI i).toNatClampNeg := by
          rw [nI_clamp (by omega), nI_clamp (by omega)]
          omega
        have hdn : dI (upd f i y) i = y.toInt := by rw [dI_upd]; simp
        refine gp_if (fun h0 => ?_) (fun h0 => ?_)
        · rw [lg_cmp_eq] at h0
          unfold X8_store_b92
          refine gp_let ?_
          rw [nI_1]
          have hy0 : y.toInt = 0 := by rw [e5, ← e4, h0]; rfl
          refine hK (_, _, _) _ ⟨_, i + 1, len, rfl, rfl, rfl, by omega, by omega, by omega, hbo2, hd', ?_, ?_, hval'⟩ hmeas
          · intro j h1 h2
            by_cases hji : j = i
            · subst hji; rw [hdn, hy0]
            · rw [dI_upd]; simp only [hji, if_false]; exact hz j h1 (by omega)
          · intro hl
            rw [dI_upd]; simp only [show ¬ len - 1 = i by omega, if_false]; exact ht hl
        · rw [lg_cmp_eq] at h0
          refine gp_let ?_
          unfold X8_store_b92
          refine gp_let ?_
          rw [nI_1]
          have hy0 : y.toInt ≠ 0 := by
            rw [e5, ← e4]
            exact fun q => h0 (az_lz.mp q)
          refine hK (_, _, _) _ ⟨_, i + 1, i + 1, rfl, rfl, rfl, by omega, by omega, by omega, hbo2, hd', fun j h1 h2 => absurd h2 (by omega), ?_, hval'⟩ hmeas
          intro _
          rw [show i + 1 - 1 = i by omega, hdn]
          exact hy0
      refine gp_if (fun hc3 => ?_) (fun hc3 => ?_)
      · rw [lg_cmp_ge, Int64.le_iff_toInt_le] at hc3
        have hc3 : 0 ≤ w.toInt := hc3
        exact step 0 (Or.inl rfl) (by show 0 ≤ w.toInt + 0 * _; omega) (by show w.toInt + 0 * _ < _; omega)
      · rw [lg_cmp_ge, Int64.le_iff_toInt_le] at hc3
        have hc3 : ¬ 0 ≤ w.toInt := hc3
        exact step 1 (Or.inr rfl) (by show 0 ≤ w.toInt + 1 * _; omega) (by show w.toInt + 1 * _ < _; omega)
