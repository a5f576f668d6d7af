/-! ===== what is made, cell by cell ===== -/
def EV (σ0 σ : tz_S) (b len S : Nat) (ks : Nat → Option tz_K) (fs : Nat → Nat → Int32) (rs : Nat → Nat → Option Nat) : Prop := Gr noP σ0 σ ∧ tz_nc σ0 ≤ b ∧ tz_ns σ = S ∧ tz_nc σ = b + len ∧ ∀ i, i < len → tz_sh σ (b + i) = ks i ∧ tz_F σ (b + i) = fs i ∧ tz_A σ (b + i) = (fun _ => 0) ∧ tz_L σ (b + i) = (fun _ => 0) ∧ tz_R σ (b + i) = rs i
section TX
variable {ρ : Type} {σ0 σ : tz_S} {b len S : Nat} {ks : Nat → Option tz_K} {fs : Nat → Nat → Int32} {rs : Nat → Nat → Option Nat} {Q : ρ → tz_S → Prop}
theorem ev_cong {ks2 : Nat → Option tz_K} {fs2 : Nat → Nat → Int32} {rs2 : Nat → Nat → Option Nat} (h : EV σ0 σ b len S ks fs rs) (h1 : ∀ i, i < len → ks i = ks2 i) (h2 : ∀ i, i < len → fs i = fs2 i) (h3 : ∀ i, i < len → rs i = rs2 i) : EV σ0 σ b len S ks2 fs2 rs2 := ⟨h.1, h.2.1, h.2.2.1, h.2.2.2.1, fun i hi => by rw [← h1 i hi, ← h2 i hi, ← h3 i hi]; exact h.2.2.2.2 i hi⟩
theorem ev_sh {i : Nat} {k : tz_K} (h : EV σ0 σ b len S ks fs rs) (hi : i < len) (hk : ks i = some k) : tz_sh σ (b + i) = some k := (h.2.2.2.2 i hi).1.trans hk
theorem ev_al {N : Nat} {k : tz_K} (h : EV σ0 σ b len S ks fs rs) (hf : fs len = fun _ => 0) (hr : rs len = fun _ => none) : EV σ0 (tz_al σ N k) b (len + 1) (S + N) (ups ks len (some k)) fs rs := by
  obtain ⟨h1, h2, h3, h4, h5⟩ := h
  refine ⟨Gr_trans h1 Gr_al, h2, by show tz_ns σ + N = S + N; rw [h3], by show tz_nc σ + 1 = _; rw [h4, Nat.add_assoc], fun i hi => ?_⟩
  by_cases e : i = len
  · subst e
    rw [ups_s, ← h4, hf, hr]
    exact ⟨al_sh, al_F, al_A, al_L, al_R⟩
  · rw [ups_n _ _ e]
    obtain ⟨a1, a2, a3, a4, a5⟩ := h5 i (by omega)
    have hn : b + i ≠ tz_nc σ := by omega
    exact ⟨(al_shn hn).trans a1, (va_up_ne _ _ hn).trans a2, (va_up_ne _ _ hn).trans a3, (va_up_ne _ _ hn).trans a4, (va_up_ne _ _ hn).trans a5⟩
theorem ev_new {ci N : Nat} {vs : List Value} {lay : List (Option (Option Nat))} {K : Option Nat → pz_C ρ} (hl : tz_fv (fun _ => 0) 0 lay = vs) (h : EV σ0 σ b len S ks fs rs) (hf : fs len = fun _ => 0) (hr : rs len = fun _ => none) (hK : ∀ σ', EV σ0 σ' b (len + 1) (S + N) (ups ks len (some (.inl (ci, lay)))) fs rs → gp (K (some (b + len))) σ' Q) : gp (pz_new ci N vs K) σ Q := gp_new hl (by rw [h.2.2.2.1]; exact hK _ (ev_al h hf hr))
theorem ev_newI {t n : Nat} {i : Int32} {K : Option Nat → pz_C ρ} (h : EV σ0 σ b len S ks fs rs) (ht : t < 2) (hn : n ≤ 67108864) (hi : i = nI n) (hf : fs len = fun _ => 0) (hr : rs len = fun _ => none) (hK : ∀ σ', EV σ0 σ' b (len + 1) (S + n) (ups ks len (some (.inr (t, n)))) fs rs → gp (K (some (b + len))) σ' Q) : gp (pz_newI t i K) σ Q := gp_newI ht hn hi (by rw [h.2.2.2.1]; exact hK _ (ev_al h hf hr))
theorem ev_newL {n : Nat} {i : Int32} {K : Option Nat → pz_C ρ} (h : EV σ0 σ b len S ks fs rs) (hn : n ≤ 67108864) (hi : i = nI n) (hf : fs len = fun _ => 0) (hr : rs len = fun _ => none) (hK : ∀ σ', EV σ0 σ' b (len + 1) (S + n) (ups ks len (some (.inr (2, n)))) fs rs → gp (K (some (b + len))) σ' Q) : gp (pz_newL 2 i K) σ Q := gp_newL hn hi (by rw [h.2.2.2.1]; exact hK _ (ev_al h hf hr))
theorem ev_newR {t n : Nat} {i : Int32} {K : Option Nat → pz_C ρ} (h : EV σ0 σ b len S ks fs rs) (ht : 2 < t) (hn : n ≤ 67108864) (hi : i = nI n) (hf : fs len = fun _ => 0) (hr : rs len = fun _ => none) (hK : ∀ σ', EV σ0 σ' b (len + 1) (S + n) (ups ks len (some (.inr (t, n)))) fs rs → gp (K (some (b + len))) σ' Q) : gp (pz_newR t i K) σ Q := gp_newR ht hn hi (by rw [h.2.2.2.1]; exact hK _ (ev_al h hf hr))
theorem ev_wR {ci k i : Nat} {lay : List (Option (Option Nat))} {r : Option Nat} {m : pz_C ρ} (h : EV σ0 σ b len S ks fs rs) (hi : i < len) (hk : ks i = some (.inl (ci, lay))) (hl : k < lay.length) (hK : ∀ σ', EV σ0 σ' b len S (ups ks i (some (.inl (ci, lay.set k (some r))))) fs rs → gp m σ' Q) : gp (pz_uB (pz_wF ci k (some (b + i)) (va_rf r)) m) σ Q := by
  refine gp_wR (ev_sh h hi hk) hl (hK _ ?_)
  obtain ⟨h1, h2, h3, h4, h5⟩ := h
  refine ⟨Gr_sS h1 (by omega), h2, h3, h4, fun j hj => ?_⟩
  obtain ⟨a1, a2⟩ := h5 j hj
  refine ⟨?_, a2⟩
  by_cases e : j = i
  · rw [e, ups_s]; exact sS_sh
  · rw [ups_n _ _ e]; exact (sS_shn (by omega)).trans a1
theorem ev_wI {ci k i : Nat} {lay : List (Option (Option Nat))} {x : Int32} {m : pz_C ρ} (h : EV σ0 σ b len S ks fs rs) (hi : i < len) (hk : ks i = some (.inl (ci, lay))) (hl : lay[k]? = some none) (hK : ∀ σ', EV σ0 σ' b len S ks (ups fs i (ups (fs i) k x)) rs → gp m σ' Q) : gp (pz_uB (pz_wF ci k (some (b + i)) (.int x)) m) σ Q := by
  refine gp_wI (ev_sh h hi hk) hl (hK _ ?_)
  obtain ⟨h1, h2, h3, h4, h5⟩ := h
  refine ⟨Gr_new h1 (Fr_sF (P := fun y => y = b + i) rfl) (fun y e => Or.inr (by omega)), h2, h3, h4, fun j hj => ?_⟩
  obtain ⟨a1, a2, a3⟩ := h5 j hj
  refine ⟨a1, ?_, a3⟩
  funext y
  rw [sF_at]
  by_cases e : j = i
  · subst e
    rw [ups_s, a2]
    by_cases e2 : y = k
    · rw [if_pos ⟨rfl, e2⟩, e2, ups_s]
    · rw [if_neg (fun w => e2 w.2), ups_n _ _ e2]
  · rw [ups_n _ _ e, if_neg (by omega), a2]
/-- a grid of ints -/
def tz_alG (σ : tz_S) : tz_S := (tz_nc σ + 1 + 12, tz_ns σ + (12 + 12 * 10), (fun a => if a = tz_nc σ then some (.inr (6, 12)) else if tz_nc σ < a ∧ a ≤ tz_nc σ + 12 then some (.inr (0, 10)) else tz_sh σ a), (fun a => if tz_nc σ ≤ a ∧ a ≤ tz_nc σ + 12 then (fun _ => 0) else tz_F σ a), (fun a => if tz_nc σ ≤ a ∧ a ≤ tz_nc σ + 12 then (fun _ => 0) else tz_A σ a), (fun a => if tz_nc σ ≤ a ∧ a ≤ tz_nc σ + 12 then (fun _ => 0) else tz_L σ a), (fun a => if a = tz_nc σ then (fun i => if i < 12 then some (tz_nc σ + 1 + i) else none) else if tz_nc σ < a ∧ a ≤ tz_nc σ + 12 then (fun _ => none) else tz_R σ a))
theorem alG_h : pz_mkG (tz_h σ) 6 0 12 10 = tz_h (tz_alG σ) := by
  show (tz_nc σ + 1 + 12, tz_ns σ + (12 + 12 * 10), _) = (tz_nc σ + 1 + 12, tz_ns σ + (12 + 12 * 10), tz_cell (tz_alG σ))
  congr 2
  funext a
  show (if a = tz_nc σ then _ else if tz_nc σ < a ∧ a ≤ tz_nc σ + 12 then _ else tz_cell σ a) = tz_cl (if a = tz_nc σ then some (.inr (6, 12)) else if tz_nc σ < a ∧ a ≤ tz_nc σ + 12 then some (.inr (0, 10)) else tz_sh σ a) (if tz_nc σ ≤ a ∧ a ≤ tz_nc σ + 12 then (fun _ => 0) else tz_F σ a) (if tz_nc σ ≤ a ∧ a ≤ tz_nc σ + 12 then (fun _ => 0) else tz_A σ a) (if tz_nc σ ≤ a ∧ a ≤ tz_nc σ + 12 then (fun _ => 0) else tz_L σ a) (if a = tz_nc σ then (fun i => if i < 12 then some (tz_nc σ + 1 + i) else none) else if tz_nc σ < a ∧ a ≤ tz_nc σ + 12 then (fun _ => none) else tz_R σ a)
  by_cases e : a = tz_nc σ
  · rw [if_pos e, if_pos e, if_pos e]
    rfl
  · rw [if_neg e, if_neg e, if_neg e]
    by_cases e2 : tz_nc σ < a ∧ a ≤ tz_nc σ + 12
    · rw [if_pos e2, if_pos e2, if_pos (show tz_nc σ ≤ a ∧ a ≤ tz_nc σ + 12 by omega), if_pos (show tz_nc σ ≤ a ∧ a ≤ tz_nc σ + 12 by omega)]
      rfl
    · rw [if_neg e2, if_neg e2, if_neg (show ¬ (tz_nc σ ≤ a ∧ a ≤ tz_nc σ + 12) by omega), if_neg (show ¬ (tz_nc σ ≤ a ∧ a ≤ tz_nc σ + 12) by omega), if_neg (show ¬ (tz_nc σ ≤ a ∧ a ≤ tz_nc σ + 12) by omega), if_neg e2]
      rfl
theorem ev_newG {K : Option Nat → pz_C ρ} (h : EV σ0 σ b len S ks fs rs) (hf : ∀ i, len ≤ i → i ≤ len + 12 → fs i = fun _ => 0) (hr : ∀ i, len ≤ i → i ≤ len + 12 → rs i = fun _ => none) (hK : ∀ σ', EV σ0 σ' b (len + 13) (S + 132) (fun i => if i = len then some (.inr (6, 12)) else if len < i ∧ i ≤ len + 12 then some (.inr (0, 10)) else ks i) fs (ups rs len (fun i => if i < 12 then some (b + len + 1 + i) else none)) → gp (K (some (b + len))) σ' Q) : gp (pz_newG 6 0 12 10 K) σ Q := by
  obtain ⟨h1, h2, h3, h4, h5⟩ := h
  have hE : EV σ0 (tz_alG σ) b (len + 13) (S + 132) (fun i => if i = len then some (.inr (6, 12)) else if len < i ∧ i ≤ len + 12 then some (.inr (0, 10)) else ks i) fs (ups rs len (fun i => if i < 12 then some (b + len + 1 + i) else none)) := by
    refine ⟨⟨by show tz_nc σ0 ≤ tz_nc σ + 1 + 12; omega, by show tz_ns σ0 ≤ tz_ns σ + (12 + 12 * 10); have := h1.2.1; omega, fun x hx => ?_⟩, h2, by show tz_ns σ + (12 + 12 * 10) = _; omega, by show tz_nc σ + 1 + 12 = _; omega, fun i hi => ?_⟩
    · obtain ⟨a1, a2⟩ := h1.2.2 x hx
      obtain ⟨b1, b2, b3, b4⟩ := a2 (fun w => w)
      have n1 : ¬ (x = tz_nc σ) := by omega
      have n2 : ¬ (tz_nc σ < x ∧ x ≤ tz_nc σ + 12) := by omega
      have n3 : ¬ (tz_nc σ ≤ x ∧ x ≤ tz_nc σ + 12) := by omega
      refine ⟨?_, fun _ => ⟨?_, ?_, ?_, ?_⟩⟩
      · show (if x = tz_nc σ then _ else if tz_nc σ < x ∧ x ≤ tz_nc σ + 12 then _ else tz_sh σ x) = _
        rw [if_neg n1, if_neg n2]; exact a1
      · show (if tz_nc σ ≤ x ∧ x ≤ tz_nc σ + 12 then _ else tz_F σ x) = _
        rw [if_neg n3]; exact b1
      · show (if tz_nc σ ≤ x ∧ x ≤ tz_nc σ + 12 then _ else tz_A σ x) = _
        rw [if_neg n3]; exact b2
      · show (if tz_nc σ ≤ x ∧ x ≤ tz_nc σ + 12 then _ else tz_L σ x) = _
        rw [if_neg n3]; exact b3
      · show (if x = tz_nc σ then _ else if tz_nc σ < x ∧ x ≤ tz_nc σ + 12 then _ else tz_R σ x) = _
        rw [if_neg n1, if_neg n2]; exact b4
    · show (if b + i = tz_nc σ then _ else if tz_nc σ < b + i ∧ b + i ≤ tz_nc σ + 12 then _ else tz_sh σ (b + i)) = (if i = len then some (.inr (6, 12)) else if len < i ∧ i ≤ len + 12 then some (.inr (0, 10)) else ks i) ∧ (if tz_nc σ ≤ b + i ∧ b + i ≤ tz_nc σ + 12 then _ else tz_F σ (b + i)) = _ ∧ (if tz_nc σ ≤ b + i ∧ b + i ≤ tz_nc σ + 12 then _ else tz_A σ (b + i)) = _ ∧ (if tz_nc σ ≤ b + i ∧ b + i ≤ tz_nc σ + 12 then _ else tz_L σ (b + i)) = _ ∧ (if b + i = tz_nc σ then _ else if tz_nc σ < b + i ∧ b + i ≤ tz_nc σ + 12 then _ else tz_R σ (b + i)) = _
      by_cases e : i = len
      · subst e
        rw [if_pos (by omega), if_pos rfl, if_pos (show tz_nc σ ≤ b + i ∧ b + i ≤ tz_nc σ + 12 by omega), if_pos (show tz_nc σ ≤ b + i ∧ b + i ≤ tz_nc σ + 12 by omega), if_pos (show tz_nc σ ≤ b + i ∧ b + i ≤ tz_nc σ + 12 by omega), if_pos (by omega), ups_s, hf i (by omega) (by omega), h4]
        exact ⟨rfl, rfl, rfl, rfl, rfl⟩
      · rw [if_neg (show ¬ b + i = tz_nc σ by omega), if_neg e, if_neg (show ¬ b + i = tz_nc σ by omega), ups_n _ _ e]
        by_cases e2 : len < i
        · rw [if_pos (show tz_nc σ < b + i ∧ b + i ≤ tz_nc σ + 12 by omega), if_pos (show len < i ∧ i ≤ len + 12 by omega), if_pos (show tz_nc σ ≤ b + i ∧ b + i ≤ tz_nc σ + 12 by omega), if_pos (show tz_nc σ ≤ b + i ∧ b + i ≤ tz_nc σ + 12 by omega), if_pos (show tz_nc σ ≤ b + i ∧ b + i ≤ tz_nc σ + 12 by omega), if_pos (show tz_nc σ < b + i ∧ b + i ≤ tz_nc σ + 12 by omega), hf i (by omega) (by omega), hr i (by omega) (by omega)]
          exact ⟨rfl, rfl, rfl, rfl, rfl⟩
        · rw [if_neg (show ¬ (tz_nc σ < b + i ∧ b + i ≤ tz_nc σ + 12) by omega), if_neg (show ¬ (len < i ∧ i ≤ len + 12) by omega), if_neg (show ¬ (tz_nc σ ≤ b + i ∧ b + i ≤ tz_nc σ + 12) by omega), if_neg (show ¬ (tz_nc σ ≤ b + i ∧ b + i ≤ tz_nc σ + 12) by omega), if_neg (show ¬ (tz_nc σ ≤ b + i ∧ b + i ≤ tz_nc σ + 12) by omega), if_neg (show ¬ (tz_nc σ < b + i ∧ b + i ≤ tz_nc σ + 12) by omega)]
          exact h5 i (by omega)
  obtain ⟨r, s, e, q⟩ := hK _ hE
  refine ⟨r, s, ?_, q⟩
  have hc : ¬ ((12 : Int32) < 0 ∨ (10 : Int32) < 0 ∨ 67108864 < (12 : Int32).toNatClampNeg ∨ 67108864 < (10 : Int32).toNatClampNeg) := by decide
  unfold pz_newG
  rw [if_neg hc]
  show K (some (tz_nc σ)) (pz_mkG (tz_h σ) 6 0 12 10) = _
  rw [alG_h, h4]
  exact e
/-- a number -/
theorem ev_big {f n : Nat} {i : Int32} {R : Option Nat → pz_C ρ} (h : EV σ0 σ b len S ks fs rs) (hn : 0 < n) (hn2 : n < 1000) (hi : i = nI n) (hf : fs len = fun _ => 0) (hf1 : fs (len + 1) = fun _ => 0) (hr : rs len = fun _ => none) (hr1 : rs (len + 1) = fun _ => none) (hK : ∀ σ', EV σ0 σ' b (len + 2) (S + 3 + n) (ups (ups ks len (some (.inl (0, [some (some (b + len + 1)), none, none])))) (len + 1) (some (.inr (0, n)))) fs rs → gp (R (some (b + len))) σ' Q) :
    gp (pz_new 0 3 [.null, .int 0, .int 0] fun x => pz_nn x <| pz_cB (X0_init f x i) fun _ => R x) σ Q := by
  refine ev_new (lay := [some none, none, none]) rfl h hf hr (fun σ1 h1 => ?_)
  refine gp_nn (gp_cB ?_)
  unfold X0_init X0_init_b14
  refine gp_nn ?_
  refine gp_f (by rw [hi]; exact nI_nle (by omega) (by omega)) ?_
  refine ev_newI (n := n) h1 (by decide) (by omega) hi hf1 hr1 (fun σ2 h2 => ?_)
  refine ev_wR (i := len) h2 (by omega) (lay := [some none, none, none]) (by rw [ups_n _ _ (by omega), ups_s]) (by decide) (fun σ3 h3 => gp_ret (hK σ3 (ev_cong h3 (fun j hj => ?_) (fun _ _ => rfl) (fun _ _ => rfl))))
  by_cases e : j = len
  · rw [e, ups_s, ups_n _ _ (by omega), ups_s]
    rfl
  · rw [ups_n _ _ e]
    by_cases e2 : j = len + 1
    · rw [e2, ups_s, ups_s]
    · rw [ups_n _ _ e2, ups_n _ _ e, ups_n _ _ e2, ups_n _ _ e]
end TX
