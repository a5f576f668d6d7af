/-! ===== the reference: frames ===== -/
def Rq (M : Nat) (Fs As Ps : Nat → Prop) (σ σ' : tz_S) : Prop := Fr (fun x => x = M ∨ x = M + 20 ∨ As x) σ σ' ∧ (∀ k, ¬ Fs k → k ≠ 36 → tz_F σ' M k = tz_F σ M k) ∧ ∀ i, i < 447200 → ¬ Ps i → tz_A σ' (M + 20) i = tz_A σ (M + 20) i
section RV
variable {M : Nat} {Fs As Ps Fs2 As2 Ps2 : Nat → Prop} {σ σ1 σ2 : tz_S}
theorem Rq_refl : Rq M Fs As Ps σ σ := ⟨Fr_refl, fun _ _ _ => rfl, fun _ _ _ => rfl⟩
theorem Rq_trans (h1 : Rq M Fs As Ps σ σ1) (h2 : Rq M Fs As Ps σ1 σ2) : Rq M Fs As Ps σ σ2 := ⟨Fr_trans h1.1 h2.1, fun k a b => (h2.2.1 k a b).trans (h1.2.1 k a b), fun i a b => (h2.2.2 i a b).trans (h1.2.2 i a b)⟩
theorem Rq_mono (h : Rq M Fs As Ps σ σ1) (h1 : ∀ k, Fs k → Fs2 k) (h2 : ∀ k, As k → As2 k) (h3 : ∀ k, Ps k → Ps2 k) : Rq M Fs2 As2 Ps2 σ σ1 := ⟨Fr_mono h.1 (fun x z => z.imp id (fun z => z.imp id (h2 x))), fun k a b => h.2.1 k (fun z => a (h1 k z)) b, fun i a b => h.2.2 i a (fun z => b (h3 i z))⟩
theorem Rq_sq (h : Sq M σ σ1) : Rq M Fs As Ps σ σ1 := ⟨Fr_mono h.1 (fun x z => by rcases z with z | z; exact Or.inl z; exact Or.inr (Or.inl z)), fun k _ b => h.2.1 k b, fun i a _ => h.2.2 i a⟩
theorem Rq_pq {lo hi : Nat} (h : Pq M lo hi σ σ1) (h35 : Fs 35) (hP : ∀ i, i < 447200 → lo ≤ i → i < hi → Ps i) : Rq M Fs As Ps σ σ1 := ⟨Fr_mono h.1 (fun x z => by rcases z with z | z; exact Or.inl z; exact Or.inr (Or.inl z)), fun k a b => h.2.1 k (fun e => a (by rw [e]; exact h35)) b, fun i a b => h.2.2 i (by
  by_cases z : lo ≤ i ∧ i < hi
  · exact absurd (hP i a z.1 z.2) b
  · omega)⟩
theorem Rq_pqF {lo hi : Nat} (h : Pq M lo hi σ σ1) (hF : tz_F σ1 M 35 = tz_F σ M 35) (hP : ∀ i, i < 447200 → lo ≤ i → i < hi → Ps i) : Rq M Fs As Ps σ σ1 := ⟨Fr_mono h.1 (fun x z => by rcases z with z | z; exact Or.inl z; exact Or.inr (Or.inl z)), fun k _ b => by
  by_cases e : k = 35
  · rw [e]; exact hF
  · exact h.2.1 k e b, fun i a b => h.2.2 i (by
  by_cases z : lo ≤ i ∧ i < hi
  · exact absurd (hP i a z.1 z.2) b
  · omega)⟩
theorem Rq_F {k : Nat} {v : Int32} (h : Fs k) : Rq M Fs As Ps σ (tz_sF σ M k v) := ⟨Fr_sF (Or.inl rfl), fun j a _ => tz_u2_ne _ _ (Or.inr (fun e => a (by rw [e]; exact h))), fun _ _ _ => rfl⟩
theorem Rq_A {x k : Nat} {v : Int32} (h : As x) (hx : x ≠ M + 20) : Rq M Fs As Ps σ (tz_sA σ x k v) := ⟨Fr_sA (Or.inr (Or.inr h)), fun _ _ _ => rfl, fun i _ _ => by
  show tz_u2 (tz_A σ) x k v (M + 20) i = _
  rw [tz_u2_ne _ _ (Or.inl (fun e => hx e.symm))]⟩
theorem Rq_get (h : Rq M Fs As Ps σ σ1) {x : Nat} (h1 : x ≠ M) (h2 : x ≠ M + 20) (h3 : ¬ As x) : tz_A σ1 x = tz_A σ x := Fr_A h.1 (fun z => by
  rcases z with z | z | z
  · exact h1 z
  · exact h2 z
  · exact h3 z)
theorem nP_rq {h : Nat} {v : Int} (hp : nP σ M h v) (hs : Rq M Fs As Ps σ σ1) (hP : ∀ i, h ≤ i → i ≤ h + 15 → ¬ Ps i) : nP σ1 M h v := by
  obtain ⟨n, h1, h2⟩ := hp
  exact ⟨n, nV_congr h1 (fun i a b => hs.2.2 i (by omega) (hP i a (by omega))), h2⟩
variable {n m K lc st sp ex cf spl : Nat} {A T : Nat → Nat → Int} {kd : Nat → Nat} {bb dr : Nat → Int} {wh : Nat → Bool} {D : Int} {va : Nat → Int} {bs cl : Nat → Nat} {up fi se : Nat → Option Nat} {vr : Nat → Nat} {fo to : Nat → Int} {cd : Nat → Bool} {ln : Nat → Nat} {mq : Nat → Nat → Int × Int} {wq : Nat → Int × Int} {hd : Int × Int} {ah : Bool} {ub lb : Nat → Option Int} {l : List (Nat × Bool)}
theorem rrV_rq (h : rrV σ M n m A kd bb wh dr) (hs : Rq M Fs As Ps σ σ1) (h0 : ¬ Fs 0) (h1 : ¬ Fs 1) (hA : ∀ x, M + 1 ≤ x → x ≤ M + 5 → ¬ As x) : rrV σ1 M n m A kd bb wh dr := by
  unfold rrV at *
  rw [hs.2.1 0 h0 (by decide), hs.2.1 1 h1 (by decide), Rq_get hs (x := M + 1) (by omega) (by omega) (hA _ (by omega) (by omega)), Rq_get hs (x := M + 2) (by omega) (by omega) (hA _ (by omega) (by omega)), Rq_get hs (x := M + 3) (by omega) (by omega) (hA _ (by omega) (by omega)), Rq_get hs (x := M + 5) (by omega) (by omega) (hA _ (by omega) (by omega)), Rq_get hs (x := M + 4) (by omega) (by omega) (hA _ (by omega) (by omega))]
  exact h
theorem rtV_rq (h : rtV σ M n m D T va bs cl) (hs : Rq M Fs As Ps σ σ1) (h7 : ¬ As (M + 7)) (h8 : ¬ As (M + 8)) (hP : ∀ i, i < 10456 → ¬ Ps i) (hn : n ≤ 10) (hm : m ≤ 12) (hcl : ∀ c, c < n → cl c < 22) : rtV σ1 M n m D T va bs cl := by
  obtain ⟨a1, a2, a3, a4, a5⟩ := h
  exact ⟨by rw [Rq_get hs (by omega) (by omega) h7]; exact a1, by rw [Rq_get hs (by omega) (by omega) h8]; exact a2, nP_rq a3 hs (fun i _ b => hP i (by omega)), fun r c x y => nP_rq (a4 r c x y) hs (fun i _ b => hP i (by omega)), fun c x => nP_rq (a5 c x) hs (fun i _ b => hP i (by have := hcl c x; omega))⟩
theorem rbV_rq (h : rbV σ M n ub lb) (hs : Rq M Fs As Ps σ σ1) (h6 : ¬ As (M + 6)) (hP : ∀ i, 10456 ≤ i → i < 16456 → ¬ Ps i) (hn : n ≤ 10) : rbV σ1 M n ub lb := fun x hx => by
  obtain ⟨a1, a2, a3, a4⟩ := h x hx
  refine ⟨by rw [Rq_get hs (by omega) (by omega) h6]; exact a1, by rw [Rq_get hs (by omega) (by omega) h6]; exact a2, fun v e => ?_, fun v e => ?_⟩
  · refine nP_rq (a3 v e) hs ?_
    intro i a b
    have e1 : 10456 ≤ i := by omega
    have e2 : i < 16456 := by omega
    exact hP i e1 e2
  · refine nP_rq (a4 v e) hs ?_
    intro i a b
    have e1 : 10456 ≤ i := Nat.le_trans (Nat.le_add_right 10456 _) a
    have e2 : i < 16456 := by omega
    exact hP i e1 e2
theorem rkV_rq (h : rkV σ M K lc up fi se vr to cd ln) (hs : Rq M Fs As Ps σ σ1) (h15 : ¬ Fs 15) (h23 : ¬ Fs 23) (hA : ∀ x, M + 9 ≤ x → x ≤ M + 15 → ¬ As x) (hP : ∀ i, 16456 ≤ i → i < 109456 → ¬ Ps i) (hK : K ≤ 310) : rkV σ1 M K lc up fi se vr to cd ln := by
  obtain ⟨⟨b1, b2⟩, b3⟩ := h
  refine ⟨⟨by rw [hs.2.1 15 h15 (by decide)]; exact b1, by rw [hs.2.1 23 h23 (by decide)]; exact b2⟩, fun k hk => ?_⟩
  obtain ⟨a1, a2, a3, a4, a5, a6, a7⟩ := b3 k hk
  refine ⟨?_, ?_, ?_, ?_, ?_, ?_, fun z => ⟨?_, nP_rq (a7 z).2 hs (fun i a b => hP i (by omega) (by omega))⟩⟩
  · rw [Rq_get hs (by omega) (by omega) (hA _ (by omega) (by omega))]; exact a1
  · rw [Rq_get hs (by omega) (by omega) (hA _ (by omega) (by omega))]; exact a2
  · rw [Rq_get hs (by omega) (by omega) (hA _ (by omega) (by omega))]; exact a3
  · rw [Rq_get hs (by omega) (by omega) (hA _ (by omega) (by omega))]; exact a4
  · rw [Rq_get hs (by omega) (by omega) (hA _ (by omega) (by omega))]; exact a5
  · rw [Rq_get hs (by omega) (by omega) (hA _ (by omega) (by omega))]; exact a6
  · rw [Rq_get hs (by omega) (by omega) (hA _ (by omega) (by omega))]; exact (a7 z).1
theorem roV_rq (h : roV σ M l fo) (hs : Rq M Fs As Ps σ σ1) (h25 : ¬ Fs 25) (h16 : ¬ As (M + 16)) (h17 : ¬ As (M + 17)) (hP : ∀ i, 440000 ≤ i → i < 447200 → ¬ Ps i) (hl : l.length ≤ 24) : roV σ1 M l fo := by
  refine ⟨by rw [hs.2.1 25 h25 (by decide)]; exact h.1, fun i s b hi => ?_⟩
  obtain ⟨a1, a2, a3⟩ := h.2 i s b hi
  have hil : i < l.length := by
    by_cases z : i < l.length
    · exact z
    · rw [List.getElem?_eq_none (by omega)] at hi; cases hi
  exact ⟨by rw [Rq_get hs (by omega) (by omega) h16]; exact a1, by rw [Rq_get hs (by omega) (by omega) h17]; exact a2, nP_rq a3 hs (fun i a b => hP i (by omega) (by omega))⟩
theorem rmV_rq (h : rmV σ M lc mq) (hs : Rq M Fs As Ps σ σ1) (hP : ∀ i, 116056 ≤ i → i < 440000 → ¬ Ps i) (hl : lc ≤ 152) : rmV σ1 M lc mq := fun i j a b => ⟨nP_rq (h i j a b).1 hs (fun x y z => hP x (by omega) (by omega)), nP_rq (h i j a b).2 hs (fun x y z => hP x (by omega) (by omega))⟩
theorem rvV_rq (h : rvV σ M wq) (hs : Rq M Fs As Ps σ σ1) (hP : ∀ i, 109456 ≤ i → i < 115456 → ¬ Ps i) : rvV σ1 M wq := fun x a => by
  refine ⟨nP_rq (h x a).1 hs ?_, nP_rq (h x a).2 hs ?_⟩
  · intro i b c
    have e1 : 109456 ≤ i := by omega
    have e2 : i < 115456 := by omega
    exact hP i e1 e2
  · intro i b c
    have e1 : 109456 ≤ i := Nat.le_trans (Nat.le_add_right 109456 _) b
    have e2 : i < 115456 := by omega
    exact hP i e1 e2
theorem rhV_rq (h : rhV σ M hd ah) (hs : Rq M Fs As Ps σ σ1) (h28 : ¬ Fs 28) (hP : ∀ i, 115456 ≤ i → i < 116056 → ¬ Ps i) : rhV σ1 M hd ah := ⟨by rw [hs.2.1 28 h28 (by decide)]; exact h.1, fun a => ⟨nP_rq (h.2 a).1 hs (fun x y z => hP x (by omega) (by omega)), nP_rq (h.2 a).2 hs (fun x y z => hP x (by omega) (by omega))⟩⟩
theorem rcV_rq (h : rcV σ M st sp ex cf spl) (hs : Rq M Fs As Ps σ σ1) (hF : ∀ k, 7 ≤ k → k ≤ 11 → ¬ Fs k) : rcV σ1 M st sp ex cf spl := by
  unfold rcV at *
  rw [hs.2.1 7 (hF 7 (by omega) (by omega)) (by decide), hs.2.1 8 (hF 8 (by omega) (by omega)) (by decide), hs.2.1 9 (hF 9 (by omega) (by omega)) (by decide), hs.2.1 10 (hF 10 (by omega) (by omega)) (by decide), hs.2.1 11 (hF 11 (by omega) (by omega)) (by decide)]
  exact h
end RV
