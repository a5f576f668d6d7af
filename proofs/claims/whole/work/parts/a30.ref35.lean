/-! ===== the reference: split, with its limits ===== -/
section SK
variable {f M n m K lc k x spl : Nat} {σ σ1 : tz_S} {up fi se : Nat → Option Nat} {vr : Nat → Nat} {fo to : Nat → Int} {cd : Nat → Bool} {ln : Nat → Nat} {mq : Nat → Nat → Int × Int} {T : Nat → Nat → Int} {D v : Int} {va : Nat → Int} {bs cl : Nat → Nat} {p : List (Nat × Bool)}
set_option maxHeartbeats 4000000 in
theorem r_split (h : mSh σ M) (ht : tz_F σ M 35 = nI 447200) (h24 : tz_F σ M 24 = nI k) (h11 : tz_F σ M 11 = nI spl) (hn : n ≤ 10) (hm : m ≤ 12) (hT : rtV σ M n m D T va bs cl) (hpm : pmI n m bs cl) (hk : rkV σ M K lc up fi se vr to cd ln) (hM : rmV σ M lc mq) (ho : roV σ M p.reverse fo) (hl : p.length ≤ 24) (hs : spl ≤ 150) (hkK : k < K) (hK : K < 310) (hlc : lc ≤ 152) (hln : ln k + 1 = lc) (hx : x < n) (hsp : nP σ M (16456 + 300 * k) v) (hpk : ∀ s b, (s, b) ∈ p → s < k ∧ fi s ≠ none ∧ vr s < n ∧ -1000000000000000000 ≤ fo s ∧ fo s ≤ 1000000000000000000) (hf : 2000 ≤ f) :
    gp (X12_split f (some M) (nI x)) σ (fun _ σ' => (((1000000000000000000 < v ∨ v < -1000000000000000000) ∨ 150 ≤ spl ∨ 24 ≤ p.length) ∧ Rq M (fun j => j = 7) (fun _ => False) (fun _ => False) σ σ' ∧ tz_F σ' M 7 = 4) ∨ (¬ ((1000000000000000000 < v ∨ v < -1000000000000000000) ∨ 150 ≤ spl ∨ 24 ≤ p.length) ∧ Rq M (fun j => j = 11 ∨ gqF j) (gqA M) gqP σ σ' ∧ (tz_F σ' M 11 = nI (spl + 1) ∧ tz_F σ' M 24 = nI K) ∧ rtV σ' M n m D T va bs cl ∧ rkV σ' M (K + 1) lc (ups up K (some k)) (ups (ups fi k (some K)) K none) (ups se K none) (ups vr k x) (ups to k v) (ups cd K false) (ups ln K (ln k)) ∧ rmV σ' M lc (ups mq (ln k) (fun _ => (0, 1))) ∧ roV σ' M ((k, true) :: p).reverse (ups fo k v) ∧ rbV σ' M n (fun y => fU (ups vr k x) (ups fo k v) y ((k, true) :: p) none) (fun y => fL (ups vr k x) (ups fo k v) y ((k, true) :: p) none))) := by
  have hcl : ∀ c, c < n → cl c < 22 := fun c hc => by have := hpm.2.1 c hc; omega
  have h25 : tz_F σ M 25 = nI p.length := by rw [ho.1]; simp
  generalize hQ : (fun (_ : Unit) (σ' : tz_S) => (((1000000000000000000 < v ∨ v < -1000000000000000000) ∨ 150 ≤ spl ∨ 24 ≤ p.length) ∧ Rq M (fun j => j = 7) (fun _ => False) (fun _ => False) σ σ' ∧ tz_F σ' M 7 = 4) ∨ (¬ ((1000000000000000000 < v ∨ v < -1000000000000000000) ∨ 150 ≤ spl ∨ 24 ≤ p.length) ∧ Rq M (fun j => j = 11 ∨ gqF j) (gqA M) gqP σ σ' ∧ (tz_F σ' M 11 = nI (spl + 1) ∧ tz_F σ' M 24 = nI K) ∧ rtV σ' M n m D T va bs cl ∧ rkV σ' M (K + 1) lc (ups up K (some k)) (ups (ups fi k (some K)) K none) (ups se K none) (ups vr k x) (ups to k v) (ups cd K false) (ups ln K (ln k)) ∧ rmV σ' M lc (ups mq (ln k) (fun _ => (0, 1))) ∧ roV σ' M ((k, true) :: p).reverse (ups fo k v) ∧ rbV σ' M n (fun y => fU (ups vr k x) (ups fo k v) y ((k, true) :: p) none) (fun y => fL (ups vr k x) (ups fo k v) y ((k, true) :: p) none))) = Q
  have no : ∀ σ2 s0, Rq M (fun j => j = 35) (fun _ => False) (fun _ => False) σ σ2 → (s0 ≠ 0 → (1000000000000000000 < v ∨ v < -1000000000000000000)) → (p.length = 24 ∨ spl = 150 ∨ s0 ≠ 0) → gp (X12_split_b52 f (some M) (nI x) (nI 447200) s0) σ2 Q := by
    intro σ2 s0 g1 g2 g3
    refine gp_mono (r_split_no (mSh_fr h g1.1) (by rw [g1.2.1 25 (by decide) (by decide)]; exact h25) (by rw [g1.2.1 11 (by decide) (by decide)]; exact h11) hl hs g3) ?_
    rintro _ σ3 rfl
    rw [← hQ]
    refine Or.inl ⟨?_, ⟨?_, ?_, ?_⟩, tz_u2_same _ _ _ _⟩
    · rcases g3 with w | w | w
      · exact Or.inr (Or.inr (by omega))
      · exact Or.inr (Or.inl (by omega))
      · exact Or.inl (g2 w)
    · exact Fr_trans (Fr_trans g1.1 (Fr_sF (Or.inl rfl))) (Fr_sF (Or.inl rfl))
    · intro j a b
      rw [sF_at, if_neg (fun e => a e.2), sF_at]
      by_cases e : j = 35
      · rw [if_pos ⟨rfl, e⟩, e, ht]
      · rw [if_neg (fun w => e w.2)]; exact g1.2.1 j e b
    · intro i a b
      exact g1.2.2 i a b
  have yes : ∀ σ2, Rq M (fun j => j = 35) (fun _ => False) (fun _ => False) σ σ2 → ¬ (1000000000000000000 < v ∨ v < -1000000000000000000) → gp (X12_split_b52 f (some M) (nI x) (nI 447200) 0) σ2 Q := by
    intro σ2 g1 g2
    by_cases z : p.length = 24 ∨ spl = 150
    · exact no σ2 0 g1 (fun w => absurd rfl w) (by rcases z with z | z; exact Or.inl z; exact Or.inr (Or.inl z))
    · refine gp_mono (r_split_do (k := k) (spl := spl) (p := p) (v := v) (mSh_fr h g1.1) (by rw [g1.2.1 24 (by decide) (by decide)]; exact h24) (by rw [g1.2.1 11 (by decide) (by decide)]; exact h11) hn hm (rtV_rq hT g1 (fun e => e) (fun e => e) (fun _ _ e => e) hn hm hcl) hpm (rkV_rq hk g1 (by decide) (by decide) (fun _ _ _ e => e) (fun _ _ _ e => e) (by omega)) (rmV_rq hM g1 (fun _ _ _ e => e) hlc) (roV_rq ho g1 (by decide) (fun e => e) (fun e => e) (fun _ _ _ e => e) (by simp; omega)) (by omega) (by omega) hkK hK hlc hln hx (nP_rq hsp g1 (fun _ _ _ e => e)) (by omega) hpk hf) ?_
      rintro _ σ3 ⟨w1, ⟨w2, w3, w4⟩, w5⟩
      rw [← hQ]
      refine Or.inr ⟨by omega, ⟨?_, ?_, ?_⟩, ⟨w3, w4⟩, w5⟩
      · exact Fr_trans (Fr_mono g1.1 (fun y e => by rcases e with e | e | e; exact Or.inl e; exact Or.inr (Or.inl e); exact e.elim)) w1.1
      · intro j a b
        by_cases e : j = 35
        · rw [e, w2, ht]
        · rw [w1.2.1 j (fun y => by rcases y with y | y | y; exact a (Or.inl y); exact e y; exact a (Or.inr y)) b]; exact g1.2.1 j e b
      · intro i a b
        rw [w1.2.2 i a b]; exact g1.2.2 i a (fun e => e)
  unfold X12_split X12_split_b47 X12_splitAt
  refine gp_rI (mh_me h) rfl ?_
  rw [ht]
  refine gp_cV (mh_me h) (gp_mono (r_plainOf (v := 1000000000000000000) h ht (by decide) (by omega) hf) ?_)
  rintro _ σ1 ⟨rfl, hP1, k1, hk1, h351, hv1⟩
  have h1 := mSh_fr h hP1.1
  have q1 : Rq M (fun j => j = 35) (fun _ => False) (fun _ => False) σ σ1 := Rq_pq hP1 rfl (fun j a b c => by omega)
  obtain ⟨ks, s1, s2⟩ := nP_rq hsp q1 (fun _ _ _ e => e)
  refine gp_rI (mh_me h1) rfl ?_
  rw [hP1.2.1 24 (by decide) (by decide), h24]
  refine gp_cB (gp_ret ?_)
  rw [at_s]
  rw [show (1000000000000000000 : Int64).toInt = 1000000000000000000 from by decide] at hv1
  refine gp_cV (mh_me h1) (gp_mono (r_compare h1 s1 hv1 (by omega) (by omega) hf) ?_)
  rintro _ σ0 ⟨z0, rfl⟩
  rw [z0]
  clear z0 σ0
  refine gp_if (fun y => ?_) (fun y => ?_)
  · rw [isg_n.2.2.1] at y
    exact no σ1 1 q1 (fun _ => Or.inl (by omega)) (Or.inr (Or.inr (by decide)))
  rw [isg_n.2.2.1] at y
  refine gp_rI (mh_me h1) rfl ?_
  rw [hP1.2.1 24 (by decide) (by decide), h24]
  refine gp_cB (gp_ret ?_)
  rw [at_s]
  refine gp_cV (mh_me h1) (gp_mono (r_less h1 h351 hv1 (by omega) (by omega) hf) ?_)
  rintro _ σ2 ⟨rfl, hP2, h352, hv2⟩
  have h2 := mSh_fr h1 hP2.1
  have q2 : Rq M (fun j => j = 35) (fun _ => False) (fun _ => False) σ σ2 := Rq_trans q1 (Rq_pq hP2 rfl (fun j a b c => by omega))
  have s12 := nV_pq s1 hP2 (Or.inl (by omega))
  refine gp_cV (mh_me h2) (gp_mono (r_compare h2 s12 hv2 (by omega) (by omega) hf) ?_)
  rintro _ σ0 ⟨z0, rfl⟩
  rw [z0]
  clear z0 σ0
  refine gp_if (fun w => ?_) (fun w => ?_)
  · rw [isg_n.2.2.2] at w
    exact yes σ2 q2 (by omega)
  · rw [isg_n.2.2.2] at w
    exact no σ2 1 q2 (fun _ => Or.inr (by omega)) (Or.inr (Or.inr (by decide)))
end SK
