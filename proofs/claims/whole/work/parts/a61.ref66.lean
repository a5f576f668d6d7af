/-! ===== the reference: a leaf's sums ===== -/
theorem su_app {e : Nat → Int} {a : Nat} : ∀ {b : Nat}, su (a + b) e = su a e + su b (fun x => e (a + x))
  | 0 => (Int.add_zero _).symm
  | b + 1 => by
    show su (a + b) e + e (a + b) = su a e + (su b (fun x => e (a + x)) + e (a + b))
    rw [su_app (b := b), Int.add_assoc]
theorem su_32 {e : Nat → Int} {m : Nat} (hm : m ≤ 12) (h : ∀ i, m ≤ i → i < 12 → e i = 0) : su 32 e = su m e + su 10 (fun x => e (12 + x)) + su 10 (fun x => e (22 + x)) := by
  have e1 : su 32 e = su 22 e + su 10 (fun x => e (22 + x)) := su_app (a := 22) (b := 10)
  have e2 : su 22 e = su 12 e + su 10 (fun x => e (12 + x)) := su_app (a := 12) (b := 10)
  rw [e1, e2, su_cut hm h]
theorem su_cv {e : Nat → Int} {m x : Nat} (hm : m ≤ 12) (hx : x < 10) (h : ∀ i, m ≤ i → i < 32 → i ≠ 12 + x → i ≠ 22 + x → e i = 0) : su 32 e = su m e + e (12 + x) + e (22 + x) := by
  rw [su_32 hm (fun i a b => h i a (by omega) (by omega) (by omega)), su_one (fun x => e (12 + x)) hx (fun i a b => h _ (by omega) (by omega) (by omega) (by omega)), su_one (fun x => e (22 + x)) hx (fun i a b => h _ (by omega) (by omega) (by omega) (by omega))]
theorem su_add2 {f g : Nat → Int} : ∀ {c : Nat}, su c (fun x => f x + g x) = su c f + su c g
  | 0 => rfl
  | c + 1 => by
    show su c (fun x => f x + g x) + (f c + g c) = su c f + f c + (su c g + g c)
    rw [su_add2 (c := c)]
    omega
theorem su_bz {e : Nat → Int} {n m : Nat} (hn : n ≤ 10) (hm : m ≤ 12) (h : ∀ i, m ≤ i → i < 32 → ¬ (12 ≤ i ∧ i < 12 + n) → ¬ (22 ≤ i ∧ i < 22 + n) → e i = 0) : su 32 e = su m e + su n (fun x => e (12 + x) + e (22 + x)) := by
  rw [su_32 hm (fun i a b => h i a (by omega) (by omega) (by omega)), su_add2, su_cut (n := n) (c := 10) (e := fun x => e (12 + x)) hn (fun i a b => h _ (by omega) (by omega) (by omega) (by omega)), su_cut (n := n) (c := 10) (e := fun x => e (22 + x)) hn (fun i a b => h _ (by omega) (by omega) (by omega) (by omega)), Int.add_assoc]
def lfC (σ : tz_S) (M k lf : Nat) (g : Nat → Int × Int) : Prop := tz_A σ (M + 15) k = nI lf ∧ ∀ j, j < 32 → nP σ M (116056 + 16 * (2 * (32 * lf + j))) (g j).1 ∧ nP σ M (116056 + 16 * (2 * (32 * lf + j) + 1)) (g j).2
def gOk (g : Nat → Int × Int) : Prop := ∀ j, j < 32 → 0 < (g j).2 ∧ (g j).2.natAbs ≤ 10 ^ 70
def sgI (P : Int) (c : Nat) (E U V : Int) : Prop := smI P E U V ∧ E.natAbs ≤ c * (P.natAbs * 10 ^ 97)
section TQ
variable {f M t k lf : Nat} {σ σ1 : tz_S} {g : Nat → Int × Int}
theorem nP_tq {h : Nat} {v : Int} (hp : nP σ M h v) (hq : Tq M t σ σ1) (ht : 447200 ≤ t) : nP σ1 M h v := by
  obtain ⟨n, a, b, c⟩ := hp
  exact ⟨n, nV_tq a hq (by omega), b, c⟩
theorem lfC_tq (h : lfC σ M k lf g) (hq : Tq M t σ σ1) (ht : 447200 ≤ t) : lfC σ1 M k lf g := ⟨by rw [Fr_A hq.1 (show ¬ (M + 15 = M ∨ M + 15 = M + 20) by omega)]; exact h.1, fun j hj => ⟨nP_tq (h.2 j hj).1 hq ht, nP_tq (h.2 j hj).2 hq ht⟩⟩
theorem sgI_0 {P : Int} : sgI P 0 0 0 1 := ⟨smI_0, by simp⟩
set_option maxRecDepth 20000 in
theorem r_add {j p ks c : Nat} {w : Nat → Int} {U V E : Int} {jn : Int32} (h : mSh σ M) (hC : lfC σ M k lf g) (hk : k < 310) (hlf : lf < 152) (hg : gOk g) (hW : wS 32 g ≤ 959) (hj : j < 32) (hw97 : (w j * (g j).1).natAbs ≤ 10 ^ 97) (hs : smV σ M t U V) (hI : sgI (prD g 32) c E U V) (hc : c ≤ 32) (hv : nV (tz_A σ (M + 20)) p ks (w j)) (hp : p + ks < t) (hks : ks ≤ 17) (ht : 447200 ≤ t) (hb : t + 3000 ≤ 527200) (hjn : jn = nI j) (hf : 20000 ≤ f) :
    gp (X12_add f (some M) (nI k) jn (nI p)) σ (fun _ σ' => Tq M t σ σ' ∧ ∃ t' U' V', t ≤ t' ∧ t' ≤ t + 1000 ∧ smV σ' M t' U' V' ∧ sgI (prD g 32) (c + 1) (E + exE 32 w g j) U' V') := by
  subst hjn
  obtain ⟨g1, g2⟩ := hg j hj
  obtain ⟨hP0, hPM⟩ := prD_ok (g := g) (j := 32) (fun i hi => hg i hi)
  obtain ⟨c1, c2⟩ := hC
  obtain ⟨⟨n1, a1, a2, a3⟩, ⟨n2, b1, b2, b3⟩⟩ := c2 j hj
  have hE : E.natAbs ≤ (prD g 32).natAbs * (32 * 10 ^ 97) := by
    refine Nat.le_trans hI.2 ?_
    have h5 : (prD g 32).natAbs * (32 * 10 ^ 97) = 32 * ((prD g 32).natAbs * 10 ^ 97) := by rw [← Nat.mul_assoc, ← Nat.mul_assoc, Nat.mul_comm 32]
    rw [h5]
    exact Nat.mul_le_mul_right _ hc
  have he := exE_le (w := w) hj g1 hP0 hw97
  have he2 := exE_e (w := w) (g := g) hj
  unfold X12_add X12_multiplierAt
  refine gp_rR (mh_me h) rfl ?_
  refine gp_aI (j := k) (mh_15 h) (by decide) (by omega) (by omega) rfl ?_
  rw [c1]
  refine gp_cB (gp_ret ?_)
  rw [show (116056 : Int32) + 16 * (2 * (32 * nI lf + nI j) + 0) = nI (116056 + 16 * (2 * (32 * lf + j))) from at_m lf j 0]
  refine gp_rR (mh_me h) rfl ?_
  refine gp_aI (j := k) (mh_15 h) (by decide) (by omega) (by omega) rfl ?_
  rw [c1]
  refine gp_cB (gp_ret ?_)
  rw [show (116056 : Int32) + 16 * (2 * (32 * nI lf + nI j) + 1) = nI (116056 + 16 * (2 * (32 * lf + j) + 1)) from at_m lf j 1]
  refine gp_cV (mh_me h) (gp_mono (r_addS h hs hI.1 hP0 hW hPM hE he2 g1 hv a1 b1 hp (by omega) (by omega) (by omega) (by omega) g2 hw97 hb hf) ?_)
  rintro _ σ2 ⟨q, t', U', V', r1, r2, r3, r4⟩
  refine gp_ret ⟨q, t', U', V', r1, r2, r3, r4, ?_⟩
  have he3 : (exE 32 w g j).natAbs ≤ (prD g 32).natAbs * 10 ^ 97 := Int.ofNat_le.1 he
  rw [Nat.succ_mul]
  exact nab_add hI.2 he3
end TQ
