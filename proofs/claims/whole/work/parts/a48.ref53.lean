/-! ===== the reference: setWitness ===== -/
section TC
variable {f M n m : Nat} {σ σ1 : tz_S} {A : Nat → Nat → Int} {kd : Nat → Nat} {bb dr : Nat → Int} {wh : Nat → Bool} {wp wq wp2 wq2 : Nat → Int × Int} {hd : Int × Int} {ah : Bool} {Z : zS}
theorem at_w (x s : Nat) : (109456 : Int32) + 300 * (2 * nI x + nI s) = nI (109456 + 300 * (2 * x + s)) := by
  rw [show (2 : Int32) = nI 2 from rfl, nI_mul, nI_add, show (300 : Int32) = nI 300 from rfl, nI_mul, show (109456 : Int32) = nI 109456 from rfl, nI_add]
def wtP (x i : Nat) : Prop := 109456 + 600 * x ≤ i ∧ i < 109456 + 600 * (x + 1)
theorem rvV_put {x : Nat} {a b : Int} {Fs As : Nat → Prop} (hv : rvV σ M wq) (hx : x < 10) (hq : Rq M Fs As (wtP x) σ σ1) (h1 : nP σ1 M (109456 + 300 * (2 * x)) a) (h2 : nP σ1 M (109456 + 300 * (2 * x + 1)) b) : rvV σ1 M (ups wq x (a, b)) := by
  intro y hy
  by_cases e : y = x
  · rw [e, ups_s]; exact ⟨h1, h2⟩
  · rw [ups_n _ _ e]
    obtain ⟨g1, g2⟩ := hv y hy
    exact ⟨nP_rq g1 hq (fun i c d w => by unfold wtP at w; omega), nP_rq g2 hq (fun i c d w => by unfold wtP at w; omega)⟩
/-- witnesses have changed -/
theorem rPo_wit {Fs Ps : Nat → Prop} {y : Int32} (h : rfV σ M ((n, m, A, kd, bb, wh, dr), Z, wp, wq, hd, ah)) (ho : okF ((n, m, A, kd, bb, wh, dr), Z, wp, wq, hd, ah)) (hq : Rq M (fun _ => False) (fun _ => False) Ps σ σ1) (hP : ∀ i, Ps i → 109456 ≤ i ∧ i < 115456) (hh : rvV σ1 M wq2) : rPo σ M ((n, m, A, kd, bb, wh, dr), Z, wp2, wq2, hd, ah) y y σ1 := by
  obtain ⟨hsl, hW, hH⟩ := rfV_un h
  obtain ⟨hr, hz, -⟩ := okF_un ho
  have hw := (rgV_sh hsl).2.2.1
  exact ⟨rfl, Fr_mono hq.1 (fun x e => by rcases e with e | e | e; omega; omega; exact e.elim), rfV_mk (rgV_rq hsl hz hq (fun j e => e.elim) (fun _ e => e.elim) (fun i e => by have := hP i e; omega) (rrV_rq hw hq (fun e => e) (fun e => e) (fun _ _ _ e => e))) hh (rhV_rq hH hq (fun e => e) (fun i a b e => by have := hP i e; omega))⟩
set_option maxRecDepth 20000 in
theorem r_setWitness {x a b : Int32} (h : rfV σ M ((n, m, A, kd, bb, wh, dr), Z, wp, wq, hd, ah)) (ho : okF ((n, m, A, kd, bb, wh, dr), Z, wp, wq, hd, ah)) (hf : 2000 ≤ f) : gp (X12_setWitness f (some M) x a b) σ (rPo σ M (mSeW x a b ((n, m, A, kd, bb, wh, dr), Z, wp, wq, hd, ah)).1 (mSeW x a b ((n, m, A, kd, bb, wh, dr), Z, wp, wq, hd, ah)).2) := by
  obtain ⟨hsl, hW, hH⟩ := rfV_un h
  obtain ⟨hc, h35, hw, -⟩ := rgV_sh hsl
  have hn := hw.1.2.2.1
  have bad : ¬ ((0 ≤ x.toInt ∧ x.toInt < n) ∧ (-1000000000 ≤ a.toInt ∧ a.toInt ≤ 1000000000) ∧ 1 ≤ b.toInt ∧ b.toInt ≤ 1000000000) → gp (X12_setWitness_b16 f) σ (rPo σ M (mSeW x a b ((n, m, A, kd, bb, wh, dr), Z, wp, wq, hd, ah)).1 (mSeW x a b ((n, m, A, kd, bb, wh, dr), Z, wp, wq, hd, ah)).2) := by
    intro w
    have e : mSeW x a b ((n, m, A, kd, bb, wh, dr), Z, wp, wq, hd, ah) = (((n, m, A, kd, bb, wh, dr), Z, wp, wq, hd, ah), -1) := if_neg w
    rw [e]
    exact gp_ret (rPo_0 h rfl)
  unfold X12_setWitness
  refine gp_cV (mh_me hc) (gp_mono (r_isVariable hc hw) ?_)
  rintro y σ0 ⟨z0, hy⟩
  rw [z0]
  clear z0 σ0
  refine gp_if (fun z => bad (fun w => ite0 hy z w.1)) (fun z => ?_)
  have hx := ite1 hy z
  refine gp_cB (gp_mono r_isFraction ?_)
  rintro y2 σ0 ⟨z0, hy2⟩
  rw [z0]
  clear z0 σ0
  refine gp_if (fun z => bad (fun w => ite0 hy2 z w.2)) (fun z => ?_)
  have hab := ite1 hy2 z
  have e : mSeW x a b ((n, m, A, kd, bb, wh, dr), Z, wp, wq, hd, ah) = (((n, m, A, kd, bb, wh, dr), Z, ups wp x.toInt.toNat (a.toInt, b.toInt), ups wq x.toInt.toNat (a.toInt, b.toInt), hd, ah), 0) := if_pos ⟨hx, hab⟩
  rw [e]
  obtain ⟨k, hk, hk31, hk2⟩ := i32_nat hx.1
  rw [show x.toInt.toNat = k by omega, hk]
  unfold X12_witnessAt
  refine gp_cB (gp_ret ?_)
  rw [show (109456 : Int32) + 300 * (2 * nI k + 0) = nI (109456 + 300 * (2 * k)) from at_w k 0]
  refine gp_cV (mh_me hc) (gp_mono (r_setWhole (to := 109456 + 300 * (2 * k)) hc h35 (by rw [Int32.toInt_toInt64]; omega) (by omega) (by omega) hf) ?_)
  rintro _ σ2 ⟨e1, e2, e3, n1, e4, e5⟩
  rw [Int32.toInt_toInt64] at e5
  have h2 := mSh_fr hc e1
  have q1 : Rq M (fun _ => False) (fun _ => False) (fun i => 109456 + 300 * (2 * k) ≤ i ∧ i < 109456 + 300 * (2 * k) + 4) σ σ2 := Rq_wh (n := 0) (Nat.le_refl _) ⟨e1, e2, e3⟩ (fun x a b => ⟨a, b⟩)
  refine gp_cB (gp_ret ?_)
  rw [show (109456 : Int32) + 300 * (2 * nI k + 1) = nI (109456 + 300 * (2 * k + 1)) from at_w k 1]
  refine gp_cV (mh_me h2) (gp_mono (r_setWhole (to := 109456 + 300 * (2 * k + 1)) h2 (by rw [e2 35 (by decide)]; exact h35) (by rw [Int32.toInt_toInt64]; omega) (by omega) (by omega) hf) ?_)
  rintro _ σ3 ⟨w1, w2, w3, n2, w4, w5⟩
  rw [Int32.toInt_toInt64] at w5
  have q2 : Rq M (fun _ => False) (fun _ => False) (fun i => 109456 + 300 * (2 * k + 1) ≤ i ∧ i < 109456 + 300 * (2 * k + 1) + 4) σ2 σ3 := Rq_wh (n := 0) (Nat.le_refl _) ⟨w1, w2, w3⟩ (fun x a b => ⟨a, b⟩)
  have q : Rq M (fun _ => False) (fun _ => False) (wtP k) σ σ3 := Rq_trans (Rq_mono q1 (fun _ e => e) (fun _ e => e) (fun i e => by unfold wtP; omega)) (Rq_mono q2 (fun _ e => e) (fun _ e => e) (fun i e => by unfold wtP; omega))
  exact gp_ret (rPo_wit (Fs := fun _ => False) h ho q (fun i e => by unfold wtP at e; omega) (rvV_put hW (by omega) q (nP_rq (⟨n1, e5, by omega, by omega⟩ : nP σ2 M (109456 + 300 * (2 * k)) a.toInt) q2 (fun i c d w => by omega)) ⟨n2, w5, by omega, by omega⟩))
end TC
