section TE
variable {f M n m K lc st sp ex cf spl : Nat} {σ σ1 : tz_S} {A T : Nat → Nat → Int} {kd : Nat → Nat} {bb dr : Nat → Int} {wh : Nat → Bool} {D : Int} {va : Nat → Int} {bs cl : Nat → Nat} {tr : zTr} {mp mq : Nat → Nat → Int × Int} {wp wq : Nat → Int × Int} {hd : Int × Int} {ah : Bool}
set_option maxHeartbeats 2000000 in
theorem r_witness (h : rfV σ M ((n, m, A, kd, bb, wh, dr), ((D, T, va, bs, cl), tr, (st, sp, ex, cf, spl), mp, mq), wp, wq, hd, ah)) (ho : okF ((n, m, A, kd, bb, wh, dr), ((D, T, va, bs, cl), tr, (st, sp, ex, cf, spl), mp, mq), wp, wq, hd, ah)) (hf : 20000 ≤ f) : gp (X12_witness f (some M)) σ (rPo σ M (mWit ((n, m, A, kd, bb, wh, dr), ((D, T, va, bs, cl), tr, (st, sp, ex, cf, spl), mp, mq), wp, wq, hd, ah)).1 (mWit ((n, m, A, kd, bb, wh, dr), ((D, T, va, bs, cl), tr, (st, sp, ex, cf, spl), mp, mq), wp, wq, hd, ah)).2) := by
  obtain ⟨K, lc, up, fi, se, vr, fo, to, cd, ln, op⟩ := tr
  obtain ⟨hsl, hW, hH⟩ := rfV_un h
  obtain ⟨hr, hz, -⟩ := okF_un ho
  obtain ⟨⟨hc, h35⟩, hw, ⟨c4, -⟩, -, -, h7, -⟩ := rgV_un hsl
  obtain ⟨⟨z1, -⟩, z4, -⟩ := zI_un hz
  unfold X12_witness
  unfold mWit
  simp only
  refine gp_rI (mh_me hc) rfl ?_
  rw [c4]
  refine gp_if (fun z => ?_) (fun z => ?_)
  rotate_left
  · rw [show (2 : Int32) = nI 2 from rfl, nI_eq (by omega) (by omega)] at z
    rw [if_neg z]
    exact gp_ret (rPo_0 h rfl)
  rw [show (2 : Int32) = nI 2 from rfl, nI_eq (by omega) (by omega)] at z
  rw [if_pos z]
  have hT := h7 (by omega)
  obtain ⟨-, hI, hpm, hva, -⟩ := z4 (by omega)
  have htz := tSz_of hI hpm hr hva
  have hn := hw.1.2.2
  have hcl : ∀ c, c < n → cl c < 22 := fun c hc => by have := hpm.2.1 c hc; omega
  unfold X12_witness_L12
  refine gp_loop (I := fun (τ : Int32) (σ' : tz_S) => ∃ x, τ = nI x ∧ x ≤ n ∧ Rq M (fun _ => False) (fun _ => False) (fun i => 109456 ≤ i ∧ i < 115456) σ σ' ∧ rvV σ' M (fun y => if y < x then rd (vaP n m D T va bs cl y).1 (vaP n m D T va bs cl y).2 else wq y)) (fun τ _ => 100 - τ.toNatClampNeg) ?_ f _ _ ⟨0, rfl, Nat.zero_le _, Rq_refl, by simpa using hW⟩ (by omega)
  rintro KK l1 σ1 ⟨x, rfl, hx, hS, hv⟩ hK
  show gp (X12_witness_L12_body f (some M) (fun l1 => KK l1) (nI x)) σ1 _
  unfold X12_witness_L12_body
  have h1 := mSh_fr hc hS.1
  have ht1 : tz_F σ1 M 35 = nI 447200 := by rw [hS.2.1 35 (fun e => e) (by decide)]; exact h35
  have hT1 := rtV_rq hT hS (fun e => e) (fun e => e) (fun _ _ e => by omega) hn.1 hn.2 hcl
  have hw1 := rrV_rq hw hS (fun e => e) (fun e => e) (fun _ _ _ e => e)
  refine gp_rI (mh_me h1) rfl ?_
  rw [hw1.1.1]
  refine gp_if (fun y => ?_) (fun y => ?_)
  · rw [nI_leI (by omega) (by omega)] at y
    have e : x = n := by omega
    subst e
    exact gp_ret (rPo_wit (Fs := fun _ => False) h ho hS (fun i e => e) hv)
  rw [nI_leI (by omega) (by omega)] at y
  refine gp_rI (mh_me h1) rfl ?_
  rw [ht1]
  refine gp_cV (mh_me h1) (gp_mono (r_rowOf (bs := bs) h1 hw1.1.2.1 hn.2 (fun r hr => ⟨hT1.1 r hr, by have := hpm.1 r hr; omega⟩) (by omega) (by omega)) ?_)
  rintro _ σ0 ⟨z0, rfl⟩
  rw [z0]
  clear z0 σ0
  have fin : ∀ (σ2 σ3 : tz_S) (v w : Int), vaP n m D T va bs cl x = (v, w) → Rq M (fun j => j = 35) (fun _ => False) (fun _ => False) σ1 σ2 → Rq M (fun j => j = 35) (fun _ => False) (wtP x) σ2 σ3 → tz_F σ3 M 35 = nI 447200 → nP σ3 M (109456 + 300 * (2 * x)) (rd v w).1 → nP σ3 M (109456 + 300 * (2 * x + 1)) (rd v w).2 → gp (KK (nI (x + 1))) σ3 (rPo σ M ((n, m, A, kd, bb, wh, dr), ((D, T, va, bs, cl), (K, lc, up, fi, se, vr, fo, to, cd, ln, op), (st, sp, ex, cf, spl), mp, mq), (fun x => if x < n then vaP n m D T va bs cl x else wp x), (fun x => if x < n then rd (vaP n m D T va bs cl x).1 (vaP n m D T va bs cl x).2 else wq x), hd, ah) 0) := by
    intro σ2 σ3 v w e q1 q2 t3 p1 p2
    have q : Rq M (fun _ => False) (fun _ => False) (wtP x) σ1 σ3 := Rq_35 (Rq_trans (Rq_mono q1 (fun _ e => e) (fun _ e => e) (fun _ e => e.elim)) q2) (t3.trans ht1.symm)
    refine hK _ _ ⟨x + 1, rfl, by omega, Rq_trans hS (Rq_mono q (fun _ e => e) (fun _ e => e) (fun i e => by unfold wtP at e; omega)), ?_⟩ (by rw [nI_clamp (by omega), nI_clamp (by omega)]; omega)
    have hp := rvV_put hv (by omega) q p1 p2
    have ef : ups (fun y => if y < x then rd (vaP n m D T va bs cl y).1 (vaP n m D T va bs cl y).2 else wq y) x ((rd v w).1, (rd v w).2) = fun y => if y < x + 1 then rd (vaP n m D T va bs cl y).1 (vaP n m D T va bs cl y).2 else wq y := by
      funext y
      by_cases e2 : y = x
      · rw [e2, ups_s, if_pos (by omega), e]
      · rw [ups_n _ _ e2]
        by_cases e3 : y < x
        · rw [if_pos e3, if_pos (by omega)]
        · rw [if_neg e3, if_neg (by omega)]
    rw [ef] at hp
    exact hp
  unfold X12_witness_b52
  rcases hpm.2.2.2.2.2 x (by omega) with ⟨r, hrm, hbr⟩ | ⟨c, hcn, hcc⟩
  · have hix : ix bs x m = some r := ix_first hrm hbr (fun i hi e => by have := hpm.2.2.1 i r (by omega) hrm (e.trans hbr.symm); omega)
    have hva2 : vaP n m D T va bs cl x = (amt n T va r, D) := by unfold vaP; rw [hix]
    have hne : ¬ eM (some r) = -1 := fun q => by have := (eM_neg (x := some r) (fun k e => by cases e; omega)).1 q; cases this
    rw [hix]
    refine gp_f hne ?_
    refine gp_cV (mh_me h1) (gp_mono (r_sumOf h1 ht1 (Nat.le_refl _) (by omega) hw1.1.1 hn.1 hn.2 hT1 htz hrm hcl (by omega)) ?_)
    rintro _ σ2 ⟨rfl, hP2, k2, hk2, h352, hv2⟩
    have h2 := mSh_fr h1 hP2.1
    obtain ⟨kD, d1, d2⟩ := nP_pq hT1.2.2.1 hP2 (by omega)
    have hkD := nV_le d1 htz.2.1
    refine gp_f hne ?_
    refine gp_cV (mh_me h2) (gp_mono (r_again (x := 0) h2 h352 d1 (by omega) (by omega) (by omega)) ?_)
    rintro _ σ3 ⟨rfl, hP3, h353, hv3⟩
    have h3 := mSh_fr h2 hP3.1
    refine r_witP h3 h353 (by omega) (by omega) (by omega) (nV_pq hv2 hP3 (Or.inl (by omega))) hv3 htz.1 (by omega) (by omega) (by omega) (by omega) (by omega) (by omega) hf (fun σ4 g1 g2 g3 g4 => ?_)
    exact fin σ3 σ4 _ _ hva2 (Rq_trans (Rq_pq hP2 rfl (fun j a b c => by omega)) (Rq_pq hP3 rfl (fun j a b c => by omega))) g1 g2 g3 g4
  · have hix : ix bs x m = none := ix_no (fun i hi e => hpm.2.2.2.2.1 i c hi hcn (e.trans hcc.symm))
    have hix2 : ix cl x n = some c := ix_first hcn hcc (fun i hi e => by have := hpm.2.2.2.1 i c (by omega) hcn (e.trans hcc.symm); omega)
    have hva2 : vaP n m D T va bs cl x = (va c, 1) := by unfold vaP; rw [hix]; simp only [hix2]
    rw [hix]
    refine gp_t rfl ?_
    unfold X12_valueAt
    refine gp_cB (gp_ret ?_)
    rw [at_v]
    obtain ⟨kV, d1, d2⟩ := hT1.2.2.2.2 c hcn
    rw [hcc] at d1 d2
    have hkV := nV_le d1 (htz.2.2.2.1 c hcn)
    refine gp_cV (mh_me h1) (gp_mono (r_again h1 ht1 d1 (by omega) (by omega) (by omega)) ?_)
    rintro _ σ2 ⟨rfl, hP2, h352, hv2⟩
    have h2 := mSh_fr h1 hP2.1
    refine gp_t rfl ?_
    refine gp_cV (mh_me h2) (gp_mono (r_plainOf (v := 1) h2 h352 (by decide) (by omega) (by omega)) ?_)
    rintro _ σ3 ⟨rfl, hP3, k3, hk3, h353, hv3⟩
    have h3 := mSh_fr h2 hP3.1
    refine r_witP h3 h353 (by omega) (by omega) (by omega) (nV_pq hv2 hP3 (Or.inl (by omega))) hv3 (by decide) (by omega) (by omega) (by omega) (by omega) (by omega) (by omega) hf (fun σ4 g1 g2 g3 g4 => ?_)
    exact fin σ3 σ4 _ _ hva2 (Rq_trans (Rq_pq hP2 rfl (fun j a b c => by omega)) (Rq_pq hP3 rfl (fun j a b c => by omega))) g1 g2 g3 g4
end TE
