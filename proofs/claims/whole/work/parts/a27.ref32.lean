/-! ===== the reference: conflict, the other side, whole ===== -/
section SH
variable {f M n m K lc s : Nat} {σ σ1 : tz_S} {up fi se : Nat → Option Nat} {vr : Nat → Nat} {fo to : Nat → Int} {cd : Nat → Bool} {ln : Nat → Nat} {mq : Nat → Nat → Int × Int} {T : Nat → Nat → Int} {D w : Int} {va : Nat → Int} {bs cl : Nat → Nat} {p pre q : List (Nat × Bool)} {Q : Unit → tz_S → Prop}
theorem fL_one : ∃ b, fL vr fo (vr s) ((s, false) :: q) none = some b := by
  have h : oL (fL vr fo (vr s) ((s, false) :: q) none) (fo s + 1) := fL_iff.2 (Or.inr ⟨s, List.mem_cons_self, rfl, Int.le_refl _⟩)
  obtain ⟨b, hb, -⟩ := h
  exact ⟨b, hb⟩
set_option maxRecDepth 20000 in
set_option maxHeartbeats 4000000 in
theorem r_cfS (h : mSh σ M) (ht : tz_F σ M 35 = nI 447200) (h0 : tz_F σ M 0 = nI n) (hn : n ≤ 10) (hm : m ≤ 12) (hT : rtV σ M n m D T va bs cl) (hpm : pmI n m bs cl) (hk : rkV σ M K lc up fi se vr to cd ln) (hM : rmV σ M lc mq) (ho : roV σ M p.reverse fo) (hp : p = pre ++ (s, true) :: q) (hl : p.length ≤ 24) (hs : s < K) (hK : K < 310) (hlc : lc < 152) (hv : ∀ s' b, (s', b) ∈ (s, false) :: q → s' < K ∧ fi s' ≠ none ∧ vr s' < n ∧ -1000000000000000000 ≤ fo s' ∧ fo s' ≤ 1000000000000000000) (hf : 2000 ≤ f) :
    gp (X12_conflict_b196 f (some M) (nI q.length)) σ (fun _ σ' => Rq M gqF (gqA M) gqP σ σ' ∧ tz_F σ' M 24 = nI K ∧ rtV σ' M n m D T (mvV n cl va (vr s) (fL vr fo (vr s) ((s, false) :: q) none)) bs cl ∧ rkV σ' M (K + 1) (lc + 1) (ups up K (some s)) (ups fi K none) (fun j => if j = K then none else if some s = some j then some K else se j) vr to (ups cd K false) (ups ln K lc) ∧ rmV σ' M (lc + 1) (ups mq lc (fun _ => (0, 1))) ∧ roV σ' M ((s, false) :: q).reverse fo ∧ rbV σ' M n (fun x => fU vr fo x ((s, false) :: q) none) (fun x => fL vr fo x ((s, false) :: q) none)) := by
  have hcl : ∀ c, c < n → cl c < 22 := fun c hc => by have := hpm.2.1 c hc; omega
  have hle : q.length + 1 ≤ p.length := by rw [hp]; simp
  have hl2 : ((s, false) :: q).reverse.length ≤ 24 := by simp; omega
  unfold X12_conflict_b196
  refine gp_t (Int32.not_lt.1 (nI_pos (by omega))) ?_
  rw [nI_1]
  refine gp_wI (mh_me h) rfl ?_
  have ha : mSh (tz_sF σ M 25 (nI (q.length + 1))) M := h
  refine gp_rR (mh_me ha) rfl ?_
  refine gp_sZ (j := q.length) (mh_17 ha) (by omega) (by omega) rfl (Or.inr rfl) ?_
  have hb : mSh (tz_sA (tz_sF σ M 25 (nI (q.length + 1))) (M + 17) q.length 1) M := h
  have qb : Rq M (fun k => k = 25) (fun x => x = M + 17) (fun _ => False) σ (tz_sA (tz_sF σ M 25 (nI (q.length + 1))) (M + 17) q.length 1) := Rq_trans (Rq_F rfl) (Rq_A rfl (by omega))
  have hob := roV_turn ho hp
  generalize tz_sA (tz_sF σ M 25 (nI (q.length + 1))) (M + 17) q.length 1 = σb at *
  have hkb := rkV_rq hk qb (by decide) (by decide) (fun x a b => by omega) (fun _ _ _ e => e) (by omega)
  have hTb := rtV_rq hT qb (by omega) (by omega) (fun _ _ e => e) hn hm hcl
  have hMb := rmV_rq hM qb (fun _ _ _ e => e) (by omega)
  have htb : tz_F σb M 35 = nI 447200 := by rw [qb.2.1 35 (by decide) (by decide)]; exact ht
  refine gp_cV (mh_me hb) (gp_mono (r_takeBounds (vr := vr) (n := n) hb htb hob hl2 (fun s' b hm => ?_) hn hf) ?_)
  · obtain ⟨v1, v2, v3⟩ := hv s' b (List.mem_reverse.1 hm)
    obtain ⟨-, -, -, -, -, -, a7⟩ := hkb.2 s' v1
    exact ⟨by omega, (a7 v2).1, v3⟩
  rintro _ σc ⟨qc, hbc⟩
  have hc := mSh_fr hb qc.1
  have hoc := roV_rq hob qc (fun e => e) (by unfold tkA; omega) (by unfold tkA; omega) (fun _ _ _ e => by unfold tkP at e; omega) hl2
  have hkc := rkV_rq hkb qc (fun e => e) (fun e => e) (fun x a b => by unfold tkA; omega) (fun _ _ _ e => by unfold tkP at e; omega) (by omega)
  have hTc := rtV_rq hTb qc (by unfold tkA; omega) (by unfold tkA; omega) (fun _ _ e => by unfold tkP at e; omega) hn hm hcl
  have hMc := rmV_rq hMb qc (fun _ _ _ e => by unfold tkP at e; omega) (by omega)
  have htc : tz_F σc M 35 = nI 447200 := by rw [qc.2.1 35 (fun e => e) (by decide)]; exact htb
  refine gp_rR (mh_me hc) rfl ?_
  refine gp_aI (j := q.length) (mh_16 hc) (by decide) (by omega) (by omega) rfl ?_
  have hat : ((s, false) :: q).reverse[q.length]? = some (s, false) := rev_at (pre := []) rfl
  rw [(hoc.2 _ _ _ hat).1]
  have hnn := r_newNode (u := some s) hc htc hkc hMc hK hlc hf
  rw [show eN (some s) = nI s from rfl] at hnn
  refine gp_cV (mh_me hc) (gp_mono hnn ?_)
  clear hnn
  rintro _ σd ⟨rfl, qd, hkd, hMd⟩
  have hd := mSh_fr hc qd.1
  refine gp_wI (mh_me hd) rfl ?_
  have he : mSh (tz_sF σd M 24 (nI K)) M := hd
  refine gp_rR (mh_me he) rfl ?_
  refine gp_rI (mh_me he) rfl ?_
  rw [show tz_F (tz_sF σd M 24 (nI K)) M 24 = nI K from tz_u2_same _ _ _ _]
  refine gp_sI (j := s) (mh_13 he) (by decide) (by omega) (by omega) rfl ?_
  have hg : mSh (tz_sA (tz_sF σd M 24 (nI K)) (M + 13) s (nI K)) M := hd
  have qg : Rq M (fun k => k = 24) (fun x => x = M + 13) (fun _ => False) σd (tz_sA (tz_sF σd M 24 (nI K)) (M + 13) s (nI K)) := Rq_trans (Rq_F rfl) (Rq_A rfl (by omega))
  have hkg : rkV (tz_sA (tz_sF σd M 24 (nI K)) (M + 13) s (nI K)) M (K + 1) (lc + 1) (ups up K (some s)) (ups fi K none) (ups (ups se K none) s (some K)) vr to (ups cd K false) (ups ln K lc) := by
    refine rkV_se (rkV_rq hkd (Rq_F (As := fun _ => False) (Ps := fun _ => False) (Fs := fun k => k = 24) rfl) (by decide) (by decide) (fun _ _ _ e => e) (fun _ _ _ e => e) (by omega))
  rw [se_fn hs] at hkg
  have h24g : tz_F (tz_sA (tz_sF σd M 24 (nI K)) (M + 13) s (nI K)) M 24 = nI K := tz_u2_same _ _ _ _
  generalize tz_sA (tz_sF σd M 24 (nI K)) (M + 13) s (nI K) = σg at *
  have hog : roV σg M ((s, false) :: q).reverse fo := roV_rq (roV_rq hoc qd (by decide) (by unfold nnA; omega) (by unfold nnA; omega) (fun _ _ _ e => by omega) hl2) qg (by decide) (by omega) (by omega) (fun _ _ _ e => e) hl2
  have hbg : rbV σg M n (fun x => fU vr fo x ((s, false) :: q).reverse none) (fun x => fL vr fo x ((s, false) :: q).reverse none) := rbV_rq (rbV_rq hbc qd (by unfold nnA; omega) (fun _ _ _ e => by omega) hn) qg (by omega) (fun _ _ _ e => e) hn
  have hbg2 : rbV σg M n (fun x => fU vr fo x ((s, false) :: q) none) (fun x => fL vr fo x ((s, false) :: q) none) := rbV_cong hbg (fun x _ => fU_rev) (fun x _ => fL_rev)
  have hTg : rtV σg M n m D T va bs cl := rtV_rq (rtV_rq hTc qd (by unfold nnA; omega) (by unfold nnA; omega) (fun _ _ e => by omega) hn hm hcl) qg (by omega) (by omega) (fun _ _ e => e) hn hm hcl
  have hMg : rmV σg M (lc + 1) (ups mq lc (fun _ => (0, 1))) := rmV_rq hMd qg (fun _ _ _ e => e) (by omega)
  have qall : Rq M gqF (gqA M) gqP σ σg := by
    refine Rq_trans (Rq_mono qb ?_ ?_ ?_) (Rq_trans (Rq_mono qc ?_ ?_ ?_) (Rq_trans (Rq_mono qd ?_ ?_ ?_) (Rq_mono qg ?_ ?_ ?_)))
    all_goals
      intro x e
      first
        | exact e.elim
        | (unfold gqF; omega)
        | (unfold gqA; omega)
        | (unfold gqP; omega)
        | (unfold gqA; unfold tkA at e; omega)
        | (unfold gqP; unfold tkP at e; omega)
        | (unfold gqA; unfold nnA at e; omega)
  have h0g : tz_F σg M 0 = nI n := by rw [qall.2.1 0 (by unfold gqF; omega) (by decide)]; exact h0
  obtain ⟨v1, v2, v3, -⟩ := hv s false List.mem_cons_self
  refine gp_rR (mh_me hg) rfl ?_
  refine gp_aI (j := s) (mh_11 hg) (by decide) (by omega) (by omega) rfl ?_
  obtain ⟨-, -, -, -, -, -, a7⟩ := hkg.2 s (by omega)
  rw [(a7 (by rw [ups_n _ _ (by omega)]; exact v2)).1]
  obtain ⟨b, hbv⟩ := fL_one (vr := vr) (fo := fo) (s := s) (q := q)
  refine gp_cV (mh_me hg) (gp_mono (r_columnAt (cl := cl) hg h0g hn (fun c hc => ⟨hTg.2.1 c hc, by have := hcl c hc; omega⟩) (by omega) hf) ?_)
  rintro _ σ0 ⟨z0, rfl⟩
  rw [z0]
  clear z0 σ0
  unfold X12_conflict_b310
  have don : mvV n cl va (vr s) (fL vr fo (vr s) ((s, false) :: q) none) = va → gp (pz_ret ()) σg (fun _ σ' => Rq M gqF (gqA M) gqP σ σ' ∧ tz_F σ' M 24 = nI K ∧ rtV σ' M n m D T (mvV n cl va (vr s) (fL vr fo (vr s) ((s, false) :: q) none)) bs cl ∧ rkV σ' M (K + 1) (lc + 1) (ups up K (some s)) (ups fi K none) (fun j => if j = K then none else if some s = some j then some K else se j) vr to (ups cd K false) (ups ln K lc) ∧ rmV σ' M (lc + 1) (ups mq lc (fun _ => (0, 1))) ∧ roV σ' M ((s, false) :: q).reverse fo ∧ rbV σ' M n (fun x => fU vr fo x ((s, false) :: q) none) (fun x => fL vr fo x ((s, false) :: q) none)) := by
    intro e
    rw [e]
    exact gp_ret ⟨qall, h24g, hTg, hkg, hMg, hog, hbg2⟩
  cases hx : ix cl (vr s) n with
  | none =>
    refine gp_t rfl (don ?_)
    unfold mvV
    rw [hx]
  | some c =>
    obtain ⟨hcn, hcs⟩ := ix_some hx
    have hmv : mvV n cl va (vr s) (fL vr fo (vr s) ((s, false) :: q) none) = if va c < b then ups va c b else va := by
      unfold mvV
      rw [hx, hbv]
      rfl
    refine gp_f (fun q => by have := (eM_neg (x := some c) (fun k e => by cases e; omega)).1 q; cases this) ?_
    unfold X12_valueAt X12_boundAt
    refine gp_cB (gp_ret ?_)
    refine gp_cB (gp_ret ?_)
    rw [at_v, show (10456 : Int32) + 300 * (2 * nI (vr s) + 1) = nI (10456 + 300 * (2 * vr s + 1)) from at_b (vr s) 1]
    obtain ⟨k1, e1, e2⟩ := hTg.2.2.2.2 c hcn
    rw [hcs] at e1 e2
    obtain ⟨-, -, -, b4⟩ := hbg2 (vr s) v3
    obtain ⟨k2, e3, e4⟩ := b4 b hbv
    refine gp_cV (mh_me hg) (gp_mono (r_compare hg e1 e3 (by omega) (by omega) hf) ?_)
    rintro _ σ0 ⟨z0, rfl⟩
    rw [z0]
    clear z0 σ0
    refine gp_if (fun y => ?_) (fun y => ?_)
    · rw [isg_n.2.2.2] at y
      refine don ?_
      rw [hmv, if_neg (by omega)]
    · rw [isg_n.2.2.2] at y
      refine gp_cB (gp_ret ?_)
      refine gp_cB (gp_ret ?_)
      refine gp_cV (mh_me hg) (gp_mono (r_copyTo (to := 3856 + 300 * vr s) hg e3 (by omega) (by omega) (Or.inl (by omega)) hf) ?_)
      rintro _ σh ⟨hPh, hFh, hvh⟩
      have qh : Rq M (fun _ => False) (fun _ => False) (fun i => 3856 + 300 * vr s ≤ i ∧ i < 3856 + 300 * vr s + 16) σg σh := Rq_pqF hPh (by rw [hFh]) (fun j a b c => by omega)
      refine gp_ret ⟨Rq_trans qall (Rq_mono qh (fun _ e => e.elim) (fun _ e => e.elim) (fun x e => by unfold gqP; omega)), by rw [hFh]; exact h24g, ?_, ?_, ?_, ?_, ?_⟩
      · rw [hmv, if_pos (by omega)]
        rw [← hcs] at hPh hvh
        exact rtV_mv hTg hn hm hpm hcn hPh hvh (by omega)
      · exact rkV_rq hkg qh (fun e => e) (fun e => e) (fun _ _ _ e => e) (fun _ _ _ e => by omega) (by omega)
      · exact rmV_rq hMg qh (fun _ _ _ e => by omega) (by omega)
      · exact roV_rq hog qh (fun e => e) (fun e => e) (fun e => e) (fun _ _ _ e => by omega) hl2
      · exact rbV_rq hbg2 qh (fun e => e) (fun _ _ _ e => by omega) hn
end SH
