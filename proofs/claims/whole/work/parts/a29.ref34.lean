/-! ===== the reference: split, whole ===== -/
section SJ
variable {f M n m K lc k x spl : Nat} {σ σ1 : tz_S} {up fi se : Nat → Option Nat} {vr : Nat → Nat} {fo to : Nat → Int} {cd : Nat → Bool} {ln : Nat → Nat} {mq : Nat → Nat → Int × Int} {T : Nat → Nat → Int} {D v : Int} {va : Nat → Int} {bs cl : Nat → Nat} {p : List (Nat × Bool)}
theorem roV_push (ho : roV σ M p.reverse fo) (hk : ∀ s b, (s, b) ∈ p → s ≠ k) (hl : p.length < 24) (h25 : tz_F σ1 M 25 = nI (p.length + 1)) (h16 : tz_A σ1 (M + 16) p.length = nI k) (h17 : tz_A σ1 (M + 17) p.length = 0) (hv : nP σ1 M (440000 + 300 * p.length) v) (hA : ∀ i, i < p.length → tz_A σ1 (M + 16) i = tz_A σ (M + 16) i ∧ tz_A σ1 (M + 17) i = tz_A σ (M + 17) i) (hP : ∀ i, 440000 ≤ i → i < 440000 + 300 * p.length → tz_A σ1 (M + 20) i = tz_A σ (M + 20) i) : roV σ1 M ((k, true) :: p).reverse (ups fo k v) := by
  refine ⟨by rw [h25]; simp, fun i s b hi => ?_⟩
  rw [List.reverse_cons] at hi
  by_cases z : i < p.length
  · rw [List.getElem?_append_left (by simpa using z)] at hi
    obtain ⟨b1, b2, b3⟩ := ho.2 i s b hi
    have hne := hk s b (List.mem_reverse.1 (List.mem_of_getElem? hi))
    rw [(hA i z).1, (hA i z).2, ups_n _ _ hne]
    obtain ⟨y, y1, y2⟩ := b3
    exact ⟨b1, b2, y, nV_congr y1 (fun j a c => hP j (by omega) (by omega)), y2⟩
  · rw [List.getElem?_append_right (by simpa using z)] at hi
    have e : i = p.length := by
      by_cases y : i = p.length
      · exact y
      · rw [List.getElem?_eq_none (by simp; omega)] at hi; cases hi
    subst e
    simp at hi
    obtain ⟨rfl, rfl⟩ := hi
    rw [ups_s]
    exact ⟨h16, by rw [h17]; rfl, hv⟩
theorem r_split_no {s0 : Int32} (h : mSh σ M) (h25 : tz_F σ M 25 = nI p.length) (h11 : tz_F σ M 11 = nI spl) (hl : p.length ≤ 24) (hs : spl ≤ 150) (hc : p.length = 24 ∨ spl = 150 ∨ s0 ≠ 0) :
    gp (X12_split_b52 f (some M) (nI x) (nI 447200) s0) σ (fun _ σ' => σ' = tz_sF (tz_sF σ M 35 (nI 447200)) M 7 4) := by
  unfold X12_split_b52 X12_split_b83
  refine gp_wI (mh_me h) rfl ?_
  have ha : mSh (tz_sF σ M 35 (nI 447200)) M := h
  have no : gp (pz_uB (pz_wF 12 7 (some M) (.int 4)) (pz_ret ())) (tz_sF σ M 35 (nI 447200)) (fun _ σ' => σ' = tz_sF (tz_sF σ M 35 (nI 447200)) M 7 4) := gp_wI (mh_me ha) rfl (gp_ret rfl)
  refine gp_rI (mh_me ha) rfl ?_
  rw [show tz_F (tz_sF σ M 35 (nI 447200)) M 25 = nI p.length from (tz_u2_ne _ _ (Or.inr (by decide))).trans h25]
  refine gp_if (fun _ => no) (fun z => ?_)
  rw [show (24 : Int32) = nI 24 from rfl, nI_eq (by omega) (by omega)] at z
  refine gp_rI (mh_me ha) rfl ?_
  rw [show tz_F (tz_sF σ M 35 (nI 447200)) M 11 = nI spl from (tz_u2_ne _ _ (Or.inr (by decide))).trans h11]
  refine gp_if (fun _ => no) (fun y => ?_)
  rw [show (150 : Int32) = nI 150 from rfl, nI_eq (by omega) (by omega)] at y
  exact gp_f (by rcases hc with w | w | w; exact absurd w z; exact absurd w y; exact w) no
set_option maxRecDepth 20000 in
set_option maxHeartbeats 4000000 in
theorem r_split_do (h : mSh σ M) (h24 : tz_F σ M 24 = nI k) (h11 : tz_F σ M 11 = nI spl) (hn : n ≤ 10) (hm : m ≤ 12) (hT : rtV σ M n m D T va bs cl) (hpm : pmI n m bs cl) (hk : rkV σ M K lc up fi se vr to cd ln) (hM : rmV σ M lc mq) (ho : roV σ M p.reverse fo) (hl : p.length < 24) (hs : spl < 150) (hkK : k < K) (hK : K < 310) (hlc : lc ≤ 152) (hln : ln k + 1 = lc) (hx : x < n) (hsp : nP σ M (16456 + 300 * k) v) (hvb : -1000000000000000000 ≤ v ∧ v ≤ 1000000000000000000) (hpk : ∀ s b, (s, b) ∈ p → s < k ∧ fi s ≠ none ∧ vr s < n ∧ -1000000000000000000 ≤ fo s ∧ fo s ≤ 1000000000000000000) (hf : 2000 ≤ f) :
    gp (X12_split_b52 f (some M) (nI x) (nI 447200) 0) σ (fun _ σ' => Rq M (fun j => j = 11 ∨ j = 35 ∨ gqF j) (gqA M) gqP σ σ' ∧ (tz_F σ' M 35 = nI 447200 ∧ tz_F σ' M 11 = nI (spl + 1) ∧ tz_F σ' M 24 = nI K) ∧ rtV σ' M n m D T va bs cl ∧ rkV σ' M (K + 1) lc (ups up K (some k)) (ups (ups fi k (some K)) K none) (ups se K none) (ups vr k x) (ups to k v) (ups cd K false) (ups ln K (ln k)) ∧ rmV σ' M lc (ups mq (ln k) (fun _ => (0, 1))) ∧ roV σ' M ((k, true) :: p).reverse (ups fo k v) ∧ rbV σ' M n (fun y => fU (ups vr k x) (ups fo k v) y ((k, true) :: p) none) (fun y => fL (ups vr k x) (ups fo k v) y ((k, true) :: p) none)) := by
  have hcl : ∀ c, c < n → cl c < 22 := fun c hc => by have := hpm.2.1 c hc; omega
  have h25 : tz_F σ M 25 = nI p.length := by rw [ho.1]; simp
  have h23 := hk.1.2
  have h15 := hk.1.1
  unfold X12_split_b52
  refine gp_wI (mh_me h) rfl ?_
  have ha : mSh (tz_sF σ M 35 (nI 447200)) M := h
  refine gp_rI (mh_me ha) rfl ?_
  rw [show tz_F (tz_sF σ M 35 (nI 447200)) M 25 = nI p.length from (tz_u2_ne _ _ (Or.inr (by decide))).trans h25]
  refine gp_f (by rw [show (24 : Int32) = nI 24 from rfl, nI_eq (by omega) (by omega)]; omega) ?_
  refine gp_rI (mh_me ha) rfl ?_
  rw [show tz_F (tz_sF σ M 35 (nI 447200)) M 11 = nI spl from (tz_u2_ne _ _ (Or.inr (by decide))).trans h11]
  refine gp_f (by rw [show (150 : Int32) = nI 150 from rfl, nI_eq (by omega) (by omega)]; omega) ?_
  refine gp_t rfl ?_
  refine gp_rI (mh_me ha) rfl ?_
  rw [show tz_F (tz_sF σ M 35 (nI 447200)) M 11 = nI spl from (tz_u2_ne _ _ (Or.inr (by decide))).trans h11, nI_1]
  refine gp_wI (mh_me ha) rfl ?_
  have hb : mSh (tz_sF (tz_sF σ M 35 (nI 447200)) M 11 (nI (spl + 1))) M := h
  have qb : Rq M (fun j => j = 11 ∨ j = 35) (fun _ => False) (fun _ => False) σ (tz_sF (tz_sF σ M 35 (nI 447200)) M 11 (nI (spl + 1))) := Rq_trans (Rq_F (Or.inr rfl)) (Rq_F (Or.inl rfl))
  have fb11 : tz_F (tz_sF (tz_sF σ M 35 (nI 447200)) M 11 (nI (spl + 1))) M 11 = nI (spl + 1) := tz_u2_same _ _ _ _
  have fb35 : tz_F (tz_sF (tz_sF σ M 35 (nI 447200)) M 11 (nI (spl + 1))) M 35 = nI 447200 := (tz_u2_ne _ _ (Or.inr (by decide))).trans (tz_u2_same _ _ _ _)
  have fbA : tz_A (tz_sF (tz_sF σ M 35 (nI 447200)) M 11 (nI (spl + 1))) = tz_A σ := rfl
  generalize tz_sF (tz_sF σ M 35 (nI 447200)) M 11 (nI (spl + 1)) = σb at *
  have hkb := rkV_rq hk qb (by decide) (by decide) (fun _ _ _ e => e) (fun _ _ _ e => e) (by omega)
  have hTb := rtV_rq hT qb (fun e => e) (fun e => e) (fun _ _ e => e) hn hm hcl
  have hMb := rmV_rq hM qb (fun _ _ _ e => e) hlc
  have hob := roV_rq ho qb (by decide) (fun e => e) (fun e => e) (fun _ _ _ e => e) (by simp; omega)
  have hspb := nP_rq hsp qb (fun _ _ _ e => e)
  have f24 : tz_F σb M 24 = nI k := by rw [qb.2.1 24 (by decide) (by decide)]; exact h24
  have f25 : tz_F σb M 25 = nI p.length := by rw [qb.2.1 25 (by decide) (by decide)]; exact h25
  have f23 := hkb.1.2
  have f15 := hkb.1.1
  refine gp_rI (mh_me hb) rfl ?_
  rw [f24]
  refine gp_rR (mh_me hb) rfl ?_
  refine gp_sZ (j := k) (mh_9 hb) (by omega) (by omega) rfl (Or.inr rfl) ?_
  have hc : mSh (tz_sA σb (M + 9) k 1) M := hb
  refine gp_rR (mh_me hc) rfl ?_
  refine gp_sI (j := k) (mh_11 hc) (by decide) (by omega) (by omega) rfl ?_
  have hd : mSh (tz_sA (tz_sA σb (M + 9) k 1) (M + 11) k (nI x)) M := hb
  refine gp_rI (mh_me hd) rfl ?_
  simp only [sA_F]
  rw [f23, show nI lc - 1 = nI (ln k) by rw [← hln]; exact nI_p1 _]
  refine gp_wI (mh_me hd) rfl ?_
  have he : mSh (tz_sF (tz_sA (tz_sA σb (M + 9) k 1) (M + 11) k (nI x)) M 23 (nI (ln k))) M := hb
  have hke := rkV_split (x := x) (lc2 := ln k) hkb hspb
  have qe : Rq M (fun j => j = 23) (fun y => y = M + 9 ∨ y = M + 11) (fun _ => False) σb (tz_sF (tz_sA (tz_sA σb (M + 9) k 1) (M + 11) k (nI x)) M 23 (nI (ln k))) := Rq_trans (Rq_trans (Rq_A (Or.inl rfl) (by omega)) (Rq_A (Or.inr rfl) (by omega))) (Rq_F rfl)
  have e23 : tz_F (tz_sF (tz_sA (tz_sA σb (M + 9) k 1) (M + 11) k (nI x)) M 23 (nI (ln k))) M 23 = nI (ln k) := tz_u2_same _ _ _ _
  generalize tz_sF (tz_sA (tz_sA σb (M + 9) k 1) (M + 11) k (nI x)) M 23 (nI (ln k)) = σe at *
  have g25 : tz_F σe M 25 = nI p.length := by rw [qe.2.1 25 (by decide) (by decide)]; exact f25
  refine gp_rR (mh_me he) rfl ?_
  refine gp_rI (mh_me he) rfl ?_
  rw [g25]
  refine gp_sI (j := p.length) (mh_16 he) (by decide) (by omega) (by omega) rfl ?_
  have hg : mSh (tz_sA σe (M + 16) p.length (nI k)) M := he
  unfold X12_splitAt X12_foundAt
  refine gp_cB (gp_ret ?_)
  rw [at_s]
  refine gp_rI (mh_me hg) rfl ?_
  rw [show tz_F (tz_sA σe (M + 16) p.length (nI k)) M 25 = nI p.length from g25]
  refine gp_cB (gp_ret ?_)
  rw [at_o]
  have qg : Rq M (fun j => j = 23) (fun y => y = M + 9 ∨ y = M + 11 ∨ y = M + 16) (fun _ => False) σb (tz_sA σe (M + 16) p.length (nI k)) := Rq_trans (Rq_mono qe (fun _ e => e) (fun _ e => by omega) (fun _ e => e)) (Rq_A (by omega) (by omega))
  obtain ⟨k1, s1, s2⟩ := nP_rq hspb qg (fun _ _ _ e => e)
  refine gp_cV (mh_me hg) (gp_mono (r_copyTo (to := 440000 + 300 * p.length) hg s1 (by omega) (by omega) (Or.inr (by omega)) hf) ?_)
  rintro _ σi ⟨hPi, hFi, hvi⟩
  have hi := mSh_fr hg hPi.1
  have hFi2 : tz_F σi M = tz_F σe M := hFi
  refine gp_rR (mh_me hi) rfl ?_
  refine gp_rI (mh_me hi) rfl ?_
  rw [hFi2, g25]
  refine gp_sZ (j := p.length) (mh_17 hi) (by omega) (by omega) rfl (Or.inl rfl) ?_
  have hj : mSh (tz_sA σi (M + 17) p.length 0) M := hi
  refine gp_rI (mh_me hj) rfl ?_
  rw [show tz_F (tz_sA σi (M + 17) p.length 0) M 25 = nI p.length from by rw [sA_F, hFi2]; exact g25, nI_1]
  refine gp_wI (mh_me hj) rfl ?_
  have hk1 : mSh (tz_sF (tz_sA σi (M + 17) p.length 0) M 25 (nI (p.length + 1))) M := hi
  have qi : Rq M (fun _ => False) (fun _ => False) (fun i => 440000 + 300 * p.length ≤ i ∧ i < 440000 + 300 * p.length + 16) (tz_sA σe (M + 16) p.length (nI k)) σi := Rq_pqF hPi (by rw [hFi]) (fun j a b c => by omega)
  have qk : Rq M (fun j => j = 25) (fun y => y = M + 16 ∨ y = M + 17) (fun i => 440000 + 300 * p.length ≤ i ∧ i < 440000 + 300 * p.length + 16) σe (tz_sF (tz_sA σi (M + 17) p.length 0) M 25 (nI (p.length + 1))) := Rq_trans (Rq_trans (Rq_trans (Rq_A (Or.inl rfl) (by omega)) (Rq_mono qi (fun _ e => e.elim) (fun _ e => e.elim) (fun _ e => e))) (Rq_A (Or.inr rfl) (by omega))) (Rq_F rfl)
  have k16 : ∀ j, tz_A (tz_sF (tz_sA σi (M + 17) p.length 0) M 25 (nI (p.length + 1))) (M + 16) j = if j = p.length then nI k else tz_A σe (M + 16) j := fun j => by
    rw [sF_A, sA_at, if_neg (by omega), Rq_get qi (by omega) (by omega) (fun e => e), sA_at]; simp
  have k17 : ∀ j, tz_A (tz_sF (tz_sA σi (M + 17) p.length 0) M 25 (nI (p.length + 1))) (M + 17) j = if j = p.length then 0 else tz_A σe (M + 17) j := fun j => by
    rw [sF_A, sA_at, Rq_get qi (by omega) (by omega) (fun e => e), sA_at]; simp
  have kv : nP (tz_sF (tz_sA σi (M + 17) p.length 0) M 25 (nI (p.length + 1))) M (440000 + 300 * p.length) v := ⟨k1, nV_congr hvi (fun i _ _ => by rw [sF_A, sA_at, if_neg (by omega)]), by omega, by omega⟩
  have k25 : tz_F (tz_sF (tz_sA σi (M + 17) p.length 0) M 25 (nI (p.length + 1))) M 25 = nI (p.length + 1) := tz_u2_same _ _ _ _
  generalize tz_sF (tz_sA σi (M + 17) p.length 0) M 25 (nI (p.length + 1)) = σk at *
  have fk15 : tz_F σk M 15 = nI K := by rw [qk.2.1 15 (by decide) (by decide), qe.2.1 15 (by decide) (by decide)]; exact f15
  have fk23 : tz_F σk M 23 = nI (ln k) := by rw [qk.2.1 23 (by decide) (by decide)]; exact e23
  have fk35 : tz_F σk M 35 = nI 447200 := by rw [qk.2.1 35 (by decide) (by decide), qe.2.1 35 (by decide) (by decide)]; exact fb35
  refine gp_cV (mh_me hk1) (gp_mono (r_newNode0 (fr := nI k) hk1 fk35 fk15 fk23 hK (by omega) hf) ?_)
  rintro _ σl ⟨rfl, ql, hml⟩
  have nr := nnS_rq (σ := σk) (M := M) (K := K) (lc := ln k) (fr := nI k) (Ps := fun _ => False)
  have qkl : Rq M (fun j => j = 15 ∨ j = 23) (nnA M) (lvP (ln k)) σk σl := Rq_trans (Rq_mono nr (fun _ e => e) (fun _ e => e) (fun _ e => e.elim)) (Rq_mono ql (fun _ e => e.elim) (fun _ e => e.elim) (fun _ e => e))
  have hl1 := mSh_fr hk1 qkl.1
  refine gp_wI (mh_me hl1) rfl ?_
  have hl2 : mSh (tz_sF σl M 24 (nI K)) M := hl1
  refine gp_rR (mh_me hl2) rfl ?_
  refine gp_rI (mh_me hl2) rfl ?_
  rw [show tz_F (tz_sF σl M 24 (nI K)) M 24 = nI K from tz_u2_same _ _ _ _]
  refine gp_sI (j := k) (mh_12 hl2) (by decide) (by omega) (by omega) rfl ?_
  have hm1 : mSh (tz_sA (tz_sF σl M 24 (nI K)) (M + 12) k (nI K)) M := hl1
  have qlm : Rq M (fun j => j = 24) (fun y => y = M + 12) (fun _ => False) σl (tz_sA (tz_sF σl M 24 (nI K)) (M + 12) k (nI K)) := Rq_trans (Rq_F rfl) (Rq_A rfl (by omega))
  have qkm : Rq M (fun j => j = 15 ∨ j = 23 ∨ j = 24) (fun y => nnA M y ∨ y = M + 12) (lvP (ln k)) σk (tz_sA (tz_sF σl M 24 (nI K)) (M + 12) k (nI K)) := Rq_trans (Rq_mono qkl (fun _ e => by omega) (fun _ e => Or.inl e) (fun _ e => e)) (Rq_mono qlm (fun _ e => by omega) (fun _ e => Or.inr e) (fun _ e => e.elim))
  have m24 : tz_F (tz_sA (tz_sF σl M 24 (nI K)) (M + 12) k (nI K)) M 24 = nI K := tz_u2_same _ _ _ _
  have hkm : rkV (tz_sA (tz_sF σl M 24 (nI K)) (M + 12) k (nI K)) M (K + 1) (ln k + 1) (ups up K (some k)) (ups (ups fi k (some K)) K none) (ups se K none) (ups vr k x) (ups to k v) (ups cd K false) (ups ln K (ln k)) := by
    refine rkV_ext (nnS_rk (u := some k) hke hK) ?_ ?_ ?_ ?_ (by omega)
    · rw [qlm.2.1 15 (by decide) (by decide), ql.2.1 15 (fun e => e) (by decide)]
      unfold nnS
      simp [sF_at, sA_F]
    · rw [qlm.2.1 23 (by decide) (by decide), ql.2.1 23 (fun e => e) (by decide)]
      unfold nnS
      simp [sF_at, sA_F]
    · intro y j y1 y2 hj
      have e1 : tz_A σk y j = tz_A σe y j := by rw [Rq_get qk (by omega) (by omega) (by omega)]
      rw [sA_at, sF_A, Rq_get ql (x := y) (by omega) (by omega) (fun e => e)]
      unfold nnS
      simp only [sF_A, sA_at]
      rw [e1, show eN (some k) = nI k from rfl]
      by_cases c : y = M + 12 ∧ j = k
      · rw [if_pos c, if_pos c]
        rw [if_neg (by omega), if_neg (by omega), if_neg (by omega), if_neg (by omega), if_neg (by omega), if_neg (by omega)]
      · rw [if_neg c, if_neg c]
    · intro i i1 i2
      rw [qlm.2.2 i (by omega) (fun e => e), ql.2.2 i (by omega) (fun e => by unfold lvP at e; omega), nr.2.2 i (by omega) (fun e => e), qk.2.2 i (by omega) (by omega), (nnS_rq (Ps := fun _ => False)).2.2 i (by omega) (fun e => e), sA_at, if_neg (by omega)]
  have hmm : rmV (tz_sA (tz_sF σl M 24 (nI K)) (M + 12) k (nI K)) M lc (ups mq (ln k) (fun _ => (0, 1))) := by
    intro i j i1 j1
    by_cases e : i = ln k
    · rw [e, ups_s]
      exact ⟨nP_rq (hml j j1).1 qlm (fun _ _ _ e => e), nP_rq (hml j j1).2 qlm (fun _ _ _ e => e)⟩
    · rw [ups_n _ _ e]
      obtain ⟨g1, g2⟩ := hMb i j i1 j1
      exact ⟨nP_rq (nP_rq (nP_rq g1 qe (fun _ _ _ e => e)) qk (fun _ _ _ e => by omega)) qkm (fun _ _ _ e => by unfold lvP at e; omega), nP_rq (nP_rq (nP_rq g2 qe (fun _ _ _ e => e)) qk (fun _ _ _ e => by omega)) qkm (fun _ _ _ e => by unfold lvP at e; omega)⟩
  have hok : roV σk M ((k, true) :: p).reverse (ups fo k v) := by
    have hoe := roV_rq hob qe (by decide) (by omega) (by omega) (fun _ _ _ e => e) (by simp; omega)
    refine roV_push hoe (fun s b hmem => by have := (hpk s b hmem).1; omega) hl k25 (by rw [k16, if_pos rfl]) (by rw [k17, if_pos rfl]) kv (fun i hi => ⟨by rw [k16, if_neg (by omega)], by rw [k17, if_neg (by omega)]⟩) (fun i i1 i2 => qk.2.2 i (by omega) (by omega))
  have hlen : ((k, true) :: p).reverse.length ≤ 24 := by simp; omega
  have hom := roV_rq hok qkm (by decide) (by unfold nnA; omega) (by unfold nnA; omega) (fun _ _ _ e => by unfold lvP at e; omega) hlen
  have hTm := rtV_rq (rtV_rq (rtV_rq hTb qe (by omega) (by omega) (fun _ _ e => e) hn hm hcl) qk (by omega) (by omega) (fun _ _ e => by omega) hn hm hcl) qkm (by unfold nnA; omega) (by unfold nnA; omega) (fun _ _ e => by unfold lvP at e; omega) hn hm hcl
  have m35 : tz_F (tz_sA (tz_sF σl M 24 (nI K)) (M + 12) k (nI K)) M 35 = nI 447200 := by rw [qkm.2.1 35 (by decide) (by decide)]; exact fk35
  have qbm : Rq M (fun j => j = 11 ∨ j = 35 ∨ gqF j) (gqA M) gqP σ (tz_sA (tz_sF σl M 24 (nI K)) (M + 12) k (nI K)) := by
    refine Rq_trans (Rq_mono qb ?_ ?_ ?_) (Rq_trans (Rq_mono qe ?_ ?_ ?_) (Rq_trans (Rq_mono qk ?_ ?_ ?_) (Rq_mono qkm ?_ ?_ ?_)))
    all_goals
      intro y e
      first
        | exact e.elim
        | (unfold gqF; omega)
        | (unfold gqA; omega)
        | (unfold gqP; omega)
        | (unfold gqA; unfold nnA at e; omega)
        | (unfold gqP; unfold lvP at e; omega)
  have m11 : tz_F (tz_sA (tz_sF σl M 24 (nI K)) (M + 12) k (nI K)) M 11 = nI (spl + 1) := by
    rw [qkm.2.1 11 (by decide) (by decide), qk.2.1 11 (by decide) (by decide), qe.2.1 11 (by decide) (by decide)]; exact fb11
  generalize tz_sA (tz_sF σl M 24 (nI K)) (M + 12) k (nI K) = σm at *
  refine gp_cV (mh_me hm1) (gp_mono (r_takeBounds (vr := ups vr k x) (n := n) hm1 m35 hom hlen (fun s b hmem => ?_) hn hf) ?_)
  · rcases List.mem_cons.1 (List.mem_reverse.1 hmem) with e | e
    · cases e
      obtain ⟨-, -, -, -, -, -, a7⟩ := hkm.2 k (by omega)
      rw [ups_s] at a7 ⊢
      rw [ups_s]
      exact ⟨by omega, (a7 (by rw [ups_n _ _ (by omega), ups_s]; exact fun w => by cases w)).1, hx, hvb⟩
    · obtain ⟨w1, w2, w3⟩ := hpk s b e
      obtain ⟨-, -, -, -, -, -, a7⟩ := hkm.2 s (by omega)
      have hne : s ≠ k := by omega
      rw [ups_n _ _ hne] at a7 ⊢
      rw [ups_n _ _ hne]
      exact ⟨by omega, (a7 (by rw [ups_n _ _ (by omega), ups_n _ _ hne]; exact w2)).1, w3⟩
  rintro _ σn ⟨qn, hbn⟩
  refine gp_ret ⟨Rq_trans qbm (Rq_mono qn (fun _ e => e.elim) (fun y e => by unfold gqA; unfold tkA at e; omega) (fun y e => by unfold gqP; unfold tkP at e; omega)), ⟨?_, ?_, ?_⟩, ?_, ?_, ?_, ?_, ?_⟩
  · rw [qn.2.1 35 (fun e => e) (by decide)]; exact m35
  · rw [qn.2.1 11 (fun e => e) (by decide)]; exact m11
  · rw [qn.2.1 24 (fun e => e) (by decide)]; exact m24
  · exact rtV_rq hTm qn (by unfold tkA; omega) (by unfold tkA; omega) (fun _ _ e => by unfold tkP at e; omega) hn hm hcl
  · rw [hln] at hkm
    exact rkV_rq hkm qn (fun e => e) (fun e => e) (fun _ _ _ => by unfold tkA; omega) (fun _ _ _ e => by unfold tkP at e; omega) (by omega)
  · exact rmV_rq hmm qn (fun _ _ _ e => by unfold tkP at e; omega) hlc
  · exact roV_rq hom qn (fun e => e) (by unfold tkA; omega) (by unfold tkA; omega) (fun _ _ _ e => by unfold tkP at e; omega) hlen
  · exact rbV_cong hbn (fun y _ => fU_rev) (fun y _ => fL_rev)
end SJ
