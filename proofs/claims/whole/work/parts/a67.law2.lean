/-! ===== the law's loop ===== -/
section TW
variable {f o C L : Nat} {σ : tz_S} {xs : Nat → Int32}
theorem okF_value {p : Int32} {n m : Nat} {A : Nat → Nat → Int} {kd : Nat → Nat} {bb dr : Nat → Int} {wh : Nat → Bool} {D : Int} {T : Nat → Nat → Int} {va : Nat → Int} {bs cl : Nat → Nat} {tr : zTr} {st sp ex cf spl : Nat} {mp mq : Nat → Nat → Int × Int} {wp wq : Nat → Int × Int} {hd : Int × Int} {ah : Bool} (h : okF ((n, m, A, kd, bb, wh, dr), ((D, T, va, bs, cl), tr, (st, sp, ex, cf, spl), mp, mq), wp, wq, hd, ah)) : okF (mVal p ((n, m, A, kd, bb, wh, dr), ((D, T, va, bs, cl), tr, (st, sp, ex, cf, spl), mp, mq), wp, wq, hd, ah)).1 := by
  unfold mVal
  simp only
  split
  · split
    · exact okF_hd h
    · split
      · exact okF_hd h
      · exact okF_hd h
  · exact h
theorem okF_told {p b : Int32} {n m : Nat} {A : Nat → Nat → Int} {kd : Nat → Nat} {bb dr : Nat → Int} {wh : Nat → Bool} {D : Int} {T : Nat → Nat → Int} {va : Nat → Int} {bs cl : Nat → Nat} {tr : zTr} {st sp ex cf spl : Nat} {mp mq : Nat → Nat → Int × Int} {wp wq : Nat → Int × Int} {hd : Int × Int} {ah : Bool} (h : okF ((n, m, A, kd, bb, wh, dr), ((D, T, va, bs, cl), tr, (st, sp, ex, cf, spl), mp, mq), wp, wq, hd, ah)) : okF (mTol p b ((n, m, A, kd, bb, wh, dr), ((D, T, va, bs, cl), tr, (st, sp, ex, cf, spl), mp, mq), wp, wq, hd, ah)).1 := by
  unfold mTol
  simp only
  split
  · split
    · split
      · exact okF_hd h
      · exact h
    · exact h
  · exact h
theorem okF_multiplier {k s i : Int32} {n m : Nat} {A : Nat → Nat → Int} {kd : Nat → Nat} {bb dr : Nat → Int} {wh : Nat → Bool} {D : Int} {T : Nat → Nat → Int} {va : Nat → Int} {bs cl : Nat → Nat} {K lc : Nat} {up fi se : Nat → Option Nat} {vr : Nat → Nat} {fo to : Nat → Int} {cd : Nat → Bool} {ln : Nat → Nat} {op : Option Nat} {st sp ex cf spl : Nat} {mp mq : Nat → Nat → Int × Int} {wp wq : Nat → Int × Int} {hd : Int × Int} {ah : Bool} (h : okF ((n, m, A, kd, bb, wh, dr), ((D, T, va, bs, cl), (K, lc, up, fi, se, vr, fo, to, cd, ln, op), (st, sp, ex, cf, spl), mp, mq), wp, wq, hd, ah)) : okF (mMul k s i ((n, m, A, kd, bb, wh, dr), ((D, T, va, bs, cl), (K, lc, up, fi, se, vr, fo, to, cd, ln, op), (st, sp, ex, cf, spl), mp, mq), wp, wq, hd, ah)).1 := by
  unfold mMul
  simp only
  split
  · split
    · exact okF_hd h
    · exact h
  · exact h
set_option maxRecDepth 100000 in
set_option maxHeartbeats 8000000 in
theorem lw_loop (hL : L ≤ 3072) (hf : 40000 ≤ f) (h0 : lwI C o σ) : gp (L_law_L18 f L xs (some o) (some (o + 397)) 0) σ (fun _ σ' => lwI C o σ') := by
  have hf2 : 2000 ≤ f := by omega
  have hf1 : 20000 ≤ f := by omega
  have hf3 : 30000 ≤ f := by omega
  unfold L_law_L18
  refine gp_loop (I := fun (τ : Int32) (σ' : tz_S) => ∃ j, τ = nI j ∧ j ≤ 4000 ∧ lwI C o σ') (fun τ _ => 10000 - τ.toNatClampNeg) ?_ f _ _ ⟨0, rfl, by omega, h0⟩ (by omega)
  clear h0
  rintro Kx l3 σ1 ⟨j, rfl, hj, q, F, hcl, hrf, ho, hns⟩ hKx
  show gp (L_law_L18_body f L xs (some o) (some (o + 397)) (fun l3 => Kx l3) (nI j)) σ1 _
  have next : ∀ σ2, j + 6 ≤ L → lwI C o σ2 → gp (L_law_b670 f L xs (fun l3 => Kx l3) (some o) (some (o + 397)) (nI j)) σ2 (fun _ σ' => lwI C o σ') := fun σ2 hjl h2 => by
    unfold L_law_b670
    refine gp_let ?_
    rw [show (6 : Int32) = nI 6 from rfl, nI_add]
    exact hKx _ σ2 ⟨j + 6, rfl, by omega, h2⟩ (by rw [nI_clamp (by omega), nI_clamp (by omega)]; omega)
  unfold L_law_L18_body
  refine gp_let ?_
  have e6 : (nI L - 6).toInt = (L : Int) - 6 := by
    rw [Int32.toInt_sub, nI_toInt (by omega), show (6 : Int32).toInt = 6 from rfl]
    exact Int.bmod_eq_of_le (by omega) (by omega)
  refine gp_if (fun z => gp_ret ⟨q, F, hcl, hrf, ho, hns⟩) (fun z => ?_)
  rw [Int32.lt_iff_toInt_lt, e6, nI_toInt (by omega)] at z
  have hjL : j + 6 ≤ L := by omega
  have r1 : nI j + 1 = nI (j + 1) := nI_1 _
  have r2 : nI j + 2 = nI (j + 2) := by rw [show (2 : Int32) = nI 2 from rfl, nI_add]
  have r3 : nI j + 3 = nI (j + 3) := by rw [show (3 : Int32) = nI 3 from rfl, nI_add]
  have r4 : nI j + 4 = nI (j + 4) := by rw [show (4 : Int32) = nI 4 from rfl, nI_add]
  have r5 : nI j + 5 = nI (j + 5) := by rw [show (5 : Int32) = nI 5 from rfl, nI_add]
  refine gp_scr rfl (by omega) hL ?_
  obtain ⟨nc, -, hc⟩ := clV_nc hcl
  obtain ⟨⟨n, m, A, kd, bb, wh, dr⟩, ⟨⟨D, T, va, bs, cl⟩, ⟨K, lc, up, fi, se, vr, fo, to, cd, ln, op⟩, ⟨st, sp, ex, cf, spl⟩, mp, mq⟩, wp, wq, hd, ah⟩ := F
  refine gp_tsw (fun w => next σ1 hjL ⟨q, _, hcl, hrf, ho, hns⟩) (fun k mm hk2 hm => ?_)
  clear hk2
  match k, hm with
  | 0, hm =>
    cases hm
    refine gp_scr r1 (by omega) hL ?_
    refine gp_cV (cs_me hc) (gp_mono (c_variables hcl hf2) ?_)
    rintro x σ2 hx
    obtain ⟨rfl, q1, hcl1, hrf1, hns1⟩ := lw_c hcl hrf hns hx
    refine gp_scr r1 (by omega) hL ?_
    refine gp_cV (mh_me (rfV_me hrf1)) (gp_mono (r_variables hrf1 hf2) ?_)
    rintro y σ3 hy
    obtain ⟨rfl, hI⟩ := lw_r hcl1 hns1 (okF_variables ho) hy
    exact gp_t rfl (next σ3 hjL hI)
  | 1, hm =>
    cases hm
    refine gp_scr r1 (by omega) hL ?_
    refine gp_scr r2 (by omega) hL ?_
    refine gp_cV (cs_me hc) (gp_mono (c_factor hcl hf2) ?_)
    rintro x σ2 hx
    obtain ⟨rfl, q1, hcl1, hrf1, hns1⟩ := lw_c hcl hrf hns hx
    refine gp_scr r1 (by omega) hL ?_
    refine gp_scr r2 (by omega) hL ?_
    refine gp_cV (mh_me (rfV_me hrf1)) (gp_mono (r_factor hrf1 ho) ?_)
    rintro y σ3 hy
    obtain ⟨rfl, hI⟩ := lw_r hcl1 hns1 (okF_factor ho) hy
    exact gp_t rfl (next σ3 hjL hI)
  | 2, hm =>
    cases hm
    refine gp_scr r1 (by omega) hL ?_
    refine gp_scr r2 (by omega) hL ?_
    refine gp_cV (cs_me hc) (gp_mono (c_row hcl hf2) ?_)
    rintro x σ2 hx
    obtain ⟨rfl, q1, hcl1, hrf1, hns1⟩ := lw_c hcl hrf hns hx
    refine gp_scr r1 (by omega) hL ?_
    refine gp_scr r2 (by omega) hL ?_
    refine gp_cV (mh_me (rfV_me hrf1)) (gp_mono (r_row hrf1 hf2) ?_)
    rintro y σ3 hy
    obtain ⟨rfl, hI⟩ := lw_r hcl1 hns1 (okF_row ho) hy
    exact gp_t rfl (next σ3 hjL hI)
  | 3, hm =>
    cases hm
    refine gp_scr r1 (by omega) hL ?_
    refine gp_scr r2 (by omega) hL ?_
    have go : ∀ b : Int32, (b = 0 ∨ b = 1) → (xs (j + 2) = 0 → b = 0) → (xs (j + 2) ≠ 0 → b = 1) → gp (L_law_b228 f L xs (fun l3 => Kx l3) (some o) (some (o + 397)) (nI j) (some o) (xs (j + 1)) b) σ1 (fun _ σ' => lwI C o σ') := by
      intro b hb01 t0 t1
      unfold L_law_b228 L_law_b250
      refine gp_cV (cs_me hc) (gp_mono (c_whole hcl hb01 hf2) ?_)
      rintro x σ2 hx
      obtain ⟨rfl, q1, hcl1, hrf1, hns1⟩ := lw_c hcl hrf hns hx
      refine gp_scr r1 (by omega) hL ?_
      refine gp_scr r2 (by omega) hL ?_
      refine gp_if (fun w => ?_) (fun w => ?_)
      · have e := t0 w
        subst e
        refine gp_cV (mh_me (rfV_me hrf1)) (gp_mono (r_whole hrf1 hb01) ?_)
        rintro y σ3 hy
        obtain ⟨rfl, hI⟩ := lw_r hcl1 hns1 (okF_whole ho) hy
        exact gp_t rfl (next σ3 hjL hI)
      · have e := t1 w
        subst e
        refine gp_cV (mh_me (rfV_me hrf1)) (gp_mono (r_whole hrf1 hb01) ?_)
        rintro y σ3 hy
        obtain ⟨rfl, hI⟩ := lw_r hcl1 hns1 (okF_whole ho) hy
        exact gp_t rfl (next σ3 hjL hI)
    exact gp_if (fun w => go 0 (Or.inl rfl) (fun _ => rfl) (fun u => absurd w u)) (fun w => go 1 (Or.inr rfl) (fun u => absurd u w) (fun _ => rfl))
  | 4, hm =>
    cases hm
    refine gp_scr r1 (by omega) hL ?_
    refine gp_cV (cs_me hc) (gp_mono (c_solve hcl ho hf3) ?_)
    rintro x σ2 hx
    obtain ⟨rfl, q1, hcl1, hrf1, hns1⟩ := lw_c hcl hrf hns hx
    refine gp_scr r1 (by omega) hL ?_
    refine gp_cV (mh_me (rfV_me hrf1)) (gp_mono (r_solve hrf1 ho hf3) ?_)
    rintro y σ3 hy
    obtain ⟨rfl, hI⟩ := lw_r hcl1 hns1 (okF_solve ho) hy
    exact gp_t rfl (next σ3 hjL hI)
  | 5, hm =>
    cases hm
    refine gp_scr r1 (by omega) hL ?_
    refine gp_cV (cs_me hc) (gp_mono (c_state hcl ho hf2) ?_)
    rintro x σ2 ⟨e2, hx⟩
    rw [e2]
    clear e2 σ2
    refine gp_scr r1 (by omega) hL ?_
    refine gp_cV (mh_me (rfV_me hrf)) (gp_mono (r_state hrf) ?_)
    rintro y σ2 ⟨e2, hy⟩
    rw [e2]
    clear e2 σ2
    exact gp_t (hx.trans hy.symm) (next σ1 hjL ⟨q, _, hcl, hrf, ho, hns⟩)
  | 6, hm =>
    cases hm
    refine gp_scr r1 (by omega) hL ?_
    refine gp_cV (cs_me hc) (gp_mono (c_basic hcl ho) ?_)
    rintro x σ2 ⟨e2, hx⟩
    rw [e2]
    clear e2 σ2
    refine gp_scr r1 (by omega) hL ?_
    refine gp_cV (mh_me (rfV_me hrf)) (gp_mono (r_basic hrf ho hf2) ?_)
    rintro y σ2 ⟨e2, hy⟩
    rw [e2]
    clear e2 σ2
    exact gp_t (hx.trans hy.symm) (next σ1 hjL ⟨q, _, hcl, hrf, ho, hns⟩)
  | 7, hm =>
    cases hm
    refine gp_scr r1 (by omega) hL ?_
    refine gp_cV (cs_me hc) (gp_mono (c_value hcl ho hf3) ?_)
    rintro x σ2 hx
    obtain ⟨rfl, q1, hcl1, hrf1, hns1⟩ := lw_c hcl hrf hns hx
    refine gp_scr r1 (by omega) hL ?_
    refine gp_cV (mh_me (rfV_me hrf1)) (gp_mono (r_value hrf1 ho hf1) ?_)
    rintro y σ3 hy
    obtain ⟨rfl, hI⟩ := lw_r hcl1 hns1 (okF_value ho) hy
    exact gp_t rfl (next σ3 hjL hI)
  | 8, hm =>
    cases hm
    refine gp_scr r1 (by omega) hL ?_
    refine gp_scr r2 (by omega) hL ?_
    refine gp_cV (cs_me hc) (gp_mono (c_told hcl ho hf3) ?_)
    rintro x σ2 hx
    obtain ⟨rfl, q1, hcl1, hrf1, hns1⟩ := lw_c hcl hrf hns hx
    refine gp_scr r1 (by omega) hL ?_
    refine gp_scr r2 (by omega) hL ?_
    refine gp_cV (mh_me (rfV_me hrf1)) (gp_mono (r_told hrf1 ho hf1) ?_)
    rintro y σ3 hy
    obtain ⟨rfl, hI⟩ := lw_r hcl1 hns1 (okF_told ho) hy
    exact gp_t rfl (next σ3 hjL hI)
  | 9, hm =>
    cases hm
    refine gp_scr r1 (by omega) hL ?_
    refine gp_scr r2 (by omega) hL ?_
    refine gp_cV (cs_me hc) (gp_mono (c_digits hcl) ?_)
    rintro x σ2 ⟨e2, hx⟩
    rw [e2]
    clear e2 σ2
    refine gp_scr r1 (by omega) hL ?_
    refine gp_scr r2 (by omega) hL ?_
    refine gp_cV (mh_me (rfV_me hrf)) (gp_mono (r_digits hrf hf2) ?_)
    rintro y σ2 ⟨e2, hy⟩
    rw [e2]
    clear e2 σ2
    exact gp_t (hx.trans hy.symm) (next σ1 hjL ⟨q, _, hcl, hrf, ho, hns⟩)
  | 10, hm =>
    cases hm
    refine gp_cV (cs_me hc) (gp_mono (c_witness hcl ho hf2) ?_)
    rintro x σ2 hx
    obtain ⟨rfl, q1, hcl1, hrf1, hns1⟩ := lw_c hcl hrf hns hx
    refine gp_cV (mh_me (rfV_me hrf1)) (gp_mono (r_witness hrf1 ho hf1) ?_)
    rintro y σ3 hy
    obtain ⟨rfl, hI⟩ := lw_r hcl1 hns1 (okF_witness ho) hy
    exact gp_t rfl (next σ3 hjL hI)
  | 11, hm =>
    cases hm
    refine gp_scr r1 (by omega) hL ?_
    refine gp_scr r2 (by omega) hL ?_
    refine gp_scr r3 (by omega) hL ?_
    refine gp_cV (cs_me hc) (gp_mono (c_setWitness hcl hf2) ?_)
    rintro x σ2 hx
    obtain ⟨rfl, q1, hcl1, hrf1, hns1⟩ := lw_c hcl hrf hns hx
    refine gp_scr r1 (by omega) hL ?_
    refine gp_scr r2 (by omega) hL ?_
    refine gp_scr r3 (by omega) hL ?_
    refine gp_cV (mh_me (rfV_me hrf1)) (gp_mono (r_setWitness hrf1 ho hf2) ?_)
    rintro y σ3 hy
    obtain ⟨rfl, hI⟩ := lw_r hcl1 hns1 (okF_setWitness ho) hy
    exact gp_t rfl (next σ3 hjL hI)
  | 12, hm =>
    cases hm
    refine gp_cV (cs_me hc) (gp_mono (c_judgeWitness hcl ho hf2) ?_)
    rintro x σ2 hx
    obtain ⟨rfl, q1, hcl1, hrf1, hns1⟩ := lw_c hcl hrf hns hx
    refine gp_cV (mh_me (rfV_me hrf1)) (gp_mono (r_judgeWitness hrf1 ho hf1) ?_)
    rintro y σ3 hy
    obtain ⟨rfl, hI⟩ := lw_r hcl1 hns1 (ho) hy
    exact gp_t rfl (next σ3 hjL hI)
  | 13, hm =>
    cases hm
    refine gp_scr r1 (by omega) hL ?_
    refine gp_scr r2 (by omega) hL ?_
    refine gp_cV (cs_me hc) (gp_mono (c_node hcl ho) ?_)
    rintro x σ2 ⟨e2, hx⟩
    rw [e2]
    clear e2 σ2
    refine gp_scr r1 (by omega) hL ?_
    refine gp_scr r2 (by omega) hL ?_
    refine gp_cV (mh_me (rfV_me hrf)) (gp_mono (r_node hrf hf2) ?_)
    rintro y σ2 ⟨e2, hy⟩
    rw [e2]
    clear e2 σ2
    exact gp_t (hx.trans hy.symm) (next σ1 hjL ⟨q, _, hcl, hrf, ho, hns⟩)
  | 14, hm =>
    cases hm
    refine gp_scr r1 (by omega) hL ?_
    refine gp_scr r2 (by omega) hL ?_
    refine gp_scr r3 (by omega) hL ?_
    refine gp_cV (cs_me hc) (gp_mono (c_multiplier hcl ho hf3) ?_)
    rintro x σ2 hx
    obtain ⟨rfl, q1, hcl1, hrf1, hns1⟩ := lw_c hcl hrf hns hx
    refine gp_scr r1 (by omega) hL ?_
    refine gp_scr r2 (by omega) hL ?_
    refine gp_scr r3 (by omega) hL ?_
    refine gp_cV (mh_me (rfV_me hrf1)) (gp_mono (r_multiplier hrf1 ho hf1) ?_)
    rintro y σ3 hy
    obtain ⟨rfl, hI⟩ := lw_r hcl1 hns1 (okF_multiplier ho) hy
    exact gp_t rfl (next σ3 hjL hI)
  | 15, hm =>
    cases hm
    refine gp_scr r1 (by omega) hL ?_
    refine gp_scr r2 (by omega) hL ?_
    refine gp_scr r3 (by omega) hL ?_
    refine gp_scr r4 (by omega) hL ?_
    refine gp_scr r5 (by omega) hL ?_
    refine gp_cV (cs_me hc) (gp_mono (c_setMultiplier hcl ho hf2) ?_)
    rintro x σ2 hx
    obtain ⟨rfl, q1, hcl1, hrf1, hns1⟩ := lw_c hcl hrf hns hx
    refine gp_scr r1 (by omega) hL ?_
    refine gp_scr r2 (by omega) hL ?_
    refine gp_scr r3 (by omega) hL ?_
    refine gp_scr r4 (by omega) hL ?_
    refine gp_scr r5 (by omega) hL ?_
    refine gp_cV (mh_me (rfV_me hrf1)) (gp_mono (r_setMultiplier hrf1 ho hf2) ?_)
    rintro y σ3 hy
    obtain ⟨rfl, hI⟩ := lw_r hcl1 hns1 (okF_setMultiplier ho) hy
    exact gp_t rfl (next σ3 hjL hI)
  | 16, hm =>
    cases hm
    refine gp_scr r1 (by omega) hL ?_
    refine gp_scr r2 (by omega) hL ?_
    refine gp_cV (cs_me hc) (gp_mono (c_setSplit hcl ho) ?_)
    rintro x σ2 hx
    obtain ⟨rfl, q1, hcl1, hrf1, hns1⟩ := lw_c hcl hrf hns hx
    refine gp_scr r1 (by omega) hL ?_
    refine gp_scr r2 (by omega) hL ?_
    refine gp_cV (mh_me (rfV_me hrf1)) (gp_mono (r_setSplit hrf1 ho hf2) ?_)
    rintro y σ3 hy
    obtain ⟨rfl, hI⟩ := lw_r hcl1 hns1 (okF_setSplit ho) hy
    exact gp_t rfl (next σ3 hjL hI)
  | 17, hm =>
    cases hm
    refine gp_cV (cs_me hc) (gp_mono (c_judgeTree hcl ho hf2) ?_)
    rintro x σ2 hx
    obtain ⟨rfl, q1, hcl1, hrf1, hns1⟩ := lw_c hcl hrf hns hx
    refine gp_cV (mh_me (rfV_me hrf1)) (gp_mono (r_judgeTree hrf1 ho hf1) ?_)
    rintro y σ3 hy
    obtain ⟨rfl, hI⟩ := lw_r hcl1 hns1 (ho) hy
    exact gp_t rfl (next σ3 hjL hI)
  | k + 18, hm => simp at hm
end TW
