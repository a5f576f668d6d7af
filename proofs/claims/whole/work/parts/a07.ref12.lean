/-! ===== the reference: gcd ===== -/
theorem gM_lt2 {g l : Nat} (hl : 0 < l) : gM l (g % l) < gM g l := by
  by_cases z : g = 0
  · subst z
    rw [Nat.zero_mod]
    unfold gM
    rw [if_pos hl, if_neg (by omega), Nat.zero_mul, Nat.mul_zero]
    omega
  · exact gM_lt hl (by omega)
theorem gcd_mod (g l : Nat) : Nat.gcd l (g % l) = Nat.gcd g l := by
  rw [Nat.gcd_comm g l, Nat.gcd_rec l g, Nat.gcd_comm]
section RK
variable {f M t : Nat} {σ : tz_S}
/-- two numbers lie at the mark, one behind the other -/
def gdI (σ : tz_S) (M t N : Nat) (d : Nat) (g l n1 n2 : Nat) (σ' : tz_S) : Prop := Pq M t (t + 6 * N + 20) σ σ' ∧ tz_F σ' M 35 = nI (t + n1 + 1 + n2 + 1) ∧ n1 ≤ N ∧ n2 ≤ N ∧ nV (tz_A σ' (M + 20)) t n1 (g : Int) ∧ nV (tz_A σ' (M + 20)) (t + n1 + 1) n2 (l : Int) ∧ Nat.gcd g l = d
set_option maxHeartbeats 1000000 in
theorem r_gcdL {N d : Nat} {g0 l0 n10 n20 : Nat} {σ1 : tz_S} (h : mSh σ M) (hN : N ≤ 130) (hb : t + 6 * N + 20 ≤ 527200) (hJ : gdI σ M t N d g0 l0 n10 n20 σ1) (hf : 20000 ≤ f) :
    gp (X12_gcd_L45 f (some M) (nI t) (nI t) (nI (t + n10 + 1))) σ1 (fun z σ' => z = nI t ∧ Pq M t (t + 6 * N + 20) σ σ' ∧ ∃ k, k ≤ N ∧ tz_F σ' M 35 = nI (t + k + 1) ∧ nV (tz_A σ' (M + 20)) t k (d : Int)) := by
  unfold X12_gcd_L45
  refine gp_loop (I := fun (τ : Int32 × Int32) (σ' : tz_S) => ∃ g l n1 n2, τ.1 = nI t ∧ τ.2 = nI (t + n1 + 1) ∧ gdI σ M t N d g l n1 n2 σ') (fun τ σ' => gM (nval (tz_A σ' (M + 20)) τ.1.toNatClampNeg) (nval (tz_A σ' (M + 20)) τ.2.toNatClampNeg)) ?_ f _ _ ⟨g0, l0, n10, n20, rfl, rfl, hJ⟩ ?_
  rotate_left
  · obtain ⟨-, -, a1, a2, a3, a4, -⟩ := hJ
    show gM (nval (tz_A σ1 (M + 20)) (nI t).toNatClampNeg) (nval (tz_A σ1 (M + 20)) (nI (t + n10 + 1)).toNatClampNeg) < f
    rw [nI_clamp (by omega), nI_clamp (by omega), nV_val a3, nV_val a4]
    have := gM_bd (g := (g0 : Int).natAbs) (l := (l0 : Int).natAbs) (nV_lt a3) (nV_lt a4) (by omega) (by omega)
    omega
  clear hJ σ1 g0 l0 n10 n20
  rintro K ⟨l4, l5⟩ σ1 ⟨g, l, n1, n2, h4, h5, hJ⟩ hK
  simp only at h4 h5
  subst h4 h5
  show gp (X12_gcd_L45_body f (some M) (nI t) (fun l4 l5 => K (l4, l5)) (nI t) (nI (t + n1 + 1))) σ1 _
  unfold X12_gcd_L45_body
  obtain ⟨hP, h35, b1, b2, b3, b4, b5⟩ := hJ
  have h1 := mSh_fr h hP.1
  have hl0 := nV_0 b4
  have hhead := b4.1
  rw [if_neg (by omega)] at hhead
  refine gp_pl (j := t + n1 + 1) h1 (by omega) rfl ?_
  refine gp_if (fun z => ?_) (fun z => ?_)
  · have hl : l = 0 := by
      have : (tz_A σ1 (M + 20) (t + n1 + 1)).toInt = 0 := by rw [z]; rfl
      have : n2 = 0 := by omega
      have := hl0.1 this
      omega
    subst hl
    refine gp_cV (mh_me h1) (gp_mono (r_keep (mk := t) h1 b3 (by omega) (Nat.le_refl _) (by omega)) ?_)
    rintro _ σ2 ⟨rfl, a1, a2, a3⟩
    rw [Nat.gcd_zero_right] at b5
    rw [b5] at a3
    exact gp_ret ⟨rfl, Pq_trans hP (Pq_mono a1 (Nat.le_refl _) (by omega)), n1, b1, a2, a3⟩
  have hn2 : n2 ≠ 0 := fun e => z (by rw [← az_iz, hhead, e]; rfl)
  have hlp : 0 < l := by
    have : ¬ (l : Int) = 0 := fun e => hn2 (hl0.2 e)
    omega
  refine gp_cV (mh_me h1) (gp_mono (r_divide (t := t + n1 + 1 + n2 + 1) h1 h35 b3 b4 (by omega) (by omega) (by omega) (by omega) (by omega) (by omega) (by omega)) ?_)
  rintro _ σ2 ⟨R, rfl, hR1, hR2, hP2, h352, -, kq, kr, k1, k2, k3, -, hr2⟩
  rw [Int.natAbs_natCast, Int.natAbs_natCast, ← Int.natCast_emod] at hr2
  have h2 := mSh_fr h1 hP2.1
  have hkr : kr ≤ n2 := by
    refine nV_le hr2 ?_
    have hlt := nV_lt b4
    rw [Int.natAbs_natCast] at hlt ⊢
    have := Nat.mod_lt g hlp
    omega
  have b32 := nV_pq b3 hP2 (Or.inl (by omega))
  have b42 := nV_pq b4 hP2 (Or.inl (by omega))
  refine gp_cV (mh_me h2) (gp_mono (r_again h2 h352 b42 (by omega) (by omega) (by omega)) ?_)
  rintro _ σ3 ⟨rfl, hP3, h353, hu3⟩
  have h3 := mSh_fr h2 hP3.1
  have hr3 := nV_pq hr2 hP3 (Or.inl (by omega))
  refine gp_cV (mh_me h3) (gp_mono (r_again h3 h353 hr3 (by omega) (by omega) (by omega)) ?_)
  rintro _ σ4 ⟨rfl, hP4, h354, hv4⟩
  have h4 := mSh_fr h3 hP4.1
  have hu4 := nV_pq hu3 hP4 (Or.inl (by omega))
  refine gp_cV (mh_me h4) (gp_mono (r_copyTo (to := t) h4 hu4 (by omega) (by omega) (Or.inl (by omega)) (by omega)) ?_)
  rintro _ σ5 ⟨hP5, -, hu5⟩
  have h5 := mSh_fr h4 hP5.1
  have hv5 := nV_pq hv4 hP5 (Or.inr (by omega))
  refine gp_cV (mh_me h5) (gp_mono (r_limbs h5 hu5 (by omega)) ?_)
  rintro _ σ0 ⟨z0, rfl⟩
  rw [z0]
  clear z0 σ0
  refine gp_let ?_
  rw [nI_add, nI_1]
  refine gp_cV (mh_me h5) (gp_mono (r_copyTo (to := t + n2 + 1) h5 hv5 (by omega) (by omega) (Or.inl (by omega)) (by omega)) ?_)
  rintro _ σ6 ⟨hP6, -, hv6⟩
  have h6 := mSh_fr h5 hP6.1
  have hu6 := nV_pq hu5 hP6 (Or.inl (by omega))
  refine gp_cV (mh_me h6) (gp_mono (r_limbs h6 hv6 (by omega)) ?_)
  rintro _ σ0 ⟨z0, rfl⟩
  rw [z0]
  clear z0 σ0
  rw [nI_add, nI_1]
  refine gp_wI (mh_me h6) rfl ?_
  have hPP : Pq M t (t + 6 * N + 20) σ (tz_sF σ6 M 35 (nI (t + n2 + 1 + kr + 1))) := Pq_trans hP (Pq_trans (Pq_mono hP2 (by omega) (by omega)) (Pq_trans (Pq_mono hP3 (by omega) (by omega)) (Pq_trans (Pq_mono hP4 (by omega) (by omega)) (Pq_trans (Pq_mono hP5 (by omega) (by omega)) (Pq_trans (Pq_mono hP6 (by omega) (by omega)) Pq_top)))))
  have hu7 : nV (tz_A (tz_sF σ6 M 35 (nI (t + n2 + 1 + kr + 1))) (M + 20)) t n2 (l : Int) := hu6
  have hv7 : nV (tz_A (tz_sF σ6 M 35 (nI (t + n2 + 1 + kr + 1))) (M + 20)) (t + n2 + 1) kr ((g % l : Nat) : Int) := hv6
  refine hK (nI t, nI (t + n2 + 1)) _ ⟨l, g % l, n2, kr, rfl, rfl, hPP, tz_u2_same _ _ _ _, by omega, by omega, hu7, hv7, ?_⟩ ?_
  · rw [← b5]; exact gcd_mod g l
  · show gM (nval (tz_A (tz_sF σ6 M 35 (nI (t + n2 + 1 + kr + 1))) (M + 20)) (nI t).toNatClampNeg) (nval (tz_A (tz_sF σ6 M 35 (nI (t + n2 + 1 + kr + 1))) (M + 20)) (nI (t + n2 + 1)).toNatClampNeg) < gM (nval (tz_A σ1 (M + 20)) (nI t).toNatClampNeg) (nval (tz_A σ1 (M + 20)) (nI (t + n1 + 1)).toNatClampNeg)
    rw [nI_clamp (by omega), nI_clamp (by omega), nI_clamp (by omega), nV_val hu7, nV_val hv7, nV_val b3, nV_val b4]
    simp only [Int.natAbs_natCast]
    exact gM_lt2 hlp
theorem r_gcd {x y n m N : Nat} {v w : Int} (h : mSh σ M) (ht : tz_F σ M 35 = nI t) (hv : nV (tz_A σ (M + 20)) x n v) (hw : nV (tz_A σ (M + 20)) y m w) (hx : x + n < t) (hy : y + m < t) (hn : n ≤ N) (hm : m ≤ N) (hN : N ≤ 130) (hb : t + 6 * N + 20 ≤ 527200) (hf : 20000 ≤ f) :
    gp (X12_gcd f (some M) (nI x) (nI y)) σ (fun z σ' => z = nI t ∧ Pq M t (t + 6 * N + 20) σ σ' ∧ ∃ k, k ≤ N ∧ tz_F σ' M 35 = nI (t + k + 1) ∧ nV (tz_A σ' (M + 20)) t k (Int.gcd v w : Int)) := by
  unfold X12_gcd
  refine gp_rI (mh_me h) rfl ?_
  rw [ht]
  refine gp_cV (mh_me h) (gp_mono (r_again h ht hv hx (by omega) (by omega)) ?_)
  rintro _ σ1 ⟨rfl, hP1, h351, hu1⟩
  have h1 := mSh_fr h hP1.1
  refine gp_rR (mh_me h1) rfl ?_
  refine gp_cV (mh_me h1) (gp_mono (r_limbs h1 hu1 (by omega)) ?_)
  rintro _ σ0 ⟨z0, rfl⟩
  rw [z0]
  clear z0 σ0
  refine gp_ps (j := t) h1 (by omega) rfl ?_
  have h2 : mSh (tz_sA σ1 (M + 20) t (nI n)) M := h1
  have hu2 : nV (tz_A (tz_sA σ1 (M + 20) t (nI n)) (M + 20)) t n (v.natAbs : Int) := nV_abs hu1 (tz_u2_same _ _ _ _) (fun i hi => tz_u2_ne _ _ (Or.inr (by omega)))
  have hP2 : Pq M t (t + n + 1) σ (tz_sA σ1 (M + 20) t (nI n)) := Pq_trans hP1 (Pq_cell (Nat.le_refl _) (by omega))
  have h352 : tz_F (tz_sA σ1 (M + 20) t (nI n)) M 35 = nI (t + n + 1) := h351
  have hw2 := nV_pq hw hP2 (Or.inl hy)
  clear hP1 h351 hu1 h1
  generalize tz_sA σ1 (M + 20) t (nI n) = σ2 at *
  refine gp_cV (mh_me h2) (gp_mono (r_again h2 h352 hw2 (by omega) (by omega) (by omega)) ?_)
  rintro _ σ3 ⟨rfl, hP3, h353, hv3⟩
  have h3 := mSh_fr h2 hP3.1
  have hu3 := nV_pq hu2 hP3 (Or.inl (by omega))
  refine gp_rR (mh_me h3) rfl ?_
  refine gp_cV (mh_me h3) (gp_mono (r_limbs h3 hv3 (by omega)) ?_)
  rintro _ σ0 ⟨z0, rfl⟩
  rw [z0]
  clear z0 σ0
  refine gp_ps (j := t + n + 1) h3 (by omega) rfl ?_
  have hv4 : nV (tz_A (tz_sA σ3 (M + 20) (t + n + 1) (nI m)) (M + 20)) (t + n + 1) m (w.natAbs : Int) := nV_abs hv3 (tz_u2_same _ _ _ _) (fun i hi => tz_u2_ne _ _ (Or.inr (by omega)))
  have hu4 : nV (tz_A (tz_sA σ3 (M + 20) (t + n + 1) (nI m)) (M + 20)) t n (v.natAbs : Int) := nV_congr hu3 (fun i a b => tz_u2_ne _ _ (Or.inr (by omega)))
  refine r_gcdL (d := Int.gcd v w) h hN hb ⟨Pq_trans (Pq_mono hP2 (Nat.le_refl _) (by omega)) (Pq_trans (Pq_mono hP3 (by omega) (by omega)) (Pq_cell (by omega) (by omega))), h353, hn, hm, hu4, hv4, rfl⟩ hf
end RK
