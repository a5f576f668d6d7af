/-! ===== the law: both sides keep together ===== -/
def lwI (C o : Nat) (σ : tz_S) : Prop := ∃ q F, clV σ o q 128 F ∧ rfV σ (o + 397) F ∧ okF F ∧ tz_ns σ = C + 801 * q
section TV
variable {f o q C : Nat} {σ σ1 : tz_S} {F F2 : zF} {a y : Int32}
theorem clV_ref (h : clV σ o q 128 F) (hf : Fr (fun x => o + 397 ≤ x ∧ x ≤ o + 397 + 20) σ σ1) : clV σ1 o q 128 F := by
  obtain ⟨⟨n, m, A, kd, bb, wh, dr⟩, Z, wp, wq, hd, ah⟩ := F
  obtain ⟨h1, h2⟩ := clV_un h
  exact clV_mk (slV_fr h1 hf (fun x e => by omega)) (clW_fr h2 hf (by omega) (by omega) (by omega) (fun x c d e => by omega))
theorem rfV_ag {M : Nat} (h : rfV σ M F) (hs : ∀ x, M ≤ x → x ≤ M + 20 → tz_sh σ1 x = tz_sh σ x) (hF : tz_F σ1 M = tz_F σ M) (hA : ∀ x, M ≤ x → x ≤ M + 20 → tz_A σ1 x = tz_A σ x) : rfV σ1 M F := by
  obtain ⟨⟨n, m, A, kd, bb, wh, dr⟩, ⟨⟨D, T, va, bs, cl⟩, ⟨K, lc, up, fi, se, vr, fo, to, cd, ln, op⟩, ⟨st, sp, ex, cf, spl⟩, mp, mq⟩, wp, wq, hd, ah⟩ := F
  obtain ⟨hsl, hW, hH⟩ := rfV_un h
  obtain ⟨⟨h1, h2⟩, h3, h4, h5, h6, h7, h8, h9, h10⟩ := rgV_un hsl
  have hb := rgV_bd hsl
  have e : ∀ k, k ≤ 20 → tz_A σ1 (M + k) = tz_A σ (M + k) := fun k hk => hA _ (by omega) (by omega)
  have s0 : tz_sh σ1 M = tz_sh σ M := hs M (by omega) (by omega)
  have s : ∀ k, k ≤ 20 → tz_sh σ1 (M + k) = tz_sh σ (M + k) := fun k hk => hs _ (by omega) (by omega)
  have np : ∀ p v, nP σ M p v → nP σ1 M p v := fun p v hp => by unfold nP at *; rw [e 20 (by decide)]; exact hp
  have g1 : mSh σ1 M := by
    unfold mSh at *
    rw [s0, s 1 (by decide), s 2 (by decide), s 3 (by decide), s 4 (by decide), s 5 (by decide), s 6 (by decide), s 7 (by decide), s 8 (by decide), s 9 (by decide), s 10 (by decide), s 11 (by decide), s 12 (by decide), s 13 (by decide), s 14 (by decide), s 15 (by decide), s 16 (by decide), s 17 (by decide), s 18 (by decide), s 19 (by decide), s 20 (by decide)]
    exact h1
  have g3 : rrV σ1 M n m A kd bb wh dr := by
    unfold rrV at *
    rw [hF, e 1 (by decide), e 2 (by decide), e 3 (by decide), e 4 (by decide), e 5 (by decide)]
    exact h3
  have g4 : rcV σ1 M st sp ex cf spl := by
    unfold rcV at *
    rw [hF]
    exact h4
  have g5 : rkV σ1 M K lc up fi se vr to cd ln := by
    obtain ⟨k1, k2⟩ := h5
    refine ⟨by rw [hF]; exact k1, fun k hk => ?_⟩
    obtain ⟨a1, a2, a3, a4, a5, a6, a7⟩ := k2 k hk
    rw [e 9 (by decide), e 10 (by decide), e 11 (by decide), e 12 (by decide), e 13 (by decide), e 14 (by decide), e 15 (by decide)]
    exact ⟨a1, a2, a3, a4, a5, a6, fun w => ⟨(a7 w).1, np _ _ (a7 w).2⟩⟩
  have g6 : rmV σ1 M lc mq := fun i j a b => ⟨np _ _ (h6 i j a b).1, np _ _ (h6 i j a b).2⟩
  have g7 : st ≠ 0 → rtV σ1 M n m D T va bs cl := fun w => by
    obtain ⟨a1, a2, a3, a4, a5⟩ := h7 w
    refine ⟨by rw [e 7 (by decide)]; exact a1, by rw [e 8 (by decide)]; exact a2, np _ _ a3, fun r c x y => np _ _ (a4 r c x y), fun c x => np _ _ (a5 c x)⟩
  have g9 : ∀ k, op = some k → tz_F σ1 M 24 = nI k ∧ roV σ1 M (pt up fi k).reverse fo := fun k w => by
    obtain ⟨a1, a2, a3⟩ := h9 k w
    refine ⟨by rw [hF]; exact a1, by rw [hF]; exact a2, fun i s b x => ?_⟩
    obtain ⟨b1, b2, b3⟩ := a3 i s b x
    exact ⟨by rw [e 16 (by decide)]; exact b1, by rw [e 17 (by decide)]; exact b2, np _ _ b3⟩
  have g10 : st = 1 → ∀ k, op = some k → rbV σ1 M n (fun x => fU vr fo x (pt up fi k) none) (fun x => fL vr fo x (pt up fi k) none) := fun w k z x hx => by
    obtain ⟨b1, b2, b3, b4⟩ := h10 w k z x hx
    exact ⟨by rw [e 6 (by decide)]; exact b1, by rw [e 6 (by decide)]; exact b2, fun v u => np _ _ (b3 v u), fun v u => np _ _ (b4 v u)⟩
  refine rfV_mk (rgV_mk hb ⟨g1, by rw [hF]; exact h2⟩ g3 g4 g5 g6 g7 (fun w => by rw [hF]; exact h8 w) g9 g10) (fun x hx => ⟨np _ _ (hW x hx).1, np _ _ (hW x hx).2⟩) ⟨by rw [hF]; exact hH.1, fun w => ⟨np _ _ (hH.2 w).1, np _ _ (hH.2 w).2⟩⟩
theorem clV_nc (h : clV σ o q 128 F) : tz_nc σ = o + 418 + 162 * q ∧ q ≤ 151 ∧ cSh σ o 128 := by
  obtain ⟨⟨n, m, A, kd, bb, wh, dr⟩, Z, wp, wq, hd, ah⟩ := F
  obtain ⟨h1, h2⟩ := clV_un h
  exact ⟨(slV_nc h1).1, (slV_nc h1).2, (slV_cs h1).1⟩
theorem rfV_me {M : Nat} (h : rfV σ M F) : mSh σ M := by
  obtain ⟨⟨n, m, A, kd, bb, wh, dr⟩, Z, wp, wq, hd, ah⟩ := F
  exact (rgV_sh (rfV_un h).1).1
theorem lw_c (h : clV σ o q 128 F) (hr : rfV σ (o + 397) F) (hn : tz_ns σ = C + 801 * q) (hp : cPo σ o q 128 F2 a y σ1) : y = a ∧ ∃ q1, clV σ1 o q1 128 F2 ∧ rfV σ1 (o + 397) F ∧ tz_ns σ1 = C + 801 * q1 := by
  obtain ⟨e, q1, l1, l2, l3, l4⟩ := hp
  obtain ⟨nc, -, -⟩ := clV_nc h
  refine ⟨e, q1, l4, rfV_ag hr (fun x c d => (l3.2.2 x (by omega)).1) ((l3.2.2 (o + 397) (by omega)).2 (by unfold clP; omega)).1 (fun x c d => ((l3.2.2 x (by omega)).2 (by unfold clP; omega)).2.1), ?_⟩
  omega
theorem lw_r {q1 : Nat} (h : clV σ o q1 128 F) (hn : tz_ns σ = C + 801 * q1) (ho : okF F) (hp : rPo σ (o + 397) F a y σ1) : y = a ∧ lwI C o σ1 := by
  obtain ⟨e, l1, l2⟩ := hp
  exact ⟨e, q1, F, clV_ref h l1, l2, ho, by rw [l1.2.1]; exact hn⟩
theorem okF_hd {n m : Nat} {A : Nat → Nat → Int} {kd : Nat → Nat} {bb dr : Nat → Int} {wh : Nat → Bool} {Z : zS} {wp wq : Nat → Int × Int} {hd hd2 : Int × Int} {ah ah2 : Bool} (h : okF ((n, m, A, kd, bb, wh, dr), Z, wp, wq, hd, ah)) : okF ((n, m, A, kd, bb, wh, dr), Z, wp, wq, hd2, ah2) := h
theorem gp_scr {ρ : Type} {L j : Nat} {xs : Nat → Int32} {i : Int32} {K : Int32 → pz_C ρ} {Q : ρ → tz_S → Prop} (hi : i = nI j) (hj : j < L) (hL : L ≤ 3072) (h : gp (K (xs j)) σ Q) : gp (pz_gB (pz_scr L xs i) K) σ Q := by
  refine gp_gB ?_ h
  unfold pz_scr
  rw [hi, nI_clamp (by omega), if_neg]
  rintro (z | z)
  · exact nI_pos (by omega) z
  · omega
end TV
