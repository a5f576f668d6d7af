/-! ===== equal fractions have one reduced form ===== -/
theorem rd_same {p q p2 q2 : Int} (hq : 0 < q) (hq2 : 0 < q2) (h : p * q2 = p2 * q) : rd p q = rd p2 q2 := by
  obtain ⟨a1, a2, -, -, a5⟩ := rd_ok (p := p) hq
  obtain ⟨b1, b2, -, -, b5⟩ := rd_ok (p := p2) hq2
  generalize he : rd p q = e at *
  generalize hg : rd p2 q2 = g at *
  obtain ⟨a, b⟩ := e
  obtain ⟨c, d⟩ := g
  simp only at a1 a2 a5 b1 b2 b5
  have hx : a * d = c * b := by
    have e1 : (a * d) * (q * q2) = (c * b) * (q * q2) := by
      have s1 : (a * d) * (q * q2) = (a * q) * (d * q2) := by grind
      have s2 : (c * b) * (q * q2) = (c * q2) * (b * q) := by grind
      rw [s1, s2, ← a2, ← b2]
      have s3 : p * b * (d * q2) = (p * q2) * (b * d) := by grind
      have s4 : p2 * d * (b * q) = (p2 * q) * (b * d) := by grind
      rw [s3, s4, h]
    have hqq : q * q2 ≠ 0 := by
      have := Int.mul_pos hq hq2
      omega
    exact Int.eq_of_mul_eq_mul_right hqq e1
  have hn : a.natAbs * d.natAbs = c.natAbs * b.natAbs := by rw [← Int.natAbs_mul, ← Int.natAbs_mul, hx]
  have g1 : Nat.Coprime b.natAbs a.natAbs := by
    have : Nat.gcd a.natAbs b.natAbs = 1 := a5
    exact (Nat.gcd_comm _ _).trans this
  have g2 : Nat.Coprime d.natAbs c.natAbs := by
    have : Nat.gcd c.natAbs d.natAbs = 1 := b5
    exact (Nat.gcd_comm _ _).trans this
  have d1 : b.natAbs ∣ d.natAbs := Nat.Coprime.dvd_of_dvd_mul_left g1 ⟨c.natAbs, by rw [hn, Nat.mul_comm]⟩
  have d2 : d.natAbs ∣ b.natAbs := Nat.Coprime.dvd_of_dvd_mul_left g2 ⟨a.natAbs, by rw [← hn, Nat.mul_comm]⟩
  have hbd : b.natAbs = d.natAbs := Nat.dvd_antisymm d1 d2
  have hb : b = d := by omega
  subst hb
  have ha : a = c := Int.eq_of_mul_eq_mul_right (by omega) hx
  rw [ha]
