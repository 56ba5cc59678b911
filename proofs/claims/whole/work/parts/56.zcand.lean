/-! candidates stay in range -/
theorem red_bd {G : Zf} (h : okZ G) (r : redZ G) : zR G ≤ zD G := by
  obtain ⟨h1, h2, h3, h4, h5⟩ := h
  obtain ⟨r1, r2, r3⟩ := r
  have k := zD_H G
  rw [Int.mul_assoc 4] at k
  have a := sq_le (x := zQ G) (y := zP G) (by omega)
  have b : zP G * zP G ≤ zP G * zR G := Int.mul_le_mul_of_nonneg_left r3 (by omega)
  have c : 1 * zR G ≤ zP G * zR G := Int.mul_le_mul_of_nonneg_right (by omega) (by omega)
  omega
theorem cand_ok {G : Zf} (h : okZ G) (r : redZ G) (hD : zD G ≤ 274877906944) {p q u s : Int} (hd : (p * s - q * u) * (p * s - q * u) = 1) (hm : (-1 ≤ p ∧ p ≤ 1) ∧ (-1 ≤ q ∧ q ≤ 1) ∧ (-1 ≤ u ∧ u ≤ 1) ∧ (-1 ≤ s ∧ s ≤ 1)) : okZ (zS G p q u s) := by
  have e := zD_S (F := G) hd
  have hb := red_bd h r
  obtain ⟨h1, h2, h3, h4, h5⟩ := h
  obtain ⟨r1, r2, r3⟩ := r
  have hD2 : 0 < zD (zS G p q u s) := by rw [e]; exact h5
  obtain ⟨m1, m2, m3, m4⟩ := hm
  have key : ∀ x y : Int, (-1 ≤ x ∧ x ≤ 1) → (-1 ≤ y ∧ y ≤ 1) → zP G * x * x + zQ G * x * y + zR G * y * y ≤ 1099511627776 := by
    intro x y hx hy
    have cx : x = -1 ∨ x = 0 ∨ x = 1 := by omega
    have cy : y = -1 ∨ y = 0 ∨ y = 1 := by omega
    rcases cx with z | z | z <;> rcases cy with w | w | w <;> subst z <;> subst w <;> omega
  refine ⟨zP_pos hD2, zR_pos hD2, ?_, ?_, hD2⟩
  · rw [zP_S, hd, Int.one_mul]; exact key p u m1 m3
  · rw [zR_S, hd, Int.one_mul]; exact key q s m2 m4
