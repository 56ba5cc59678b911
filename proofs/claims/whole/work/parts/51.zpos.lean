/-! a positive discriminant makes the Hessian positive definite -/
theorem sq_nn (x : Int) : 0 ≤ x * x := by
  rcases Int.le_total 0 x with h | h
  · exact Int.mul_nonneg h h
  · exact Int.mul_nonneg_of_nonpos_of_nonpos h h
theorem zP_cube (F : Zf) : 4 * (zP F * (zP F * zP F)) = (2 * F.2.1 * F.2.1 * F.2.1 - 9 * F.1 * F.2.1 * F.2.2.1 + 27 * F.1 * F.1 * F.2.2.2) * (2 * F.2.1 * F.2.1 * F.2.1 - 9 * F.1 * F.2.1 * F.2.2.1 + 27 * F.1 * F.1 * F.2.2.2) + 27 * (zD F * (F.1 * F.1)) := by
  obtain ⟨a, b, c, d⟩ := F
  simp only [zD, zP]
  grind
theorem zP_pos {F : Zf} (h : 0 < zD F) : 0 < zP F := by
  have e := zP_cube F
  have s1 := sq_nn (2 * F.2.1 * F.2.1 * F.2.1 - 9 * F.1 * F.2.1 * F.2.2.1 + 27 * F.1 * F.1 * F.2.2.2)
  have s2 : 0 ≤ zD F * (F.1 * F.1) := Int.mul_nonneg (by omega) (sq_nn F.1)
  have k := zD_H F
  have s3 := sq_nn (zQ F)
  rcases Int.lt_trichotomy (zP F) 0 with q | q | q
  · have s4 : 0 < zP F * zP F := Int.mul_pos_of_neg_of_neg q q
    have s5 : zP F * (zP F * zP F) < 0 := Int.mul_neg_of_neg_of_pos q s4
    omega
  · rw [q] at k
    simp only [Int.mul_zero, Int.zero_mul] at k
    omega
  · exact q
theorem zR_pos {F : Zf} (h : 0 < zD F) : 0 < zR F := by
  have p := zP_pos h
  have k := zD_H F
  have s3 := sq_nn (zQ F)
  rcases Int.lt_or_le 0 (zR F) with q | q
  · exact q
  · have s4 : zP F * zR F ≤ 0 := Int.mul_nonpos_of_nonneg_of_nonpos (by omega) q
    rw [Int.mul_assoc] at k
    omega
