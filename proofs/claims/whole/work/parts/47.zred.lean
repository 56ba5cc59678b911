/-! reduced forms: what carries one to another is small -/
theorem mul_abs {P Q t : Int} (h1 : -P ≤ Q) (h2 : Q ≤ P) : -(P * (t.natAbs : Int)) ≤ Q * t ∧ Q * t ≤ P * (t.natAbs : Int) := by
  rcases Int.le_total 0 t with h | h
  · have e : (t.natAbs : Int) = t := Int.natAbs_of_nonneg h
    rw [e]
    have a := Int.mul_le_mul_of_nonneg_right h1 h
    have b := Int.mul_le_mul_of_nonneg_right h2 h
    rw [Int.neg_mul] at a
    exact ⟨a, b⟩
  · have e : (t.natAbs : Int) = -t := by omega
    have a := Int.mul_le_mul_of_nonneg_right h1 (show 0 ≤ -t by omega)
    have b := Int.mul_le_mul_of_nonneg_right h2 (show 0 ≤ -t by omega)
    rw [Int.neg_mul, Int.mul_neg Q t] at a
    rw [Int.mul_neg Q t] at b
    rw [e]
    constructor <;> omega
theorem natN {X k : Nat} (h : X * X + X * k + k * k ≤ 1) : X + k ≤ 1 := by
  rcases Nat.lt_or_ge X 2 with hX | hX
  · rcases Nat.lt_or_ge k 2 with hk | hk
    · rcases (show X = 0 ∨ X = 1 by omega) with rfl | rfl <;> rcases (show k = 0 ∨ k = 1 by omega) with rfl | rfl <;> omega
    · have := Nat.mul_le_mul hk hk
      omega
  · have := Nat.mul_le_mul hX hX
    omega
theorem natN1 {X k : Nat} (h : 1 ≤ X + k) : 1 ≤ X * X + X * k + k * k := by
  rcases Nat.eq_zero_or_pos X with rfl | hX
  · have := Nat.mul_le_mul (show 1 ≤ k by omega) (show 1 ≤ k by omega)
    omega
  · have := Nat.mul_le_mul hX hX
    omega
def nN (x y : Int) : Int := x * x + y * y - ((x * y).natAbs : Int)
theorem nN_nat (x y : Int) : ∃ X k : Nat, nN x y = ((X * X + X * k + k * k : Nat) : Int) ∧ X ≤ x.natAbs ∧ X ≤ y.natAbs ∧ x.natAbs ≤ X + k ∧ y.natAbs ≤ X + k ∧ (x.natAbs = X + k ∨ y.natAbs = X + k) := by
  have ex : x * x = ((x.natAbs * x.natAbs : Nat) : Int) := by rw [Int.natCast_mul, Int.natAbs_mul_self']
  have ey : y * y = ((y.natAbs * y.natAbs : Nat) : Int) := by rw [Int.natCast_mul, Int.natAbs_mul_self']
  unfold nN
  rw [ex, ey, Int.natAbs_mul]
  rcases Nat.le_total x.natAbs y.natAbs with h | h
  · refine ⟨x.natAbs, y.natAbs - x.natAbs, ?_, Nat.le_refl _, h, by omega, by omega, Or.inr (by omega)⟩
    obtain ⟨k, hk⟩ : ∃ k, y.natAbs = x.natAbs + k := ⟨y.natAbs - x.natAbs, by omega⟩
    rw [hk, show x.natAbs + k - x.natAbs = k by omega]
    generalize x.natAbs = X
    grind
  · refine ⟨y.natAbs, x.natAbs - y.natAbs, ?_, h, Nat.le_refl _, by omega, by omega, Or.inl (by omega)⟩
    obtain ⟨k, hk⟩ : ∃ k, x.natAbs = y.natAbs + k := ⟨x.natAbs - y.natAbs, by omega⟩
    rw [hk, show y.natAbs + k - y.natAbs = k by omega]
    generalize y.natAbs = Y
    grind
theorem nN_pos {x y : Int} (h : ¬ (x = 0 ∧ y = 0)) : 1 ≤ nN x y := by
  obtain ⟨X, k, e, h1, h2, h3, h4, h5⟩ := nN_nat x y
  rw [e]
  have := natN1 (X := X) (k := k) (by omega)
  omega
theorem nN_le {x y : Int} (h : nN x y ≤ 1) : (-1 ≤ x ∧ x ≤ 1) ∧ (-1 ≤ y ∧ y ≤ 1) := by
  obtain ⟨X, k, e, h1, h2, h3, h4, h5⟩ := nN_nat x y
  rw [e] at h
  have := natN (X := X) (k := k) (by omega)
  omega
/-- a reduced Hessian's values -/
theorem red_val {P Q R : Int} (h1 : -P ≤ Q) (h2 : Q ≤ P) (h3 : P ≤ R) (x y : Int) : P * nN x y ≤ P * x * x + Q * x * y + R * y * y := by
  have a := (mul_abs (t := x * y) h1 h2).1
  have b : P * (y * y) ≤ R * (y * y) := Int.mul_le_mul_of_nonneg_right h3 (by
    rcases Int.le_total 0 y with q | q
    · exact Int.mul_nonneg q q
    · have := Int.mul_nonneg (show 0 ≤ -y by omega) (show 0 ≤ -y by omega)
      rw [Int.neg_mul_neg] at this
      exact this)
  have e : P * nN x y = P * (x * x) + P * (y * y) - P * ((x * y).natAbs : Int) := by unfold nN; grind
  have e2 : P * x * x + Q * x * y + R * y * y = P * (x * x) + Q * (x * y) + R * (y * y) := by grind
  rw [e, e2]
  omega
/-- what carries a reduced form to a reduced form has entries -1, 0, 1 -/
theorem red_small {P Q R P' Q' R' p q r s : Int} (hP : 0 < P) (h1 : -P ≤ Q) (h2 : Q ≤ P) (h3 : P ≤ R) (hd : (p * s - q * r) * (p * s - q * r) = 1)
    (e1 : P' = P * p * p + Q * p * r + R * r * r) (e2 : Q' = 2 * P * p * q + Q * (p * s + q * r) + 2 * R * r * s) (e3 : R' = P * q * q + Q * q * s + R * s * s)
    (g1 : -P' ≤ Q') (g2 : Q' ≤ P') (g3 : P' ≤ R') : (-1 ≤ p ∧ p ≤ 1) ∧ (-1 ≤ q ∧ q ≤ 1) ∧ (-1 ≤ r ∧ r ≤ 1) ∧ (-1 ≤ s ∧ s ≤ 1) := by
  have npr : ¬ (p = 0 ∧ r = 0) := fun z => by rw [z.1, z.2] at hd; simp at hd
  have nsr : ¬ (s = 0 ∧ r = 0) := fun z => by rw [z.1, z.2] at hd; simp at hd
  have a1 := red_val h1 h2 h3 p r
  rw [← e1] at a1
  have b1 := nN_pos npr
  have c1 : P ≤ P' := by
    have := Int.mul_le_mul_of_nonneg_left b1 (Int.le_of_lt hP)
    rw [Int.mul_one] at this
    omega
  have a2 := red_val g1 g2 g3 s (-r)
  have inv : P' * s * s + Q' * s * (-r) + R' * (-r) * (-r) = P := by
    have : P' * s * s + Q' * s * (-r) + R' * (-r) * (-r) = P * ((p * s - q * r) * (p * s - q * r)) := by rw [e1, e2, e3]; grind
    rw [this, hd, Int.mul_one]
  rw [inv] at a2
  have nsr' : ¬ (s = 0 ∧ -r = 0) := fun z => nsr ⟨z.1, by omega⟩
  have b2 := nN_pos nsr'
  have c2 : P' ≤ P := by
    have := Int.mul_le_mul_of_nonneg_left b2 (show 0 ≤ P' by omega)
    rw [Int.mul_one] at this
    omega
  have e : P' = P := by omega
  have d1 : nN p r ≤ 1 := by
    rcases Int.lt_or_le 1 (nN p r) with z | z
    · have := Int.mul_le_mul_of_nonneg_left (show 2 ≤ nN p r by omega) (Int.le_of_lt hP)
      omega
    · exact z
  have d2 : nN s (-r) ≤ 1 := by
    rcases Int.lt_or_le 1 (nN s (-r)) with z | z
    · have := Int.mul_le_mul_of_nonneg_left (show 2 ≤ nN s (-r) by omega) (show 0 ≤ P' by omega)
      omega
    · exact z
  obtain ⟨hp, hr⟩ := nN_le d1
  obtain ⟨hs, -⟩ := nN_le d2
  refine ⟨hp, ?_, hr, hs⟩
  -- the second column: R' can't be far above R
  have hdis : 4 * P * R - Q * Q = 4 * P' * R' - Q' * Q' := by
    have : 4 * P' * R' - Q' * Q' = (4 * P * R - Q * Q) * ((p * s - q * r) * (p * s - q * r)) := by rw [e1, e2, e3]; grind
    rw [this, hd, Int.mul_one]
  rw [e] at hdis g1 g2
  have qq : ∀ z : Int, -P ≤ z → z ≤ P → 0 ≤ z * z ∧ z * z ≤ P * P := fun z z1 z2 => by
    have m := mul_abs (P := P) (Q := z) (t := z) z1 z2
    have m2 : P * (z.natAbs : Int) ≤ P * P := Int.mul_le_mul_of_nonneg_left (by omega) (Int.le_of_lt hP)
    refine ⟨?_, by omega⟩
    rw [← Int.natAbs_mul_self']
    exact Int.mul_nonneg (Int.natCast_nonneg _) (Int.natCast_nonneg _)
  have q1 := qq Q h1 h2
  have q2 := qq Q' g1 g2
  have hR : R' < R + P := by
    rcases Int.lt_or_le R' (R + P) with z | z
    · exact z
    · have m := Int.mul_le_mul_of_nonneg_left z (show 0 ≤ 4 * P by omega)
      have e5 : 4 * P * (R + P) = 4 * P * R + 4 * (P * P) := by grind
      have pp : 0 < P * P := Int.mul_pos hP hP
      omega
  rcases (show s = 0 ∨ s = 1 ∨ s = -1 by omega) with hs0 | hs0 | hs0
  · rw [hs0] at hd
    rcases (show r = 0 ∨ r = 1 ∨ r = -1 by omega) with hr0 | hr0 | hr0
    · rw [hr0] at hd; simp at hd
    · rw [hr0] at hd
      have : q * q = 1 := by rw [← hd]; grind
      have z := nN_le (x := q) (y := 0) (by unfold nN; simp; omega)
      exact z.1
    · rw [hr0] at hd
      have : q * q = 1 := by rw [← hd]; grind
      have z := nN_le (x := q) (y := 0) (by unfold nN; simp; omega)
      exact z.1
  · have v := red_val h1 h2 (show P ≤ P by omega) q 1
    have e6 : R' = P * q * q + Q * q * 1 + P * 1 * 1 + (R - P) := by rw [e3, hs0]; grind
    have w : nN q 1 < 2 := by
      rcases Int.lt_or_le (nN q 1) 2 with z | z
      · exact z
      · have := Int.mul_le_mul_of_nonneg_left z (Int.le_of_lt hP)
        omega
    exact (nN_le (x := q) (y := 1) (by omega)).1
  · have v := red_val h1 h2 (show P ≤ P by omega) q (-1)
    have e6 : R' = P * q * q + Q * q * (-1) + P * (-1) * (-1) + (R - P) := by rw [e3, hs0]; grind
    have w : nN q (-1) < 2 := by
      rcases Int.lt_or_le (nN q (-1)) 2 with z | z
      · exact z
      · have := Int.mul_le_mul_of_nonneg_left z (Int.le_of_lt hP)
        omega
    exact (nN_le (x := q) (y := -1) (by omega)).1
