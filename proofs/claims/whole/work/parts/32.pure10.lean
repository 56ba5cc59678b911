/-! remainders as integers have them -/
theorem remL_ofInt (x y : Int64) (hy : 0 < y.toInt) : remL x y = Int64.ofInt (x.toInt.tmod y.toInt) := by
  have hne : y ≠ -1 := fun q => by rw [q, show (-1 : Int64).toInt = -1 by decide] at hy; omega
  calc remL x y = Int64.ofInt x.toInt - Int64.ofInt (x.toInt.tdiv y.toInt) * Int64.ofInt y.toInt := by
        rw [Int64.ofInt_toInt, Int64.ofInt_toInt, ← Int64.toInt_div_of_ne_right x y hne, Int64.ofInt_toInt]; rfl
    _ = Int64.ofInt (x.toInt - x.toInt.tdiv y.toInt * y.toInt) := by rw [Int64.ofInt_sub, Int64.ofInt_mul]
    _ = Int64.ofInt (x.toInt.tmod y.toInt) := by
        congr 1
        have := Int.mul_tdiv_add_tmod x.toInt y.toInt
        rw [Int.mul_comm] at this
        omega
theorem remL_toInt (x y : Int64) (hy : 0 < y.toInt) : (remL x y).toInt = x.toInt.tmod y.toInt := by
  rw [remL_ofInt x y hy, Int64.toInt_ofInt]
  have h1 := Int.tmod_lt_of_pos x.toInt hy
  have h2 := Int.lt_tmod_of_pos x.toInt hy
  have h3 := Int64.toInt_lt y
  have h4 : Int64.size = 18446744073709551616 := rfl
  rw [h4]
  exact Int.bmod_eq_of_le (by omega) (by omega)
theorem remL_0 (x y : Int64) (hy : 0 < y.toInt) : remL x y = 0 ↔ y.toInt ∣ x.toInt := by
  rw [Int.dvd_iff_tmod_eq_zero, ← remL_toInt x y hy]
  constructor
  · intro h; rw [h]; decide
  · intro h; exact Int64.toInt_inj.mp (by rw [h]; decide)
theorem absL_cases {x : Int64} {A : Nat} (h : absL x = lN A) (hA : A < 2 ^ 31) : x.toInt = A ∨ x.toInt = -A := by
  unfold absL at h
  by_cases q : 0 < x
  · rw [if_pos q] at h; rw [h]; exact Or.inl (lN_toInt hA)
  · rw [if_neg q] at h
    have h2 : x = -lN A := by rw [← h, Int64.neg_neg]
    right
    rw [h2, Int64.toInt_neg, lN_toInt hA]
    exact Int.bmod_eq_of_le (by omega) (by omega)
theorem remL_abs {x : Int64} {A b : Nat} (h : absL x = lN A) (hA : A < 2 ^ 31) (hb : 0 < b) (hb2 : b < 2 ^ 31) : x - x / lN b * lN b = 0 ↔ A % b = 0 := by
  show remL x (lN b) = 0 ↔ _
  rw [remL_0 x (lN b) (by rw [lN_toInt hb2]; omega), lN_toInt hb2]
  rw [← Nat.dvd_iff_mod_eq_zero, ← Int.natCast_dvd_natCast]
  rcases absL_cases h hA with q | q
  · rw [q]
  · rw [q, Int.dvd_neg]
theorem vanF_of {f : Fm} {x y : Int64} (h : valF f x y = 0) : vanF f x y = true := by simp [vanF, h]
theorem vanF_of2 {f : Fm} {x y : Int64} (h : valF f (-x) y = 0) : vanF f x y = true := by simp [vanF, h]
theorem vanF_no {f : Fm} {x y : Int64} (h : ¬ valF f x y = 0) (h2 : ¬ valF f (-x) y = 0) : vanF f x y = false := by simp [vanF, h, h2]
def linInv (q : Nat → Bool) (N x : Nat) : Prop := ∀ z, 1 ≤ z → z < x → N % z = 0 → q z = false
theorem linInv_1 {q : Nat → Bool} {N : Nat} : linInv q N 1 := fun z h1 h2 => by omega
theorem linInv_s {q : Nat → Bool} {N x : Nat} (h : linInv q N x) (hx : N % x = 0 → q x = false) : linInv q N (x + 1) := fun z h1 h2 h3 => by
  rcases Nat.lt_or_ge z x with h4 | h4
  · exact h z h1 h4 h3
  · have : z = x := by omega
    subst this
    exact hx h3
theorem linInv_end {q : Nat → Bool} {N x : Nat} (h : linInv q N x) (hx : N < x) : anyDiv N q = false := by
  rw [Bool.eq_false_iff]
  intro h0
  obtain ⟨z, h1, h2, h3, h4⟩ := anyDiv_true.mp h0
  rw [h z h2 (by omega) h3] at h4
  cases h4
