/-! floors over 64 bits -/
theorem div_of (x y : Int64) (hy : 0 < y.toInt) : x / y = Int64.ofInt (x.toInt.tdiv y.toInt) := by
  have hne : y ≠ -1 := fun q => by rw [q, show (-1 : Int64).toInt = -1 by decide] at hy; omega
  rw [← Int64.toInt_div_of_ne_right x y hne, Int64.ofInt_toInt]
theorem neg_xor (x y : Int64) (hy : 0 < y.toInt) : x ^^^ y < 0 ↔ x.toInt < 0 := by
  rw [Int64.lt_iff_toInt_lt, show (0 : Int64).toInt = 0 by decide]
  have e1 : (x ^^^ y).toBitVec.msb = decide ((x ^^^ y).toInt < 0) := BitVec.msb_eq_toInt
  have e2 : x.toBitVec.msb = decide (x.toInt < 0) := BitVec.msb_eq_toInt
  have e3 : y.toBitVec.msb = decide (y.toInt < 0) := BitVec.msb_eq_toInt
  rw [Int64.toBitVec_xor, BitVec.msb_xor, e2, e3, show decide (y.toInt < 0) = false from decide_eq_false (by omega)] at e1
  simpa using e1.symm
theorem fl_sub (x y : Int64) : x - x / y * y = 0 ↔ x / y * y = x := by
  constructor
  · intro h; grind
  · intro h; rw [h]; simp
theorem fdiv_of (x y : Int64) (hy : 0 < y.toInt) : fdivL x y = Int64.ofInt (x.toInt / y.toInt) := by
  unfold fdivL
  have hd := div_of x y hy
  have hz := remL_0 x y hy
  have ht := @Int.tdiv_eq_ediv x.toInt y.toInt
  have hs : y.toInt.sign = 1 := Int.sign_eq_one_of_pos hy
  by_cases h0 : x.toInt < 0
  · rw [if_pos ((neg_xor x y hy).mpr h0)]
    by_cases h1 : x / y * y = x
    · have hdv := hz.mp ((fl_sub x y).mpr h1)
      rw [if_pos h1, hd, ht, if_pos (Or.inr hdv), Int.add_zero]
    · have hdv : ¬ y.toInt ∣ x.toInt := fun q => h1 ((fl_sub x y).mp (hz.mpr q))
      rw [if_neg h1, hd, ht, if_neg (fun q => q.elim (fun z => by omega) hdv), hs, Int64.ofInt_add]
      have : Int64.ofInt 1 = 1 := by decide
      rw [this]
      grind
  · rw [if_neg (fun q => h0 ((neg_xor x y hy).mp q)), hd, ht, if_pos (Or.inl (by omega)), Int.add_zero]
theorem fl_of (x y : Int64) (hy : 0 < y.toInt) : flM x y = Int64.ofInt (x.toInt / y.toInt) := by
  unfold flM
  have hd := div_of x y hy
  have hz := remL_0 x y hy
  have hr := remL_toInt x y hy
  have ht := @Int.tdiv_eq_ediv x.toInt y.toInt
  have hs : y.toInt.sign = 1 := Int.sign_eq_one_of_pos hy
  have hx1 := Int64.le_toInt x
  have hx2 := Int64.toInt_lt x
  have hlt := Int.tmod_lt_of_pos x.toInt hy
  have hgt := Int.lt_tmod_of_pos x.toInt hy
  have hm := Int.mul_tdiv_add_tmod x.toInt y.toInt
  have hpr : (x / y * y).toInt = x.toInt - x.toInt.tmod y.toInt := by
    have e : x / y * y = Int64.ofInt (x.toInt - x.toInt.tmod y.toInt) := by
      have e1 : x / y * y = Int64.ofInt (x.toInt.tdiv y.toInt) * Int64.ofInt y.toInt := by rw [hd, Int64.ofInt_toInt]
      rw [e1, ← Int64.ofInt_mul]
      congr 1
      rw [Int.mul_comm]
      omega
    rw [e]
    rcases Int.le_total 0 x.toInt with q | q
    · have t0 := Int.tmod_nonneg y.toInt q
      have t1 : x.toInt.tmod y.toInt ≤ x.toInt := by
        have hq : 0 ≤ y.toInt * x.toInt.tdiv y.toInt := Int.mul_nonneg (by omega) (Int.tdiv_nonneg q (by omega))
        omega
      exact ti_of (by omega) (by omega)
    · have t0 := Int.tmod_nonneg y.toInt (show 0 ≤ -x.toInt by omega)
      rw [Int.neg_tmod] at t0
      have t1 : x.toInt ≤ x.toInt.tmod y.toInt := by
        have hq : 0 ≤ y.toInt * (-x.toInt).tdiv y.toInt := Int.mul_nonneg (by omega) (Int.tdiv_nonneg (by omega) (by omega))
        rw [Int.neg_tdiv, Int.mul_neg] at hq
        omega
      exact ti_of (by omega) (by omega)
  have hc : x < x / y * y ↔ x.toInt.tmod y.toInt < 0 := by
    rw [Int64.lt_iff_toInt_lt, hpr]
    omega
  by_cases h0 : x.toInt.tmod y.toInt < 0
  · have hn : ¬ (0 ≤ x.toInt ∨ y.toInt ∣ x.toInt) := fun q => q.elim (fun z => by have := Int.tmod_nonneg y.toInt z; omega) (fun z => by rw [Int.dvd_iff_tmod_eq_zero] at z; omega)
    rw [if_pos (hc.mpr h0), hd, ht, if_neg hn, hs, Int64.ofInt_add]
    have : Int64.ofInt 1 = 1 := by decide
    rw [this]
    grind
  · have hn : 0 ≤ x.toInt ∨ y.toInt ∣ x.toInt := by
      rcases Int.lt_or_le x.toInt 0 with z | z
      · right
        have t0 := Int.tmod_nonneg y.toInt (show 0 ≤ -x.toInt by omega)
        rw [Int.neg_tmod] at t0
        exact Int.dvd_of_tmod_eq_zero (by omega)
      · exact Or.inl z
    rw [if_neg (fun q => h0 (hc.mp q)), hd, ht, if_pos hn, Int.add_zero]
theorem sh_sub (f : Fm) (k : Int64) : shF f k = subF f 1 k 0 1 := by
  unfold shF subF valF
  refine Prod.ext ?_ (Prod.ext ?_ (Prod.ext ?_ ?_)) <;> (show _ = _; grind)
theorem sw_sub (f : Fm) : swF f = subF f 0 1 1 0 := by
  unfold swF subF valF
  refine Prod.ext ?_ (Prod.ext ?_ (Prod.ext ?_ ?_)) <;> (show _ = _; grind)
