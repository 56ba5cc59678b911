/-! plain facts on numbers that loops use; divisors in pairs; primes; overrings over 64 bits -/
theorem nI_ltn {a b : Nat} (ha : a < 2 ^ 31) (hb : b < 2 ^ 31) {x : Int32} (hx : x = nI b) : nI a < x ↔ a < b := by rw [hx]; exact nI_ltI ha hb
theorem lN_ne0 {n : Nat} (h0 : 0 < n) (h : n < 2 ^ 31) : ¬ lN n = 0 := fun q => by
  have := (lN_eq (a := n) (b := 0) h (by decide)).mp q
  omega
theorem lN_sq0 {n : Nat} (h0 : 0 < n) (h : n < 2 ^ 15) : ¬ lN n * lN n = 0 := fun q => by
  rw [lN_mul] at q
  have h2 : n * n < 2 ^ 15 * 2 ^ 15 := Nat.mul_lt_mul_of_lt_of_le h (Nat.le_of_lt h) (by decide)
  have := (lN_eq (a := n * n) (b := 0) (by omega) (by decide)).mp q
  have := Nat.mul_pos h0 h0
  omega
theorem lN_rem0 {a b : Nat} (ha : a < 2 ^ 31) (h0 : 0 < b) (hb : b < 2 ^ 31) : lN a - lN a / lN b * lN b = 0 ↔ a % b = 0 := by
  rw [pk_lRem (by omega) h0 (by omega)]
  have := Nat.mod_lt a h0
  exact lN_eq (b := 0) (by omega) (by decide)
theorem lN_ltsq {a b : Nat} (ha : a < 2 ^ 31) (hb : b < 2 ^ 15) : lN a < lN b * lN b ↔ a < b * b := by
  rw [lN_mul]
  have h2 : b * b < 2 ^ 15 * 2 ^ 15 := by
    rcases Nat.eq_zero_or_pos b with h | h
    · subst h; decide
    · exact Nat.mul_lt_mul_of_lt_of_le hb (Nat.le_of_lt hb) (by decide)
  exact lN_lt ha (by omega)
/-- some divisor of N meets q -/
def anyDiv (N : Nat) (q : Nat → Bool) : Bool := (List.range (N + 1)).any (fun x => decide (1 ≤ x) && decide (N % x = 0) && q x)
theorem anyDiv_true {N : Nat} {q : Nat → Bool} : anyDiv N q = true ↔ ∃ x, x ≤ N ∧ 1 ≤ x ∧ N % x = 0 ∧ q x = true := by
  unfold anyDiv
  rw [List.any_eq_true]
  constructor
  · rintro ⟨x, h1, h2⟩
    rw [List.mem_range] at h1
    simp only [Bool.and_eq_true, decide_eq_true_eq] at h2
    exact ⟨x, by omega, h2.1.1, h2.1.2, h2.2⟩
  · rintro ⟨x, h1, h2, h3, h4⟩
    refine ⟨x, List.mem_range.mpr (by omega), ?_⟩
    simp only [Bool.and_eq_true, decide_eq_true_eq]
    exact ⟨⟨h2, h3⟩, h4⟩
theorem anyDiv_yes {N : Nat} {q : Nat → Bool} (hN : 0 < N) {x : Nat} (h1 : 1 ≤ x) (h2 : N % x = 0) (h3 : q x = true) : anyDiv N q = true :=
  anyDiv_true.mpr ⟨x, Nat.le_of_dvd hN (Nat.dvd_of_mod_eq_zero h2), h1, h2, h3⟩
def sqInv (q : Nat → Bool) (N x : Nat) : Prop := ∀ z, 1 ≤ z → z < x → N % z = 0 → q z = false ∧ q (N / z) = false
theorem sqInv_1 {q : Nat → Bool} {N : Nat} : sqInv q N 1 := fun z h1 h2 => by omega
theorem sqInv_s {q : Nat → Bool} {N x : Nat} (h : sqInv q N x) (hx : N % x = 0 → q x = false ∧ q (N / x) = false) : sqInv q N (x + 1) := fun z h1 h2 h3 => by
  rcases Nat.lt_or_ge z x with h4 | h4
  · exact h z h1 h4 h3
  · have : z = x := by omega
    subst this
    exact hx h3
theorem sqInv_end {q : Nat → Bool} {N x : Nat} (h : sqInv q N x) (hN : 0 < N) (hx : N < x * x) : anyDiv N q = false := by
  rw [Bool.eq_false_iff]
  intro h0
  obtain ⟨z, h1, h2, h3, h4⟩ := anyDiv_true.mp h0
  rcases Nat.lt_or_ge z x with h5 | h5
  · rw [(h z h2 h5 h3).1] at h4; cases h4
  · have hd : z * (N / z) = N := by have := Nat.div_add_mod N z; omega
    have hy1 : 1 ≤ N / z := by
      rcases Nat.eq_zero_or_pos (N / z) with h6 | h6
      · rw [h6] at hd; omega
      · exact h6
    have hy2 : N / z < x := by
      rcases Nat.lt_or_ge (N / z) x with h6 | h6
      · exact h6
      · have := Nat.mul_le_mul h5 h6
        omega
    have hy3 : N % (N / z) = 0 := by
      have : N = (N / z) * z := by rw [Nat.mul_comm]; exact hd.symm
      exact Nat.mod_eq_zero_of_dvd ⟨z, this⟩
    have hy4 : N / (N / z) = z := by
      have : N = (N / z) * z := by rw [Nat.mul_comm]; exact hd.symm
      exact Nat.div_eq_of_eq_mul_right hy1 this
    have := (h (N / z) hy1 hy2 hy3).2
    rw [hy4, h4] at this
    cases this
def rootOver (f : Fm) (Dn : Nat) (y : Int64) : Bool := anyDiv Dn (fun x => vanF f (lN x) y)
def rootC (f : Fm) (An Dn : Nat) : Bool := decide (f.1 = 0) || decide (f.2.2.2 = 0) || anyDiv An (fun y => rootOver f Dn (lN y))
def prB (P : Nat) : Bool := (List.range 32).all (fun k => !(decide (2 ≤ k) && decide (k * k ≤ P) && decide (P % k = 0)))
theorem prB_no {P k : Nat} (h1 : 2 ≤ k) (h2 : k * k ≤ P) (hP : P ≤ 997) (h3 : P % k = 0) : prB P = false := by
  rw [Bool.eq_false_iff]
  intro h
  have hk : k < 32 := by
    rcases Nat.lt_or_ge k 32 with q | q
    · exact q
    · have := Nat.mul_le_mul q q
      omega
  have := List.all_eq_true.mp h k (List.mem_range.mpr hk)
  simp [h1, h2, h3] at this
theorem prB_yes {P k : Nat} (hi : ∀ j, 2 ≤ j → j < k → P % j ≠ 0) (hk : P < k * k) : prB P = true := by
  unfold prB
  rw [List.all_eq_true]
  intro j hj
  simp only [Bool.not_eq_true', Bool.and_eq_false_iff, decide_eq_false_iff_not]
  rcases Nat.lt_or_ge j 2 with h1 | h1
  · exact Or.inl (Or.inl (by omega))
  rcases Nat.lt_or_ge j k with h2 | h2
  · exact Or.inr (hi j h1 h2)
  · refine Or.inl (Or.inr ?_)
    have := Nat.mul_le_mul h2 h2
    omega
def primeB (x : Int32) : Bool := decide (¬ x < 2) && decide (¬ 997 < x) && prB x.toNatClampNeg
theorem primeB_of {P : Nat} (h1 : 2 ≤ P) (h2 : P ≤ 997) : primeB (nI P) = prB P := by
  have e1 : ¬ nI P < 2 := fun h => by have := (nI_ltI (a := P) (b := 2) (by omega) (by decide)).mp h; omega
  have e2 : ¬ (997 : Int32) < nI P := fun h => by have := (nI_ltI (a := 997) (b := P) (by decide) (by omega)).mp h; omega
  simp only [primeB, e1, e2, not_false_eq_true, decide_true, Bool.true_and, nI_clamp (show P < 2 ^ 31 by omega)]
theorem primeB_out {x : Int32} (h : primeB x = true) : ∃ P, 2 ≤ P ∧ P ≤ 997 ∧ x = nI P ∧ prB P = true := by
  simp only [primeB, Bool.and_eq_true, decide_eq_true_eq] at h
  obtain ⟨⟨h1, h2⟩, h3⟩ := h
  have h4 := Int32.not_lt.mp h1
  have h5 := Int32.not_lt.mp h2
  have e4 : (2 : Int) ≤ x.toInt := by have := Int32.le_iff_toInt_le.mp h4; exact this
  have e5 : x.toInt ≤ 997 := by have := Int32.le_iff_toInt_le.mp h5; exact this
  obtain ⟨j, hj, rfl⟩ := nI_of2 (x := x) (M := 997) (n := 997) (by decide) (fun q => by
    have := Int32.lt_iff_toInt_lt.mp q
    have e0 : (0 : Int32).toInt = 0 := by decide
    omega) h5
  rw [nI_toInt (by omega)] at e4
  rw [nI_clamp (by omega)] at h3
  exact ⟨j, by omega, hj, rfl, h3⟩
/-- the overring at P: the points from t on, k of them -/
def ovGo (f : Fm) (P : Nat) : Nat → Nat → Option Fm
  | 0, _ => none
  | k + 1, t => if remL (ptF f (lN P) (lN t)).1 (lN P * lN P) = 0 then (if remL (ptF f (lN P) (lN t)).2.1 (lN P) = 0 then some ((ptF f (lN P) (lN t)).1 / (lN P * lN P), (ptF f (lN P) (lN t)).2.1 / lN P, (ptF f (lN P) (lN t)).2.2.1, (ptF f (lN P) (lN t)).2.2.2 * lN P) else ovGo f P k (t + 1)) else ovGo f P k (t + 1)
def ovM (f : Fm) (P : Nat) : Option Fm := if mulF f (lN P) then some (f.1 / lN P, f.2.1 / lN P, f.2.2.1 / lN P, f.2.2.2 / lN P) else ovGo f P (P + 1) 0
def ovC (f : Fm) (P : Nat) : Option Fm := if remL (discF f) (lN P * lN P) = 0 then ovM f P else none
theorem absL_0 {x : Int64} (h : absL x = 0) : x = 0 := by
  unfold absL at h
  by_cases q : 0 < x
  · rw [if_pos q] at h; exact h
  · rw [if_neg q] at h
    have := congrArg (fun z => -z) h
    simpa using this
theorem lN_sqpos {n : Nat} (h0 : 0 < n) (h : n < 2 ^ 15) : (0 : Int64) < lN n * lN n := by
  rw [lN_mul]
  have h2 : n * n < 2 ^ 15 * 2 ^ 15 := Nat.mul_lt_mul_of_lt_of_le h (Nat.le_of_lt h) (by decide)
  exact (lN_lt (a := 0) (by decide) (by omega)).mpr (Nat.mul_pos h0 h0)
theorem nI_rem0 {a b : Nat} (ha : a < 2 ^ 31) (h0 : 0 < b) (hb : b < 2 ^ 31) : nI a - nI a / nI b * nI b = 0 ↔ a % b = 0 := by
  rw [pk_rem ha h0 hb]
  have := Nat.mod_lt a h0
  exact nI_eq (b := 0) (by omega) (by decide)
theorem nI_ltsq {a b : Nat} (ha : a < 2 ^ 31) (hb : b < 2 ^ 15) : nI a < nI b * nI b ↔ a < b * b := by
  rw [pk_mul]
  have h2 : b * b < 2 ^ 15 * 2 ^ 15 := by
    rcases Nat.eq_zero_or_pos b with h | h
    · subst h; decide
    · exact Nat.mul_lt_mul_of_lt_of_le hb (Nat.le_of_lt hb) (by decide)
  exact nI_ltI ha (by omega)
theorem x_in2 {x : Int32} (h1 : ¬ x < 2) (h2 : ¬ 997 < x) : ∃ P, 2 ≤ P ∧ P ≤ 997 ∧ x = nI P := by
  have h4 := Int32.not_lt.mp h1
  have h5 := Int32.not_lt.mp h2
  have e4 : (2 : Int) ≤ x.toInt := by have := Int32.le_iff_toInt_le.mp h4; exact this
  obtain ⟨j, hj, rfl⟩ := nI_of2 (x := x) (M := 997) (n := 997) (by decide) (fun q => by
    have := Int32.lt_iff_toInt_lt.mp q
    have e0 : (0 : Int32).toInt = 0 := by decide
    omega) h5
  rw [nI_toInt (by omega)] at e4
  exact ⟨j, by omega, hj, rfl⟩
