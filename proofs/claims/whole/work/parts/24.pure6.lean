/-! the reference's formulas, brought to the class's -/
def btw (v lo hi : Int64) : Bool := decide (¬ v < lo) && decide (¬ hi < v)
def sizeL (v : Int64) : Int64 := if v < 0 then -v else v
theorem wide_lt (a b : Int32) : a.toInt64 < b.toInt64 ↔ a < b := by rw [Int64.lt_iff_toInt_lt, Int32.lt_iff_toInt_lt, Int32.toInt_toInt64, Int32.toInt_toInt64]
theorem wide_0 : (0 : Int64) = (0 : Int32).toInt64 := by decide
theorem isFormB_btw {n : Nat} (hn : n ≤ 60) (x : Int32) : btw x.toInt64 0 (nI n - 1).toInt64 = isFormB n x := by
  unfold btw isFormB
  rw [wide_0]
  simp only [wide_lt]
  congr 1
  rw [decide_eq_decide]
  have e : (nI n - 1).toInt = (n : Int) - 1 := pk_sub_toInt (b := 1) (by omega) (by decide)
  rw [Int32.lt_iff_toInt_lt, Int32.lt_iff_toInt_lt, e, nI_toInt (by omega)]
  omega
theorem btw_lit (x : Int32) (lo hi : Int32) {l2 h2 : Int64} (h1 : lo.toInt64 = l2) (h3 : hi.toInt64 = h2) : btw x.toInt64 l2 h2 = (decide (¬ x < lo) && decide (¬ hi < x)) := by
  unfold btw; rw [← h1, ← h3]; simp only [wide_lt]
theorem btw_isW (v : Int64) : btw v (-300) 300 = isW v 300 := rfl
theorem btw_isW1 (v : Int64) : btw v (-100) 100 = isW v 100 := rfl
theorem btw_isWk (v : Int64) : btw v (-1000) 1000 = isW v 1000 := rfl
theorem isReg_btw (x : Int32) : btw x.toInt64 0 5 = isRegB x := by
  rw [btw_lit x 0 5 (by decide) (by decide)]
  unfold isRegB
  congr 1
  rw [decide_eq_decide, Int32.lt_iff_toInt_lt, Int32.lt_iff_toInt_lt, show (5 : Int32).toInt = 5 by decide, show (6 : Int32).toInt = 6 by decide]
  omega
theorem sizeL_abs (v : Int64) : sizeL v = absL v := by
  unfold sizeL absL
  by_cases h : v < 0
  · rw [if_pos h, if_neg (fun q => by
      have h1 := Int64.lt_iff_toInt_lt.mp h
      have h2 := Int64.lt_iff_toInt_lt.mp q
      omega)]
  · rw [if_neg h]
    by_cases q : 0 < v
    · rw [if_pos q]
    · rw [if_neg q]
      have h1 := Int64.le_iff_toInt_le.mp (Int64.not_lt.mp h)
      have h2 := Int64.le_iff_toInt_le.mp (Int64.not_lt.mp q)
      have : v = 0 := Int64.toInt_inj.mp (by omega)
      rw [this]; decide
theorem valM (f : Fm) (x y : Int64) : f.1 * x * x * x + f.2.1 * x * x * y + f.2.2.1 * x * y * y + f.2.2.2 * y * y * y = valF f x y := by
  unfold valF; grind
theorem subM (f : Fm) (p q r s : Int64) : (valF f p r, 3 * f.1 * p * p * q + f.2.1 * (p * p * s + 2 * p * q * r) + f.2.2.1 * (2 * p * r * s + q * r * r) + 3 * f.2.2.2 * r * r * s, 3 * f.1 * p * q * q + f.2.1 * (2 * p * q * s + q * q * r) + f.2.2.1 * (p * s * s + 2 * q * r * s) + 3 * f.2.2.2 * r * s * s, valF f q s) = subF f p q r s := by
  unfold subF
  refine Prod.ext rfl (Prod.ext ?_ (Prod.ext ?_ rfl))
  · show _ = _; grind
  · show _ = _; grind
theorem prodM (f : Fm) (u v t x y z : Int64) : (u * x - f.1 * f.2.2.1 * v * y - f.2.1 * f.2.2.2 * t * z - f.1 * f.2.2.2 * (v * z + t * y), u * y + v * x + f.2.1 * v * y + f.2.2.2 * t * z, u * z + t * x - f.1 * v * y - f.2.2.1 * t * z) = prodE f (u, v, t) (x, y, z) := by
  unfold prodE
  refine Prod.ext ?_ (Prod.ext ?_ ?_)
  · show _ = _; grind
  · show _ = _; grind
  · show _ = _; grind
theorem ptM (f : Fm) (t : Int64) : (f.1 + f.2.1 * t + f.2.2.1 * t * t + f.2.2.2 * t * t * t, f.2.1 + 2 * f.2.2.1 * t + 3 * f.2.2.2 * t * t, f.2.2.1 + 3 * f.2.2.2 * t, f.2.2.2) = (((f.2.2.2 * t + f.2.2.1) * t + f.2.1) * t + f.1, (3 * f.2.2.2 * t + 2 * f.2.2.1) * t + f.2.1, 3 * f.2.2.2 * t + f.2.2.1, f.2.2.2) := by
  refine Prod.ext ?_ (Prod.ext ?_ (Prod.ext ?_ rfl))
  · show _ = _; grind
  · show _ = _; grind
  · show _ = _; grind
def reduM (f : Fm) : Bool := decide (¬ hpF f < sizeL (hqF f)) && decide (¬ hrF f < hpF f)
def flM (v m : Int64) : Int64 := if v < v / m * m then v / m - 1 else v / m
theorem stR_ne {n : Nat} (hn : n ≤ 60) : ¬ stR n = (-10005) := by
  unfold stR
  split
  · intro h
    have := congrArg Int32.toInt h
    rw [nI_toInt (by omega), show (-10005 : Int32).toInt = -10005 by decide] at this
    omega
  · decide
theorem addR_eq {n : Nat} {f : Fm} (hn : n ≤ 60) (h : sifR n f = (-10005)) : (-10003 : Int32) = if fitsF f then stR n else (-10003) := by
  unfold sifR at h
  by_cases q : fitsF f = true
  · rw [if_pos q] at h; exact absurd h (stR_ne hn)
  · rw [if_neg q]
theorem addR_ne {n : Nat} {f : Fm} (h : ¬ sifR n f = (-10005)) : sifR n f = if fitsF f then stR n else (-10003) := by
  unfold sifR at h ⊢
  by_cases q : fitsF f = true
  · rw [if_pos q, if_pos q]
  · rw [if_neg q] at h; exact absurd rfl h
theorem btw3 {y : Int32} (h : btw y.toInt64 0 3 = true) : ∃ i, i < 4 ∧ y = nI i ∧ ¬ y < 0 ∧ y < 4 := by
  rw [btw_lit y 0 3 (by decide) (by decide)] at h
  simp only [Bool.and_eq_true, decide_eq_true_eq] at h
  obtain ⟨i, hi, rfl⟩ := nI_of h.1
  have h3 : ¬ 3 < i := fun q => h.2 ((nI_ltI (a := 3) (by decide) hi).mpr q)
  exact ⟨i, by omega, rfl, h.1, (nI_ltI (b := 4) hi (by decide)).mpr (by omega)⟩
theorem btw3f {y v : Int32} {A : Int32} (h : btw y.toInt64 0 3 = false) : v = if y < 0 then v else if y < 4 then A else v := by
  rw [btw_lit y 0 3 (by decide) (by decide)] at h
  by_cases q : y < 0
  · rw [if_pos q]
  · rw [if_neg q]
    have : ¬ y < 4 := fun z => by
      have h3 : ¬ (3 : Int32) < y := by
        rw [Int32.lt_iff_toInt_lt, show (3 : Int32).toInt = 3 by decide]
        have := Int32.lt_iff_toInt_lt.mp z
        rw [show (4 : Int32).toInt = 4 by decide] at this
        omega
      simp [q, h3] at h
    rw [if_neg this]
theorem btw2 {y : Int32} : btw y.toInt64 0 2 = (decide (¬ y < 0) && decide (¬ 2 < y)) := btw_lit y 0 2 (by decide) (by decide)
theorem hesR_b {f : Fm} {y : Int32} (h : btw y.toInt64 0 2 = false) : hesR f y = (-9223372036854775808) := by
  rw [btw2] at h
  apply hesR_out
  simp only [Bool.and_eq_false_iff, decide_eq_false_iff_not, Decidable.not_not] at h
  rcases h with q | q
  · exact Or.inl (by have := Int32.lt_iff_toInt_lt.mp q; rw [show (0 : Int32).toInt = 0 by decide] at this; exact this)
  · exact Or.inr (by have := Int32.lt_iff_toInt_lt.mp q; rw [show (2 : Int32).toInt = 2 by decide] at this; exact this)
theorem hesR_3 {f : Fm} {y : Int32} (_ : btw y.toInt64 0 2 = true) (h : y = 0) : hpF f = hesR f y := by rw [hesR, if_pos h]
theorem hesR_4 {f : Fm} {y : Int32} (_ : btw y.toInt64 0 2 = true) (h : ¬ y = 0) (h1 : y = 1) : hqF f = hesR f y := by rw [hesR, if_neg h, if_pos h1]
theorem hesR_5 {f : Fm} {y : Int32} (hb : btw y.toInt64 0 2 = true) (h : ¬ y = 0) (h1 : ¬ y = 1) : hrF f = hesR f y := by
  rw [btw2] at hb
  simp only [Bool.and_eq_true, decide_eq_true_eq] at hb
  obtain ⟨i, hi, rfl⟩ := nI_of hb.1
  have h3 : ¬ 2 < i := fun q => hb.2 ((nI_ltI (a := 2) (by decide) hi).mpr q)
  have h4 : ¬ i = 0 := fun q => h (by rw [q]; rfl)
  have h5 : ¬ i = 1 := fun q => h1 (by rw [q]; rfl)
  have : i = 2 := by omega
  subst this
  rfl
