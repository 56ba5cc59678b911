/-! the reference's reduction, canonical forms, remainders -/
theorem unit_eq (z : Int32) : decide (sizeL z.toInt64 = 1) = decide (absI z = 1) := by
  rw [decide_eq_decide]
  have e : z.toInt64.toInt = z.toInt := Int32.toInt_toInt64 z
  have hr1 := Int32.le_toInt z
  have hr2 := Int32.toInt_lt z
  have z64 : (0 : Int64).toInt = 0 := by decide
  have z32 : (0 : Int32).toInt = 0 := by decide
  constructor
  · intro h
    unfold sizeL at h
    unfold absI
    by_cases q : z.toInt64 < 0
    · rw [if_pos q] at h
      have q1 := Int64.lt_iff_toInt_lt.mp q
      have h1 := congrArg Int64.toInt h
      rw [Int64.toInt_neg, Int.bmod_eq_of_le (by omega) (by omega), e, show (1 : Int64).toInt = 1 by decide] at h1
      have : z = -1 := Int32.toInt_inj.mp (by rw [show (-1 : Int32).toInt = -1 by decide]; omega)
      rw [this]; decide
    · rw [if_neg q] at h
      have h1 := congrArg Int64.toInt h
      rw [e, show (1 : Int64).toInt = 1 by decide] at h1
      have : z = 1 := Int32.toInt_inj.mp (by rw [show (1 : Int32).toInt = 1 by decide]; omega)
      rw [this]; decide
  · intro h
    unfold absI at h
    unfold sizeL
    by_cases q : 0 ≤ z
    · rw [if_pos q] at h
      rw [h]; decide
    · rw [if_neg q] at h
      have h1 := congrArg Int32.toInt h
      have q1 : ¬ (0 : Int32).toInt ≤ z.toInt := fun w => q (Int32.le_iff_toInt_le.mpr w)
      rw [Int32.toInt_sub, show (1 : Int32).toInt = 1 by decide, z32] at h1
      by_cases hm : z.toInt = -2147483648
      · rw [hm] at h1; exact absurd h1 (by decide)
      · rw [Int.bmod_eq_of_le (by omega) (by omega)] at h1
        have : z = -1 := Int32.toInt_inj.mp (by rw [show (-1 : Int32).toInt = -1 by decide]; omega)
        rw [this]; decide
theorem dg_p1 {j : Nat} (h : j < 81) : nI j / 27 - 1 = mp j := by
  rw [show nI j / 27 = nI (j / 27) from pk_div (d := 27) (by omega) (by decide) (by decide), mp, Nat.mod_eq_of_lt (by omega)]
def redM : Nat → Fm → Option Fm
  | 0, _ => none
  | k + 1, f => if reduM f then some f else if hpF f < sizeL (hqF f) then (if 2 * hpF f = 0 then none else redM k (subF f 1 (flM (hpF f - hqF f) (2 * hpF f)) 0 1)) else redM k (subF f 0 1 1 0)
def canGoM (src : Fm) : Nat → Nat → Fm → Fm
  | 0, _, g => g
  | k + 1, j, g => canGoM src k (j + 1) (if unitB j && reduM (candF src j) && befF (candF src j) g then candF src j else g)
def canOK (f : Fm) : Prop := ∃ N g, redM N f = some g ∧ canGoM g 81 0 g = sealC 0 f
def autOK (f : Fm) : Prop := ∃ N g, redM N f = some g ∧ autGo g 81 0 0 = sealA 0 f
theorem sameF_comm (f g : Fm) : sameF f g = sameF g f := by
  unfold sameF
  simp only [eq_comm]
