/-! the algorithms of Workshop over 64 bits -/
def mp (j : Nat) : Int32 := nI (j / 27 % 3) - 1
def mq (j : Nat) : Int32 := nI (j / 9 % 3) - 1
def mr (j : Nat) : Int32 := nI (j / 3 % 3) - 1
def mz (j : Nat) : Int32 := nI (j % 3) - 1
theorem dg_3 {a : Nat} (ha : a < 2 ^ 31) : nI a - nI a / 3 * 3 = nI (a % 3) := pk_rem (d := 3) ha (by decide) (by decide)
theorem dg_p {j : Nat} (h : j < 81) : nI j / 27 - nI j / 27 / 3 * 3 - 1 = mp j := by
  rw [show nI j / 27 = nI (j / 27) from pk_div (d := 27) (by omega) (by decide) (by decide), dg_3 (by omega)]; rfl
theorem dg_q {j : Nat} (h : j < 81) : nI j / 9 - nI j / 9 / 3 * 3 - 1 = mq j := by
  rw [show nI j / 9 = nI (j / 9) from pk_div (d := 9) (by omega) (by decide) (by decide), dg_3 (by omega)]; rfl
theorem dg_r {j : Nat} (h : j < 81) : nI j / 3 - nI j / 3 / 3 * 3 - 1 = mr j := by
  rw [show nI j / 3 = nI (j / 3) from pk_div (d := 3) (by omega) (by decide) (by decide), dg_3 (by omega)]; rfl
theorem dg_s {j : Nat} (h : j < 81) : nI j - nI j / 3 * 3 - 1 = mz j := by
  rw [dg_3 (by omega)]; rfl
def unitB (j : Nat) : Bool := decide (absI (mp j * mz j - mq j * mr j) = 1)
def candF (f : Fm) (j : Nat) : Fm := subF f (mp j).toInt64 (mq j).toInt64 (mr j).toInt64 (mz j).toInt64
def canGo (src : Fm) : Nat → Nat → Fm → Fm
  | 0, _, g => g
  | k + 1, j, g => canGo src k (j + 1) (if unitB j && reduF (candF src j) && befF (candF src j) g then candF src j else g)
def canC (f : Fm) : Fm := canGo (redGo 1000 f) 81 0 (redGo 1000 f)
def autGo (src : Fm) : Nat → Nat → Nat → Nat
  | 0, _, a => a
  | k + 1, j, a => autGo src k (j + 1) (if unitB j && sameF (candF src j) src then a + 1 else a)
def splGo (f : Fm) (P : Nat) : Nat → Nat → Nat → Bool → Nat × Bool
  | 0, _, a, b => (a, b)
  | k + 1, t, a, b => if remL (ptF f (lN P) (lN t)).1 (lN P) = 0 then splGo f P k (t + 1) (a + 1) (b || decide (remL (ptF f (lN P) (lN t)).2.1 (lN P) = 0)) else splGo f P k (t + 1) a b
def splF (a : Nat) (b : Bool) : Int32 := if b then (if 1 < a then 121 else 13) else if a = 0 then 3 else if a = 1 then 21 else 111
def splC (f : Fm) (P : Nat) : Int32 := if mulF f (lN P) then 0 else splF (splGo f P (P + 1) 0 0 false).1 (splGo f P (P + 1) 0 0 false).2
def glpGo (f : Fm) : Nat → Nat → Option Fm
  | 0, _ => none
  | k + 1, P => if discF f < lN P * lN P then none else if remL (discF f) (lN P * lN P) = 0 then (if primeB (nI P) then (if (ovC f P).isSome then ovC f P else glpGo f k (P + 1)) else glpGo f k (P + 1)) else glpGo f k (P + 1)
def glpC (f : Fm) : Option Fm := glpGo f 996 2
def maxGo : Nat → Fm → Fm
  | 0, g => g
  | k + 1, g => if (glpC g).isSome then maxGo k (canC ((glpC g).getD g)) else g
def maxC (f : Fm) : Fm := maxGo 64 (canC f)
theorem isSome_f {α : Type} {o : Option α} (h : o.isSome = false) : o = none := by cases o with | none => rfl | some _ => cases h
/-- the canonical form, sealed: a comparison of cells must not open it -/
def sealC (n : Nat) (f : Fm) : Fm := if n = 0 then canC f else sealC (n - 1) f
termination_by n
decreasing_by omega
theorem sealC_eq (f : Fm) : sealC 0 f = canC f := by rw [sealC]; simp
def sealM (n : Nat) (f : Fm) : Fm := if n = 0 then maxC f else sealM (n - 1) f
termination_by n
decreasing_by omega
theorem sealM_eq (f : Fm) : sealM 0 f = maxC f := by rw [sealM]; simp
def sealA (n : Nat) (f : Fm) : Nat := if n = 0 then autGo (redGo 1000 f) 81 0 0 else sealA (n - 1) f
termination_by n
decreasing_by omega
theorem sealA_eq (f : Fm) : sealA 0 f = autGo (redGo 1000 f) 81 0 0 := by rw [sealA]; simp
