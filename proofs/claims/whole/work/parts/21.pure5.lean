theorem sw3 (y : Int32) : y = 0 ∨ y = 1 ∨ y = 2 ∨ (y.toInt < 0 ∨ 2 < y.toInt) := by
  by_cases h0 : y.toInt = 0
  · exact Or.inl (Int32.toInt_inj.mp h0)
  by_cases h1 : y.toInt = 1
  · exact Or.inr (Or.inl (Int32.toInt_inj.mp h1))
  by_cases h2 : y.toInt = 2
  · exact Or.inr (Or.inr (Or.inl (Int32.toInt_inj.mp h2)))
  · exact Or.inr (Or.inr (Or.inr (by omega)))
def hesR (f : Fm) (y : Int32) : Int64 := if y = 0 then hpF f else if y = 1 then hqF f else if y = 2 then hrF f else (-9223372036854775808)
theorem hesR_out {f : Fm} {y : Int32} (h : y.toInt < 0 ∨ 2 < y.toInt) : hesR f y = (-9223372036854775808) := by
  have h0 : ¬ y = 0 := fun q => by rw [q] at h; revert h; decide
  have h1 : ¬ y = 1 := fun q => by rw [q] at h; revert h; decide
  have h2 : ¬ y = 2 := fun q => by rw [q] at h; revert h; decide
  rw [hesR, if_neg h0, if_neg h1, if_neg h2]
def eqvR (n : Nat) (C : Nat → Int32) (x y : Int32) : Int32 := if isFormB n x then (if isFormB n y then (if 0 < discF (ldF C x.toNatClampNeg) then (if 0 < discF (ldF C y.toNatClampNeg) then (if sameF (sealC 0 (ldF C x.toNatClampNeg)) (sealC 0 (ldF C y.toNatClampNeg)) then 1 else 0) else (-10006)) else (-10006)) else (-10001)) else (-10001)
def autR (n : Nat) (C : Nat → Int32) (x : Int32) : Int32 := if isFormB n x then (if 0 < discF (ldF C x.toNatClampNeg) then nI (sealA 0 (ldF C x.toNatClampNeg)) else (-10006)) else (-10001)
def splR (n : Nat) (C : Nat → Int32) (x y : Int32) : Int32 := if isFormB n x then (if primeB y then splC (ldF C x.toNatClampNeg) y.toNatClampNeg else (-10003)) else (-10001)
def imxR (n : Nat) (C : Nat → Int32) (x y : Int32) : Int32 := if isFormB n x then (if primeB y then (if (ovC (ldF C x.toNatClampNeg) y.toNatClampNeg).isSome then 0 else 1) else (-10003)) else (-10001)
def cntL : List Nat → Int32 → Nat
  | [], _ => 0
  | x :: xs, lim => cntL xs lim + if lim < nI x then 0 else 1
theorem cntT_rep {A : Nat → Int32} {lim : Int32} : ∀ {R : List Nat}, repR A R → cntT A lim R.length = cntL R lim
  | [], _ => rfl
  | x :: xs, h => by
    show cntT A lim (xs.length + 1) = cntL xs lim + _
    rw [cntT, cntT_rep h.2.2, h.1]
def nthL : List Nat → Nat → Nat
  | [], _ => 0
  | x :: xs, k => if k = xs.length then x else nthL xs k
theorem nth_rep {A : Nat → Int32} {k : Nat} : ∀ {R : List Nat}, repR A R → k < R.length → A k = nI (nthL R k)
  | [], _, h => absurd h (Nat.not_lt_zero k)
  | x :: xs, h, hk => by
    rw [nthL]
    by_cases e : k = xs.length
    · rw [if_pos e, e]; exact h.1
    · rw [if_neg e]
      exact nth_rep h.2.2 (by simp at hk; omega)
def cfoR (lim : Int32) : Int32 := if lim < 1 then (-10003) else if 1000 < lim then (-10003) else nI (cntL (sealT 0).1 lim)
def cfiR (lim : Int32) : Int32 := if lim < 1 then (-10003) else if 1000 < lim then (-10003) else nI (cntL (sealT 0).2 lim)
def fdiR (k : Int32) : Int32 := if k < 0 then (-10003) else if k < nI (sealT 0).2.length then nI (nthL (sealT 0).2 k.toNatClampNeg) else (-10008)
