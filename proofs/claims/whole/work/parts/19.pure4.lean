/-! the object's own state: n forms in the row C, the registers in the row G -/
def isFormB (n : Nat) (x : Int32) : Bool := decide (¬ x < 0) && decide (x < nI n)
theorem isFormB_out {n : Nat} {x : Int32} (hn : n ≤ 60) (h : isFormB n x = true) : ∃ k, k < n ∧ x = nI k := by
  simp only [isFormB, Bool.and_eq_true, decide_eq_true_eq] at h
  obtain ⟨k, hk, rfl⟩ := nI_of h.1
  exact ⟨k, (nI_ltI hk (by omega)).mp h.2, rfl⟩
def ldF (C : Nat → Int32) (k : Nat) : Fm := ((C (4 * k)).toInt64, (C (4 * k + 1)).toInt64, (C (4 * k + 2)).toInt64, (C (4 * k + 3)).toInt64)
theorem nI_4 (k : Nat) : nI k * 4 = nI (4 * k) := by rw [Nat.mul_comm]; exact pk_mul k 4
theorem nI_4l (k : Nat) : 4 * nI k = nI (4 * k) := pk_mul 4 k
theorem nI_3m (k : Nat) : nI k * 3 = nI (3 * k) := by rw [Nat.mul_comm]; exact pk_mul k 3
theorem nI_3l (k : Nat) : 3 * nI k = nI (3 * k) := pk_mul 3 k
theorem nI_2 (a : Nat) : nI a + 2 = nI (a + 2) := nI_add a 2
theorem nI_3 (a : Nat) : nI a + 3 = nI (a + 3) := nI_add a 3
def stA (C : Nat → Int32) (n : Nat) (f : Fm) : Nat → Int32 := upd (upd (upd (upd C (4 * n) f.1.toInt32) (4 * n + 1) f.2.1.toInt32) (4 * n + 2) f.2.2.1.toInt32) (4 * n + 3) f.2.2.2.toInt32
def stR (n : Nat) : Int32 := if n < 60 then nI n else (-10004)
def stS (n : Nat) (C : Nat → Int32) (f : Fm) : Nat × (Nat → Int32) := if n < 60 then (n + 1, stA C n f) else (n, C)
def sifR (n : Nat) (f : Fm) : Int32 := if fitsF f then stR n else (-10005)
def sifS (n : Nat) (C : Nat → Int32) (f : Fm) : Nat × (Nat → Int32) := if fitsF f then stS n C f else (n, C)
/-- an error, or a form that is to be stored -/
def outR (n : Nat) (o : Int32 ⊕ Fm) : Int32 := match o with
  | .inl e => e
  | .inr f => sifR n f
def outS (n : Nat) (C : Nat → Int32) (o : Int32 ⊕ Fm) : Nat × (Nat → Int32) := match o with
  | .inl _ => (n, C)
  | .inr f => sifS n C f
def isSubB (p q r s : Int32) : Bool := isW p.toInt64 100 && isW q.toInt64 100 && isW r.toInt64 100 && isW s.toInt64 100 && decide (absI (p * s - q * r) = 1)
def subO (n : Nat) (C : Nat → Int32) (x p q r s : Int32) : Int32 ⊕ Fm := if isFormB n x then (if isSubB p q r s then .inr (subF (ldF C x.toNatClampNeg) p.toInt64 q.toInt64 r.toInt64 s.toInt64) else .inl (-10003)) else .inl (-10001)
def canO (n : Nat) (C : Nat → Int32) (x : Int32) : Int32 ⊕ Fm := if isFormB n x then (if 0 < discF (ldF C x.toNatClampNeg) then .inr (sealC 0 (ldF C x.toNatClampNeg)) else .inl (-10006)) else .inl (-10001)
def ovO (n : Nat) (C : Nat → Int32) (x y : Int32) : Int32 ⊕ Fm := if isFormB n x then (if primeB y then (if (ovC (ldF C x.toNatClampNeg) y.toNatClampNeg).isSome then .inr ((ovC (ldF C x.toNatClampNeg) y.toNatClampNeg).getD (ldF C x.toNatClampNeg)) else .inl (-10008)) else .inl (-10003)) else .inl (-10001)
def anF (f : Fm) : Nat := f.1.toInt.natAbs
def dnF (f : Fm) : Nat := f.2.2.2.toInt.natAbs
def rootF (f : Fm) : Bool := rootC f (anF f) (dnF f)
def maxO (n : Nat) (C : Nat → Int32) (x : Int32) : Int32 ⊕ Fm := if isFormB n x then (if 0 < discF (ldF C x.toNatClampNeg) then (if rootF (ldF C x.toNatClampNeg) then .inl (-10007) else .inr (sealM 0 (ldF C x.toNatClampNeg))) else .inl (-10006)) else .inl (-10001)
def rngC (C : Nat → Int32) : Prop := ∀ k, k < 240 → -300 ≤ (C k).toInt ∧ (C k).toInt ≤ 300
theorem absL_wide (x : Int32) (h : -300 ≤ x.toInt ∧ x.toInt ≤ 300) : absL x.toInt64 = lN x.toInt64.toInt.natAbs ∧ x.toInt64.toInt.natAbs ≤ 300 := by
  have e : x.toInt64.toInt = x.toInt := Int32.toInt_toInt64 x
  refine ⟨?_, by rw [e]; omega⟩
  apply Int64.toInt_inj.mp
  rw [lN_toInt (by rw [e]; omega)]
  unfold absL
  by_cases q : 0 < x.toInt64
  · rw [if_pos q]
    have := Int64.lt_iff_toInt_lt.mp q
    have e0 : (0 : Int64).toInt = 0 := by decide
    omega
  · rw [if_neg q]
    have := fun z => q (Int64.lt_iff_toInt_lt.mpr z)
    have e0 : (0 : Int64).toInt = 0 := by decide
    have h2 : x.toInt64.toInt ≤ 0 := by
      rcases Int.lt_or_le 0 x.toInt64.toInt with z | z
      · exact absurd (Int64.lt_iff_toInt_lt.mpr (by rw [e0]; exact z)) q
      · exact z
    rw [Int64.toInt_neg, Int.bmod_eq_of_le (by omega) (by omega)]
    omega
theorem ldF_a {C : Nat → Int32} {n : Nat} {x : Int32} (hC : rngC C) (hn : n ≤ 60) (h : isFormB n x = true) : absL (ldF C x.toNatClampNeg).1 = lN (anF (ldF C x.toNatClampNeg)) ∧ anF (ldF C x.toNatClampNeg) ≤ 300 := by
  obtain ⟨k, hk, rfl⟩ := isFormB_out hn h
  rw [nI_clamp (by omega)]
  exact absL_wide _ (hC _ (by omega))
theorem ldF_d {C : Nat → Int32} {n : Nat} {x : Int32} (hC : rngC C) (hn : n ≤ 60) (h : isFormB n x = true) : absL (ldF C x.toNatClampNeg).2.2.2 = lN (dnF (ldF C x.toNatClampNeg)) ∧ dnF (ldF C x.toNatClampNeg) ≤ 300 := by
  obtain ⟨k, hk, rfl⟩ := isFormB_out hn h
  rw [nI_clamp (by omega)]
  exact absL_wide _ (hC _ (by omega))
def isRegB (r : Int32) : Bool := decide (¬ r < 0) && decide (r < 6)
theorem isRegB_out {x : Int32} (h : isRegB x = true) : ∃ k, k < 6 ∧ x = nI k := by
  simp only [isRegB, Bool.and_eq_true, decide_eq_true_eq] at h
  obtain ⟨k, hk, rfl⟩ := nI_of h.1
  exact ⟨k, (nI_ltI (b := 6) hk (by decide)).mp h.2, rfl⟩
def ldE (G : Nat → Int32) (k : Nat) : Em := ((G (3 * k)).toInt64, (G (3 * k + 1)).toInt64, (G (3 * k + 2)).toInt64)
def stE (G : Nat → Int32) (k : Nat) (e : Em) : Nat → Int32 := upd (upd (upd G (3 * k) e.1.toInt32) (3 * k + 1) e.2.1.toInt32) (3 * k + 2) e.2.2.toInt32
/-- an error, or an element that goes into register r -/
def regS (G : Nat → Int32) (r : Int32) (o : Int32 ⊕ Em) : Nat → Int32 := match o with
  | .inl _ => G
  | .inr e => stE G r.toNatClampNeg e
def setO (r u v t : Int32) : Int32 ⊕ Em := if isRegB r then (if fitsE (u.toInt64, v.toInt64, t.toInt64) then .inr (u.toInt64, v.toInt64, t.toInt64) else .inl (-10003)) else .inl (-10002)
def setR (G : Nat → Int32) (r u v t : Int32) : Int32 := match setO r u v t with
  | .inl e => e
  | .inr e => if sameE (ldE G r.toNatClampNeg) e then 0 else 1
def mulO (n : Nat) (C G : Nat → Int32) (x r1 r2 r3 : Int32) : Int32 ⊕ Em := if isFormB n x then (if isRegB r1 then (if isRegB r2 then (if isRegB r3 then (if fitsE (prodE (ldF C x.toNatClampNeg) (ldE G r1.toNatClampNeg) (ldE G r2.toNatClampNeg)) then .inr (prodE (ldF C x.toNatClampNeg) (ldE G r1.toNatClampNeg) (ldE G r2.toNatClampNeg)) else .inl (-10005)) else .inl (-10002)) else .inl (-10002)) else .inl (-10002)) else .inl (-10001)
def mulR (o : Int32 ⊕ Em) : Int32 := match o with
  | .inl e => e
  | .inr _ => 1
