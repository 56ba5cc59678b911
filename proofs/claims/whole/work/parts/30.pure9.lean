def glpMGo (f : Fm) : Nat → Nat → Option Fm
  | 0, _ => none
  | k + 1, P => if remL (discF f) (lN P * lN P) = 0 then (if primeB (nI P) then (if (ovC f P).isSome then ovC f P else glpMGo f k (P + 1)) else glpMGo f k (P + 1)) else glpMGo f k (P + 1)
def sealG (n : Nat) (f : Fm) : Option Fm := if n = 0 then glpMGo f 996 2 else sealG (n - 1) f
termination_by n
decreasing_by omega
theorem sealG_eq (f : Fm) : sealG 0 f = glpMGo f 996 2 := by rw [sealG]; simp
def mxRel : Nat → Fm → Fm → Prop
  | 0, _, _ => False
  | K + 1, g, r => if (sealG 0 g).isSome then canOK ((sealG 0 g).getD g) ∧ mxRel K (sealC 0 ((sealG 0 g).getD g)) r else g = r
theorem ovC_M {f : Fm} {P : Nat} (h : remL (discF f) (lN P * lN P) = 0) : ovC f P = ovM f P := by rw [ovC, if_pos h]
theorem x_in3 {x : Int32} (h : btw x.toInt64 2 997 = true) : ∃ P, 2 ≤ P ∧ P ≤ 997 ∧ x = nI P := by
  rw [btw_lit x 2 997 (by decide) (by decide)] at h
  simp only [Bool.and_eq_true, decide_eq_true_eq] at h
  exact x_in2 h.1 h.2
theorem primeB_f {x : Int32} (h : btw x.toInt64 2 997 = false) : primeB x = false := by
  rw [btw_lit x 2 997 (by decide) (by decide)] at h
  unfold primeB
  rw [h]; rfl
theorem and_ff {a b : Bool} {v w : Int64} (h : (a && b) = false) : v = if a then (if b then w else v) else v := by
  cases a <;> cases b <;> first | rfl | cases h
