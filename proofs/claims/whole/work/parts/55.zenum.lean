/-! the 81 matrices -/
def zp (j : Nat) : Int := (j / 27 % 3 : Nat) - 1
def zq (j : Nat) : Int := (j / 9 % 3 : Nat) - 1
def zr (j : Nat) : Int := (j / 3 % 3 : Nat) - 1
def zz (j : Nat) : Int := (j % 3 : Nat) - 1
theorem mat_of : ∀ j : Fin 81, (mp j.val).toInt64 = Int64.ofInt (zp j.val) ∧ (mq j.val).toInt64 = Int64.ofInt (zq j.val) ∧ (mr j.val).toInt64 = Int64.ofInt (zr j.val) ∧ (mz j.val).toInt64 = Int64.ofInt (zz j.val) ∧ unitB j.val = decide ((zp j.val * zz j.val - zq j.val * zr j.val) * (zp j.val * zz j.val - zq j.val * zr j.val) = 1) := by decide +kernel
theorem cand_of (F : Zf) {j : Nat} (h : j < 81) : candF (ofF F) j = ofF (zS F (zp j) (zq j) (zr j) (zz j)) := by
  obtain ⟨a, b, c, d, _⟩ := mat_of ⟨j, h⟩
  unfold candF
  rw [a, b, c, d, s_of]
theorem unit_of {j : Nat} (h : j < 81) : unitB j = decide ((zp j * zz j - zq j * zr j) * (zp j * zz j - zq j * zr j) = 1) := (mat_of ⟨j, h⟩).2.2.2.2
theorem mat_in {p q r s : Int} (h : (-1 ≤ p ∧ p ≤ 1) ∧ (-1 ≤ q ∧ q ≤ 1) ∧ (-1 ≤ r ∧ r ≤ 1) ∧ (-1 ≤ s ∧ s ≤ 1)) : ∃ j, j < 81 ∧ zp j = p ∧ zq j = q ∧ zr j = r ∧ zz j = s := by
  obtain ⟨⟨p1, p2⟩, ⟨q1, q2⟩, ⟨r1, r2⟩, s1, s2⟩ := h
  refine ⟨((p + 1) * 27 + (q + 1) * 9 + (r + 1) * 3 + (s + 1)).toNat, ?_, ?_, ?_, ?_, ?_⟩ <;> (try unfold zp) <;> (try unfold zq) <;> (try unfold zr) <;> (try unfold zz) <;> omega
