/-! the automorphisms: conjugation -/
def autP (src : Fm) (i : Nat) : Bool := unitB i && sameF (candF src i) src
theorem aut_cnt (src : Fm) : ∀ k j a, autGo src k j a + cnt (autP src) j = a + cnt (autP src) (j + k)
  | 0, j, a => by rw [autGo]; rfl
  | k + 1, j, a => by
    rw [autGo]
    by_cases u : (unitB j && sameF (candF src j) src) = true
    · have := aut_cnt src k (j + 1) (a + 1)
      rw [cnt, show j + 1 + k = j + (k + 1) by omega, if_pos (show autP src j = true from u)] at this
      rw [if_pos u]; omega
    · have := aut_cnt src k (j + 1) a
      rw [cnt, show j + 1 + k = j + (k + 1) by omega, if_neg (show ¬ autP src j = true from u)] at this
      rw [if_neg u]; omega
def idx (p q r s : Int) : Nat := ((p + 1) * 27 + (q + 1) * 9 + (r + 1) * 3 + (s + 1)).toNat
theorem idx_in {p q r s : Int} (h : (-1 ≤ p ∧ p ≤ 1) ∧ (-1 ≤ q ∧ q ≤ 1) ∧ (-1 ≤ r ∧ r ≤ 1) ∧ (-1 ≤ s ∧ s ≤ 1)) : idx p q r s < 81 ∧ zp (idx p q r s) = p ∧ zq (idx p q r s) = q ∧ zr (idx p q r s) = r ∧ zz (idx p q r s) = s := by
  obtain ⟨⟨p1, p2⟩, ⟨q1, q2⟩, ⟨r1, r2⟩, s1, s2⟩ := h
  unfold idx
  refine ⟨?_, ?_, ?_, ?_, ?_⟩ <;> (try unfold zp) <;> (try unfold zq) <;> (try unfold zr) <;> (try unfold zz) <;> omega
theorem z_inj {i j : Nat} (hi : i < 81) (hj : j < 81) (h1 : zp i = zp j) (h2 : zq i = zq j) (h3 : zr i = zr j) (h4 : zz i = zz j) : i = j := by
  unfold zp at h1; unfold zq at h2; unfold zr at h3; unfold zz at h4
  omega
theorem same_iff (f g : Fm) : sameF f g = true ↔ f = g := by
  obtain ⟨a, b, c, d⟩ := f
  obtain ⟨a', b', c', d'⟩ := g
  unfold sameF
  simp [Prod.ext_iff, and_assoc]
