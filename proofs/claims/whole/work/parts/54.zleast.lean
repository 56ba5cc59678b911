/-! the least of the reduced candidates -/
theorem i64_eq (x y : Int64) : x = y ↔ x.toInt = y.toInt := ⟨fun h => by rw [h], fun h => Int64.toInt_inj.mp h⟩
theorem bef_iff (f g : Fm) : befF f g = true ↔ (f.1.toInt < g.1.toInt ∨ (f.1.toInt = g.1.toInt ∧ (f.2.1.toInt < g.2.1.toInt ∨ (f.2.1.toInt = g.2.1.toInt ∧ (f.2.2.1.toInt < g.2.2.1.toInt ∨ (f.2.2.1.toInt = g.2.2.1.toInt ∧ f.2.2.2.toInt < g.2.2.2.toInt)))))) := by
  unfold befF
  simp only [i64_eq, Int64.lt_iff_toInt_lt]
  split
  · split
    · split
      · simp only [decide_eq_true_eq]; omega
      · simp only [decide_eq_true_eq]; omega
    · simp only [decide_eq_true_eq]; omega
  · simp only [decide_eq_true_eq]; omega
def leF (f g : Fm) : Prop := ¬ befF g f = true
theorem leF_rf (f : Fm) : leF f f := by unfold leF; rw [bef_iff]; omega
theorem leF_tr {f g k : Fm} (h1 : leF f g) (h2 : leF g k) : leF f k := by
  unfold leF at *
  rw [bef_iff] at *
  omega
theorem leF_of {f g : Fm} (h : befF f g = true) : leF f g := by
  unfold leF
  rw [bef_iff] at *
  omega
theorem leF_as {f g : Fm} (h1 : leF f g) (h2 : leF g f) : f = g := by
  unfold leF at *
  rw [bef_iff] at *
  refine Prod.ext ?_ (Prod.ext ?_ (Prod.ext ?_ ?_)) <;> rw [i64_eq] <;> omega
theorem canGo_least (src : Fm) : ∀ (k j : Nat) (g : Fm), leF (canGo src k j g) g ∧ (∀ i, j ≤ i → i < j + k → (unitB i && reduF (candF src i)) = true → leF (canGo src k j g) (candF src i)) ∧
    (canGo src k j g = g ∨ ∃ i, j ≤ i ∧ i < j + k ∧ (unitB i && reduF (candF src i)) = true ∧ canGo src k j g = candF src i)
  | 0, j, g => ⟨leF_rf g, fun i h1 h2 => by omega, Or.inl rfl⟩
  | k + 1, j, g => by
    rw [canGo]
    by_cases u : (unitB j && reduF (candF src j)) = true
    · by_cases b : befF (candF src j) g = true
      · rw [if_pos (by rw [u, b]; rfl)]
        obtain ⟨m1, m2, m3⟩ := canGo_least src k (j + 1) (candF src j)
        refine ⟨leF_tr m1 (leF_of b), fun i h1 h2 hi => ?_, ?_⟩
        · by_cases e : i = j
          · rw [e]; exact m1
          · exact m2 i (by omega) (by omega) hi
        · rcases m3 with e | ⟨i, h1, h2, h3, h4⟩
          · exact Or.inr ⟨j, by omega, by omega, u, e⟩
          · exact Or.inr ⟨i, by omega, by omega, h3, h4⟩
      · rw [if_neg (by rw [u]; simpa using b)]
        obtain ⟨m1, m2, m3⟩ := canGo_least src k (j + 1) g
        refine ⟨m1, fun i h1 h2 hi => ?_, ?_⟩
        · by_cases e : i = j
          · rw [e]; exact leF_tr m1 b
          · exact m2 i (by omega) (by omega) hi
        · rcases m3 with e | ⟨i, h1, h2, h3, h4⟩
          · exact Or.inl e
          · exact Or.inr ⟨i, by omega, by omega, h3, h4⟩
    · rw [if_neg (by intro z; rw [Bool.and_eq_true] at z; exact u z.1)]
      obtain ⟨m1, m2, m3⟩ := canGo_least src k (j + 1) g
      refine ⟨m1, fun i h1 h2 hi => ?_, ?_⟩
      · by_cases e : i = j
        · rw [e] at hi; exact absurd hi u
        · exact m2 i (by omega) (by omega) hi
      · rcases m3 with e | ⟨i, h1, h2, h3, h4⟩
        · exact Or.inl e
        · exact Or.inr ⟨i, by omega, by omega, h3, h4⟩
