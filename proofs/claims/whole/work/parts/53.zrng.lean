/-! the forms of the law are in range -/
theorem mul_bd {x y : Int} {A B : Nat} (h1 : x.natAbs ≤ A) (h2 : y.natAbs ≤ B) : (x * y).natAbs ≤ A * B := by
  rw [Int.natAbs_mul]
  exact Nat.mul_le_mul h1 h2
def toZ (f : Fm) : Zf := (f.1.toInt, f.2.1.toInt, f.2.2.1.toInt, f.2.2.2.toInt)
theorem ofF_toZ (f : Fm) : ofF (toZ f) = f := ofF_to f
theorem rng_ok {f : Fm} (h : rngF f) (hd : 0 < discF f) : okZ (toZ f) ∧ zP (toZ f) ≤ 360000 := by
  have e := ofF_toZ f
  generalize hF : toZ f = F at e ⊢
  obtain ⟨⟨a1, a2⟩, ⟨b1, b2⟩, ⟨c1, c2⟩, ⟨d1, d2⟩⟩ := h
  have p1 : F.1.natAbs ≤ 300 := by rw [← hF]; simp only [toZ]; omega
  have p2 : F.2.1.natAbs ≤ 300 := by rw [← hF]; simp only [toZ]; omega
  have p3 : F.2.2.1.natAbs ≤ 300 := by rw [← hF]; simp only [toZ]; omega
  have p4 : F.2.2.2.natAbs ≤ 300 := by rw [← hF]; simp only [toZ]; omega
  have hP : (zP F).natAbs ≤ 360000 := by
    have m1 := mul_bd p2 p2
    have m2 := mul_bd p1 p3
    unfold zP
    rw [Int.mul_assoc 3]
    omega
  have hR : (zR F).natAbs ≤ 360000 := by
    have m1 := mul_bd p3 p3
    have m2 := mul_bd p2 p4
    unfold zR
    rw [Int.mul_assoc 3]
    omega
  have hQ : (zQ F).natAbs ≤ 900000 := by
    have m1 := mul_bd p2 p3
    have m2 := mul_bd p1 p4
    unfold zQ
    rw [Int.mul_assoc 9]
    omega
  have k := zD_H F
  rw [Int.mul_assoc 4] at k
  have m1 := mul_bd hP hR
  have m2 := mul_bd hQ hQ
  have hD : 0 < zD F := by
    rw [← e, d_of, Int64.lt_iff_toInt_lt, ti_of (by omega) (by omega), show (0 : Int64).toInt = 0 by decide] at hd
    exact hd
  have q1 := zP_pos hD
  have q2 := zR_pos hD
  exact ⟨⟨q1, q2, by omega, by omega, hD⟩, by omega⟩
theorem reduF_Z {F : Zf} (h : okZ F) : reduF (ofF F) = true ↔ redZ F := by
  have hn : (-hpF (ofF F)).toInt = -zP F := by
    obtain ⟨h1, h2, h3, h4, h5⟩ := h
    rw [hp_of, ← Int64.ofInt_neg]; exact ti_of (by omega) (by omega)
  unfold reduF isW redZ
  simp only [Bool.and_eq_true, decide_eq_true_eq, ltR h, Int64.lt_iff_toInt_lt, hn, tQ h, tP h]
  omega
theorem red_both {f : Fm} (h : rngF f) (hd : 0 < discF f) : ∃ N G K, redM N f = some (ofF G) ∧ redGo 1000 f = ofF K ∧ eqvZ G K ∧ redZ G ∧ okZ G ∧ redZ K ∧ okZ K := by
  obtain ⟨h1, h2⟩ := rng_ok h hd
  obtain ⟨N, G, e1, v1, r1, o1⟩ := redM_ok 720002 (toZ f) h1 (by split <;> omega)
  obtain ⟨K, e2, v2, r2, o2⟩ := redGo_ok 19 (toZ f) h1 (by omega) 1000 (by decide)
  rw [ofF_toZ] at e1 e2
  exact ⟨N, G, K, e1, e2, eqvZ.tr v1.sy v2, r1, o1, r2, o2⟩
