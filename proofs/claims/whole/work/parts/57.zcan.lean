/-! the reference's choice is the class's choice -/
theorem zj_in (j : Nat) : (-1 ≤ zp j ∧ zp j ≤ 1) ∧ (-1 ≤ zq j ∧ zq j ≤ 1) ∧ (-1 ≤ zr j ∧ zr j ≤ 1) ∧ (-1 ≤ zz j ∧ zz j ≤ 1) := by
  unfold zp zq zr zz
  omega
theorem redu_same {G : Zf} (h : okZ G) (r : redZ G) (hD : zD G ≤ 274877906944) {j : Nat} (hj : j < 81) : (unitB j && reduM (candF (ofF G) j)) = (unitB j && reduF (candF (ofF G) j)) := by
  by_cases u : unitB j = true
  · have hd := unit_of hj
    rw [u] at hd
    have ok := cand_ok h r hD (of_decide_eq_true hd.symm) (zj_in j)
    rw [cand_of G hj, Bool.eq_iff_iff, Bool.and_eq_true, Bool.and_eq_true, reduM_Z ok, reduF_Z ok]
  · rw [Bool.not_eq_true] at u
    rw [u]; rfl
theorem canM_C {G : Zf} (h : okZ G) (r : redZ G) (hD : zD G ≤ 274877906944) : ∀ (k j : Nat) (g : Fm), j + k ≤ 81 → canGoM (ofF G) k j g = canGo (ofF G) k j g
  | 0, j, g, _ => rfl
  | k + 1, j, g, hk => by
    rw [canGoM, canGo, redu_same h r hD (by omega)]
    exact canM_C h r hD k (j + 1) _ (by omega)
/-- a reduced form that is equivalent is a candidate -/
theorem cand_has {G K : Zf} (h : okZ G) (r : redZ G) (r2 : redZ K) (o2 : okZ K) (v : eqvZ G K) : ∃ i, i < 81 ∧ (unitB i && reduF (candF (ofF G) i)) = true ∧ candF (ofF G) i = ofF K := by
  obtain ⟨p, q, u, s, hd, e⟩ := v
  obtain ⟨r1, r3, r4⟩ := r
  obtain ⟨s1, s2, s3⟩ := id r2
  obtain ⟨i, hi, e1, e2, e3, e4⟩ := mat_in (red_small h.1 r1 r3 r4 hd (by rw [e, zP_S, hd, Int.one_mul]) (by rw [e, zQ_S, hd, Int.one_mul]) (by rw [e, zR_S, hd, Int.one_mul]) s1 s2 s3)
  have ec : candF (ofF G) i = ofF K := by rw [cand_of G hi, e1, e2, e3, e4, ← e]
  refine ⟨i, hi, ?_, ec⟩
  rw [ec, Bool.and_eq_true, reduF_Z o2, unit_of hi, e1, e2, e3, e4]
  exact ⟨decide_eq_true hd, r2⟩
