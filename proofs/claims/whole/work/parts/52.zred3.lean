/-! the reference's reduction ends, with a reduced equivalent form -/
theorem tS {F : Zf} (h : okZ F) : (sizeL (hqF (ofF F))).toInt = (zQ F).natAbs := by
  have hq := okQ h
  have t := tQ h
  unfold sizeL
  by_cases q : hqF (ofF F) < 0
  · rw [if_pos q]
    have q2 := Int64.lt_iff_toInt_lt.mp q
    rw [t, show (0 : Int64).toInt = 0 by decide] at q2
    rw [hq_of, ← Int64.ofInt_neg, ti_of (by omega) (by omega)]
    omega
  · rw [if_neg q]
    have q2 : ¬ (zQ F < 0) := fun z => q (Int64.lt_iff_toInt_lt.mpr (by rw [t, show (0 : Int64).toInt = 0 by decide]; exact z))
    rw [t]
    omega
theorem ltS {F : Zf} (h : okZ F) : hpF (ofF F) < sizeL (hqF (ofF F)) ↔ zP F < (zQ F).natAbs := by rw [Int64.lt_iff_toInt_lt, tP h, tS h]
theorem ltR {F : Zf} (h : okZ F) : hrF (ofF F) < hpF (ofF F) ↔ zR F < zP F := by rw [Int64.lt_iff_toInt_lt, tP h, tR h]
theorem reduM_Z {F : Zf} (h : okZ F) : reduM (ofF F) = true ↔ redZ F := by
  unfold reduM redZ
  simp only [Bool.and_eq_true, decide_eq_true_eq, ltS h, ltR h]
  omega
theorem redM_ok : ∀ (n : Nat) (F : Zf), okZ F → 2 * zP F + (if zP F < (zQ F).natAbs then 1 else 0) < n → ∃ N G, redM N (ofF F) = some (ofF G) ∧ eqvZ F G ∧ redZ G ∧ okZ G
  | 0, F, h, hn => by have := h.1; split at hn <;> omega
  | n + 1, F, h, hn => by
    by_cases r : redZ F
    · exact ⟨1, F, by rw [redM, if_pos ((reduM_Z h).mpr r)], eqvZ.rf F, r, h⟩
    · have r2 : ¬ reduM (ofF F) = true := fun z => r ((reduM_Z h).mp z)
      have hp := h.1
      by_cases q : zP F < (zQ F).natAbs
      · obtain ⟨G, hG, hok, eP, g1, g2, gR⟩ := zshift h
        rw [if_pos q] at hn
        obtain ⟨N, K, e, v, rd, ok⟩ := redM_ok n G hok (by rw [if_neg (by omega)]; omega)
        refine ⟨N + 1, K, ?_, eqvZ.tr ⟨1, _, 0, 1, by simp, hG⟩ v, rd, ok⟩
        have h0 : ¬ 2 * hpF (ofF F) = 0 := fun z => by
          have := congrArg Int64.toInt z
          rw [t2P h, show (0 : Int64).toInt = 0 by decide] at this
          omega
        rw [redM, if_neg r2, if_pos ((ltS h).mpr q), if_neg h0, fl_of _ _ (by rw [t2P h]; omega), tPQ h, t2P h, i1, i0, s_of, ← hG]
        exact e
      · obtain ⟨hok, eP, eQ, eR, ev⟩ := swap_ok h
        rw [if_neg q] at hn
        have hR : zR F < zP F := by
          rcases Int.lt_or_le (zR F) (zP F) with z | z
          · exact z
          · exact absurd ⟨by omega, by omega, z⟩ r
        obtain ⟨N, K, e, v, rd, ok⟩ := redM_ok n (zS F 0 1 1 0) hok (by rw [eP]; split <;> omega)
        refine ⟨N + 1, K, ?_, eqvZ.tr ev v, rd, ok⟩
        rw [redM, if_neg r2, if_neg (fun z => q ((ltS h).mp z)), i1, i0, s_of]
        exact e
