theorem can_le {G K : Zf} (h : okZ G) (r : redZ G) (h2 : okZ K) (r2 : redZ K) (v : eqvZ G K) (hD : zD K ≤ 274877906944) : leF (canGo (ofF G) 81 0 (ofF G)) (canGo (ofF K) 81 0 (ofF K)) := by
  obtain ⟨m1, m2, m3⟩ := canGo_least (ofF G) 81 0 (ofF G)
  have fin : ∀ L : Zf, redZ L → okZ L → eqvZ G L → leF (canGo (ofF G) 81 0 (ofF G)) (ofF L) := by
    intro L rl ol vl
    obtain ⟨i, hi, hu, ec⟩ := cand_has h r rl ol vl
    have := m2 i (by omega) (by omega) hu
    rw [ec] at this
    exact this
  rcases (canGo_least (ofF K) 81 0 (ofF K)).2.2 with e | ⟨i, _, hi, hu, e⟩
  · rw [e]; exact fin K r2 h2 v
  · have hi2 : i < 81 := by omega
    rw [Bool.and_eq_true, unit_of hi2, decide_eq_true_eq] at hu
    obtain ⟨hd, hr⟩ := hu
    have ok := cand_ok h2 r2 hD hd (zj_in i)
    rw [cand_of K hi2] at hr e
    rw [e]
    exact fin _ ((reduF_Z ok).mp hr) ok (eqvZ.tr v ⟨_, _, _, _, hd, rfl⟩)
theorem rng_D {f : Fm} (h : rngF f) (hd : 0 < discF f) : zD (toZ f) ≤ 274877906944 := by
  obtain ⟨h1, h2⟩ := rng_ok h hd
  obtain ⟨⟨a1, a2⟩, ⟨b1, b2⟩, ⟨c1, c2⟩, ⟨d1, d2⟩⟩ := h
  have hR : zR (toZ f) ≤ 360000 := by
    have m1 := mul_bd (x := f.2.2.1.toInt) (y := f.2.2.1.toInt) (A := 300) (B := 300) (by omega) (by omega)
    have m2 := mul_bd (x := f.2.1.toInt) (y := f.2.2.2.toInt) (A := 300) (B := 300) (by omega) (by omega)
    simp only [zR, toZ]
    rw [Int.mul_assoc 3]
    omega
  have k := zD_H (toZ f)
  rw [Int.mul_assoc 4] at k
  have s := sq_nn (zQ (toZ f))
  have b : zP (toZ f) * zR (toZ f) ≤ 360000 * 360000 := Int.mul_le_mul h2 hR (by have := h1.2.1; omega) (by decide)
  omega
theorem hcan_ok (f : Fm) (h : rngF f) (hd : 0 < discF f) : canOK f := by
  have hD := rng_D h hd
  obtain ⟨h1, h2⟩ := rng_ok h hd
  obtain ⟨N, G, e1, v1, r1, o1⟩ := redM_ok 720002 (toZ f) h1 (by split <;> omega)
  obtain ⟨K, e2, v2, r2, o2⟩ := redGo_ok 19 (toZ f) h1 (by omega) 1000 (by decide)
  rw [ofF_toZ] at e1 e2
  have v := eqvZ.tr v1.sy v2
  have dG : zD G ≤ 274877906944 := by rw [v1.D]; exact hD
  have dK : zD K ≤ 274877906944 := by rw [v2.D]; exact hD
  refine ⟨N, ofF G, e1, ?_⟩
  rw [canM_C o1 r1 dG 81 0 _ (by decide), sealC_eq, canC, e2]
  exact leF_as (can_le o1 r1 o2 r2 v dK) (can_le o2 r2 o1 r1 v.sy dG)
