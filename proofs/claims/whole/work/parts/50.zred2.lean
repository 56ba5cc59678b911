/-! the class's reduction ends, with a reduced equivalent form -/
theorem i1 : (1 : Int64) = Int64.ofInt 1 := by decide
theorem i0 : (0 : Int64) = Int64.ofInt 0 := by decide
theorem sh_of (F : Zf) (k : Int) : shF (ofF F) (Int64.ofInt k) = ofF (zS F 1 k 0 1) := by rw [sh_sub, i1, i0, s_of]
theorem sw_of (F : Zf) : swF (ofF F) = ofF (zS F 0 1 1 0) := by rw [sw_sub, i1, i0, s_of]
theorem tP {F : Zf} (h : okZ F) : (hpF (ofF F)).toInt = zP F := by
  obtain ⟨h1, h2, h3, h4, h5⟩ := h
  rw [hp_of]; exact ti_of (by omega) (by omega)
theorem tR {F : Zf} (h : okZ F) : (hrF (ofF F)).toInt = zR F := by
  obtain ⟨h1, h2, h3, h4, h5⟩ := h
  rw [hr_of]; exact ti_of (by omega) (by omega)
theorem tQ {F : Zf} (h : okZ F) : (hqF (ofF F)).toInt = zQ F := by
  have := okQ h
  rw [hq_of]; exact ti_of (by omega) (by omega)
theorem t2P {F : Zf} (h : okZ F) : (2 * hpF (ofF F)).toInt = 2 * zP F := by
  obtain ⟨h1, h2, h3, h4, h5⟩ := h
  rw [hp_of, o2, ← Int64.ofInt_mul]; exact ti_of (by omega) (by omega)
theorem tPQ {F : Zf} (h : okZ F) : (hpF (ofF F) - hqF (ofF F)).toInt = zP F - zQ F := by
  have := okQ h
  obtain ⟨h1, h2, h3, h4, h5⟩ := h
  rw [hp_of, hq_of, ← Int64.ofInt_sub]; exact ti_of (by omega) (by omega)
theorem fd_of {F : Zf} (h : okZ F) : fdivL (hpF (ofF F) - hqF (ofF F)) (2 * hpF (ofF F)) = Int64.ofInt ((zP F - zQ F) / (2 * zP F)) := by
  rw [fdiv_of _ _ (by rw [t2P h]; have := h.1; omega), tPQ h, t2P h]
theorem swap_ok {F : Zf} (h : okZ F) : okZ (zS F 0 1 1 0) ∧ zP (zS F 0 1 1 0) = zR F ∧ zQ (zS F 0 1 1 0) = zQ F ∧ zR (zS F 0 1 1 0) = zP F ∧ eqvZ F (zS F 0 1 1 0) := by
  have hd : ((0 : Int) * 0 - 1 * 1) * (0 * 0 - 1 * 1) = 1 := by decide
  have eP : zP (zS F 0 1 1 0) = zR F := by rw [zP_S, hd]; grind
  have eQ : zQ (zS F 0 1 1 0) = zQ F := by rw [zQ_S, hd]; grind
  have eR : zR (zS F 0 1 1 0) = zP F := by rw [zR_S, hd]; grind
  obtain ⟨h1, h2, h3, h4, h5⟩ := h
  exact ⟨⟨by omega, by omega, by omega, by omega, by rw [zD_S hd]; exact h5⟩, eP, eQ, eR, 0, 1, 1, 0, hd, rfl⟩
/-- one round of the class's reduction -/
theorem red_round {F : Zf} (h : okZ F) (k : Nat) : ∃ G, okZ G ∧ eqvZ F G ∧ zP G = zP F ∧ -zP G ≤ zQ G ∧ zQ G ≤ zP G ∧ G = zS F 1 ((zP F - zQ F) / (2 * zP F)) 0 1 ∧
    redGo (k + 1) (ofF F) = if zR G < zP G then redGo k (ofF (zS G 0 1 1 0)) else ofF G := by
  obtain ⟨G, hG, hok, eP, g1, g2, gR⟩ := zshift h
  refine ⟨G, hok, ⟨1, _, 0, 1, by simp, hG⟩, eP, by omega, by omega, hG, ?_⟩
  have h0 : (0 : Int64) < 2 * hpF (ofF F) := Int64.lt_iff_toInt_lt.mpr (by rw [t2P h, show (0 : Int64).toInt = 0 by decide]; have := h.1; omega)
  rw [redGo, if_pos h0, fd_of h, sh_of, ← hG, sw_of]
  have hc : hrF (ofF G) < hpF (ofF F) ↔ zR G < zP G := by rw [Int64.lt_iff_toInt_lt, tR hok, tP h, eP]
  by_cases q : zR G < zP G
  · rw [if_pos (hc.mpr q), if_pos q]
  · rw [if_neg (fun z => q (hc.mp z)), if_neg q]
theorem red_stop {K : Zf} (h : okZ K) (h1 : -zR K ≤ zQ K) (h2 : zQ K ≤ zR K) (h3 : zP K ≤ zR K) (h4 : zR K < 2 * zP K) : zP K ≤ zR (zS K 1 ((zP K - zQ K) / (2 * zP K)) 0 1) := by
  have hp := h.1
  generalize hk : (zP K - zQ K) / (2 * zP K) = k
  have hm := Int.mul_ediv_add_emod (zP K - zQ K) (2 * zP K)
  have hm1 := Int.emod_nonneg (zP K - zQ K) (show 2 * zP K ≠ 0 by omega)
  have hm2 := Int.emod_lt_of_pos (zP K - zQ K) (show 0 < 2 * zP K by omega)
  rw [hk] at hm
  have hd : ((1 : Int) * 1 - k * 0) * (1 * 1 - k * 0) = 1 := by simp
  have eR : zR (zS K 1 k 0 1) = zP K * k * k + zQ K * k + zR K := by rw [zR_S, hd]; grind
  have kr : k = -1 ∨ k = 0 ∨ k = 1 := by
    have a : ¬ 2 ≤ k := fun q => by
      have := Int.mul_le_mul_of_nonneg_left q (show 0 ≤ 2 * zP K by omega)
      omega
    have b : ¬ k ≤ -2 := fun q => by
      have := Int.mul_le_mul_of_nonneg_left q (show 0 ≤ 2 * zP K by omega)
      omega
    omega
  rw [eR]
  rcases kr with e | e | e <;> subst e <;> grind
theorem redGo_ok : ∀ (n : Nat) (F : Zf), okZ F → zP F < 2 ^ n → ∀ k, n + 2 ≤ k → ∃ G, redGo k (ofF F) = ofF G ∧ eqvZ F G ∧ redZ G ∧ okZ G
  | 0, F, h, hn, k, hk => by have := h.1; simp at hn; omega
  | n + 1, F, h, hn, k, hk => by
    obtain ⟨k, rfl⟩ : ∃ z, k = z + 1 := ⟨k - 1, by omega⟩
    obtain ⟨G, hok, heq, eP, g1, g2, hG, hr⟩ := red_round h k
    by_cases q : zR G < zP G
    · rw [if_pos q] at hr
      obtain ⟨ok2, sP, sQ, sR, se⟩ := swap_ok hok
      by_cases q2 : 2 * zR G ≤ zP G
      · obtain ⟨G2, r1, r2, r3, r4⟩ := redGo_ok n (zS G 0 1 1 0) ok2 (by rw [sP]; rw [Int.pow_succ] at hn; omega) k (by omega)
        exact ⟨G2, hr.trans r1, (heq.tr se).tr r2, r3, r4⟩
      · obtain ⟨k, rfl⟩ : ∃ z, k = z + 1 := ⟨k - 1, by omega⟩
        obtain ⟨G2, ok3, heq3, eP3, g13, g23, hG3, hr3⟩ := red_round ok2 k
        have hs := red_stop ok2 (by rw [sR, sQ]; exact g1) (by rw [sR, sQ]; exact g2) (by rw [sP, sR]; omega) (by rw [sP, sR]; omega)
        rw [← hG3, ← eP3] at hs
        rw [if_neg (by omega)] at hr3
        exact ⟨G2, hr.trans hr3, (heq.tr se).tr heq3, ⟨g13, g23, hs⟩, ok3⟩
    · rw [if_neg q] at hr
      exact ⟨G, hr, heq, ⟨g1, g2, by omega⟩, hok⟩
