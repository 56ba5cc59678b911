/-! the canonical form of any form in range; the way to the maximal overring -/
theorem can_gen {F : Zf} (h : okZ F) (hD : zD F ≤ 274877906944) : canOK (ofF F) ∧ ∃ G, canC (ofF F) = ofF G ∧ eqvZ F G ∧ redZ G ∧ okZ G := by
  obtain ⟨N, G, e1, v1, r1, o1⟩ := redM_ok (2 * zP F + 2).toNat F h (by have := h.1; split <;> omega)
  obtain ⟨K, e2, v2, r2, o2⟩ := redGo_ok 41 F h (by have := h.2.2.1; omega) 1000 (by decide)
  have v := eqvZ.tr v1.sy v2
  have dG : zD G ≤ 274877906944 := by rw [v1.D]; exact hD
  have dK : zD K ≤ 274877906944 := by rw [v2.D]; exact hD
  refine ⟨⟨N, ofF G, e1, ?_⟩, ?_⟩
  · rw [canM_C o1 r1 dG 81 0 _ (by decide), sealC_eq, canC, e2]
    exact leF_as (can_le o1 r1 o2 r2 v dK) (can_le o2 r2 o1 r1 v.sy dG)
  · rw [canC, e2]
    rcases (canGo_least (ofF K) 81 0 (ofF K)).2.2 with e | ⟨i, _, hi, hu, e⟩
    · exact ⟨K, e, v2, r2, o2⟩
    · have hi2 : i < 81 := by omega
      rw [Bool.and_eq_true, unit_of hi2, decide_eq_true_eq] at hu
      obtain ⟨hd, hr⟩ := hu
      have ok := cand_ok o2 r2 dK hd (zj_in i)
      rw [cand_of K hi2] at hr e
      exact ⟨_, e, eqvZ.tr v2 ⟨_, _, _, _, hd, rfl⟩, (reduF_Z ok).mp hr, ok⟩
theorem glp_some {f g : Fm} : ∀ k P, glpGo f k P = some g → ∃ p, P ≤ p ∧ p < P + k ∧ ovM f p = some g
  | 0, P, h => by rw [glpGo] at h; cases h
  | k + 1, P, h => by
    have nx : glpGo f k (P + 1) = some g → ∃ p, P ≤ p ∧ p < P + (k + 1) ∧ ovM f p = some g := fun q => by
      obtain ⟨p, a, b, c⟩ := glp_some k (P + 1) q
      exact ⟨p, by omega, by omega, c⟩
    rw [glpGo] at h
    by_cases q1 : discF f < lN P * lN P
    · rw [if_pos q1] at h; cases h
    · rw [if_neg q1] at h
      by_cases q2 : remL (discF f) (lN P * lN P) = 0
      · rw [if_pos q2] at h
        by_cases q3 : primeB (nI P) = true
        · rw [if_pos q3] at h
          by_cases q4 : (ovC f P).isSome = true
          · rw [if_pos q4, ovC_M q2] at h
            exact ⟨P, Nat.le_refl P, by omega, h⟩
          · rw [if_neg q4] at h
            exact nx h
        · rw [if_neg q3] at h
          exact nx h
      · rw [if_neg q2] at h
        exact nx h
theorem glp_Z {G : Zf} (h : okZ G) (r : redZ G) (hD : zD G ≤ 274877906944) (hi : irrZ G) {g : Fm} (e : glpC (ofF G) = some g) : ∃ K, g = ofF K ∧ okZ K ∧ 4 * zD K ≤ zD G ∧ irrZ K := by
  obtain ⟨p, p1, p2, e2⟩ := glp_some 996 2 e
  have ha := irr_a hi
  have hR := red_R h r hD ha
  obtain ⟨K, e3, ov⟩ := ov_Z (red_cf h r hD ha) p1 (by omega) e2
  obtain ⟨m, m4, -, hd⟩ := ovZ_D (by omega) ov
  have h5 := h.2.2.2.2
  have hK : 0 < zD K := by
    rcases Int.lt_or_le 0 (zD K) with w | w
    · exact w
    · have := Int.mul_nonpos_of_nonneg_of_nonpos (show 0 ≤ m by omega) w
      omega
  obtain ⟨b1, b2⟩ := ovZ_H (by omega) h r hK ov
  refine ⟨K, e3, ⟨zP_pos hK, zR_pos hK, by omega, by omega, hK⟩, ?_, irr_ov (by omega) hi ov⟩
  rw [hd]
  exact Int.mul_le_mul_of_nonneg_right m4 (by omega)
theorem mx_go : ∀ (n : Nat) (G : Zf), okZ G → redZ G → irrZ G → zD G ≤ 274877906944 → zD G < 4 ^ n → ∀ k, n ≤ k → mxRel (n + 1) (ofF G) (maxGo k (ofF G))
  | 0, G, h, _, _, _, hn, k, _ => by
    have := h.2.2.2.2
    rw [Int.pow_zero] at hn
    omega
  | n + 1, G, h, r, hi, hD, hn, k, hk => by
    obtain ⟨k, rfl⟩ : ∃ z, k = z + 1 := ⟨k - 1, by omega⟩
    have h5 := h.2.2.2.2
    have hd0 : 0 < discF (ofF G) := by
      rw [d_of, Int64.lt_iff_toInt_lt, ti_of (by omega) (by omega), show (0 : Int64).toInt = 0 by decide]
      exact h5
    rw [mxRel, maxGo, sealG_C hd0]
    cases e : glpC (ofF G) with
    | none => rw [if_neg (by simp), if_neg (by simp)]
    | some g =>
      obtain ⟨K, e3, o3, d3, i3⟩ := glp_Z h r hD hi e
      obtain ⟨c1, L, c2, v, r4, o4⟩ := can_gen o3 (by omega)
      have hs : (some g : Option Fm).isSome = true := rfl
      rw [if_pos hs, if_pos hs]
      show canOK g ∧ mxRel (n + 1) (sealC 0 g) (maxGo k (canC g))
      rw [e3, sealC_eq, c2]
      have dL := v.D
      rw [Int.pow_succ] at hn
      exact ⟨c1, mx_go n L o4 r4 (irr_eqv i3 v) (by omega) (by omega) k (by omega)⟩
theorem hmx_ok (f : Fm) (h : rngF f) (hd : 0 < discF f) (hr : rootF f = false) : ∃ N0, canOK f ∧ mxRel N0 (sealC 0 f) (sealM 0 f) := by
  obtain ⟨c1, G, c2, v, r, o⟩ := can_gen (rng_ok h hd).1 (rng_D h hd)
  have hD := rng_D h hd
  rw [ofF_toZ] at c1 c2
  have dG := v.D
  refine ⟨21, c1, ?_⟩
  rw [sealC_eq, sealM_eq, maxC, c2]
  exact mx_go 20 G o r (irr_eqv (irr_root hr) v) (by omega) (by omega) 64 (by decide)
