/-! overrings over the integers -/
def bdZ (F : Zf) (B : Nat) : Prop := F.1.natAbs ≤ B ∧ F.2.1.natAbs ≤ B ∧ F.2.2.1.natAbs ≤ B ∧ F.2.2.2.natAbs ≤ B
theorem lN_of (n : Nat) : lN n = Int64.ofInt (n : Int) := (Int64.ofInt_eq_ofNat (n := n)).symm
theorem exN {z : Int} {P : Nat} (hz1 : -9223372036854775808 ≤ z) (hz2 : z < 9223372036854775808) (h0 : 0 < P) (hP : P < 2 ^ 31) (h : remL (Int64.ofInt z) (lN P) = 0) : ∃ A, z = P * A ∧ Int64.ofInt z / lN P = Int64.ofInt A := by
  have tz := ti_of hz1 hz2
  have tp := lN_toInt hP
  have hy : 0 < (lN P).toInt := by rw [tp]; omega
  have hd := (remL_0 _ _ hy).mp h
  rw [tz, tp] at hd
  obtain ⟨A, e⟩ := hd
  refine ⟨A, e, ?_⟩
  rw [div_of _ _ hy, tz, tp, e, Int.mul_tdiv_cancel_left _ (by omega)]
theorem pt_sub (f : Fm) {p t : Int64} (h : ¬ t = p) : ptF f p t = subF f 1 0 t 1 := by
  unfold ptF
  rw [if_neg h]
  unfold subF valF
  refine Prod.ext ?_ (Prod.ext ?_ (Prod.ext ?_ ?_)) <;> (show _ = _; grind)
theorem pt_sw (F : Zf) (p : Int64) : ptF (ofF F) p p = ofF (zS F 0 1 1 0) := by
  rw [← sw_of]
  unfold ptF
  rw [if_pos rfl]
  rfl
theorem pt_t (F : Zf) {P t : Nat} (hP : P < 2 ^ 31) (ht : t < 2 ^ 31) (h : t ≠ P) : ptF (ofF F) (lN P) (lN t) = ofF (zS F 1 0 t 1) := by
  rw [pt_sub (ofF F) (fun q => h ((lN_eq ht hP).mp q)), lN_of t, i1, i0, s_of]
theorem zS_t (F : Zf) (t : Int) : zS F 1 0 t 1 = (F.1 + F.2.1 * t + F.2.2.1 * (t * t) + F.2.2.2 * (t * t * t), F.2.1 + 2 * (F.2.2.1 * t) + 3 * (F.2.2.2 * (t * t)), F.2.2.1 + 3 * (F.2.2.2 * t), F.2.2.2) := by
  obtain ⟨a, b, c, d⟩ := F
  simp only [zS, zV]
  refine Prod.ext ?_ (Prod.ext ?_ (Prod.ext ?_ ?_)) <;> (show _ = _; grind)
theorem zS_sw (F : Zf) : zS F 0 1 1 0 = (F.2.2.2, F.2.2.1, F.2.1, F.1) := by
  obtain ⟨a, b, c, d⟩ := F
  simp only [zS, zV]
  refine Prod.ext ?_ (Prod.ext ?_ (Prod.ext ?_ ?_)) <;> (show _ = _; grind)
def ptZ (F K : Zf) (p : Int) : Prop := K = zS F 0 1 1 0 ∨ ∃ t : Int, 0 ≤ t ∧ t < p ∧ K = zS F 1 0 t 1
def ovZ (F K : Zf) (p : Int) : Prop := F = (p * K.1, p * K.2.1, p * K.2.2.1, p * K.2.2.2) ∨ ∃ (J : Zf) (z : Int), ptZ F J p ∧ J = (p * p * K.1, p * K.2.1, K.2.2.1, z) ∧ K.2.2.2 = z * p
theorem na_le {x : Int} {B : Nat} (h : x.natAbs ≤ B) : -(B : Int) ≤ x ∧ x ≤ (B : Int) := by omega
theorem sum4 {a n1 n2 n3 : Int} (h0 : a.natAbs ≤ 134217728) (h1 : n1.natAbs ≤ 134217728 * 997) (h2 : n2.natAbs ≤ 134217728 * (997 * 997)) (h3 : n3.natAbs ≤ 134217728 * (997 * 997 * 997)) : -9223372036854775808 ≤ a + n1 + n2 + n3 ∧ a + n1 + n2 + n3 < 9223372036854775808 := by
  have k0 := na_le h0
  have k1 := na_le h1
  have k2 := na_le h2
  have k3 := na_le h3
  clear h0 h1 h2 h3
  omega
theorem sum3 {a n1 n2 : Int} (h0 : a.natAbs ≤ 134217728) (h1 : n1.natAbs ≤ 134217728 * 997) (h2 : n2.natAbs ≤ 134217728 * (997 * 997)) : -9223372036854775808 ≤ a + 2 * n1 + 3 * n2 ∧ a + 2 * n1 + 3 * n2 < 9223372036854775808 := by
  have k0 := na_le h0
  have k1 := na_le h1
  have k2 := na_le h2
  clear h0 h1 h2
  omega
theorem pt_K {F : Zf} {P t : Nat} (hb : bdZ F 134217728) (h9 : P ≤ 997) (ht : t ≤ P) : ∃ K, ptZ F K P ∧ ptF (ofF F) (lN P) (lN t) = ofF K ∧ (-9223372036854775808 ≤ K.1 ∧ K.1 < 9223372036854775808) ∧ (-9223372036854775808 ≤ K.2.1 ∧ K.2.1 < 9223372036854775808) := by
  obtain ⟨b1, b2, b3, b4⟩ := hb
  by_cases e : t = P
  · subst e
    refine ⟨_, Or.inl rfl, pt_sw F (lN t), ?_⟩
    rw [zS_sw]
    constructor
    · show _ ≤ F.2.2.2 ∧ F.2.2.2 < _
      omega
    · show _ ≤ F.2.2.1 ∧ F.2.2.1 < _
      omega
  · refine ⟨_, Or.inr ⟨(t : Int), by omega, by omega, rfl⟩, pt_t F (by omega) (by omega) e, ?_⟩
    rw [zS_t]
    have t1 : ((t : Int)).natAbs ≤ 997 := by omega
    generalize (t : Int) = x at t1
    have t2 := mul_bd t1 t1
    have t3 := mul_bd t2 t1
    have m1 := mul_bd b2 t1
    have m2 := mul_bd b3 t2
    have m3 := mul_bd b4 t3
    have m4 := mul_bd b3 t1
    have m5 := mul_bd b4 t2
    exact ⟨sum4 b1 m1 m2 m3, sum3 b2 m4 m5⟩
theorem ovGo_Z {F : Zf} {P : Nat} {g : Fm} (hb : bdZ F 134217728) (h2 : 2 ≤ P) (h9 : P ≤ 997) : ∀ k t, t + k ≤ P + 1 → ovGo (ofF F) P k t = some g → ∃ K, g = ofF K ∧ ovZ F K P
  | 0, t, _, h => by rw [ovGo] at h; cases h
  | k + 1, t, hk, h => by
    obtain ⟨K, hK, hp, ⟨b1, b2⟩, b3, b4⟩ := pt_K hb h9 (t := t) (by omega)
    have hPP : P * P < 2 ^ 31 := by have := Nat.mul_le_mul h9 h9; omega
    have hP0 : 0 < P * P := Nat.mul_pos (by omega) (by omega)
    rw [ovGo, hp] at h
    by_cases q1 : remL (ofF K).1 (lN P * lN P) = 0
    · rw [if_pos q1] at h
      by_cases q2 : remL (ofF K).2.1 (lN P) = 0
      · rw [if_pos q2] at h
        rw [lN_mul] at q1 h
        obtain ⟨A, eA, dA⟩ := exN b1 b2 hP0 hPP q1
        obtain ⟨B, eB, dB⟩ := exN b3 b4 (show 0 < P by omega) (by omega) q2
        injection h with h
        refine ⟨(A, B, K.2.2.1, K.2.2.2 * P), ?_, Or.inr ⟨K, K.2.2.2, hK, ?_, rfl⟩⟩
        · rw [← h]
          show (Int64.ofInt K.1 / lN (P * P), Int64.ofInt K.2.1 / lN P, Int64.ofInt K.2.2.1, Int64.ofInt K.2.2.2 * lN P) = (Int64.ofInt A, Int64.ofInt B, Int64.ofInt K.2.2.1, Int64.ofInt (K.2.2.2 * P))
          rw [dA, dB, Int64.ofInt_mul, ← lN_of]
        · rw [Int.natCast_mul] at eA
          exact Prod.ext eA (Prod.ext eB rfl)
      · rw [if_neg q2] at h
        exact ovGo_Z hb h2 h9 k (t + 1) (by omega) h
    · rw [if_neg q1] at h
      exact ovGo_Z hb h2 h9 k (t + 1) (by omega) h
theorem ov_Z {F : Zf} {P : Nat} {g : Fm} (hb : bdZ F 134217728) (h2 : 2 ≤ P) (h9 : P ≤ 997) (h : ovM (ofF F) P = some g) : ∃ K, g = ofF K ∧ ovZ F K P := by
  unfold ovM at h
  by_cases q : mulF (ofF F) (lN P) = true
  · rw [if_pos q] at h
    injection h with h
    unfold mulF at q
    simp only [Bool.and_eq_true, decide_eq_true_eq] at q
    obtain ⟨⟨⟨q1, q2⟩, q3⟩, q4⟩ := q
    obtain ⟨b1, b2, b3, b4⟩ := hb
    obtain ⟨A, eA, dA⟩ := exN (z := F.1) (by omega) (by omega) (show 0 < P by omega) (by omega) q1
    obtain ⟨B, eB, dB⟩ := exN (z := F.2.1) (by omega) (by omega) (show 0 < P by omega) (by omega) q2
    obtain ⟨C, eC, dC⟩ := exN (z := F.2.2.1) (by omega) (by omega) (show 0 < P by omega) (by omega) q3
    obtain ⟨E, eE, dE⟩ := exN (z := F.2.2.2) (by omega) (by omega) (show 0 < P by omega) (by omega) q4
    refine ⟨(A, B, C, E), ?_, Or.inl (Prod.ext eA (Prod.ext eB (Prod.ext eC eE)))⟩
    rw [← h]
    show (Int64.ofInt F.1 / lN P, Int64.ofInt F.2.1 / lN P, Int64.ofInt F.2.2.1 / lN P, Int64.ofInt F.2.2.2 / lN P) = (Int64.ofInt A, Int64.ofInt B, Int64.ofInt C, Int64.ofInt E)
    rw [dA, dB, dC, dE]
  · rw [if_neg q] at h
    exact ovGo_Z hb h2 h9 (P + 1) 0 (by omega) h
theorem ptZ_d {F K : Zf} {p : Int} (h : ptZ F K p) : ∃ a b c d : Int, (a * d - b * c) * (a * d - b * c) = 1 ∧ K = zS F a b c d := by
  rcases h with h | ⟨t, _, _, h⟩
  · exact ⟨0, 1, 1, 0, by decide, h⟩
  · exact ⟨1, 0, t, 1, by simp, h⟩
theorem ovZ_D {F K : Zf} {p : Int} (hp : 2 ≤ p) (h : ovZ F K p) : ∃ m, 4 ≤ m ∧ p * p ∣ m ∧ zD F = m * zD K := by
  have h4 : 2 * 2 ≤ p * p := Int.mul_le_mul hp hp (by decide) (by omega)
  rcases h with h | ⟨J, z, hJ, e, ez⟩
  · refine ⟨p * p * (p * p), ?_, ⟨p * p, rfl⟩, ?_⟩
    · have := Int.mul_le_mul h4 h4 (by decide) (by omega)
      omega
    · rw [h]
      obtain ⟨a, b, c, d⟩ := K
      simp only [zD]
      grind
  · refine ⟨p * p, by omega, ⟨1, by rw [Int.mul_one]⟩, ?_⟩
    obtain ⟨x, y, u, w, hd, hS⟩ := ptZ_d hJ
    rw [← zD_S (F := F) hd, ← hS, e]
    obtain ⟨a, b, c, d⟩ := K
    simp only [zD] at ez ⊢
    rw [ez]
    grind
theorem rng_b {f : Fm} (h : rngF f) : bdZ (toZ f) 134217728 ∧ (-9223372036854775808 ≤ zD (toZ f) ∧ zD (toZ f) < 9223372036854775808) := by
  obtain ⟨⟨a1, a2⟩, ⟨b1, b2⟩, ⟨c1, c2⟩, ⟨d1, d2⟩⟩ := h
  generalize hF : toZ f = F
  have p1 : F.1.natAbs ≤ 300 := by rw [← hF]; simp only [toZ]; omega
  have p2 : F.2.1.natAbs ≤ 300 := by rw [← hF]; simp only [toZ]; omega
  have p3 : F.2.2.1.natAbs ≤ 300 := by rw [← hF]; simp only [toZ]; omega
  have p4 : F.2.2.2.natAbs ≤ 300 := by rw [← hF]; simp only [toZ]; omega
  have hP : (zP F).natAbs ≤ 360000 := by
    have m1 := mul_bd p2 p2
    have m2 := mul_bd p1 p3
    unfold zP
    rw [Int.mul_assoc 3]
    omega
  have hR : (zR F).natAbs ≤ 360000 := by
    have m1 := mul_bd p3 p3
    have m2 := mul_bd p2 p4
    unfold zR
    rw [Int.mul_assoc 3]
    omega
  have hQ : (zQ F).natAbs ≤ 900000 := by
    have m1 := mul_bd p2 p3
    have m2 := mul_bd p1 p4
    unfold zQ
    rw [Int.mul_assoc 9]
    omega
  have k := zD_H F
  rw [Int.mul_assoc 4] at k
  have m1 := mul_bd hP hR
  have m2 := mul_bd hQ hQ
  refine ⟨⟨by omega, by omega, by omega, by omega⟩, by omega, by omega⟩
theorem hov_ok (f : Fm) (P : Nat) (h : rngF f) (h2 : 2 ≤ P) (h9 : P ≤ 997) (_ : prB P = true) : ovM f P = ovC f P := by
  unfold ovC
  by_cases q : remL (discF f) (lN P * lN P) = 0
  · rw [if_pos q]
  · rw [if_neg q]
    cases e : ovM f P with
    | none => rfl
    | some g =>
      exfalso
      apply q
      obtain ⟨hb, hd1, hd2⟩ := rng_b h
      have hPP : P * P < 2 ^ 31 := by have := Nat.mul_le_mul h9 h9; omega
      have hP0 : 0 < P * P := Nat.mul_pos (by omega) (by omega)
      have e2 : ovM (ofF (toZ f)) P = some g := by rw [ofF_toZ]; exact e
      obtain ⟨K, -, ov⟩ := ov_Z hb h2 h9 e2
      obtain ⟨m, -, hm, hD⟩ := ovZ_D (by omega) ov
      have hdd : discF f = Int64.ofInt (zD (toZ f)) := by rw [← d_of, ofF_toZ]
      rw [hdd, lN_mul, remL_0 _ _ (by rw [lN_toInt hPP]; omega), ti_of hd1 hd2, lN_toInt hPP, Int.natCast_mul, hD]
      exact Int.dvd_trans hm ⟨zD K, rfl⟩
