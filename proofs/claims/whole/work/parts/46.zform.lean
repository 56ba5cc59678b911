/-! forms over the integers; 64 bits are their image -/
abbrev Zf : Type := Int × Int × Int × Int
def zP (F : Zf) : Int := F.2.1 * F.2.1 - 3 * F.1 * F.2.2.1
def zQ (F : Zf) : Int := F.2.1 * F.2.2.1 - 9 * F.1 * F.2.2.2
def zR (F : Zf) : Int := F.2.2.1 * F.2.2.1 - 3 * F.2.1 * F.2.2.2
def zD (F : Zf) : Int := F.2.1 * F.2.1 * F.2.2.1 * F.2.2.1 - 4 * F.1 * F.2.2.1 * F.2.2.1 * F.2.2.1 - 4 * F.2.1 * F.2.1 * F.2.1 * F.2.2.2 - 27 * F.1 * F.1 * F.2.2.2 * F.2.2.2 + 18 * F.1 * F.2.1 * F.2.2.1 * F.2.2.2
def zV (F : Zf) (x y : Int) : Int := ((F.1 * x + F.2.1 * y) * x + F.2.2.1 * y * y) * x + F.2.2.2 * y * y * y
def zS (F : Zf) (p q r s : Int) : Zf := (zV F p r,
  3 * F.1 * p * p * q + F.2.1 * p * (p * s + 2 * q * r) + F.2.2.1 * r * (2 * p * s + q * r) + 3 * F.2.2.2 * r * r * s,
  3 * F.1 * p * q * q + F.2.1 * q * (2 * p * s + q * r) + F.2.2.1 * s * (p * s + 2 * q * r) + 3 * F.2.2.2 * r * s * s,
  zV F q s)
def ofF (F : Zf) : Fm := (Int64.ofInt F.1, Int64.ofInt F.2.1, Int64.ofInt F.2.2.1, Int64.ofInt F.2.2.2)
theorem zD_H (F : Zf) : 3 * zD F = 4 * zP F * zR F - zQ F * zQ F := by
  obtain ⟨a, b, c, d⟩ := F
  simp only [zD, zP, zQ, zR]
  grind
theorem zP_S (F : Zf) (p q r s : Int) : zP (zS F p q r s) = (p * s - q * r) * (p * s - q * r) * (zP F * p * p + zQ F * p * r + zR F * r * r) := by
  obtain ⟨a, b, c, d⟩ := F
  simp only [zP, zQ, zR, zS, zV]
  grind
theorem zQ_S (F : Zf) (p q r s : Int) : zQ (zS F p q r s) = (p * s - q * r) * (p * s - q * r) * (2 * zP F * p * q + zQ F * (p * s + q * r) + 2 * zR F * r * s) := by
  obtain ⟨a, b, c, d⟩ := F
  simp only [zP, zQ, zR, zS, zV]
  grind
theorem zR_S (F : Zf) (p q r s : Int) : zR (zS F p q r s) = (p * s - q * r) * (p * s - q * r) * (zP F * q * q + zQ F * q * s + zR F * s * s) := by
  obtain ⟨a, b, c, d⟩ := F
  simp only [zP, zQ, zR, zS, zV]
  grind
theorem o2 : (2 : Int64) = Int64.ofInt 2 := by decide
theorem o3 : (3 : Int64) = Int64.ofInt 3 := by decide
theorem o4 : (4 : Int64) = Int64.ofInt 4 := by decide
theorem o9 : (9 : Int64) = Int64.ofInt 9 := by decide
theorem o18 : (18 : Int64) = Int64.ofInt 18 := by decide
theorem o27 : (27 : Int64) = Int64.ofInt 27 := by decide
theorem hp_of (F : Zf) : hpF (ofF F) = Int64.ofInt (zP F) := by
  simp only [hpF, ofF, zP, Int64.ofInt_sub, Int64.ofInt_mul, o3]
theorem hq_of (F : Zf) : hqF (ofF F) = Int64.ofInt (zQ F) := by
  simp only [hqF, ofF, zQ, Int64.ofInt_sub, Int64.ofInt_mul, o9]
theorem hr_of (F : Zf) : hrF (ofF F) = Int64.ofInt (zR F) := by
  simp only [hrF, ofF, zR, Int64.ofInt_sub, Int64.ofInt_mul, o3]
theorem d_of (F : Zf) : discF (ofF F) = Int64.ofInt (zD F) := by
  simp only [discF, ofF, zD, Int64.ofInt_sub, Int64.ofInt_add, Int64.ofInt_mul, o4, o27, o18]
theorem v_of (F : Zf) (x y : Int) : valF (ofF F) (Int64.ofInt x) (Int64.ofInt y) = Int64.ofInt (zV F x y) := by
  simp only [valF, ofF, zV, Int64.ofInt_add, Int64.ofInt_mul]
theorem s_of (F : Zf) (p q r s : Int) : subF (ofF F) (Int64.ofInt p) (Int64.ofInt q) (Int64.ofInt r) (Int64.ofInt s) = ofF (zS F p q r s) := by
  unfold subF
  rw [v_of, v_of]
  simp only [ofF, zS, Int64.ofInt_add, Int64.ofInt_mul, o3, o2]
theorem ti_of {z : Int} (h1 : -9223372036854775808 ≤ z) (h2 : z < 9223372036854775808) : (Int64.ofInt z).toInt = z := by
  rw [Int64.toInt_ofInt]
  have h4 : Int64.size = 18446744073709551616 := rfl
  rw [h4]
  exact Int.bmod_eq_of_le (by omega) (by omega)
theorem ofF_to (f : Fm) : ofF (f.1.toInt, f.2.1.toInt, f.2.2.1.toInt, f.2.2.2.toInt) = f := by
  simp only [ofF, Int64.ofInt_toInt]
/-- overrings where the square of the prime is no divisor of the discriminant: there are none -/
theorem sqP {P : Nat} (h9 : P ≤ 1000) : (lN P * lN P).toInt = (P * P : Nat) := by
  rw [lN_mul]
  have : P * P ≤ 1000 * 1000 := Nat.mul_le_mul h9 h9
  exact lN_toInt (by omega)
theorem glp_none {f : Fm} (h : 0 < discF f) : ∀ k P, 2 ≤ P → P + k ≤ 998 → discF f < lN P * lN P → glpMGo f k P = none
  | 0, _, _, _, _ => rfl
  | k + 1, P, h2, hk, hd => by
    have e1 := sqP (P := P) (by omega)
    have e0 := Int64.lt_iff_toInt_lt.mp h
    rw [show (0 : Int64).toInt = 0 by decide] at e0
    have hd' := Int64.lt_iff_toInt_lt.mp hd
    have hp : 0 < (lN P * lN P).toInt := by omega
    rw [glpMGo, if_neg]
    · refine glp_none h k (P + 1) (by omega) (by omega) (Int64.lt_iff_toInt_lt.mpr ?_)
      rw [sqP (by omega)]
      rw [e1] at hd'
      have : P * P ≤ (P + 1) * (P + 1) := Nat.mul_le_mul (by omega) (by omega)
      omega
    · intro q
      have := Int.le_of_dvd e0 ((remL_0 _ _ hp).mp q)
      omega
theorem glpM_eq {f : Fm} (h : 0 < discF f) : ∀ k P, 2 ≤ P → P + k ≤ 998 → glpMGo f k P = glpGo f k P
  | 0, _, _, _ => rfl
  | k + 1, P, h2, hk => by
    by_cases q : discF f < lN P * lN P
    · rw [glp_none h (k + 1) P h2 hk q, glpGo, if_pos q]
    · rw [glpMGo, glpGo, if_neg q, glpM_eq h k (P + 1) (by omega) (by omega)]
theorem sealG_C {f : Fm} (h : 0 < discF f) : sealG 0 f = glpC f := by rw [sealG_eq, glpC, glpM_eq h 996 2 (by decide) (by decide)]
theorem hgS_ok : ∀ m, m < 130321 → 0 < discF (frq m) → (sealG 0 (frq m)).isSome = (glpC (frq m)).isSome := fun m _ h => by rw [sealG_C h]
