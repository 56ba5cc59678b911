/-! forms without a zero: what keeps them so -/
def irrZ (F : Zf) : Prop := ∀ x y : Int, zV F x y = 0 → x = 0 ∧ y = 0
theorem zV_S (F : Zf) (p q r s x y : Int) : zV (zS F p q r s) x y = zV F (p * x + q * y) (r * x + s * y) := by
  obtain ⟨a, b, c, d⟩ := F
  simp only [zS, zV]
  grind
theorem irr_S {F : Zf} (h : irrZ F) {p q r s : Int} (hd : (p * s - q * r) * (p * s - q * r) = 1) : irrZ (zS F p q r s) := fun x y e => by
  rw [zV_S] at e
  obtain ⟨e1, e2⟩ := h _ _ e
  have a : (p * s - q * r) * (p * s - q * r) * x = (p * s - q * r) * (s * (p * x + q * y) - q * (r * x + s * y)) := by grind
  have b : (p * s - q * r) * (p * s - q * r) * y = (p * s - q * r) * (p * (r * x + s * y) - r * (p * x + q * y)) := by grind
  rw [hd, e1, e2, Int.one_mul, Int.mul_zero, Int.mul_zero, Int.sub_zero, Int.mul_zero] at a b
  exact ⟨a, b⟩
theorem irr_eqv {F G : Zf} (h : irrZ F) (v : eqvZ F G) : irrZ G := by
  obtain ⟨p, q, r, s, hd, rfl⟩ := v
  exact irr_S h hd
theorem irr_ov {F K : Zf} {p : Int} (hp : p ≠ 0) (h : irrZ F) (o : ovZ F K p) : irrZ K := fun x y e => by
  rcases o with o | ⟨J, z, hJ, eJ, ez⟩
  · refine h x y ?_
    have : zV F x y = p * zV K x y := by
      rw [o]; obtain ⟨a, b, c, d⟩ := K; simp only [zV]; grind
    rw [this, e, Int.mul_zero]
  · obtain ⟨a, b, c, d, hd, hS⟩ := ptZ_d hJ
    have hi : irrZ J := by rw [hS]; exact irr_S h hd
    have e2 : zV J x (p * y) = p * p * zV K x y := by
      rw [eJ]; clear eJ; obtain ⟨a, b, c, d⟩ := K; simp only [zV] at ez ⊢; rw [ez]; grind
    rw [e, Int.mul_zero] at e2
    obtain ⟨f1, f2⟩ := hi _ _ e2
    refine ⟨f1, ?_⟩
    rcases Int.mul_eq_zero.mp f2 with w | w
    · exact absurd w hp
    · exact w
theorem irr_a {F : Zf} (h : irrZ F) : F.1 ≠ 0 := fun q => by
  have e : zV F 1 0 = F.1 := by unfold zV; grind
  rw [q] at e
  have := (h 1 0 e).1
  omega
/-- zeros come in lowest terms -/
theorem zero_low {F : Zf} {x y : Int} (hx : x ≠ 0) (e : zV F x y = 0) : ∃ X Y : Int, X ≠ 0 ∧ (Y = 0 → y = 0) ∧ zV F X Y = 0 ∧ Nat.Coprime X.natAbs Y.natAbs := by
  have g0 : 0 < Nat.gcd x.natAbs y.natAbs := Nat.gcd_pos_of_pos_left _ (by omega)
  obtain ⟨X, hX⟩ : (Nat.gcd x.natAbs y.natAbs : Int) ∣ x := Int.gcd_dvd_left x y
  obtain ⟨Y, hY⟩ : (Nat.gcd x.natAbs y.natAbs : Int) ∣ y := Int.gcd_dvd_right x y
  generalize hg : Nat.gcd x.natAbs y.natAbs = g at *
  refine ⟨X, Y, fun q => hx (by rw [hX, q, Int.mul_zero]), fun q => by rw [hY, q, Int.mul_zero], ?_, ?_⟩
  · have e2 : zV F ((g : Int) * X) ((g : Int) * Y) = (g : Int) * ((g : Int) * ((g : Int) * zV F X Y)) := by unfold zV; grind
    rw [hX, hY, e2] at e
    have gz : ¬ (g : Int) = 0 := by omega
    rcases Int.mul_eq_zero.mp e with w | w
    · exact absurd w gz
    · rcases Int.mul_eq_zero.mp w with w | w
      · exact absurd w gz
      · rcases Int.mul_eq_zero.mp w with w | w
        · exact absurd w gz
        · exact w
  · have n1 : x.natAbs = g * X.natAbs := by rw [hX, Int.natAbs_mul, Int.natAbs_natCast]
    have n2 : y.natAbs = g * Y.natAbs := by rw [hY, Int.natAbs_mul, Int.natAbs_natCast]
    rw [n1, n2, Nat.gcd_mul_left] at hg
    show Nat.gcd X.natAbs Y.natAbs = 1
    exact Nat.eq_of_mul_eq_mul_left g0 (by rw [hg, Nat.mul_one])
theorem div_cube {N X A : Int} (hc : Nat.Coprime N.natAbs X.natAbs) (h : N ∣ A * (X * X * X)) : N.natAbs ∣ A.natAbs := by
  have h1 := Int.natAbs_dvd_natAbs.mpr h
  rw [Int.natAbs_mul, Int.natAbs_mul, Int.natAbs_mul] at h1
  exact Nat.Coprime.dvd_of_dvd_mul_right (Nat.Coprime.mul_right (Nat.Coprime.mul_right hc hc) hc) h1
theorem van_of {F : Zf} {X Y : Int} (e : zV F X Y = 0) : vanF (ofF F) (lN X.natAbs) (lN Y.natAbs) = true := by
  have z0 : Int64.ofInt 0 = 0 := by decide
  have sg : ∀ x y : Int, zV F (-x) (-y) = -zV F x y := fun x y => by unfold zV; grind
  have yes : zV F (X.natAbs : Int) (Y.natAbs : Int) = 0 → vanF (ofF F) (lN X.natAbs) (lN Y.natAbs) = true := fun q => by
    apply vanF_of
    rw [lN_of, lN_of, v_of, q, z0]
  have no : zV F (-(X.natAbs : Int)) (Y.natAbs : Int) = 0 → vanF (ofF F) (lN X.natAbs) (lN Y.natAbs) = true := fun q => by
    apply vanF_of2
    rw [lN_of, lN_of, ← Int64.ofInt_neg, v_of, q, z0]
  rcases Int.le_total 0 X with hX | hX
  · have eX : (X.natAbs : Int) = X := by omega
    rcases Int.le_total 0 Y with hY | hY
    · have eY : (Y.natAbs : Int) = Y := by omega
      exact yes (by rw [eX, eY]; exact e)
    · have eY : (Y.natAbs : Int) = -Y := by omega
      exact no (by rw [eX, eY, sg, e]; rfl)
  · have eX : (X.natAbs : Int) = -X := by omega
    rcases Int.le_total 0 Y with hY | hY
    · have eY : (Y.natAbs : Int) = Y := by omega
      exact no (by rw [eX, eY, Int.neg_neg]; exact e)
    · have eY : (Y.natAbs : Int) = -Y := by omega
      exact yes (by rw [eX, eY, sg, e]; rfl)
/-- rational zeros: the class's search finds one if there is one -/
theorem irr_root {f : Fm} (hr : rootF f = false) : irrZ (toZ f) := by
  unfold rootF rootC at hr
  simp only [Bool.or_eq_false_iff, decide_eq_false_iff_not] at hr
  obtain ⟨⟨ha, hd⟩, hn⟩ := hr
  have z0 : (0 : Int64).toInt = 0 := by decide
  have ha2 : (toZ f).1 ≠ 0 := fun q => ha (Int64.toInt_inj.mp (by rw [z0]; exact q))
  have hd2 : (toZ f).2.2.2 ≠ 0 := fun q => hd (Int64.toInt_inj.mp (by rw [z0]; exact q))
  have ef := ofF_toZ f
  have hA : anF f = (toZ f).1.natAbs := rfl
  have hB : dnF f = (toZ f).2.2.2.natAbs := rfl
  rw [hA, hB] at hn
  generalize toZ f = F at *
  intro x y e
  by_cases hx : x = 0
  · refine ⟨hx, ?_⟩
    have e2 : zV F 0 y = F.2.2.2 * (y * (y * y)) := by unfold zV; grind
    rw [hx, e2] at e
    rcases Int.mul_eq_zero.mp e with w | w
    · exact absurd w hd2
    · rcases Int.mul_eq_zero.mp w with w | w
      · exact w
      · rcases Int.mul_eq_zero.mp w with w | w <;> exact w
  · exfalso
    obtain ⟨X, Y, hX, _, eXY, hc⟩ := zero_low hx e
    have i1 : Y ∣ F.1 * (X * X * X) := ⟨-(F.2.1 * X * X + F.2.2.1 * Y * X + F.2.2.2 * Y * Y), by unfold zV at eXY; grind⟩
    have i2 : X ∣ F.2.2.2 * (Y * Y * Y) := ⟨-(F.1 * X * X + F.2.1 * Y * X + F.2.2.1 * Y * Y), by unfold zV at eXY; grind⟩
    have j1 := div_cube hc.symm i1
    have j2 := div_cube hc i2
    have a0 : 0 < F.1.natAbs := by omega
    have d0 : 0 < F.2.2.2.natAbs := by omega
    have Y0 : 0 < Y.natAbs := Nat.pos_of_dvd_of_pos j1 a0
    have X0 : 0 < X.natAbs := Nat.pos_of_dvd_of_pos j2 d0
    have hv := van_of eXY
    rw [ef] at hv
    have r1 : rootOver f F.2.2.2.natAbs (lN Y.natAbs) = true := anyDiv_yes d0 X0 (Nat.mod_eq_zero_of_dvd j2) hv
    have r2 : anyDiv F.1.natAbs (fun y => rootOver f F.2.2.2.natAbs (lN y)) = true := anyDiv_yes a0 Y0 (Nat.mod_eq_zero_of_dvd j1) r1
    rw [r2] at hn
    cases hn
