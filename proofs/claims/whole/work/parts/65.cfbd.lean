/-! bounds: the coefficients of a reduced form; the Hessian of an overring -/
theorem cube_le (F : Zf) : 27 * (zD F * (F.1 * F.1)) ≤ 4 * (zP F * (zP F * zP F)) := by
  have e := zP_cube F
  have s1 := sq_nn (2 * F.2.1 * F.2.1 * F.2.1 - 9 * F.1 * F.2.1 * F.2.2.1 + 27 * F.1 * F.1 * F.2.2.2)
  omega
theorem red_PR {G : Zf} (h : okZ G) (r : redZ G) : zP G * zR G ≤ zD G := by
  obtain ⟨h1, h2, h3, h4, h5⟩ := h
  obtain ⟨r1, r2, r3⟩ := r
  have k := zD_H G
  rw [Int.mul_assoc 4] at k
  have a := sq_le (x := zQ G) (y := zP G) (by omega)
  have b : zP G * zP G ≤ zP G * zR G := Int.mul_le_mul_of_nonneg_left r3 (by omega)
  omega
theorem val_bd {G : Zf} (h : okZ G) (r : redZ G) {p q u s : Int} (hd : (p * s - q * u) * (p * s - q * u) = 1) (hH : zP G * p * p + zQ G * p * u + zR G * u * u ≤ 3 * zR G) : -(2 * zR G) ≤ zV G p u ∧ zV G p u ≤ 2 * zR G := by
  have c := cube_le (zS G p q u s)
  have hD2 : 0 < zD (zS G p q u s) := by rw [zD_S hd]; exact h.2.2.2.2
  have hp := zP_pos hD2
  rw [zP_S, hd, Int.one_mul] at c hp
  rw [zD_S hd] at c
  have c2 : 27 * (zD G * (zV G p u * zV G p u)) ≤ 4 * ((zP G * p * p + zQ G * p * u + zR G * u * u) * ((zP G * p * p + zQ G * p * u + zR G * u * u) * (zP G * p * p + zQ G * p * u + zR G * u * u))) := c
  clear c
  generalize zP G * p * p + zQ G * p * u + zR G * u * u = H at *
  generalize zV G p u = v at *
  have hb := red_bd h r
  have hR := h.2.1
  generalize zR G = R at *
  generalize zD G = E at *
  have g1 : H * H ≤ 3 * R * (3 * R) := Int.mul_le_mul hH hH (by omega) (by omega)
  have g2 : H * (H * H) ≤ 3 * R * (3 * R * (3 * R)) := Int.mul_le_mul hH g1 (sq_nn H) (by omega)
  have g3 : 3 * R * (3 * R * (3 * R)) = 27 * (R * (R * R)) := by grind
  have g4 : R * (v * v) ≤ E * (v * v) := Int.mul_le_mul_of_nonneg_right hb (sq_nn v)
  have g5 : R * (v * v) ≤ R * (4 * (R * R)) := by
    have : R * (4 * (R * R)) = 4 * (R * (R * R)) := by grind
    omega
  have g6 := Int.le_of_mul_le_mul_left g5 hR
  have g7 : v * v = (v.natAbs : Int) * (v.natAbs : Int) := (Int.natAbs_mul_self' v).symm
  rw [g7] at g6
  rcases Int.lt_or_le (2 * R) (v.natAbs : Int) with w | w
  · have g8 : (2 * R + 1) * (2 * R + 1) ≤ (v.natAbs : Int) * (v.natAbs : Int) := Int.mul_le_mul (by omega) (by omega) (by omega) (by omega)
    have g9 : (2 * R + 1) * (2 * R + 1) = 4 * (R * R) + 4 * R + 1 := by grind
    omega
  · omega
theorem red_R {G : Zf} (h : okZ G) (r : redZ G) (hD : zD G ≤ 274877906944) (ha : G.1 ≠ 0) : zR G ≤ 33554432 := by
  have hPR := red_PR h r
  have c := cube_le G
  obtain ⟨h1, h2, h3, h4, h5⟩ := h
  have aa : 1 ≤ G.1 * G.1 := by
    rcases Int.lt_or_le (G.1 * G.1) 1 with z | z
    · have s := sq_nn G.1
      have : G.1 * G.1 = 0 := by omega
      rcases Int.mul_eq_zero.mp this with w | w <;> exact absurd w ha
    · exact z
  have dd : zD G * 1 ≤ zD G * (G.1 * G.1) := Int.mul_le_mul_of_nonneg_left aa (by omega)
  rcases Int.lt_or_le (zP G) 8192 with z | z
  · have k1 : zP G * (27 * zR G) ≤ zP G * (4 * (zP G * zP G)) := by
      have e1 : zP G * (27 * zR G) = 27 * (zP G * zR G) := by grind
      have e2 : zP G * (4 * (zP G * zP G)) = 4 * (zP G * (zP G * zP G)) := by grind
      omega
    have k2 := Int.le_of_mul_le_mul_left k1 h1
    have k3 : zP G * zP G ≤ 8192 * 8192 := Int.mul_le_mul (by omega) (by omega) (by omega) (by decide)
    omega
  · have k1 : 8192 * zR G ≤ zP G * zR G := Int.mul_le_mul_of_nonneg_right z (by omega)
    omega
theorem red_cf {G : Zf} (h : okZ G) (r : redZ G) (hD : zD G ≤ 274877906944) (ha : G.1 ≠ 0) : bdZ G 134217728 := by
  have hR := red_R h r hD ha
  obtain ⟨r1, r2, r3⟩ := id r
  have h1 := h.1
  have v1 := val_bd h r (p := 1) (q := 0) (u := 0) (s := 1) (by decide) (by omega)
  have v2 := val_bd h r (p := 0) (q := 1) (u := 1) (s := 0) (by decide) (by omega)
  have v3 := val_bd h r (p := 1) (q := 0) (u := 1) (s := 1) (by decide) (by omega)
  have v4 := val_bd h r (p := 1) (q := 0) (u := -1) (s := 1) (by decide) (by omega)
  have e1 : zV G 1 0 = G.1 := by unfold zV; grind
  have e2 : zV G 0 1 = G.2.2.2 := by unfold zV; grind
  have e3 : zV G 1 1 = G.1 + G.2.1 + G.2.2.1 + G.2.2.2 := by unfold zV; grind
  have e4 : zV G 1 (-1) = G.1 - G.2.1 + G.2.2.1 - G.2.2.2 := by unfold zV; grind
  rw [e1] at v1
  rw [e2] at v2
  rw [e3] at v3
  rw [e4] at v4
  generalize zR G = R at *
  obtain ⟨a, b, c, d⟩ := G
  unfold bdZ
  simp only at *
  omega
/-- the Hessian of an overring -/
theorem ovZ_H {F K : Zf} {p : Int} (hp : 2 ≤ p) (ho : okZ F) (hr : redZ F) (hK : 0 < zD K) (h : ovZ F K p) : zP K ≤ zR F ∧ zR K ≤ zR F := by
  obtain ⟨r1, r2, r3⟩ := hr
  have q1 := zP_pos hK
  have q2 := zR_pos hK
  have h4 : 2 * 2 ≤ p * p := Int.mul_le_mul hp hp (by decide) (by omega)
  have hpp : 0 < p * p := by omega
  rcases h with h | ⟨J, z, hJ, e, ez⟩
  · have e1 : zP F = p * p * zP K := by
      rw [h]; obtain ⟨a, b, c, d⟩ := K; simp only [zP]; grind
    have e2 : zR F = p * p * zR K := by
      rw [h]; obtain ⟨a, b, c, d⟩ := K; simp only [zR]; grind
    have k1 : 1 * zP K ≤ p * p * zP K := Int.mul_le_mul_of_nonneg_right (by omega) (by omega)
    have k2 : 1 * zR K ≤ p * p * zR K := Int.mul_le_mul_of_nonneg_right (by omega) (by omega)
    omega
  · have e1 : zP J = p * p * zP K := by
      rw [e]; obtain ⟨a, b, c, d⟩ := K; simp only [zP]; grind
    have e2 : zR J = zR K := by
      rw [e]; obtain ⟨a, b, c, d⟩ := K; simp only [zR] at ez ⊢; rw [ez]; grind
    have h1 := ho.1
    have h2 := ho.2.1
    rcases hJ with hJ | ⟨t, t0, t1, hJ⟩
    · obtain ⟨-, s1, s2, s3, -⟩ := swap_ok ho
      rw [← hJ] at s1 s3
      have k1 : 1 * zP K ≤ p * p * zP K := Int.mul_le_mul_of_nonneg_right (by omega) (by omega)
      omega
    · have hd : ((1 : Int) * 1 - 0 * t) * (1 * 1 - 0 * t) = 1 := by simp
      have s1 : zP J = zP F + zQ F * t + zR F * (t * t) := by rw [hJ, zP_S, hd]; grind
      have s3 : zR J = zR F := by rw [hJ, zR_S, hd]; grind
      refine ⟨?_, by omega⟩
      refine Int.le_of_mul_le_mul_left (a := p * p) ?_ hpp
      rw [← e1, s1]
      have k1 : zQ F * t ≤ zR F * t := Int.mul_le_mul_of_nonneg_right (by omega) t0
      have k2 : (t + 1) * (t + 1) ≤ p * p := Int.mul_le_mul (by omega) (by omega) (by omega) (by omega)
      have k3 : zR F * ((t + 1) * (t + 1)) ≤ zR F * (p * p) := Int.mul_le_mul_of_nonneg_left k2 (by omega)
      have k4 : zR F * ((t + 1) * (t + 1)) = zR F * (t * t) + 2 * (zR F * t) + zR F := by grind
      have k5 : p * p * zR F = zR F * (p * p) := Int.mul_comm _ _
      have k6 : 0 ≤ zR F * t := Int.mul_nonneg (by omega) t0
      omega
