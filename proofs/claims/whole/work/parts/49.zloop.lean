/-! equivalence over the integers; one round of the reduction -/
def redZ (F : Zf) : Prop := -zP F ≤ zQ F ∧ zQ F ≤ zP F ∧ zP F ≤ zR F
def okZ (F : Zf) : Prop := 0 < zP F ∧ 0 < zR F ∧ zP F ≤ 1099511627776 ∧ zR F ≤ 1099511627776 ∧ 0 < zD F
def eqvZ (F G : Zf) : Prop := ∃ p q r s : Int, (p * s - q * r) * (p * s - q * r) = 1 ∧ G = zS F p q r s
theorem zS_1 (F : Zf) : zS F 1 0 0 1 = F := by
  obtain ⟨a, b, c, d⟩ := F
  simp only [zS, zV]
  refine Prod.ext ?_ (Prod.ext ?_ (Prod.ext ?_ ?_)) <;> (show _ = _; grind)
theorem zS_S (F : Zf) (p q r s p' q' r' s' : Int) : zS (zS F p q r s) p' q' r' s' = zS F (p * p' + q * r') (p * q' + q * s') (r * p' + s * r') (r * q' + s * s') := by
  obtain ⟨a, b, c, d⟩ := F
  simp only [zS, zV]
  refine Prod.ext ?_ (Prod.ext ?_ (Prod.ext ?_ ?_)) <;> (show _ = _; grind)
theorem eqvZ.rf (F : Zf) : eqvZ F F := ⟨1, 0, 0, 1, by decide, (zS_1 F).symm⟩
theorem eqvZ.tr {F G K : Zf} (h : eqvZ F G) (h2 : eqvZ G K) : eqvZ F K := by
  obtain ⟨p, q, r, s, hd, rfl⟩ := h
  obtain ⟨p', q', r', s', hd', rfl⟩ := h2
  refine ⟨_, _, _, _, ?_, zS_S F p q r s p' q' r' s'⟩
  have : ((p * p' + q * r') * (r * q' + s * s') - (p * q' + q * s') * (r * p' + s * r')) * ((p * p' + q * r') * (r * q' + s * s') - (p * q' + q * s') * (r * p' + s * r')) = ((p * s - q * r) * (p * s - q * r)) * ((p' * s' - q' * r') * (p' * s' - q' * r')) := by grind
  rw [this, hd, hd']; rfl
theorem eqvZ.sy {F G : Zf} (h : eqvZ F G) : eqvZ G F := by
  obtain ⟨p, q, r, s, hd, rfl⟩ := h
  have hdd : p * s - q * r = 1 ∨ p * s - q * r = -1 := by
    generalize p * s - q * r = z at hd
    have hz := (nN_le (x := z) (y := 0) (by unfold nN; simp; omega)).1
    have h0 : z ≠ 0 := fun q0 => by rw [q0] at hd; simp at hd
    omega
  rcases hdd with e | e
  · refine ⟨s, -q, -r, p, by rw [show s * p - -q * -r = p * s - q * r by grind]; exact hd, ?_⟩
    rw [zS_S, show p * s + q * -r = 1 by grind, show p * -q + q * p = 0 by grind, show r * s + s * -r = 0 by grind, show r * -q + s * p = 1 by grind, zS_1]
  · refine ⟨-s, q, r, -p, by rw [show -s * -p - q * r = p * s - q * r by grind]; exact hd, ?_⟩
    rw [zS_S, show p * -s + q * r = 1 by grind, show p * q + q * -p = 0 by grind, show r * -s + s * r = 0 by grind, show r * q + s * -p = 1 by grind, zS_1]
theorem zD_S {F : Zf} {p q r s : Int} (hd : (p * s - q * r) * (p * s - q * r) = 1) : zD (zS F p q r s) = zD F := by
  have h1 := zD_H (zS F p q r s)
  have h2 := zD_H F
  rw [zP_S, zQ_S, zR_S, hd, Int.one_mul, Int.one_mul, Int.one_mul] at h1
  have h3 : 4 * (zP F * p * p + zQ F * p * r + zR F * r * r) * (zP F * q * q + zQ F * q * s + zR F * s * s) - (2 * zP F * p * q + zQ F * (p * s + q * r) + 2 * zR F * r * s) * (2 * zP F * p * q + zQ F * (p * s + q * r) + 2 * zR F * r * s) = (4 * zP F * zR F - zQ F * zQ F) * ((p * s - q * r) * (p * s - q * r)) := by grind
  rw [h3, hd, Int.mul_one, ← h2] at h1
  omega
theorem eqvZ.D {F G : Zf} (h : eqvZ F G) : zD G = zD F := by
  obtain ⟨p, q, r, s, hd, rfl⟩ := h
  exact zD_S hd
theorem sq_le {x y : Int} (h : x.natAbs ≤ y.natAbs) : x * x ≤ y * y := by
  rw [← Int.natAbs_mul_self' x, ← Int.natAbs_mul_self' y]
  exact Int.mul_le_mul (by omega) (by omega) (by omega) (by omega)
theorem okQ {F : Zf} (h : okZ F) : -2199023255552 ≤ zQ F ∧ zQ F ≤ 2199023255552 := by
  obtain ⟨h1, h2, h3, h4, h5⟩ := h
  have hD := zD_H F
  rcases Int.lt_or_le 2199023255552 (zQ F).natAbs with q | q
  · have a := sq_le (x := 2199023255552) (y := zQ F) (by omega)
    have b : zP F * zR F ≤ 1099511627776 * 1099511627776 := Int.mul_le_mul h3 h4 (by omega) (by decide)
    have e : 4 * zP F * zR F = 4 * (zP F * zR F) := by grind
    omega
  · omega
/-- the shift: Q comes between -P and P, R does not grow -/
theorem zshift {F : Zf} (h : okZ F) : ∃ G, G = zS F 1 ((zP F - zQ F) / (2 * zP F)) 0 1 ∧ okZ G ∧ zP G = zP F ∧ -zP F ≤ zQ G ∧ zQ G ≤ zP F ∧ zR G ≤ zR F := by
  have hq := okQ h
  obtain ⟨h1, h2, h3, h4, h5⟩ := id h
  refine ⟨_, rfl, ?_⟩
  generalize hk : (zP F - zQ F) / (2 * zP F) = k
  have hd : ((1 : Int) * 1 - k * 0) * (1 * 1 - k * 0) = 1 := by simp
  have eP : zP (zS F 1 k 0 1) = zP F := by rw [zP_S, hd]; grind
  have eQ : zQ (zS F 1 k 0 1) = zQ F + 2 * zP F * k := by rw [zQ_S, hd]; grind
  have eR : zR (zS F 1 k 0 1) = zP F * k * k + zQ F * k + zR F := by rw [zR_S, hd]; grind
  have eD := zD_S (F := F) hd
  have hm := Int.mul_ediv_add_emod (zP F - zQ F) (2 * zP F)
  have hm1 := Int.emod_nonneg (zP F - zQ F) (show 2 * zP F ≠ 0 by omega)
  have hm2 := Int.emod_lt_of_pos (zP F - zQ F) (show 0 < 2 * zP F by omega)
  rw [hk] at hm
  have g1 : -zP F ≤ zQ (zS F 1 k 0 1) := by rw [eQ]; omega
  have g2 : zQ (zS F 1 k 0 1) ≤ zP F := by rw [eQ]; omega
  -- the discriminant says how R moves
  have d1 := zD_H F
  have d2 := zD_H (zS F 1 k 0 1)
  rw [eD, eP] at d2
  have hsq : zQ (zS F 1 k 0 1) * zQ (zS F 1 k 0 1) ≤ zQ F * zQ F := by
    rcases Int.lt_or_le (zQ F).natAbs (zP F) with z | z
    · have : k = 0 := by
        rw [← hk]
        exact Int.ediv_eq_zero_of_lt (by omega) (by omega)
      rw [eQ, this, Int.mul_zero, Int.add_zero]
      exact Int.le_refl _
    · exact sq_le (by omega)
  have gR : zR (zS F 1 k 0 1) ≤ zR F := by
    rcases Int.lt_or_le (zR F) (zR (zS F 1 k 0 1)) with z | z
    · have := Int.mul_lt_mul_of_pos_left z (show 0 < 4 * zP F by omega)
      omega
    · exact z
  have gR0 : 0 < zR (zS F 1 k 0 1) := by
    rcases Int.lt_or_le 0 (zR (zS F 1 k 0 1)) with z | z
    · exact z
    · have := Int.mul_le_mul_of_nonneg_left z (show 0 ≤ 4 * zP F by omega)
      rw [Int.mul_zero] at this
      have q0 : 0 ≤ zQ (zS F 1 k 0 1) * zQ (zS F 1 k 0 1) := by
        rw [← Int.natAbs_mul_self']
        exact Int.mul_nonneg (Int.natCast_nonneg _) (Int.natCast_nonneg _)
      omega
  exact ⟨⟨by omega, gR0, by omega, by omega, by omega⟩, eP, g1, g2, gR⟩
