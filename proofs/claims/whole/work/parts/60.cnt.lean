/-! counting -/
def cnt (p : Nat → Bool) : Nat → Nat
  | 0 => 0
  | n + 1 => cnt p n + (if p n = true then 1 else 0)
def wo (q : Nat → Bool) (z : Nat) : Nat → Bool := fun i => q i && decide (i ≠ z)
theorem wo_ge (q : Nat → Bool) (z : Nat) : ∀ m, m ≤ z → cnt (wo q z) m = cnt q m
  | 0, _ => rfl
  | m + 1, h => by
    rw [cnt, cnt, wo_ge q z m (by omega)]
    have : wo q z m = q m := by unfold wo; rw [decide_eq_true (show m ≠ z by omega), Bool.and_true]
    rw [this]
theorem wo_lt (q : Nat → Bool) (z : Nat) (hz : q z = true) : ∀ m, z < m → cnt q m = cnt (wo q z) m + 1
  | 0, h => by omega
  | m + 1, h => by
    rw [cnt, cnt]
    by_cases e : m = z
    · subst e
      have : wo q m m = false := by unfold wo; simp
      rw [this, wo_ge q m m (by omega), hz]; simp
    · have : wo q z m = q m := by unfold wo; rw [decide_eq_true e, Bool.and_true]
      rw [this, wo_lt q z hz m (by omega)]; omega
theorem cnt_inj (m : Nat) (f : Nat → Nat) : ∀ (n : Nat) (p q : Nat → Bool), (∀ i, i < n → p i = true → f i < m ∧ q (f i) = true) → (∀ i j, i < n → j < n → p i = true → p j = true → f i = f j → i = j) → cnt p n ≤ cnt q m
  | 0, p, q, _, _ => Nat.zero_le _
  | n + 1, p, q, h, g => by
    rw [cnt]
    by_cases e : p n = true
    · obtain ⟨a, b⟩ := h n (by omega) e
      rw [if_pos e, wo_lt q (f n) b m a]
      have := cnt_inj m f n p (wo q (f n)) (fun i hi pi => ⟨(h i (by omega) pi).1, by
        unfold wo
        rw [(h i (by omega) pi).2, decide_eq_true (show f i ≠ f n from fun z => by have := g i n (by omega) (by omega) pi e z; omega)]; rfl⟩) (fun i j hi hj => g i j (by omega) (by omega))
      omega
    · rw [if_neg e]
      exact cnt_inj m f n p q (fun i hi => h i (by omega)) (fun i j hi hj => g i j (by omega) (by omega))
