theorem sI_rng : ∀ i, i < 19 → -300 ≤ (sI i).toInt64.toInt ∧ (sI i).toInt64.toInt ≤ 300 := by decide +kernel
theorem frq_rng {m : Nat} (h : m < 130321) : rngF (frq m) := ⟨sI_rng _ (by omega), sI_rng _ (by omega), sI_rng _ (by omega), sI_rng _ (by omega)⟩
theorem hcS_ok (m : Nat) (h : m < 130321) (hd : 0 < discF (frq m)) (_ : reduM (frq m) = true) : canOK (frq m) := hcan_ok _ (frq_rng h) hd
