def rngF (f : Fm) : Prop := (-300 ≤ f.1.toInt ∧ f.1.toInt ≤ 300) ∧ (-300 ≤ f.2.1.toInt ∧ f.2.1.toInt ≤ 300) ∧ (-300 ≤ f.2.2.1.toInt ∧ f.2.2.1.toInt ≤ 300) ∧ (-300 ≤ f.2.2.2.toInt ∧ f.2.2.2.toInt ≤ 300)
theorem ldF_rng {C : Nat → Int32} {n : Nat} {x : Int32} (hC : rngC C) (hn : n ≤ 60) (h : isFormB n x = true) : rngF (ldF C x.toNatClampNeg) := by
  obtain ⟨k, hk, rfl⟩ := isFormB_out hn h
  rw [nI_clamp (by omega)]
  have w : ∀ j, j < 240 → -300 ≤ (C j).toInt64.toInt ∧ (C j).toInt64.toInt ≤ 300 := fun j hj => by rw [Int32.toInt_toInt64]; exact hC j hj
  exact ⟨w _ (by omega), w _ (by omega), w _ (by omega), w _ (by omega)⟩
theorem isW_300 {v : Int64} (h : isW v 300 = true) : -300 ≤ v.toInt32.toInt ∧ v.toInt32.toInt ≤ 300 := by
  simp only [isW, Bool.and_eq_true, decide_eq_true_eq] at h
  have h1 := Int64.le_iff_toInt_le.mp (Int64.not_lt.mp h.1)
  have h2 := Int64.le_iff_toInt_le.mp (Int64.not_lt.mp h.2)
  rw [show (-300 : Int64).toInt = -300 by decide] at h1
  rw [show (300 : Int64).toInt = 300 by decide] at h2
  rw [Int64.toInt_toInt32, Int.bmod_eq_of_le (by omega) (by omega)]
  exact ⟨h1, h2⟩
theorem sifS_n {n : Nat} {C : Nat → Int32} {f : Fm} (hn : n ≤ 60) : (sifS n C f).1 ≤ 60 := by
  unfold sifS stS
  split
  · split
    · show n + 1 ≤ 60; omega
    · exact hn
  · exact hn
theorem upd_rng {C : Nat → Int32} {k : Nat} {v : Int32} (h : rngC C) (hv : -300 ≤ v.toInt ∧ v.toInt ≤ 300) : rngC (upd C k v) := fun j hj => by
  by_cases e : j = k
  · subst e; rw [pk_us]; exact hv
  · rw [pk_un e]; exact h j hj
theorem sifS_C {n : Nat} {C : Nat → Int32} {f : Fm} (hC : rngC C) : rngC (sifS n C f).2 := by
  unfold sifS stS
  split
  · rename_i hf
    simp only [fitsF, Bool.and_eq_true] at hf
    split
    · exact upd_rng (upd_rng (upd_rng (upd_rng hC (isW_300 hf.1.1.1)) (isW_300 hf.1.1.2)) (isW_300 hf.1.2)) (isW_300 hf.2)
    · exact hC
  · exact hC
theorem outS_n {n : Nat} {C : Nat → Int32} {o : Int32 ⊕ Fm} (hn : n ≤ 60) : (outS n C o).1 ≤ 60 := by
  cases o with
  | inl e => exact hn
  | inr f => exact sifS_n hn
theorem outS_C {n : Nat} {C : Nat → Int32} {o : Int32 ⊕ Fm} (hC : rngC C) : rngC (outS n C o).2 := by
  cases o with
  | inl e => exact hC
  | inr f => exact sifS_C hC
theorem law_lt {L j : Nat} (hL : L ≤ 3072) (hj : j ≤ 4000) (h : ¬ nI L - 6 < nI j) : j + 6 ≤ L := by
  have e : (nI L - 6).toInt = (L : Int) - 6 := pk_sub_toInt (b := 6) (by omega) (by decide)
  have h2 : ¬ (nI L - 6).toInt < (nI j).toInt := fun q => h (Int32.lt_iff_toInt_lt.mpr q)
  rw [e, nI_toInt (by omega)] at h2
  omega
theorem vinL {L j : Nat} (k : Nat) (hk : k ≤ 5) (hL : L ≤ 3072) (h : j + 6 ≤ L) : vp_in (nI j + nI k) L := by
  rw [nI_add]; exact vp_in_nI (by omega) (by omega)
theorem nI_6 (j : Nat) : nI j + 6 = nI (j + 6) := nI_add j 6
theorem sw25 (y : Int32) : y = 0 ∨ y = 1 ∨ y = 2 ∨ y = 3 ∨ y = 4 ∨ y = 5 ∨ y = 6 ∨ y = 7 ∨ y = 8 ∨ y = 9 ∨ y = 10 ∨ y = 11 ∨ y = 12 ∨ y = 13 ∨ y = 14 ∨ y = 15 ∨ y = 16 ∨ y = 17 ∨ y = 18 ∨ y = 19 ∨ y = 20 ∨ y = 21 ∨ y = 22 ∨ y = 23 ∨ y = 24 ∨ (y.toInt < 0 ∨ 24 < y.toInt) := by
  by_cases h : y.toInt < 0 ∨ 24 < y.toInt
  · simp only [h, or_true]
  · have h1 : ¬ y < 0 := fun q => h (Or.inl (Int32.lt_iff_toInt_lt.mp q))
    obtain ⟨i, hi, rfl⟩ := nI_of h1
    rw [nI_toInt hi] at h
    have : i < 25 := by omega
    have key : ∀ i, i < 25 → (nI i = 0 ∨ nI i = 1 ∨ nI i = 2 ∨ nI i = 3 ∨ nI i = 4 ∨ nI i = 5 ∨ nI i = 6 ∨ nI i = 7 ∨ nI i = 8 ∨ nI i = 9 ∨ nI i = 10 ∨ nI i = 11 ∨ nI i = 12 ∨ nI i = 13 ∨ nI i = 14 ∨ nI i = 15 ∨ nI i = 16 ∨ nI i = 17 ∨ nI i = 18 ∨ nI i = 19 ∨ nI i = 20 ∨ nI i = 21 ∨ nI i = 22 ∨ nI i = 23 ∨ nI i = 24 ∨ ((nI i).toInt < 0 ∨ 24 < (nI i).toInt)) := by decide +kernel
    exact key i this
theorem hovL {C : Nat → Int32} {n : Nat} {x y : Int32} (hov : ∀ (f : Fm) (P : Nat), rngF f → 2 ≤ P → P ≤ 997 → prB P = true → ovM f P = ovC f P) (hC : rngC C) (hn : n ≤ 60) (q1 : isFormB n x = true) (q2 : primeB y = true) : ovM (ldF C x.toNatClampNeg) y.toNatClampNeg = ovC (ldF C x.toNatClampNeg) y.toNatClampNeg := by
  obtain ⟨P, h2, h9, rfl, hp⟩ := primeB_out q2
  rw [nI_clamp (show P < 2 ^ 31 by omega)]
  exact hov _ P (ldF_rng hC hn q1) h2 h9 hp
theorem hmxO {C : Nat → Int32} {n : Nat} {x : Int32} (hmx : ∀ f : Fm, rngF f → 0 < discF f → rootF f = false → ∃ N0, canOK f ∧ mxRel N0 (sealC 0 f) (sealM 0 f)) (hC : rngC C) (hn : n ≤ 60) : ∃ N0, isFormB n x = true → 0 < discF (ldF C x.toNatClampNeg) → rootF (ldF C x.toNatClampNeg) = false → canOK (ldF C x.toNatClampNeg) ∧ mxRel N0 (sealC 0 (ldF C x.toNatClampNeg)) (sealM 0 (ldF C x.toNatClampNeg)) := by
  by_cases q : isFormB n x = true ∧ 0 < discF (ldF C x.toNatClampNeg) ∧ rootF (ldF C x.toNatClampNeg) = false
  · obtain ⟨N0, h⟩ := hmx _ (ldF_rng hC hn q.1) q.2.1 q.2.2
    exact ⟨N0, fun _ _ _ => h⟩
  · exact ⟨0, fun h1 h2 h3 => absurd ⟨h1, h2, h3⟩ q⟩
