/-! the reference's table: how often each discriminant comes -/
def repC (F : Nat → Int32) (R : List Nat) : Prop := ∀ d, d ≤ 1000 → F d = nI (R.count d)
theorem count_ins (R : List Nat) (d e : Nat) : (insRev R d).count e = R.count e + if d = e then 1 else 0 := by
  induction R with
  | nil => simp [insRev, List.count_cons]
  | cons x xs ih =>
    unfold insRev
    split
    · rw [List.count_cons, ih, List.count_cons]; omega
    · rw [List.count_cons]; simp
theorem repC_ins {F : Nat → Int32} {R : List Nat} {d : Nat} (h : repC F R) (hd : d ≤ 1000) : repC (upd F d (F d + 1)) (insRev R d) := fun e he => by
  rw [count_ins]
  by_cases q : d = e
  · subst q
    rw [pk_us, h d hd, if_pos rfl, nI_1]
  · rw [pk_un (fun z => q z.symm), if_neg q, h e he]; rfl
theorem repC_0 {F : Nat → Int32} {R : List Nat} {d : Nat} (h : repC F R) (hd : d ≤ 1000) : repC (upd F d (F d + 0)) R := fun e he => by
  by_cases q : e = d
  · subst q
    rw [pk_us, h e hd]; exact nI_add _ 0
  · rw [pk_un q, h e he]
def tabM (f : Fm) (An Dn : Nat) : Bool := btw (discF f) 1 1000 && ((reduM f && sameF (sealC 0 f) f) && !(rootC f An Dn))
def stepM (f : Fm) (An Dn : Nat) (T : Tab) : Tab := if tabM f An Dn then addT f T else T
theorem btw_d {f : Fm} (h : btw (discF f) 1 1000 = true) : 0 < discF f ∧ discF f = lN (dN f) ∧ dN f ≤ 1000 := by
  simp only [btw, Bool.and_eq_true, decide_eq_true_eq] at h
  have h1 : 0 < discF f := by
    have := Int64.le_iff_toInt_le.mp (Int64.not_lt.mp h.1)
    rw [show (1 : Int64).toInt = 1 by decide] at this
    exact Int64.lt_iff_toInt_lt.mpr (by rw [show (0 : Int64).toInt = 0 by decide]; omega)
  exact ⟨h1, dN_of h1 h.2⟩
def frq (m : Nat) : Fm := frm (m / 6859) (m / 361 % 19) (m / 19 % 19) (m % 19)
def tM : Nat → Nat → Tab → Tab
  | 0, _, T => T
  | k + 1, m, T => tM k (m + 1) (stepM (frq m) (aN (m / 6859)) (aN (m % 19)) T)
def sumC (R : List Nat) : Nat → Nat
  | 0 => 0
  | m + 1 => sumC R m + R.count (m + 1)
def posR (R : List Nat) : Prop := ∀ x ∈ R, 1 ≤ x ∧ x ≤ 1000
def sorR : List Nat → Prop
  | [] => True
  | x :: xs => (∀ y ∈ xs, y ≤ x) ∧ sorR xs
theorem sumC_nil : ∀ m, sumC [] m = 0
  | 0 => rfl
  | m + 1 => by rw [sumC, sumC_nil m]; rfl
theorem sumC_cons (x : Nat) (xs : List Nat) : ∀ m, sumC (x :: xs) m = sumC xs m + if 1 ≤ x ∧ x ≤ m then 1 else 0
  | 0 => by rw [sumC, sumC, if_neg (by omega)]
  | m + 1 => by
    rw [sumC, sumC, sumC_cons x xs m, List.count_cons]
    by_cases h1 : x = m + 1
    · have e1 : (x == m + 1) = true := by simp [h1]
      rw [if_neg (show ¬ (1 ≤ x ∧ x ≤ m) by omega), if_pos (show 1 ≤ x ∧ x ≤ m + 1 by omega)]
      simp only [e1, if_true]; omega
    · have e2 : (x == m + 1) = false := by simp [h1]
      simp only [e2, Bool.false_eq_true, if_false]
      by_cases h3 : 1 ≤ x ∧ x ≤ m
      · rw [if_pos h3, if_pos (show 1 ≤ x ∧ x ≤ m + 1 by omega)]; omega
      · rw [if_neg h3, if_neg (show ¬ (1 ≤ x ∧ x ≤ m + 1) by omega)]; omega
theorem sumC_len (xs : List Nat) (m : Nat) : sumC xs m ≤ xs.length := by
  induction xs with
  | nil => rw [sumC_nil]; exact Nat.le_refl 0
  | cons x xs ih => rw [sumC_cons]; simp only [List.length_cons]; split <;> omega
theorem sumC_all {xs : List Nat} {m : Nat} (h : ∀ y ∈ xs, 1 ≤ y ∧ y ≤ m) : sumC xs m = xs.length := by
  induction xs with
  | nil => rw [sumC_nil]; rfl
  | cons x xs ih => rw [sumC_cons, if_pos (h x List.mem_cons_self), ih (fun y hy => h y (List.mem_cons_of_mem _ hy))]; rfl
theorem cntL_sum {R : List Nat} (hR : posR R) {m : Nat} (hm : m ≤ 1000) : cntL R (nI m) = sumC R m := by
  induction R with
  | nil => rw [sumC_nil]; rfl
  | cons x xs ih =>
    have hx := hR x List.mem_cons_self
    rw [cntL, sumC_cons, ih (fun y hy => hR y (List.mem_cons_of_mem _ hy))]
    congr 1
    by_cases h : m < x
    · rw [if_pos ((nI_ltI (by omega) (by omega)).mpr h), if_neg (by omega)]
    · rw [if_neg (fun q => h ((nI_ltI (by omega) (by omega)).mp q)), if_pos (by omega)]
theorem nthL_sum {d k : Nat} (hd : 1 ≤ d) : ∀ {R : List Nat}, posR R → sorR R → sumC R (d - 1) ≤ k → k < sumC R d → nthL R k = d
  | [], _, _, _, h => by rw [sumC_nil] at h; omega
  | x :: xs, hp, hs, h1, h2 => by
    have hx := hp x List.mem_cons_self
    have hp2 : posR xs := fun y hy => hp y (List.mem_cons_of_mem _ hy)
    rw [nthL]
    by_cases e : k = xs.length
    · rw [if_pos e]
      have h3 := sumC_len xs d
      rw [sumC_cons] at h2
      have h4 : x ≤ d := by
        rcases Nat.lt_or_ge d x with q | q
        · rw [if_neg (by omega)] at h2; omega
        · exact q
      rcases Nat.lt_or_ge x d with q | q
      · have h5 : sumC (x :: xs) (d - 1) = (x :: xs).length := sumC_all (fun y hy => ⟨(hp y hy).1, by
          rcases List.mem_cons.mp hy with z | z
          · omega
          · have := hs.1 y z; omega⟩)
        rw [h5] at h1
        simp only [List.length_cons] at h1
        omega
      · omega
    · rw [if_neg e]
      refine nthL_sum hd hp2 hs.2 ?_ ?_
      · rw [sumC_cons] at h1; omega
      · rw [sumC_cons] at h2
        rcases Nat.lt_or_ge d x with q | q
        · rw [if_neg (by omega)] at h2; omega
        · have h5 : sumC xs d = xs.length := sumC_all (fun y hy => ⟨(hp2 y hy).1, by have := hs.1 y hy; omega⟩)
          rw [h5] at h2 ⊢
          split at h2 <;> omega
theorem sumC_full {R : List Nat} (h : posR R) : sumC R 1000 = R.length := sumC_all h
theorem sumC_le {R : List Nat} (m : Nat) : ∀ k, sumC R m ≤ sumC R (m + k)
  | 0 => Nat.le_refl _
  | k + 1 => Nat.le_trans (sumC_le m k) (by show _ ≤ sumC R (m + k) + _; omega)
theorem limB (x : Int32) : btw x.toInt64 1 1000 = (decide (¬ x < 1) && decide (¬ 1000 < x)) := btw_lit x 1 1000 (by decide) (by decide)
theorem sumC_st {R : List Nat} {j : Nat} (h : 1 ≤ j) : sumC R (j - 1) + R.count j = sumC R (j + 1 - 1) := by
  obtain ⟨i, rfl⟩ : ∃ i, j = i + 1 := ⟨j - 1, by omega⟩
  rfl
theorem limB_o {x : Int32} (h : btw x.toInt64 1 1000 = true) : ∃ L, 1 ≤ L ∧ L ≤ 1000 ∧ x = nI L := by
  rw [limB] at h
  simp only [Bool.and_eq_true, decide_eq_true_eq] at h
  have h4 := Int32.le_iff_toInt_le.mp (Int32.not_lt.mp h.1)
  rw [show (1 : Int32).toInt = 1 by decide] at h4
  obtain ⟨j, hj, rfl⟩ := nI_of2 (x := x) (M := 1000) (n := 1000) (by decide) (fun q => by
    have := Int32.lt_iff_toInt_lt.mp q
    rw [show (0 : Int32).toInt = 0 by decide] at this
    omega) (Int32.not_lt.mp h.2)
  rw [nI_toInt (by omega)] at h4
  exact ⟨j, by omega, hj, rfl⟩
theorem cfoR_b {x : Int32} (h : btw x.toInt64 1 1000 = false) : (-10003 : Int32) = cfoR x := by
  rw [limB] at h
  unfold cfoR
  by_cases q : x < 1
  · rw [if_pos q]
  · by_cases q2 : 1000 < x
    · rw [if_neg q, if_pos q2]
    · simp [q, q2] at h
theorem cfiR_b {x : Int32} (h : btw x.toInt64 1 1000 = false) : (-10003 : Int32) = cfiR x := by
  rw [limB] at h
  unfold cfiR
  by_cases q : x < 1
  · rw [if_pos q]
  · by_cases q2 : 1000 < x
    · rw [if_neg q, if_pos q2]
    · simp [q, q2] at h
theorem cfoR_g {x : Int32} (h : btw x.toInt64 1 1000 = true) : cfoR x = nI (cntL (sealT 0).1 x) := by
  rw [limB] at h
  simp only [Bool.and_eq_true, decide_eq_true_eq] at h
  rw [cfoR, if_neg h.1, if_neg h.2]
theorem cfiR_g {x : Int32} (h : btw x.toInt64 1 1000 = true) : cfiR x = nI (cntL (sealT 0).2 x) := by
  rw [limB] at h
  simp only [Bool.and_eq_true, decide_eq_true_eq] at h
  rw [cfiR, if_neg h.1, if_neg h.2]
theorem dq_1 {m : Nat} (h : m < 130321) : nI m / 6859 - 9 = sI (m / 6859) := by rw [show nI m / 6859 = nI (m / 6859) from pk_div (d := 6859) (by omega) (by decide) (by decide)]; rfl
theorem dq_19 {a : Nat} (ha : a < 2 ^ 31) : nI a - nI a / 19 * 19 = nI (a % 19) := pk_rem (d := 19) ha (by decide) (by decide)
theorem dq_2 {m : Nat} (h : m < 130321) : nI m / 361 - nI m / 361 / 19 * 19 - 9 = sI (m / 361 % 19) := by rw [show nI m / 361 = nI (m / 361) from pk_div (d := 361) (by omega) (by decide) (by decide), dq_19 (by omega)]; rfl
theorem dq_3 {m : Nat} (h : m < 130321) : nI m / 19 - nI m / 19 / 19 * 19 - 9 = sI (m / 19 % 19) := by rw [show nI m / 19 = nI (m / 19) from pk_div (d := 19) (by omega) (by decide) (by decide), dq_19 (by omega)]; rfl
theorem dq_4 {m : Nat} (h : m < 130321) : nI m - nI m / 19 * 19 - 9 = sI (m % 19) := by rw [dq_19 (by omega)]; rfl
