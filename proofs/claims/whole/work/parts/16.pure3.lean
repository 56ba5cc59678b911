/-! the table: sorted rows as lists, last entry first; the walk over the small forms -/
def insRev : List Nat → Nat → List Nat
  | [], d => [d]
  | x :: xs, d => if d < x then x :: insRev xs d else d :: x :: xs
theorem insRev_len (R : List Nat) (d : Nat) : (insRev R d).length = R.length + 1 := by
  induction R with
  | nil => rfl
  | cons x xs ih => unfold insRev; split <;> simp [ih]
theorem insRev_le {R : List Nat} {d M : Nat} (h : ∀ x ∈ R, x ≤ M) (hd : d ≤ M) : ∀ x ∈ insRev R d, x ≤ M := by
  induction R with
  | nil => intro x hx; simp [insRev] at hx; omega
  | cons y ys ih =>
    intro x hx
    unfold insRev at hx
    split at hx
    · rcases List.mem_cons.mp hx with q | q
      · rw [q]; exact h y List.mem_cons_self
      · exact ih (fun z hz => h z (List.mem_cons_of_mem _ hz)) x q
    · rcases List.mem_cons.mp hx with q | q
      · omega
      · exact h x q
/-- the row a holds the list R, its last entry first; all at most M -/
def repR (a : Nat → Int32) : List Nat → Prop
  | [] => True
  | x :: xs => a xs.length = nI x ∧ x ≤ 1000 ∧ repR a xs
theorem repR_cong {a b : Nat → Int32} {R : List Nat} (h : ∀ i, i < R.length → b i = a i) (hr : repR a R) : repR b R := by
  induction R with
  | nil => trivial
  | cons x xs ih => exact ⟨by rw [h _ (by simp)]; exact hr.1, hr.2.1, ih (fun i hi => h i (by simp; omega)) hr.2.2⟩
theorem repR_le {a : Nat → Int32} {R : List Nat} (h : repR a R) : ∀ i, i < R.length → ∃ x, x ≤ 1000 ∧ a i = nI x := by
  induction R with
  | nil => intro i hi; simp at hi
  | cons x xs ih =>
    intro i hi
    rcases Nat.lt_or_ge i xs.length with q | q
    · exact ih h.2.2 i q
    · have : i = xs.length := by simp at hi; omega
      subst this
      exact ⟨x, h.2.1, h.1⟩
/-- what an insertion leaves: d at place j, the greater entries one place up -/
def insAt (a b : Nat → Int32) (n : Nat) (d : Int32) : Prop := ∃ j, j ≤ n ∧ (∀ i, i < j → b i = a i) ∧ b j = d ∧ (∀ i, j < i → i ≤ n → b i = a (i - 1)) ∧ (∀ i, j ≤ i → i < n → d < a i) ∧ (0 < j → ¬ d < a (j - 1))
theorem insAt_rep {a b : Nat → Int32} {d : Nat} (hd : d ≤ 1000) : ∀ {R : List Nat}, repR a R → insAt a b R.length (nI d) → repR b (insRev R d)
  | [], _, ⟨j, h1, _, h3, _⟩ => by
    have : j = 0 := by simpa using h1
    subst this
    exact ⟨h3, hd, trivial⟩
  | x :: xs, hr, ⟨j, h1, h2, h3, h4, h5, h6⟩ => by
    have hl : (x :: xs).length = xs.length + 1 := rfl
    rw [hl] at h1 h4 h5
    unfold insRev
    by_cases hx : d < x
    · rw [if_pos hx]
      have hj : j ≤ xs.length := by
        rcases Nat.lt_or_ge xs.length j with q | q
        · have e : j = xs.length + 1 := by omega
          subst e
          exact absurd (by show nI d < a xs.length; rw [hr.1]; exact (nI_ltI (by omega) (by have := hr.2.1; omega)).mpr hx) (h6 (by omega))
        · exact q
      refine ⟨?_, hr.2.1, insAt_rep hd hr.2.2 ⟨j, hj, h2, h3, fun i q1 q2 => h4 i q1 (by omega), fun i q1 q2 => h5 i q1 (by omega), h6⟩⟩
      rw [insRev_len, h4 (xs.length + 1) (by omega) (Nat.le_refl _)]
      exact hr.1
    · rw [if_neg hx]
      have hj : j = xs.length + 1 := by
        rcases Nat.lt_or_ge j (xs.length + 1) with q | q
        · have := h5 xs.length (by omega) (by omega)
          rw [hr.1] at this
          exact absurd ((nI_ltI (by omega) (by have := hr.2.1; omega)).mp this) hx
        · omega
      subst hj
      exact ⟨h3, hd, repR_cong (a := a) (fun i hi => h2 i hi) hr⟩
def sI (i : Nat) : Int32 := nI i - 9
def aN (i : Nat) : Nat := if i ≤ 9 then 9 - i else i - 9
theorem sI_abs : ∀ i, i < 19 → absL (sI i).toInt64 = lN (aN i) ∧ aN i ≤ 300 := by decide +kernel
theorem sI_s (i : Nat) : sI i + 1 = sI (i + 1) := by
  unfold sI
  rw [← nI_1]
  generalize nI i = z
  rw [Int32.sub_eq_add_neg, Int32.sub_eq_add_neg, Int32.add_assoc, Int32.add_assoc, Int32.add_comm (-9)]
theorem sI_neg : ∀ i, i < 20 → (sI i < 0 ↔ i < 9) := by decide +kernel
theorem sI_gt : ∀ i, i < 20 → ((9 : Int32) < sI i ↔ 18 < i) := by decide +kernel
def frm (i j k l : Nat) : Fm := ((sI i).toInt64, (sI j).toInt64, (sI k).toInt64, (sI l).toInt64)
def tabF (f : Fm) (An Dn : Nat) : Bool := reduF f && (decide (0 < discF f) && (decide (¬ 1000 < discF f) && (!(rootC f An Dn) && sameF (canC f) f)))
def dN (f : Fm) : Nat := (discF f).toInt.toNat
abbrev Tab : Type := List Nat × List Nat
def addT (f : Fm) (T : Tab) : Tab := (insRev T.1 (dN f), if (glpC f).isSome then T.2 else insRev T.2 (dN f))
def stepT (i j k l : Nat) (T : Tab) : Tab := if tabF (frm i j k l) (aN i) (aN l) then addT (frm i j k l) T else T
def fitT (i j k : Nat) : Bool := decide (0 < sI j * sI j - 3 * sI i * sI k) && decide (¬ 1000 < (sI j * sI j - 3 * sI i * sI k) * (sI j * sI j - 3 * sI i * sI k))
def tL (i j k : Nat) : Nat → Nat → Tab → Tab
  | 0, _, T => T
  | m + 1, l, T => tL i j k m (l + 1) (stepT i j k l T)
def tK (i j : Nat) : Nat → Nat → Tab → Tab
  | 0, _, T => T
  | m + 1, k, T => tK i j m (k + 1) (if fitT i j k then tL i j k 19 0 T else T)
def tJ (i : Nat) : Nat → Nat → Tab → Tab
  | 0, _, T => T
  | m + 1, j, T => tJ i m (j + 1) (tK i j 19 0 T)
def tI : Nat → Nat → Tab → Tab
  | 0, _, T => T
  | m + 1, i, T => tI m (i + 1) (tJ i 19 0 T)
def tabAll : Tab := tI 9 0 ([], [])
def leT (A B : Tab) : Prop := A.1.length ≤ B.1.length ∧ A.2.length ≤ B.2.length
theorem leT.tr {A B C : Tab} (h : leT A B) (h2 : leT B C) : leT A C := ⟨Nat.le_trans h.1 h2.1, Nat.le_trans h.2 h2.2⟩
theorem leT.rf (A : Tab) : leT A A := ⟨Nat.le_refl _, Nat.le_refl _⟩
theorem addT_le (f : Fm) (T : Tab) : leT T (addT f T) := by
  refine ⟨by simp [addT, insRev_len], ?_⟩
  simp only [addT]
  split
  · exact Nat.le_refl _
  · rw [insRev_len]; omega
theorem stepT_le (i j k l : Nat) (T : Tab) : leT T (stepT i j k l T) := by
  unfold stepT; split
  · exact addT_le _ _
  · exact leT.rf _
theorem tL_le (i j k : Nat) : ∀ m l T, leT T (tL i j k m l T)
  | 0, _, T => leT.rf T
  | m + 1, l, T => (stepT_le i j k l T).tr (tL_le i j k m (l + 1) _)
theorem tK_le (i j : Nat) : ∀ m k T, leT T (tK i j m k T)
  | 0, _, T => leT.rf T
  | m + 1, k, T => by
    refine leT.tr ?_ (tK_le i j m (k + 1) _)
    split
    · exact tL_le i j k _ _ _
    · exact leT.rf _
theorem tJ_le (i : Nat) : ∀ m j T, leT T (tJ i m j T)
  | 0, _, T => leT.rf T
  | m + 1, j, T => (tK_le i j _ _ _).tr (tJ_le i m (j + 1) _)
theorem tI_le : ∀ m i T, leT T (tI m i T)
  | 0, _, T => leT.rf T
  | m + 1, i, T => (tJ_le i _ _ _).tr (tI_le m (i + 1) _)
theorem dN_of {f : Fm} (h1 : 0 < discF f) (h2 : ¬ 1000 < discF f) : discF f = lN (dN f) ∧ dN f ≤ 1000 := by
  have e1 : (0 : Int) < (discF f).toInt := Int64.lt_iff_toInt_lt.mp h1
  have e2 : (discF f).toInt ≤ 1000 := by
    have := Int64.le_iff_toInt_le.mp (Int64.not_lt.mp h2)
    exact this
  have e3 : dN f ≤ 1000 := by unfold dN; omega
  refine ⟨?_, e3⟩
  have e4 : (lN (dN f)).toInt = (discF f).toInt := by
    rw [lN_toInt (by omega)]
    unfold dN
    omega
  exact (Int64.toInt_inj.mp e4).symm
def cntT (A : Nat → Int32) (lim : Int32) : Nat → Nat
  | 0 => 0
  | i + 1 => cntT A lim i + if lim < A i then 0 else 1
theorem cntT_le (A : Nat → Int32) (lim : Int32) : ∀ n, cntT A lim n ≤ n
  | 0 => Nat.le_refl 0
  | n + 1 => by have := cntT_le A lim n; unfold cntT; split <;> omega
def insInv (A g : Nat → Int32) (n j : Nat) (d : Int32) : Prop := j ≤ n ∧ (∀ i, i < j → g i = A i) ∧ (∀ i, j < i → i ≤ n → g i = A (i - 1)) ∧ (∀ i, j ≤ i → i < n → d < A i)
theorem insInv_0 {A : Nat → Int32} {n : Nat} {d : Int32} : insInv A A n n d := ⟨Nat.le_refl n, fun _ _ => rfl, fun i h1 h2 => by omega, fun i h1 h2 => by omega⟩
theorem insInv_s {A g : Nat → Int32} {n j : Nat} {d : Int32} (h : insInv A g n (j + 1) d) (hd : d < g j) : insInv A (upd g (j + 1) (g j)) n j d := by
  obtain ⟨h1, h2, h3, h4⟩ := h
  refine ⟨by omega, fun i hi => ?_, fun i q1 q2 => ?_, fun i q1 q2 => ?_⟩
  · rw [pk_un (by omega)]; exact h2 i (by omega)
  · by_cases e : i = j + 1
    · subst e
      rw [pk_us]
      exact h2 j (by omega)
    · rw [pk_un e]
      exact h3 i (by omega) q2
  · by_cases e : i = j
    · subst e
      rw [← h2 i (by omega)]; exact hd
    · exact h4 i (by omega) q2
theorem insInv_e {A g : Nat → Int32} {n j : Nat} {d : Int32} (h : insInv A g n j d) (he : j = 0 ∨ ∃ k, j = k + 1 ∧ ¬ d < g k) : insAt A (upd g j d) n d := by
  obtain ⟨h1, h2, h3, h4⟩ := h
  refine ⟨j, h1, fun i hi => by rw [pk_un (by omega)]; exact h2 i hi, pk_us, fun i q1 q2 => by rw [pk_un (by omega)]; exact h3 i q1 q2, h4, fun hj => ?_⟩
  rcases he with q | ⟨k, q, hk⟩
  · omega
  · subst q
    rw [show k + 1 - 1 = k from rfl, ← h2 k (by omega)]
    exact hk
/-- the table, sealed: it must not be computed by a comparison -/
def sealT (n : Nat) : Tab := if n = 0 then tabAll else sealT (n - 1)
termination_by n
decreasing_by omega
theorem sealT_eq : sealT 0 = tabAll := by rw [sealT]; simp
def tabSt (fl : Int32) (T : Tab) : Prop := (fl = 0 ∧ T = ([], [])) ∨ (fl = 1 ∧ T = sealT 0)
def restJ (i mi mj j : Nat) (T : Tab) : Tab := tI mi (i + 1) (tJ i mj j T)
def restK (i j mi mj mk k : Nat) (T : Tab) : Tab := tI mi (i + 1) (tJ i mj (j + 1) (tK i j mk k T))
def restT (i j k mi mj mk m l : Nat) (T : Tab) : Tab := tI mi (i + 1) (tJ i mj (j + 1) (tK i j mk (k + 1) (if fitT i j k then tL i j k m l T else T)))
theorem restT_le (i j k mi mj mk m l : Nat) (T : Tab) : leT T (restT i j k mi mj mk m l T) := by
  refine leT.tr ?_ (tI_le _ _ _)
  refine leT.tr ?_ (tJ_le _ _ _ _)
  refine leT.tr ?_ (tK_le _ _ _ _ _)
  split
  · exact tL_le i j k _ _ _
  · exact leT.rf _
theorem tabF_d {f : Fm} {An Dn : Nat} (h : tabF f An Dn = true) : discF f = lN (dN f) ∧ dN f ≤ 1000 := by
  simp only [tabF, Bool.and_eq_true, decide_eq_true_eq] at h
  exact dN_of h.2.1 h.2.2.1
