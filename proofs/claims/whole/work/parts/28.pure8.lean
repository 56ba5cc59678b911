section TV
variable {p : Program} {l : Launch} {e : Env} {R : Room} {s : State} {m : MethodId} {args : Array Value} {below : List Frame} {meth : Method} {c : Code} {H : Heap} {locs : List Loc} {cells slots : Nat} {Q : State → Prop} {pc : Nat} {ls : Array Slot} {rest : List Value}
theorem lv_topv {x y : Int32} (h : x = y) (k : W p l e R s m args below meth c H locs cells slots Q (F0 m pc ls (.int y :: rest))) : W p l e R s m args below meth c H locs cells slots Q (F0 m pc ls (.int x :: rest)) := h ▸ k
theorem lv_topw {x y : Int64} (h : x = y) (k : W p l e R s m args below meth c H locs cells slots Q (F0 m pc ls (.long y :: rest))) : W p l e R s m args below meth c H locs cells slots Q (F0 m pc ls (.long x :: rest)) := h ▸ k
end TV
def layF (f : Fm) (e : Em) (M : Nat → Int64) : Nat → Int64 := vp_updL (vp_updL (vp_updL (vp_updL (vp_updL (vp_updL (vp_updL (vp_updL (vp_updL M 0 (prodE f e (1, 0, 0)).1) 1 (prodE f e (1, 0, 0)).2.1) 2 (prodE f e (1, 0, 0)).2.2) 3 (prodE f e (0, 1, 0)).1) 4 (prodE f e (0, 1, 0)).2.1) 5 (prodE f e (0, 1, 0)).2.2) 6 (prodE f e (0, 0, 1)).1) 7 (prodE f e (0, 0, 1)).2.1) 8 (prodE f e (0, 0, 1)).2.2
def trM (M : Nat → Int64) : Int64 := M 0 + M 4 + M 8
def detM (M : Nat → Int64) : Int64 := detE (M 0, M 1, M 2) (M 3, M 4, M 5) (M 6, M 7, M 8)
theorem trM_lay (f : Fm) (e : Em) (M : Nat → Int64) : trM (layF f e M) = traceE e f := by
  show (prodE f e (1, 0, 0)).1 + (prodE f e (0, 1, 0)).2.1 + (prodE f e (0, 0, 1)).2.2 = _
  simp only [prodE, traceE]
  grind
theorem detM_lay (f : Fm) (e : Em) (M : Nat → Int64) : detM (layF f e M) = detE (prodE f e (1, 0, 0)) (prodE f e (0, 1, 0)) (prodE f e (0, 0, 1)) := rfl
def trcF (f : Fm) (M : Nat → Int64) : Nat → Int64 := vp_updL (vp_updL (vp_updL (vp_updL (vp_updL (vp_updL (vp_updL (vp_updL (vp_updL M 0 (traceE (prodE f (1, 0, 0) (1, 0, 0)) f)) 1 (traceE (prodE f (1, 0, 0) (0, 1, 0)) f)) 2 (traceE (prodE f (1, 0, 0) (0, 0, 1)) f)) 3 (traceE (prodE f (0, 1, 0) (1, 0, 0)) f)) 4 (traceE (prodE f (0, 1, 0) (0, 1, 0)) f)) 5 (traceE (prodE f (0, 1, 0) (0, 0, 1)) f)) 6 (traceE (prodE f (0, 0, 1) (1, 0, 0)) f)) 7 (traceE (prodE f (0, 0, 1) (0, 1, 0)) f)) 8 (traceE (prodE f (0, 0, 1) (0, 0, 1)) f)
theorem ldE_same {G : Nat → Int32} {k : Nat} {a b c : Int32} : sameE (ldE G k) (a.toInt64, b.toInt64, c.toInt64) = (decide (G (3 * k) = a) && decide (G (3 * k + 1) = b) && decide (G (3 * k + 2) = c)) := by
  have h : ∀ x y : Int32, x.toInt64 = y.toInt64 ↔ x = y := fun x y => ⟨fun q => Int32.toInt_inj.mp (by rw [← Int32.toInt_toInt64, ← Int32.toInt_toInt64, q]), fun q => by rw [q]⟩
  simp only [sameE, ldE, h]
theorem narrowE (x : Int32) : x.toInt64.toInt32 = x := by simp
theorem btw2o {y : Int32} (h : btw y.toInt64 0 2 = true) : ∃ i, i < 3 ∧ y = nI i ∧ ¬ y < 0 ∧ y < 3 := by
  rw [btw2] at h
  simp only [Bool.and_eq_true, decide_eq_true_eq] at h
  obtain ⟨i, hi, rfl⟩ := nI_of h.1
  have h3 : ¬ 2 < i := fun q => h.2 ((nI_ltI (a := 2) (by decide) hi).mpr q)
  exact ⟨i, by omega, rfl, h.1, (nI_ltI (b := 3) hi (by decide)).mpr (by omega)⟩
theorem btw2f {y v : Int32} {A : Int32} (h : btw y.toInt64 0 2 = false) : v = if y < 0 then v else if y < 3 then A else v := by
  rw [btw2] at h
  by_cases q : y < 0
  · rw [if_pos q]
  · rw [if_neg q]
    have : ¬ y < 3 := fun z => by
      have h3 : ¬ (2 : Int32) < y := by
        rw [Int32.lt_iff_toInt_lt, show (2 : Int32).toInt = 2 by decide]
        have := Int32.lt_iff_toInt_lt.mp z
        rw [show (3 : Int32).toInt = 3 by decide] at this
        omega
      simp [q, h3] at h
    rw [if_neg this]
