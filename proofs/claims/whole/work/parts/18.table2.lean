set_option maxHeartbeats 4000000 in
set_option maxRecDepth 100000 in
theorem c_FT_fillOnce (l : Launch) (D : va_G) (cI cJ : ClassId) (h0 : Nat) (fd : Nat) (gd : Nat) (fo : Nat) (le : Nat) (fl : Int32) (T : Tab) (A : Nat → Int32) (B : Nat → Int32) (z1 : Fm) (z2 : Fm) (z3 : Fm) (z4 : Fm) (hw : Nat) (sc : Nat) (cd : Nat) (hst : tabSt fl T) (rA : repR A T.1) (rB : repR B T.2) (hf1 : (sealT 0).1.length ≤ 60) (hf2 : (sealT 0).2.length ≤ 60) : CtV l yX1_fillOnce cX1_fillOnce 8 (rmk 5 123) D cI cJ [.ref h0, .ref hw] [(h0, ftE fd (nI T.1.length) gd (nI T.2.length) fl fo le), (fd, aiE cI 64 A), (gd, aiE cI 64 B), (fo, cubE z1), (le, cubE z2), (hw, wkE sc cd), (sc, cubE z3), (cd, cubE z4)] (fun (u : (Nat → Int32) × (Nat → Int32) × Fm × Fm × Fm × Fm) => [(h0, ftE fd (nI (sealT 0).1.length) gd (nI (sealT 0).2.length) 1 fo le), (fd, aiE cI 64 u.1), (gd, aiE cI 64 u.2.1), (fo, cubE u.2.2.1), (le, cubE u.2.2.2.1), (hw, wkE sc cd), (sc, cubE u.2.2.2.2.1), (cd, cubE u.2.2.2.2.2)]) (fun (u : (Nat → Int32) × (Nat → Int32) × Fm × Fm × Fm × Fm) => repR u.1 (sealT 0).1 ∧ repR u.2.1 (sealT 0).2) 0 0 := by
  refine CtV.of (own := RX1) (by decide +kernel) (Nat.le_of_ble_eq_true rfl) rfl ?_
  intro pr_ en_ sg_ me_ ar_ be_ mt_ co_ AA ls QQ X hin hA hP hD hS hl hret
  have hl : lv_has ls 8 [(0, .ref h0), (1, .ref hw)] := hl
  refine lv_aload_n X.1 X.2.1 dX1_fillOnce_0 rfl (lv_at hl 0 rfl) ?_
  refine gf_X1_23 (v := .int fl) X hP 0 rfl rfl dX1_fillOnce_1 ?_
  refine bz_eq (tgt := 8) X dX1_fillOnce_4 (by decide) (fun c_1 => ?_) (fun c_1 => ?_)
  · obtain ⟨hfl, hT⟩ : fl = 0 ∧ T = ([], []) := by
      rcases hst with q | q
      · exact q
      · exact absurd (q.1.symm.trans c_1) (by decide)
    refine lv_bipush (v := (-9)) X.1 X.2.1 dX1_fillOnce_8 (by decide) ?_
    refine lv_istore_n (lv' := [(2, .int (-9)), (0, .ref h0), (1, .ref hw)]) X.1 X.2.1 dX1_fillOnce_10 rfl hl (by decide) rfl (fun ls hl => ?_)
    have loop11 : ∀ (n9 : Nat) (i : Nat) (mi : Nat) (T : Tab) (A : Nat → Int32) (B : Nat → Int32) (z1 : Fm) (z2 : Fm) (z3 : Fm) (z4 : Fm), (i + mi = 9) → (tI mi i T = sealT 0) → (mi < n9) → (repR A T.1) → (repR B T.2) → ∀ (H : Heap) (locs : List Loc) (ls : Array Slot), va_P D vwCl [(h0, ftE fd (nI T.1.length) gd (nI T.2.length) fl fo le), (fd, aiE cI 64 A), (gd, aiE cI 64 B), (fo, cubE z1), (le, cubE z2), (hw, wkE sc cd), (sc, cubE z3), (cd, cubE z4)] H → va_D AA [(h0, ftE fd (nI T.1.length) gd (nI T.2.length) fl fo le), (fd, aiE cI 64 A), (gd, aiE cI 64 B), (fo, cubE z1), (le, cubE z2), (hw, wkE sc cd), (sc, cubE z3), (cd, cubE z4)] → va_S AA sg_.heap H locs → lv_has ls 8 [(0, .ref h0), (1, .ref hw), (2, .int (sI i))] → W pr_ l en_ (rmk 5 123) sg_ me_ ar_ be_ mt_ co_ H locs 0 0 QQ (F0 me_ 11 ls []) := by
      intro n9
      induction n9 with
      | zero =>
        intro i mi T A B z1 z2 z3 z4 e11 h11 f11 rA rB
        omega
      | succ n11 ih11 =>
        intro i mi T A B z1 z2 z3 z4 e11 h11 f11 rA rB H locs ls hP hD hS hl
        refine lv_iload_n X.1 X.2.1 dX1_fillOnce_11 rfl (lv_at hl 2 rfl) ?_
        refine bz_ge (tgt := 140) X dX1_fillOnce_12 (by decide) (fun c_2 => ?_) (fun c_2 => ?_)
        · have hi9 : ¬ i < 9 := fun q => c_2 ((sI_neg i (by omega)).mpr q)
          obtain rfl : mi = 0 := by omega
          obtain rfl : T = sealT 0 := h11
          refine lv_aload_n X.1 X.2.1 dX1_fillOnce_140 rfl (lv_at hl 0 rfl) ?_
          refine lv_iconst (v := 1) X.1 X.2.1 dX1_fillOnce_141 (by decide) ?_
          refine pf_X1_23 X hP hD hS 0 rfl rfl rfl (Nat.le_of_ble_eq_true rfl) dX1_fillOnce_142 (fun H locs hP hD hS => ?_)
          have hP : va_P D vwCl [(h0, ftE fd (nI (sealT 0).1.length) gd (nI (sealT 0).2.length) 1 fo le), (fd, aiE cI 64 A), (gd, aiE cI 64 B), (fo, cubE z1), (le, cubE z2), (hw, wkE sc cd), (sc, cubE z3), (cd, cubE z4)] H := hP
          have hD : va_D AA [(h0, ftE fd (nI (sealT 0).1.length) gd (nI (sealT 0).2.length) 1 fo le), (fd, aiE cI 64 A), (gd, aiE cI 64 B), (fo, cubE z1), (le, cubE z2), (hw, wkE sc cd), (sc, cubE z3), (cd, cubE z4)] := hD
          exact hret (A, B, z1, z2, z3, z4) _ _ _ _ (⟨rA, rB⟩) (hP.sub [0, 1, 2, 3, 4, 5, 6, 7] rfl) (hD.sub [0, 1, 2, 3, 4, 5, 6, 7] rfl rfl) hS dX1_fillOnce_145
        · have hi9 : i < 9 := (sI_neg i (by omega)).mp c_2
          obtain ⟨mi, rfl⟩ : ∃ z, mi = z + 1 := ⟨mi - 1, by omega⟩
          refine lv_bipush (v := (-9)) X.1 X.2.1 dX1_fillOnce_15 (by decide) ?_
          refine lv_istore_n (lv' := [(3, .int (-9)), (0, .ref h0), (1, .ref hw), (2, .int (sI i))]) X.1 X.2.1 dX1_fillOnce_17 rfl hl (by decide) rfl (fun ls hl => ?_)
          have loop18 : ∀ (n9 : Nat) (j : Nat) (mj : Nat) (T : Tab) (A : Nat → Int32) (B : Nat → Int32) (z1 : Fm) (z2 : Fm) (z3 : Fm) (z4 : Fm), (j + mj = 19) → (restJ i mi mj j T = sealT 0) → (mj < n9) → (repR A T.1) → (repR B T.2) → ∀ (H : Heap) (locs : List Loc) (ls : Array Slot), va_P D vwCl [(h0, ftE fd (nI T.1.length) gd (nI T.2.length) fl fo le), (fd, aiE cI 64 A), (gd, aiE cI 64 B), (fo, cubE z1), (le, cubE z2), (hw, wkE sc cd), (sc, cubE z3), (cd, cubE z4)] H → va_D AA [(h0, ftE fd (nI T.1.length) gd (nI T.2.length) fl fo le), (fd, aiE cI 64 A), (gd, aiE cI 64 B), (fo, cubE z1), (le, cubE z2), (hw, wkE sc cd), (sc, cubE z3), (cd, cubE z4)] → va_S AA sg_.heap H locs → lv_has ls 8 [(0, .ref h0), (1, .ref hw), (2, .int (sI i)), (3, .int (sI j))] → W pr_ l en_ (rmk 5 123) sg_ me_ ar_ be_ mt_ co_ H locs 0 0 QQ (F0 me_ 18 ls []) := by
            intro n9
            induction n9 with
            | zero =>
              intro j mj T A B z1 z2 z3 z4 e18 h18 f18 rA rB
              omega
            | succ n18 ih18 =>
              intro j mj T A B z1 z2 z3 z4 e18 h18 f18 rA rB H locs ls hP hD hS hl
              refine lv_iload_n X.1 X.2.1 dX1_fillOnce_18 rfl (lv_at hl 3 rfl) ?_
              refine lv_bipush (v := 9) X.1 X.2.1 dX1_fillOnce_19 (by decide) ?_
              refine bi_gt (tgt := 134) X dX1_fillOnce_21 (by decide) (fun c_3 => ?_) (fun c_3 => ?_)
              · refine lv_iinc (v := sI (i + 1)) (lv' := [(2, .int (sI (i + 1))), (0, .ref h0), (1, .ref hw), (3, .int (sI j))]) X.1 X.2.1 dX1_fillOnce_134 hl (k := 2) rfl (sI_s i) (by decide) rfl (fun ls hl => ?_)
                refine lv_goto (tgt := 11) X.1 X.2.1 dX1_fillOnce_137 (by decide) ?_
                exact ih11  (i + 1) mi T A B z1 z2 z3 z4 (by omega) (by
                  have hj19 := (sI_gt j (by omega)).mp c_3
                  obtain rfl : mj = 0 := by omega
                  exact h18) (by omega) rA rB _ _ _ (hP.sub [0, 1, 2, 3, 4, 5, 6, 7] rfl) (hD.sub [0, 1, 2, 3, 4, 5, 6, 7] rfl rfl) hS (lv_sub hl [1, 2, 0] rfl)
              · have hj19x : ¬ 18 < j := fun q => c_3 ((sI_gt j (by omega)).mpr q)
                have hj19 : j < 19 := by omega
                obtain ⟨mj, rfl⟩ : ∃ z, mj = z + 1 := ⟨mj - 1, by omega⟩
                refine lv_bipush (v := (-9)) X.1 X.2.1 dX1_fillOnce_24 (by decide) ?_
                refine lv_istore (lv' := [(4, .int (-9)), (0, .ref h0), (1, .ref hw), (2, .int (sI i)), (3, .int (sI j))]) X.1 X.2.1 dX1_fillOnce_26 hl (by decide) rfl (fun ls hl => ?_)
                have loop28 : ∀ (n9 : Nat) (k : Nat) (mk : Nat) (T : Tab) (A : Nat → Int32) (B : Nat → Int32) (z1 : Fm) (z2 : Fm) (z3 : Fm) (z4 : Fm), (k + mk = 19) → (restK i j mi mj mk k T = sealT 0) → (mk < n9) → (repR A T.1) → (repR B T.2) → ∀ (H : Heap) (locs : List Loc) (ls : Array Slot), va_P D vwCl [(h0, ftE fd (nI T.1.length) gd (nI T.2.length) fl fo le), (fd, aiE cI 64 A), (gd, aiE cI 64 B), (fo, cubE z1), (le, cubE z2), (hw, wkE sc cd), (sc, cubE z3), (cd, cubE z4)] H → va_D AA [(h0, ftE fd (nI T.1.length) gd (nI T.2.length) fl fo le), (fd, aiE cI 64 A), (gd, aiE cI 64 B), (fo, cubE z1), (le, cubE z2), (hw, wkE sc cd), (sc, cubE z3), (cd, cubE z4)] → va_S AA sg_.heap H locs → lv_has ls 8 [(0, .ref h0), (1, .ref hw), (2, .int (sI i)), (3, .int (sI j)), (4, .int (sI k))] → W pr_ l en_ (rmk 5 123) sg_ me_ ar_ be_ mt_ co_ H locs 0 0 QQ (F0 me_ 28 ls []) := by
                  intro n9
                  induction n9 with
                  | zero =>
                    intro k mk T A B z1 z2 z3 z4 e28 h28 f28 rA rB
                    omega
                  | succ n28 ih28 =>
                    intro k mk T A B z1 z2 z3 z4 e28 h28 f28 rA rB H locs ls hP hD hS hl
                    refine lv_iload X.1 X.2.1 dX1_fillOnce_28 (lv_at hl 4 rfl) ?_
                    refine lv_bipush (v := 9) X.1 X.2.1 dX1_fillOnce_30 (by decide) ?_
                    refine bi_gt (tgt := 128) X dX1_fillOnce_32 (by decide) (fun c_4 => ?_) (fun c_4 => ?_)
                    · refine lv_iinc (v := sI (j + 1)) (lv' := [(3, .int (sI (j + 1))), (0, .ref h0), (1, .ref hw), (2, .int (sI i)), (4, .int (sI k))]) X.1 X.2.1 dX1_fillOnce_128 hl (k := 3) rfl (sI_s j) (by decide) rfl (fun ls hl => ?_)
                      refine lv_goto (tgt := 18) X.1 X.2.1 dX1_fillOnce_131 (by decide) ?_
                      exact ih18  (j + 1) mj T A B z1 z2 z3 z4 (by omega) (by
                        have hk19 := (sI_gt k (by omega)).mp c_4
                        obtain rfl : mk = 0 := by omega
                        exact h28) (by omega) rA rB _ _ _ (hP.sub [0, 1, 2, 3, 4, 5, 6, 7] rfl) (hD.sub [0, 1, 2, 3, 4, 5, 6, 7] rfl rfl) hS (lv_sub hl [1, 2, 3, 0] rfl)
                    · have hk19x : ¬ 18 < k := fun q => c_4 ((sI_gt k (by omega)).mpr q)
                      have hk19 : k < 19 := by omega
                      obtain ⟨mk, rfl⟩ : ∃ z, mk = z + 1 := ⟨mk - 1, by omega⟩
                      refine lv_iload_n X.1 X.2.1 dX1_fillOnce_35 rfl (lv_at hl 3 rfl) ?_
                      refine lv_iload_n X.1 X.2.1 dX1_fillOnce_36 rfl (lv_at hl 3 rfl) ?_
                      refine lv_imul X.1 X.2.1 dX1_fillOnce_37 ?_
                      refine lv_iconst (v := 3) X.1 X.2.1 dX1_fillOnce_38 (by decide) ?_
                      refine lv_iload_n X.1 X.2.1 dX1_fillOnce_39 rfl (lv_at hl 2 rfl) ?_
                      refine lv_imul X.1 X.2.1 dX1_fillOnce_40 ?_
                      refine lv_iload X.1 X.2.1 dX1_fillOnce_41 (lv_at hl 4 rfl) ?_
                      refine lv_imul X.1 X.2.1 dX1_fillOnce_43 ?_
                      refine lv_isub X.1 X.2.1 dX1_fillOnce_44 ?_
                      refine lv_istore (lv' := [(5, .int (((sI j) * (sI j)) - ((3 * (sI i)) * (sI k)))), (0, .ref h0), (1, .ref hw), (2, .int (sI i)), (3, .int (sI j)), (4, .int (sI k))]) X.1 X.2.1 dX1_fillOnce_45 hl (by decide) rfl (fun ls hl => ?_)
                      have join68 : ∀ (v : Int32), (v = bI (fitT i j k)) → ∀ (H : Heap) (locs : List Loc) (ls : Array Slot), va_P D vwCl [(h0, ftE fd (nI T.1.length) gd (nI T.2.length) fl fo le), (fd, aiE cI 64 A), (gd, aiE cI 64 B), (fo, cubE z1), (le, cubE z2), (hw, wkE sc cd), (sc, cubE z3), (cd, cubE z4)] H → va_D AA [(h0, ftE fd (nI T.1.length) gd (nI T.2.length) fl fo le), (fd, aiE cI 64 A), (gd, aiE cI 64 B), (fo, cubE z1), (le, cubE z2), (hw, wkE sc cd), (sc, cubE z3), (cd, cubE z4)] → va_S AA sg_.heap H locs → lv_has ls 8 [(0, .ref h0), (1, .ref hw), (2, .int (sI i)), (3, .int (sI j)), (4, .int (sI k)), (5, .int (sI j * sI j - 3 * sI i * sI k))] → W pr_ l en_ (rmk 5 123) sg_ me_ ar_ be_ mt_ co_ H locs 0 0 QQ (F0 me_ 68 ls [.int v]) := by
                        intro v hv H locs ls hP hD hS hl
                        subst hv
                        refine lv_istore (lv' := [(6, .int (bI (fitT i j k))), (0, .ref h0), (1, .ref hw), (2, .int (sI i)), (3, .int (sI j)), (4, .int (sI k)), (5, .int (sI j * sI j - 3 * sI i * sI k))]) X.1 X.2.1 dX1_fillOnce_68 hl (by decide) rfl (fun ls hl => ?_)
                        refine lv_bipush (v := (-9)) X.1 X.2.1 dX1_fillOnce_70 (by decide) ?_
                        refine lv_istore (lv' := [(7, .int (-9)), (6, .int (bI (fitT i j k))), (0, .ref h0), (1, .ref hw), (2, .int (sI i)), (3, .int (sI j)), (4, .int (sI k)), (5, .int (sI j * sI j - 3 * sI i * sI k))]) X.1 X.2.1 dX1_fillOnce_72 hl (by decide) rfl (fun ls hl => ?_)
                        have loop74 : ∀ (n9 : Nat) (lx : Nat) (m : Nat) (T : Tab) (A : Nat → Int32) (B : Nat → Int32) (z1 : Fm) (z2 : Fm) (z3 : Fm) (z4 : Fm), (lx + m = 19) → (restT i j k mi mj mk m lx T = sealT 0) → (m < n9) → (repR A T.1) → (repR B T.2) → ∀ (H : Heap) (locs : List Loc) (ls : Array Slot), va_P D vwCl [(h0, ftE fd (nI T.1.length) gd (nI T.2.length) fl fo le), (fd, aiE cI 64 A), (gd, aiE cI 64 B), (fo, cubE z1), (le, cubE z2), (hw, wkE sc cd), (sc, cubE z3), (cd, cubE z4)] H → va_D AA [(h0, ftE fd (nI T.1.length) gd (nI T.2.length) fl fo le), (fd, aiE cI 64 A), (gd, aiE cI 64 B), (fo, cubE z1), (le, cubE z2), (hw, wkE sc cd), (sc, cubE z3), (cd, cubE z4)] → va_S AA sg_.heap H locs → lv_has ls 8 [(0, .ref h0), (1, .ref hw), (2, .int (sI i)), (3, .int (sI j)), (4, .int (sI k)), (6, .int (bI (fitT i j k))), (7, .int (sI lx))] → W pr_ l en_ (rmk 5 123) sg_ me_ ar_ be_ mt_ co_ H locs 0 0 QQ (F0 me_ 74 ls []) := by
                          intro n9
                          induction n9 with
                          | zero =>
                            intro lx m T A B z1 z2 z3 z4 e74 h74 f74 rA rB
                            omega
                          | succ n74 ih74 =>
                            intro lx m T A B z1 z2 z3 z4 e74 h74 f74 rA rB H locs ls hP hD hS hl
                            refine lv_iload X.1 X.2.1 dX1_fillOnce_74 (lv_at hl 5 rfl) ?_
                            refine bb_eq (tgt := 122) X dX1_fillOnce_76 (by decide) (fun c_5 => ?_) (fun c_5 => ?_)
                            · refine lv_iinc (v := sI (k + 1)) (lv' := [(4, .int (sI (k + 1))), (0, .ref h0), (1, .ref hw), (2, .int (sI i)), (3, .int (sI j)), (6, .int (bI (fitT i j k))), (7, .int (sI lx))]) X.1 X.2.1 dX1_fillOnce_122 hl (k := 4) rfl (sI_s k) (by decide) rfl (fun ls hl => ?_)
                              refine lv_goto (tgt := 28) X.1 X.2.1 dX1_fillOnce_125 (by decide) ?_
                              exact ih28  (k + 1) mk T A B z1 z2 z3 z4 (by omega) (by rw [← h74]; simp only [restT, restK, c_5, if_false, Bool.false_eq_true]) (by omega) rA rB _ _ _ (hP.sub [0, 1, 2, 3, 4, 5, 6, 7] rfl) (hD.sub [0, 1, 2, 3, 4, 5, 6, 7] rfl rfl) hS (lv_sub hl [1, 2, 3, 4, 0] rfl)
                            · refine lv_iload X.1 X.2.1 dX1_fillOnce_79 (lv_at hl 6 rfl) ?_
                              refine lv_bipush (v := 9) X.1 X.2.1 dX1_fillOnce_81 (by decide) ?_
                              refine bi_gt (tgt := 122) X dX1_fillOnce_83 (by decide) (fun c_6 => ?_) (fun c_6 => ?_)
                              · refine lv_iinc (v := sI (k + 1)) (lv' := [(4, .int (sI (k + 1))), (0, .ref h0), (1, .ref hw), (2, .int (sI i)), (3, .int (sI j)), (6, .int (bI (fitT i j k))), (7, .int (sI lx))]) X.1 X.2.1 dX1_fillOnce_122 hl (k := 4) rfl (sI_s k) (by decide) rfl (fun ls hl => ?_)
                                refine lv_goto (tgt := 28) X.1 X.2.1 dX1_fillOnce_125 (by decide) ?_
                                exact ih28  (k + 1) mk T A B z1 z2 z3 z4 (by omega) (by
                                  have hl19 := (sI_gt lx (by omega)).mp c_6
                                  obtain rfl : m = 0 := by omega
                                  rw [← h74]; simp only [restT, restK, c_5, if_true, tL]) (by omega) rA rB _ _ _ (hP.sub [0, 1, 2, 3, 4, 5, 6, 7] rfl) (hD.sub [0, 1, 2, 3, 4, 5, 6, 7] rfl rfl) hS (lv_sub hl [1, 2, 3, 4, 0] rfl)
                              · have hl19x : ¬ 18 < lx := fun q => c_6 ((sI_gt lx (by omega)).mpr q)
                                have hl19 : lx < 19 := by omega
                                obtain ⟨m, rfl⟩ : ∃ z, m = z + 1 := ⟨m - 1, by omega⟩
                                refine lv_aload_n X.1 X.2.1 dX1_fillOnce_86 rfl (lv_at hl 0 rfl) ?_
                                refine gf_X1_30 (v := .ref fo) X hP 0 rfl rfl dX1_fillOnce_87 ?_
                                refine lv_iload_n X.1 X.2.1 dX1_fillOnce_90 rfl (lv_at hl 2 rfl) ?_
                                refine lv_i2l X.1 X.2.1 dX1_fillOnce_91 rfl ?_
                                refine lv_iload_n X.1 X.2.1 dX1_fillOnce_92 rfl (lv_at hl 3 rfl) ?_
                                refine lv_i2l X.1 X.2.1 dX1_fillOnce_93 rfl ?_
                                refine lv_iload X.1 X.2.1 dX1_fillOnce_94 (lv_at hl 4 rfl) ?_
                                refine lv_i2l X.1 X.2.1 dX1_fillOnce_96 rfl ?_
                                refine lv_iload X.1 X.2.1 dX1_fillOnce_97 (lv_at hl 6 rfl) ?_
                                refine lv_i2l X.1 X.2.1 dX1_fillOnce_99 rfl ?_
                                refine fin_v (wr := [(h0, ftE fd (nI T.1.length) gd (nI T.2.length) fl fo le), (fd, aiE cI 64 A), (gd, aiE cI 64 B), (le, cubE z2), (hw, wkE sc cd), (sc, cubE z3), (cd, cubE z4)]) (cv_X1_41 X (c_Cubic_set l D cI cJ fo z1 ((sI i).toInt64) ((sI j).toInt64) ((sI k).toInt64) ((sI lx).toInt64)  _) rfl rfl dX1_fillOnce_100 hP hD 3 rfl [3] rfl rfl hl.1 rfl rfl (Nat.le_of_ble_eq_true rfl) ⟨Nat.le_of_ble_eq_true rfl, Nat.le_of_ble_eq_true rfl⟩ ⟨Nat.le_of_ble_eq_true rfl, Nat.le_of_ble_eq_true rfl⟩) hP hD hS hA [3] [0, 1, 2, 4, 5, 6, 7] rfl rfl rfl (by decide) (fun u_8 H locs w_7 hP hD hS => ?_)
                                have hP : va_P D vwCl [(h0, ftE fd (nI T.1.length) gd (nI T.2.length) fl fo le), (fd, aiE cI 64 A), (gd, aiE cI 64 B), (le, cubE z2), (hw, wkE sc cd), (sc, cubE z3), (cd, cubE z4), (fo, cubE (((sI i).toInt64), ((sI j).toInt64), ((sI k).toInt64), ((sI lx).toInt64)))] H := hP
                                have hD : va_D AA [(h0, ftE fd (nI T.1.length) gd (nI T.2.length) fl fo le), (fd, aiE cI 64 A), (gd, aiE cI 64 B), (le, cubE z2), (hw, wkE sc cd), (sc, cubE z3), (cd, cubE z4), (fo, cubE (((sI i).toInt64), ((sI j).toInt64), ((sI k).toInt64), ((sI lx).toInt64)))] := hD
                                have hP : va_P D vwCl [(h0, ftE fd (nI T.1.length) gd (nI T.2.length) fl fo le), (fd, aiE cI 64 A), (gd, aiE cI 64 B), (le, cubE z2), (hw, wkE sc cd), (sc, cubE z3), (cd, cubE z4), (fo, cubE (frm i j k lx))] H := hP
                                have hD : va_D AA [(h0, ftE fd (nI T.1.length) gd (nI T.2.length) fl fo le), (fd, aiE cI 64 A), (gd, aiE cI 64 B), (le, cubE z2), (hw, wkE sc cd), (sc, cubE z3), (cd, cubE z4), (fo, cubE (frm i j k lx))] := hD
                                refine lv_aload_n X.1 X.2.1 dX1_fillOnce_103 rfl (lv_at hl 0 rfl) ?_
                                refine lv_aload_n X.1 X.2.1 dX1_fillOnce_104 rfl (lv_at hl 1 rfl) ?_
                                refine fin_i (wr := [(fd, aiE cI 64 A), (gd, aiE cI 64 B)]) (cv_X1_45 X (c_FT_isTabulated l D cI cJ h0 fd gd fo le T.1.length T.2.length fl (frm i j k lx) z2 hw sc cd z3 z4 (aN i) (aN lx) ((sI_abs i (by omega)).1) ((sI_abs i (by omega)).2) ((sI_abs lx (by omega)).1) ((sI_abs lx (by omega)).2) _) rfl rfl dX1_fillOnce_105 hP hD 0 rfl [0, 7, 3, 4, 5, 6] rfl rfl hl.1 rfl rfl (Nat.le_of_ble_eq_true rfl) ⟨Nat.le_of_ble_eq_true rfl, Nat.le_of_ble_eq_true rfl⟩ ⟨Nat.le_of_ble_eq_true rfl, Nat.le_of_ble_eq_true rfl⟩) hP hD hS hA [0, 7, 3, 4, 5, 6] [1, 2] rfl rfl rfl (by decide) (fun r_12 u_11 H locs w_10 hP hD hS => ?_)
                                have hP : va_P D vwCl [(fd, aiE cI 64 A), (gd, aiE cI 64 B), (h0, ftE fd (nI T.1.length) gd (nI T.2.length) fl fo le), (fo, cubE (frm i j k lx)), (le, cubE u_11.1), (hw, wkE sc cd), (sc, cubE u_11.2.1), (cd, cubE u_11.2.2)] H := hP
                                have hD : va_D AA [(fd, aiE cI 64 A), (gd, aiE cI 64 B), (h0, ftE fd (nI T.1.length) gd (nI T.2.length) fl fo le), (fo, cubE (frm i j k lx)), (le, cubE u_11.1), (hw, wkE sc cd), (sc, cubE u_11.2.1), (cd, cubE u_11.2.2)] := hD
                                subst w_10
                                refine bb_eq (tgt := 116) X dX1_fillOnce_108 (by decide) (fun c_13 => ?_) (fun c_13 => ?_)
                                · refine lv_iinc (v := sI (lx + 1)) (lv' := [(7, .int (sI (lx + 1))), (0, .ref h0), (1, .ref hw), (2, .int (sI i)), (3, .int (sI j)), (4, .int (sI k)), (6, .int (bI (fitT i j k)))]) X.1 X.2.1 dX1_fillOnce_116 hl (k := 6) rfl (sI_s lx) (by decide) rfl (fun ls hl => ?_)
                                  refine lv_goto (tgt := 74) X.1 X.2.1 dX1_fillOnce_119 (by decide) ?_
                                  exact ih74  (lx + 1) m T A B (frm i j k lx) u_11.1 u_11.2.1 u_11.2.2 (by omega) (by rw [← h74]; simp only [restT, tL, stepT, c_5, c_13, if_true, if_false, Bool.false_eq_true]) (by omega) rA rB _ _ _ (hP.sub [2, 0, 1, 3, 4, 5, 6, 7] rfl) (hD.sub [2, 0, 1, 3, 4, 5, 6, 7] rfl rfl) hS (lv_sub hl [1, 2, 3, 4, 5, 6, 0] rfl)
                                · have hdd := tabF_d c_13
                                  have hle : leT T (sealT 0) := by rw [← h74]; exact restT_le _ _ _ _ _ _ _ _ _
                                  have hle1 := hle.1
                                  have hle2 := hle.2
                                  refine lv_aload_n X.1 X.2.1 dX1_fillOnce_111 rfl (lv_at hl 0 rfl) ?_
                                  refine lv_aload_n X.1 X.2.1 dX1_fillOnce_112 rfl (lv_at hl 1 rfl) ?_
                                  refine fin_v (wr := [(le, cubE u_11.1)]) (cv_X1_49 X (c_FT_addTabulated l D cI cJ h0 fd gd fo le T fl (frm i j k lx) A B hw sc cd u_11.2.1 u_11.2.2 rA rB (by omega) (by omega) hdd.1 hdd.2 _) rfl rfl dX1_fillOnce_113 hP hD 2 rfl [2, 0, 1, 3, 5, 6, 7] rfl rfl hl.1 rfl rfl (Nat.le_of_ble_eq_true rfl) ⟨Nat.le_of_ble_eq_true rfl, Nat.le_of_ble_eq_true rfl⟩ ⟨Nat.le_of_ble_eq_true rfl, Nat.le_of_ble_eq_true rfl⟩) hP hD hS hA [2, 0, 1, 3, 5, 6, 7] [4] rfl rfl rfl (by decide) (fun u_15 H locs w_14 hP hD hS => ?_)
                                  have hP : va_P D vwCl [(le, cubE u_11.1), (h0, ftE fd (nI (addT (frm i j k lx) T).1.length) gd (nI (addT (frm i j k lx) T).2.length) fl fo le), (fd, aiE cI 64 u_15.1), (gd, aiE cI 64 u_15.2.1), (fo, cubE u_15.2.2.1), (hw, wkE sc cd), (sc, cubE u_11.2.1), (cd, cubE u_15.2.2.2)] H := hP
                                  have hD : va_D AA [(le, cubE u_11.1), (h0, ftE fd (nI (addT (frm i j k lx) T).1.length) gd (nI (addT (frm i j k lx) T).2.length) fl fo le), (fd, aiE cI 64 u_15.1), (gd, aiE cI 64 u_15.2.1), (fo, cubE u_15.2.2.1), (hw, wkE sc cd), (sc, cubE u_11.2.1), (cd, cubE u_15.2.2.2)] := hD
                                  obtain ⟨rA, rB⟩ := w_14
                                  refine lv_iinc (v := sI (lx + 1)) (lv' := [(7, .int (sI (lx + 1))), (0, .ref h0), (1, .ref hw), (2, .int (sI i)), (3, .int (sI j)), (4, .int (sI k)), (6, .int (bI (fitT i j k)))]) X.1 X.2.1 dX1_fillOnce_116 hl (k := 6) rfl (sI_s lx) (by decide) rfl (fun ls hl => ?_)
                                  refine lv_goto (tgt := 74) X.1 X.2.1 dX1_fillOnce_119 (by decide) ?_
                                  exact ih74  (lx + 1) m (addT (frm i j k lx) T) u_15.1 u_15.2.1 u_15.2.2.1 u_11.1 u_11.2.1 u_15.2.2.2 (by omega) (by rw [← h74]; simp only [restT, tL, stepT, c_5, c_13, if_true, if_false, Bool.false_eq_true]) (by omega) rA rB _ _ _ (hP.sub [1, 2, 3, 4, 0, 5, 6, 7] rfl) (hD.sub [1, 2, 3, 4, 0, 5, 6, 7] rfl rfl) hS (lv_sub hl [1, 2, 3, 4, 5, 6, 0] rfl)
                        exact loop74 20 0 19 T A B z1 z2 z3 z4 rfl h28 (by decide) rA rB _ _ _ (hP.sub [0, 1, 2, 3, 4, 5, 6, 7] rfl) (hD.sub [0, 1, 2, 3, 4, 5, 6, 7] rfl rfl) hS (lv_sub hl [2, 3, 4, 5, 6, 1, 0] rfl)
                      refine lv_iload X.1 X.2.1 dX1_fillOnce_47 (lv_at hl 0 rfl) ?_
                      refine bz_le (tgt := 67) X dX1_fillOnce_49 (by decide) (fun c_17 => ?_) (fun c_17 => ?_)
                      · refine lv_iconst (v := 0) X.1 X.2.1 dX1_fillOnce_67 (by decide) ?_
                        exact join68  0 (by simp [fitT, bI, c_17]) _ _ _ (hP.sub [0, 1, 2, 3, 4, 5, 6, 7] rfl) (hD.sub [0, 1, 2, 3, 4, 5, 6, 7] rfl rfl) hS (lv_sub hl [1, 2, 3, 4, 5, 0] rfl)
                      · refine lv_iload X.1 X.2.1 dX1_fillOnce_52 (lv_at hl 0 rfl) ?_
                        refine lv_iload X.1 X.2.1 dX1_fillOnce_54 (lv_at hl 0 rfl) ?_
                        refine lv_imul X.1 X.2.1 dX1_fillOnce_56 ?_
                        refine lv_sipush (v := 1000) X.1 X.2.1 dX1_fillOnce_57 (by decide) ?_
                        refine bi_gt (tgt := 67) X dX1_fillOnce_60 (by decide) (fun c_18 => ?_) (fun c_18 => ?_)
                        · refine lv_iconst (v := 0) X.1 X.2.1 dX1_fillOnce_67 (by decide) ?_
                          exact join68  0 (by simp [fitT, bI, c_17, c_18]) _ _ _ (hP.sub [0, 1, 2, 3, 4, 5, 6, 7] rfl) (hD.sub [0, 1, 2, 3, 4, 5, 6, 7] rfl rfl) hS (lv_sub hl [1, 2, 3, 4, 5, 0] rfl)
                        · refine lv_iconst (v := 1) X.1 X.2.1 dX1_fillOnce_63 (by decide) ?_
                          refine lv_goto (tgt := 68) X.1 X.2.1 dX1_fillOnce_64 (by decide) ?_
                          exact join68  1 (by simp [fitT, bI, c_17, c_18]) _ _ _ (hP.sub [0, 1, 2, 3, 4, 5, 6, 7] rfl) (hD.sub [0, 1, 2, 3, 4, 5, 6, 7] rfl rfl) hS (lv_sub hl [1, 2, 3, 4, 5, 0] rfl)
                exact loop28 20 0 19 T A B z1 z2 z3 z4 rfl h18 (by decide) rA rB _ _ _ (hP.sub [0, 1, 2, 3, 4, 5, 6, 7] rfl) (hD.sub [0, 1, 2, 3, 4, 5, 6, 7] rfl rfl) hS (lv_sub hl [1, 2, 3, 4, 0] rfl)
          exact loop18 20 0 19 T A B z1 z2 z3 z4 rfl h11 (by decide) rA rB _ _ _ (hP.sub [0, 1, 2, 3, 4, 5, 6, 7] rfl) (hD.sub [0, 1, 2, 3, 4, 5, 6, 7] rfl rfl) hS (lv_sub hl [1, 2, 3, 0] rfl)
    exact loop11 10 0 9 T A B z1 z2 z3 z4 rfl (by rw [hT, sealT_eq, tabAll]) (by decide) rA rB _ _ _ (hP.sub [0, 1, 2, 3, 4, 5, 6, 7] rfl) (hD.sub [0, 1, 2, 3, 4, 5, 6, 7] rfl rfl) hS (lv_sub hl [1, 2, 0] rfl)
  · rcases hst with ⟨q, -⟩ | ⟨rfl, rfl⟩
    · exact absurd q c_1
    exact hret (A, B, z1, z2, z3, z4) _ _ _ _ (⟨rA, rB⟩) (hP.sub [0, 1, 2, 3, 4, 5, 6, 7] rfl) (hD.sub [0, 1, 2, 3, 4, 5, 6, 7] rfl rfl) hS dX1_fillOnce_7
