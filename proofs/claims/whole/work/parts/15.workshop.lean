set_option maxHeartbeats 4000000 in
set_option maxRecDepth 100000 in
theorem c_Wk_makeCandidate (l : Launch) (D : va_G) (cI cJ : ClassId) (h0 : Nat) (sc : Nat) (cd : Nat) (a : Fm) (b : Fm) (j : Nat) (hj : j < 81) : CtI l yX4_makeCandidate cX4_makeCandidate 6 .boolean (rmk 2 53) D cI cJ [.ref h0, .int (nI j)] [(h0, wkE sc cd), (sc, cubE a), (cd, cubE b)] (fun (_ : Unit) => [(h0, wkE sc cd), (sc, cubE a), (cd, cubE (if unitB j then candF a j else b))]) (fun (r : Int32) (_ : Unit) => r = bI (unitB j)) := by
  refine CtI.of (own := RX4) (by decide +kernel) (Nat.le_of_ble_eq_true rfl) rfl ?_
  intro pr_ en_ sg_ me_ ar_ be_ mt_ co_ AA ls QQ X hA hP hD hS hl hret
  have hl : lv_has ls 6 [(0, .ref h0), (1, .int (nI j))] := hl
  refine lv_iload_n X.1 X.2.1 dX4_makeCandidate_0 rfl (lv_at hl 1 rfl) ?_
  refine lv_bipush (v := 27) X.1 X.2.1 dX4_makeCandidate_1 (by decide) ?_
  refine lv_idiv X.1 X.2.1 dX4_makeCandidate_3 (by decide) ?_
  refine lv_iconst (v := 3) X.1 X.2.1 dX4_makeCandidate_4 (by decide) ?_
  refine lv_irem X.1 X.2.1 dX4_makeCandidate_5 (by decide) ?_
  refine lv_iconst (v := 1) X.1 X.2.1 dX4_makeCandidate_6 (by decide) ?_
  refine lv_isub X.1 X.2.1 dX4_makeCandidate_7 ?_
  rw [dg_p hj]
  refine lv_istore_n (lv' := [(2, .int (mp j)), (0, .ref h0), (1, .int (nI j))]) X.1 X.2.1 dX4_makeCandidate_8 rfl hl (by decide) rfl (fun ls hl => ?_)
  refine lv_iload_n X.1 X.2.1 dX4_makeCandidate_9 rfl (lv_at hl 2 rfl) ?_
  refine lv_bipush (v := 9) X.1 X.2.1 dX4_makeCandidate_10 (by decide) ?_
  refine lv_idiv X.1 X.2.1 dX4_makeCandidate_12 (by decide) ?_
  refine lv_iconst (v := 3) X.1 X.2.1 dX4_makeCandidate_13 (by decide) ?_
  refine lv_irem X.1 X.2.1 dX4_makeCandidate_14 (by decide) ?_
  refine lv_iconst (v := 1) X.1 X.2.1 dX4_makeCandidate_15 (by decide) ?_
  refine lv_isub X.1 X.2.1 dX4_makeCandidate_16 ?_
  rw [dg_q hj]
  refine lv_istore_n (lv' := [(3, .int (mq j)), (2, .int (mp j)), (0, .ref h0), (1, .int (nI j))]) X.1 X.2.1 dX4_makeCandidate_17 rfl hl (by decide) rfl (fun ls hl => ?_)
  refine lv_iload_n X.1 X.2.1 dX4_makeCandidate_18 rfl (lv_at hl 3 rfl) ?_
  refine lv_iconst (v := 3) X.1 X.2.1 dX4_makeCandidate_19 (by decide) ?_
  refine lv_idiv X.1 X.2.1 dX4_makeCandidate_20 (by decide) ?_
  refine lv_iconst (v := 3) X.1 X.2.1 dX4_makeCandidate_21 (by decide) ?_
  refine lv_irem X.1 X.2.1 dX4_makeCandidate_22 (by decide) ?_
  refine lv_iconst (v := 1) X.1 X.2.1 dX4_makeCandidate_23 (by decide) ?_
  refine lv_isub X.1 X.2.1 dX4_makeCandidate_24 ?_
  rw [dg_r hj]
  refine lv_istore (lv' := [(4, .int (mr j)), (3, .int (mq j)), (2, .int (mp j)), (0, .ref h0), (1, .int (nI j))]) X.1 X.2.1 dX4_makeCandidate_25 hl (by decide) rfl (fun ls hl => ?_)
  refine lv_iload_n X.1 X.2.1 dX4_makeCandidate_27 rfl (lv_at hl 4 rfl) ?_
  refine lv_iconst (v := 3) X.1 X.2.1 dX4_makeCandidate_28 (by decide) ?_
  refine lv_irem X.1 X.2.1 dX4_makeCandidate_29 (by decide) ?_
  refine lv_iconst (v := 1) X.1 X.2.1 dX4_makeCandidate_30 (by decide) ?_
  refine lv_isub X.1 X.2.1 dX4_makeCandidate_31 ?_
  rw [dg_s hj]
  refine lv_istore (lv' := [(5, .int (mz j)), (4, .int (mr j)), (3, .int (mq j)), (2, .int (mp j)), (0, .ref h0), (1, .int (nI j))]) X.1 X.2.1 dX4_makeCandidate_32 hl (by decide) rfl (fun ls hl => ?_)
  refine lv_iload_n X.1 X.2.1 dX4_makeCandidate_34 rfl (lv_at hl 3 rfl) ?_
  refine lv_iload X.1 X.2.1 dX4_makeCandidate_35 (lv_at hl 0 rfl) ?_
  refine lv_imul X.1 X.2.1 dX4_makeCandidate_37 ?_
  refine lv_iload_n X.1 X.2.1 dX4_makeCandidate_38 rfl (lv_at hl 2 rfl) ?_
  refine lv_iload X.1 X.2.1 dX4_makeCandidate_39 (lv_at hl 1 rfl) ?_
  refine lv_imul X.1 X.2.1 dX4_makeCandidate_41 ?_
  refine lv_isub X.1 X.2.1 dX4_makeCandidate_42 ?_
  refine cv_X4_43 X hl.1 (Nat.le_of_ble_eq_true rfl) (Nat.le_of_ble_eq_true rfl) (Nat.zero_le _) (Nat.zero_le _) dX4_makeCandidate_43 ?_
  show W pr_ l en_ (rmk 2 53) sg_ me_ ar_ be_ mt_ co_ _ _ 0 0 QQ (F0 me_ _ ls (.int (absI (((mp j) * (mz j)) - ((mq j) * (mr j)))) :: _))
  refine lv_iconst (v := 1) X.1 X.2.1 dX4_makeCandidate_46 (by decide) ?_
  refine bi_eq (tgt := 52) X dX4_makeCandidate_47 (by decide) (fun c_1 => ?_) (fun c_1 => ?_)
  · refine lv_aload_n X.1 X.2.1 dX4_makeCandidate_52 rfl (lv_at hl 4 rfl) ?_
    refine gf_X4_18 (v := .ref cd) X hP 0 rfl rfl dX4_makeCandidate_53 ?_
    refine lv_aload_n X.1 X.2.1 dX4_makeCandidate_56 rfl (lv_at hl 4 rfl) ?_
    refine gf_X4_12 (v := .ref sc) X hP 0 rfl rfl dX4_makeCandidate_57 ?_
    refine lv_iload_n X.1 X.2.1 dX4_makeCandidate_60 rfl (lv_at hl 3 rfl) ?_
    refine lv_i2l X.1 X.2.1 dX4_makeCandidate_61 rfl ?_
    refine lv_iload_n X.1 X.2.1 dX4_makeCandidate_62 rfl (lv_at hl 2 rfl) ?_
    refine lv_i2l X.1 X.2.1 dX4_makeCandidate_63 rfl ?_
    refine lv_iload X.1 X.2.1 dX4_makeCandidate_64 (lv_at hl 1 rfl) ?_
    refine lv_i2l X.1 X.2.1 dX4_makeCandidate_66 rfl ?_
    refine lv_iload X.1 X.2.1 dX4_makeCandidate_67 (lv_at hl 0 rfl) ?_
    refine lv_i2l X.1 X.2.1 dX4_makeCandidate_69 rfl ?_
    refine fin_v (wr := [(h0, wkE sc cd)]) (cv_X4_49 X (c_Cubic_becomeSubstituted l D cI cJ cd b sc a ((mp j).toInt64) ((mq j).toInt64) ((mr j).toInt64) ((mz j).toInt64)  _) rfl rfl dX4_makeCandidate_70 hP hD 2 rfl [2, 1] rfl rfl hl.1 rfl rfl (Nat.le_of_ble_eq_true rfl) ⟨Nat.le_of_ble_eq_true rfl, Nat.le_of_ble_eq_true rfl⟩ ⟨Nat.le_of_ble_eq_true rfl, Nat.le_of_ble_eq_true rfl⟩) hP hD hS hA [2, 1] [0] rfl rfl rfl (by decide) (fun u_3 H locs w_2 hP hD hS => ?_)
    have hP : va_P D vwCl [(h0, wkE sc cd), (cd, cubE (subF a ((mp j).toInt64) ((mq j).toInt64) ((mr j).toInt64) ((mz j).toInt64))), (sc, cubE a)] H := hP
    have hD : va_D AA [(h0, wkE sc cd), (cd, cubE (subF a ((mp j).toInt64) ((mq j).toInt64) ((mr j).toInt64) ((mz j).toInt64))), (sc, cubE a)] := hD
    have eu : unitB j = true := by simp only [unitB, c_1, decide_true]
    rw [show subF a (mp j).toInt64 (mq j).toInt64 (mr j).toInt64 (mz j).toInt64 = (if unitB j then candF a j else b) from by rw [eu]; rfl] at hP hD
    refine lv_iconst (v := 1) X.1 X.2.1 dX4_makeCandidate_73 (by decide) ?_
    exact hret 1 () _ _ _ _ (by rw [eu]; rfl) rfl (hP.sub [0, 2, 1] rfl) (hD.sub [0, 2, 1] rfl rfl) hS dX4_makeCandidate_74
  · have eu : unitB j = false := by simp only [unitB, c_1, decide_false]
    rw [show b = (if unitB j then candF a j else b) from by rw [eu]; rfl] at hP hD
    refine lv_iconst (v := 0) X.1 X.2.1 dX4_makeCandidate_50 (by decide) ?_
    exact hret 0 () _ _ _ _ (by rw [eu]; rfl) rfl (hP.sub [0, 1, 2] rfl) (hD.sub [0, 1, 2] rfl rfl) hS dX4_makeCandidate_51
set_option maxHeartbeats 4000000 in
set_option maxRecDepth 100000 in
theorem c_Wk_makeCanonical (l : Launch) (D : va_G) (cI cJ : ClassId) (h0 : Nat) (sc : Nat) (cd : Nat) (a : Fm) (b : Fm) (hf : Nat) (f : Fm)  : CtV l yX4_makeCanonical cX4_makeCanonical 3 (rmk 3 78) D cI cJ [.ref h0, .ref hf] [(h0, wkE sc cd), (sc, cubE a), (cd, cubE b), (hf, cubE f)] (fun (u : Fm × Fm) => [(h0, wkE sc cd), (sc, cubE u.1), (cd, cubE u.2), (hf, cubE (sealC 0 f))]) (fun (u : Fm × Fm) => True) 0 0 := by
  refine CtV.of (own := RX4) (by decide +kernel) (Nat.le_of_ble_eq_true rfl) rfl ?_
  intro pr_ en_ sg_ me_ ar_ be_ mt_ co_ AA ls QQ X hin hA hP hD hS hl hret
  have hl : lv_has ls 3 [(0, .ref h0), (1, .ref hf)] := hl
  refine lv_aload_n X.1 X.2.1 dX4_makeCanonical_0 rfl (lv_at hl 1 rfl) ?_
  refine fin_v (wr := [(h0, wkE sc cd), (sc, cubE a), (cd, cubE b)]) (cv_X4_21 X (c_Cubic_reduceHessian l D cI cJ hf f  _) rfl rfl dX4_makeCanonical_1 hP hD 3 rfl [3] rfl rfl hl.1 rfl rfl (Nat.le_of_ble_eq_true rfl) ⟨Nat.le_of_ble_eq_true rfl, Nat.le_of_ble_eq_true rfl⟩ ⟨Nat.le_of_ble_eq_true rfl, Nat.le_of_ble_eq_true rfl⟩) hP hD hS hA [3] [0, 1, 2] rfl rfl rfl (by decide) (fun u_2 H locs w_1 hP hD hS => ?_)
  have hP : va_P D vwCl [(h0, wkE sc cd), (sc, cubE a), (cd, cubE b), (hf, cubE (redGo 1000 f))] H := hP
  have hD : va_D AA [(h0, wkE sc cd), (sc, cubE a), (cd, cubE b), (hf, cubE (redGo 1000 f))] := hD
  refine lv_aload_n X.1 X.2.1 dX4_makeCanonical_4 rfl (lv_at hl 0 rfl) ?_
  refine gf_X4_12 (v := .ref sc) X hP 0 rfl rfl dX4_makeCanonical_5 ?_
  refine lv_aload_n X.1 X.2.1 dX4_makeCanonical_8 rfl (lv_at hl 1 rfl) ?_
  refine fin_v (wr := [(h0, wkE sc cd), (cd, cubE b)]) (cv_X4_24 X (c_Cubic_copyFrom l D cI cJ sc a hf (redGo 1000 f)  _) rfl rfl dX4_makeCanonical_9 hP hD 1 rfl [1, 3] rfl rfl hl.1 rfl rfl (Nat.le_of_ble_eq_true rfl) ⟨Nat.le_of_ble_eq_true rfl, Nat.le_of_ble_eq_true rfl⟩ ⟨Nat.le_of_ble_eq_true rfl, Nat.le_of_ble_eq_true rfl⟩) hP hD hS hA [1, 3] [0, 2] rfl rfl rfl (by decide) (fun u_5 H locs w_4 hP hD hS => ?_)
  have hP : va_P D vwCl [(h0, wkE sc cd), (cd, cubE b), (sc, cubE (redGo 1000 f)), (hf, cubE (redGo 1000 f))] H := hP
  have hD : va_D AA [(h0, wkE sc cd), (cd, cubE b), (sc, cubE (redGo 1000 f)), (hf, cubE (redGo 1000 f))] := hD
  refine lv_iconst (v := 0) X.1 X.2.1 dX4_makeCanonical_12 (by decide) ?_
  refine lv_istore_n (lv' := [(2, .int 0), (0, .ref h0), (1, .ref hf)]) X.1 X.2.1 dX4_makeCanonical_13 rfl hl (by decide) rfl (fun ls hl => ?_)
  have loop14 : ∀ (n9 : Nat) (j : Nat) (k : Nat) (g : Fm) (z : Fm), (j + k = 81) → (canGo (redGo 1000 f) k j g = canC f) → (k < n9) → ∀ (H : Heap) (locs : List Loc) (ls : Array Slot), va_P D vwCl [(h0, wkE sc cd), (sc, cubE (redGo 1000 f)), (cd, cubE z), (hf, cubE g)] H → va_D AA [(h0, wkE sc cd), (sc, cubE (redGo 1000 f)), (cd, cubE z), (hf, cubE g)] → va_S AA sg_.heap H locs → lv_has ls 3 [(0, .ref h0), (1, .ref hf), (2, .int (nI j))] → W pr_ l en_ (rmk 3 78) sg_ me_ ar_ be_ mt_ co_ H locs 0 0 QQ (F0 me_ 14 ls []) := by
    intro n9
    induction n9 with
    | zero =>
      intro j k g z hk hG hn
      omega
    | succ n14 ih14 =>
      intro j k g z hk hG hn H locs ls hP hD hS hl
      refine lv_iload_n X.1 X.2.1 dX4_makeCanonical_14 rfl (lv_at hl 2 rfl) ?_
      refine lv_bipush (v := 81) X.1 X.2.1 dX4_makeCanonical_15 (by decide) ?_
      refine bi_ge (tgt := 63) X dX4_makeCanonical_17 (by decide) (fun c_7 => ?_) (fun c_7 => ?_)
      · have hj : ¬ j < 81 := fun q => c_7 ((nI_ltn (by omega) (by decide) rfl).mpr q)
        obtain rfl : k = 0 := by omega
        have e : g = sealC 0 f := by rw [sealC_eq]; exact hG
        rw [e] at hP hD
        obtain ⟨g_8, hg_8⟩ : ∃ z9, z9 = redGo 1000 f := ⟨_, rfl⟩
        rw [← hg_8] at hP hD
        exact hret (g_8, z) _ _ _ _ (trivial) (hP.sub [0, 1, 2, 3] rfl) (hD.sub [0, 1, 2, 3] rfl rfl) hS dX4_makeCanonical_63
      · have hj : j < 81 := (nI_ltn (by omega) (by decide) rfl).mp c_7
        obtain ⟨k, rfl⟩ : ∃ z, k = z + 1 := ⟨k - 1, by omega⟩
        refine lv_aload_n X.1 X.2.1 dX4_makeCanonical_20 rfl (lv_at hl 0 rfl) ?_
        refine lv_iload_n X.1 X.2.1 dX4_makeCanonical_21 rfl (lv_at hl 2 rfl) ?_
        refine fin_i (wr := [(hf, cubE g)]) (cv_X4_28 X (c_Wk_makeCandidate l D cI cJ h0 sc cd (redGo 1000 f) z j hj _) rfl rfl dX4_makeCanonical_22 hP hD 0 rfl [0, 1, 2] rfl rfl hl.1 rfl rfl (Nat.le_of_ble_eq_true rfl) ⟨Nat.le_of_ble_eq_true rfl, Nat.le_of_ble_eq_true rfl⟩ ⟨Nat.le_of_ble_eq_true rfl, Nat.le_of_ble_eq_true rfl⟩) hP hD hS hA [0, 1, 2] [3] rfl rfl rfl (by decide) (fun r_11 u_10 H locs w_9 hP hD hS => ?_)
        have hP : va_P D vwCl [(hf, cubE g), (h0, wkE sc cd), (sc, cubE (redGo 1000 f)), (cd, cubE (if unitB j then candF (redGo 1000 f) j else z))] H := hP
        have hD : va_D AA [(hf, cubE g), (h0, wkE sc cd), (sc, cubE (redGo 1000 f)), (cd, cubE (if unitB j then candF (redGo 1000 f) j else z))] := hD
        subst w_9
        refine bb_eq (tgt := 57) X dX4_makeCanonical_25 (by decide) (fun c_12 => ?_) (fun c_12 => ?_)
        · refine lv_iinc (v := nI (j + 1)) (lv' := [(2, .int (nI (j + 1))), (0, .ref h0), (1, .ref hf)]) X.1 X.2.1 dX4_makeCanonical_57 hl (k := 2) rfl (nI_1 j) (by decide) rfl (fun ls hl => ?_)
          refine lv_goto (tgt := 14) X.1 X.2.1 dX4_makeCanonical_60 (by decide) ?_
          exact ih14  (j + 1) k g (if unitB j then candF (redGo 1000 f) j else z) (by omega) (by rw [← hG, canGo]; simp only [c_12, Bool.and_true, Bool.true_and, Bool.and_false, Bool.false_and, if_true, if_false, Bool.false_eq_true]) (by omega) _ _ _ (hP.sub [1, 2, 3, 0] rfl) (hD.sub [1, 2, 3, 0] rfl rfl) hS (lv_sub hl [1, 2, 0] rfl)
        · rw [if_pos c_12] at hP hD
          refine lv_aload_n X.1 X.2.1 dX4_makeCanonical_28 rfl (lv_at hl 0 rfl) ?_
          refine gf_X4_18 (v := .ref cd) X hP 1 rfl rfl dX4_makeCanonical_29 ?_
          refine fin_i (wr := [(hf, cubE g), (h0, wkE sc cd), (sc, cubE (redGo 1000 f))]) (cv_X4_32 X (c_Cubic_hasReducedHessian l D cI cJ cd (candF (redGo 1000 f) j)  _) rfl rfl dX4_makeCanonical_32 hP hD 3 rfl [3] rfl rfl hl.1 rfl rfl (Nat.le_of_ble_eq_true rfl) ⟨Nat.le_of_ble_eq_true rfl, Nat.le_of_ble_eq_true rfl⟩ ⟨Nat.le_of_ble_eq_true rfl, Nat.le_of_ble_eq_true rfl⟩) hP hD hS hA [3] [0, 1, 2] rfl rfl rfl (by decide) (fun r_15 u_14 H locs w_13 hP hD hS => ?_)
          have hP : va_P D vwCl [(hf, cubE g), (h0, wkE sc cd), (sc, cubE (redGo 1000 f)), (cd, cubE (candF (redGo 1000 f) j))] H := hP
          have hD : va_D AA [(hf, cubE g), (h0, wkE sc cd), (sc, cubE (redGo 1000 f)), (cd, cubE (candF (redGo 1000 f) j))] := hD
          subst w_13
          refine bb_eq (tgt := 57) X dX4_makeCanonical_35 (by decide) (fun c_16 => ?_) (fun c_16 => ?_)
          · refine lv_iinc (v := nI (j + 1)) (lv' := [(2, .int (nI (j + 1))), (0, .ref h0), (1, .ref hf)]) X.1 X.2.1 dX4_makeCanonical_57 hl (k := 2) rfl (nI_1 j) (by decide) rfl (fun ls hl => ?_)
            refine lv_goto (tgt := 14) X.1 X.2.1 dX4_makeCanonical_60 (by decide) ?_
            exact ih14  (j + 1) k g (candF (redGo 1000 f) j) (by omega) (by rw [← hG, canGo]; simp only [c_12, c_16, Bool.and_true, Bool.true_and, Bool.and_false, Bool.false_and, if_true, if_false, Bool.false_eq_true]) (by omega) _ _ _ (hP.sub [1, 2, 3, 0] rfl) (hD.sub [1, 2, 3, 0] rfl rfl) hS (lv_sub hl [1, 2, 0] rfl)
          · refine lv_aload_n X.1 X.2.1 dX4_makeCanonical_38 rfl (lv_at hl 0 rfl) ?_
            refine gf_X4_18 (v := .ref cd) X hP 1 rfl rfl dX4_makeCanonical_39 ?_
            refine lv_aload_n X.1 X.2.1 dX4_makeCanonical_42 rfl (lv_at hl 1 rfl) ?_
            refine fin_i (wr := [(h0, wkE sc cd), (sc, cubE (redGo 1000 f))]) (cv_X4_36 X (c_Cubic_isBefore l D cI cJ cd (candF (redGo 1000 f) j) hf g  _) rfl rfl dX4_makeCanonical_43 hP hD 3 rfl [3, 0] rfl rfl hl.1 rfl rfl (Nat.le_of_ble_eq_true rfl) ⟨Nat.le_of_ble_eq_true rfl, Nat.le_of_ble_eq_true rfl⟩ ⟨Nat.le_of_ble_eq_true rfl, Nat.le_of_ble_eq_true rfl⟩) hP hD hS hA [3, 0] [1, 2] rfl rfl rfl (by decide) (fun r_19 u_18 H locs w_17 hP hD hS => ?_)
            have hP : va_P D vwCl [(h0, wkE sc cd), (sc, cubE (redGo 1000 f)), (cd, cubE (candF (redGo 1000 f) j)), (hf, cubE g)] H := hP
            have hD : va_D AA [(h0, wkE sc cd), (sc, cubE (redGo 1000 f)), (cd, cubE (candF (redGo 1000 f) j)), (hf, cubE g)] := hD
            subst w_17
            refine bb_eq (tgt := 57) X dX4_makeCanonical_46 (by decide) (fun c_20 => ?_) (fun c_20 => ?_)
            · refine lv_iinc (v := nI (j + 1)) (lv' := [(2, .int (nI (j + 1))), (0, .ref h0), (1, .ref hf)]) X.1 X.2.1 dX4_makeCanonical_57 hl (k := 2) rfl (nI_1 j) (by decide) rfl (fun ls hl => ?_)
              refine lv_goto (tgt := 14) X.1 X.2.1 dX4_makeCanonical_60 (by decide) ?_
              exact ih14  (j + 1) k g (candF (redGo 1000 f) j) (by omega) (by rw [← hG, canGo]; simp only [c_12, c_16, c_20, Bool.and_true, Bool.true_and, Bool.and_false, Bool.false_and, if_true, if_false, Bool.false_eq_true]) (by omega) _ _ _ (hP.sub [0, 1, 2, 3] rfl) (hD.sub [0, 1, 2, 3] rfl rfl) hS (lv_sub hl [1, 2, 0] rfl)
            · refine lv_aload_n X.1 X.2.1 dX4_makeCanonical_49 rfl (lv_at hl 1 rfl) ?_
              refine lv_aload_n X.1 X.2.1 dX4_makeCanonical_50 rfl (lv_at hl 0 rfl) ?_
              refine gf_X4_18 (v := .ref cd) X hP 0 rfl rfl dX4_makeCanonical_51 ?_
              refine fin_v (wr := [(h0, wkE sc cd), (sc, cubE (redGo 1000 f))]) (cv_X4_24 X (c_Cubic_copyFrom l D cI cJ hf g cd (candF (redGo 1000 f) j)  _) rfl rfl dX4_makeCanonical_54 hP hD 3 rfl [3, 2] rfl rfl hl.1 rfl rfl (Nat.le_of_ble_eq_true rfl) ⟨Nat.le_of_ble_eq_true rfl, Nat.le_of_ble_eq_true rfl⟩ ⟨Nat.le_of_ble_eq_true rfl, Nat.le_of_ble_eq_true rfl⟩) hP hD hS hA [3, 2] [0, 1] rfl rfl rfl (by decide) (fun u_22 H locs w_21 hP hD hS => ?_)
              have hP : va_P D vwCl [(h0, wkE sc cd), (sc, cubE (redGo 1000 f)), (hf, cubE (candF (redGo 1000 f) j)), (cd, cubE (candF (redGo 1000 f) j))] H := hP
              have hD : va_D AA [(h0, wkE sc cd), (sc, cubE (redGo 1000 f)), (hf, cubE (candF (redGo 1000 f) j)), (cd, cubE (candF (redGo 1000 f) j))] := hD
              refine lv_iinc (v := nI (j + 1)) (lv' := [(2, .int (nI (j + 1))), (0, .ref h0), (1, .ref hf)]) X.1 X.2.1 dX4_makeCanonical_57 hl (k := 2) rfl (nI_1 j) (by decide) rfl (fun ls hl => ?_)
              refine lv_goto (tgt := 14) X.1 X.2.1 dX4_makeCanonical_60 (by decide) ?_
              exact ih14  (j + 1) k (candF (redGo 1000 f) j) (candF (redGo 1000 f) j) (by omega) (by rw [← hG, canGo]; simp only [c_12, c_16, c_20, Bool.and_true, Bool.true_and, Bool.and_false, Bool.false_and, if_true, if_false, Bool.false_eq_true]) (by omega) _ _ _ (hP.sub [0, 1, 3, 2] rfl) (hD.sub [0, 1, 3, 2] rfl rfl) hS (lv_sub hl [1, 2, 0] rfl)
  exact loop14 82 0 81 (redGo 1000 f) b rfl rfl (by decide) _ _ _ (hP.sub [0, 2, 1, 3] rfl) (hD.sub [0, 2, 1, 3] rfl rfl) hS (lv_sub hl [1, 2, 0] rfl)
set_option maxHeartbeats 4000000 in
set_option maxRecDepth 100000 in
theorem c_Wk_countAutomorphisms (l : Launch) (D : va_G) (cI cJ : ClassId) (h0 : Nat) (sc : Nat) (cd : Nat) (a : Fm) (b : Fm) (hf : Nat) (f : Fm)  : CtI l yX4_countAutomorphisms cX4_countAutomorphisms 4 .int (rmk 3 78) D cI cJ [.ref h0, .ref hf] [(h0, wkE sc cd), (sc, cubE a), (cd, cubE b), (hf, cubE f)] (fun (u : Fm × Fm × Fm) => [(h0, wkE sc cd), (sc, cubE u.1), (cd, cubE u.2.1), (hf, cubE u.2.2)]) (fun (r : Int32) (u : Fm × Fm × Fm) => r = nI (sealA 0 f)) := by
  refine CtI.of (own := RX4) (by decide +kernel) (Nat.le_of_ble_eq_true rfl) rfl ?_
  intro pr_ en_ sg_ me_ ar_ be_ mt_ co_ AA ls QQ X hA hP hD hS hl hret
  have hl : lv_has ls 4 [(0, .ref h0), (1, .ref hf)] := hl
  refine lv_aload_n X.1 X.2.1 dX4_countAutomorphisms_0 rfl (lv_at hl 1 rfl) ?_
  refine fin_v (wr := [(h0, wkE sc cd), (sc, cubE a), (cd, cubE b)]) (cv_X4_21 X (c_Cubic_reduceHessian l D cI cJ hf f  _) rfl rfl dX4_countAutomorphisms_1 hP hD 3 rfl [3] rfl rfl hl.1 rfl rfl (Nat.le_of_ble_eq_true rfl) ⟨Nat.le_of_ble_eq_true rfl, Nat.le_of_ble_eq_true rfl⟩ ⟨Nat.le_of_ble_eq_true rfl, Nat.le_of_ble_eq_true rfl⟩) hP hD hS hA [3] [0, 1, 2] rfl rfl rfl (by decide) (fun u_2 H locs w_1 hP hD hS => ?_)
  have hP : va_P D vwCl [(h0, wkE sc cd), (sc, cubE a), (cd, cubE b), (hf, cubE (redGo 1000 f))] H := hP
  have hD : va_D AA [(h0, wkE sc cd), (sc, cubE a), (cd, cubE b), (hf, cubE (redGo 1000 f))] := hD
  refine lv_aload_n X.1 X.2.1 dX4_countAutomorphisms_4 rfl (lv_at hl 0 rfl) ?_
  refine gf_X4_12 (v := .ref sc) X hP 0 rfl rfl dX4_countAutomorphisms_5 ?_
  refine lv_aload_n X.1 X.2.1 dX4_countAutomorphisms_8 rfl (lv_at hl 1 rfl) ?_
  refine fin_v (wr := [(h0, wkE sc cd), (cd, cubE b)]) (cv_X4_24 X (c_Cubic_copyFrom l D cI cJ sc a hf (redGo 1000 f)  _) rfl rfl dX4_countAutomorphisms_9 hP hD 1 rfl [1, 3] rfl rfl hl.1 rfl rfl (Nat.le_of_ble_eq_true rfl) ⟨Nat.le_of_ble_eq_true rfl, Nat.le_of_ble_eq_true rfl⟩ ⟨Nat.le_of_ble_eq_true rfl, Nat.le_of_ble_eq_true rfl⟩) hP hD hS hA [1, 3] [0, 2] rfl rfl rfl (by decide) (fun u_5 H locs w_4 hP hD hS => ?_)
  have hP : va_P D vwCl [(h0, wkE sc cd), (cd, cubE b), (sc, cubE (redGo 1000 f)), (hf, cubE (redGo 1000 f))] H := hP
  have hD : va_D AA [(h0, wkE sc cd), (cd, cubE b), (sc, cubE (redGo 1000 f)), (hf, cubE (redGo 1000 f))] := hD
  refine lv_iconst (v := 0) X.1 X.2.1 dX4_countAutomorphisms_12 (by decide) ?_
  refine lv_istore_n (lv' := [(2, .int 0), (0, .ref h0), (1, .ref hf)]) X.1 X.2.1 dX4_countAutomorphisms_13 rfl hl (by decide) rfl (fun ls hl => ?_)
  refine lv_iconst (v := 0) X.1 X.2.1 dX4_countAutomorphisms_14 (by decide) ?_
  refine lv_istore_n (lv' := [(3, .int 0), (2, .int 0), (0, .ref h0), (1, .ref hf)]) X.1 X.2.1 dX4_countAutomorphisms_15 rfl hl (by decide) rfl (fun ls hl => ?_)
  have loop16 : ∀ (n9 : Nat) (j : Nat) (k : Nat) (a9 : Nat) (z : Fm), (j + k = 81) → (autGo (redGo 1000 f) k j a9 = autGo (redGo 1000 f) 81 0 0) → (k < n9) → ∀ (H : Heap) (locs : List Loc) (ls : Array Slot), va_P D vwCl [(h0, wkE sc cd), (sc, cubE (redGo 1000 f)), (cd, cubE z), (hf, cubE (redGo 1000 f))] H → va_D AA [(h0, wkE sc cd), (sc, cubE (redGo 1000 f)), (cd, cubE z), (hf, cubE (redGo 1000 f))] → va_S AA sg_.heap H locs → lv_has ls 4 [(0, .ref h0), (1, .ref hf), (2, .int (nI a9)), (3, .int (nI j))] → W pr_ l en_ (rmk 3 78) sg_ me_ ar_ be_ mt_ co_ H locs 0 0 QQ (F0 me_ 16 ls []) := by
    intro n9
    induction n9 with
    | zero =>
      intro j k a9 z hk hG hn
      omega
    | succ n16 ih16 =>
      intro j k a9 z hk hG hn H locs ls hP hD hS hl
      refine lv_iload_n X.1 X.2.1 dX4_countAutomorphisms_16 rfl (lv_at hl 3 rfl) ?_
      refine lv_bipush (v := 81) X.1 X.2.1 dX4_countAutomorphisms_17 (by decide) ?_
      refine bi_ge (tgt := 53) X dX4_countAutomorphisms_19 (by decide) (fun c_7 => ?_) (fun c_7 => ?_)
      · have hj : ¬ j < 81 := fun q => c_7 ((nI_ltn (by omega) (by decide) rfl).mpr q)
        obtain rfl : k = 0 := by omega
        refine lv_iload_n X.1 X.2.1 dX4_countAutomorphisms_53 rfl (lv_at hl 2 rfl) ?_
        obtain ⟨g_8, hg_8⟩ : ∃ z9, z9 = redGo 1000 f := ⟨_, rfl⟩
        rw [← hg_8] at hP hD
        exact hret (nI a9) (g_8, z, g_8) _ _ _ _ (by rw [sealA_eq, ← hG]; rfl) rfl (hP.sub [0, 1, 2, 3] rfl) (hD.sub [0, 1, 2, 3] rfl rfl) hS dX4_countAutomorphisms_54
      · have hj : j < 81 := (nI_ltn (by omega) (by decide) rfl).mp c_7
        obtain ⟨k, rfl⟩ : ∃ z, k = z + 1 := ⟨k - 1, by omega⟩
        refine lv_aload_n X.1 X.2.1 dX4_countAutomorphisms_22 rfl (lv_at hl 0 rfl) ?_
        refine lv_iload_n X.1 X.2.1 dX4_countAutomorphisms_23 rfl (lv_at hl 3 rfl) ?_
        refine fin_i (wr := [(hf, cubE (redGo 1000 f))]) (cv_X4_28 X (c_Wk_makeCandidate l D cI cJ h0 sc cd (redGo 1000 f) z j hj _) rfl rfl dX4_countAutomorphisms_24 hP hD 0 rfl [0, 1, 2] rfl rfl hl.1 rfl rfl (Nat.le_of_ble_eq_true rfl) ⟨Nat.le_of_ble_eq_true rfl, Nat.le_of_ble_eq_true rfl⟩ ⟨Nat.le_of_ble_eq_true rfl, Nat.le_of_ble_eq_true rfl⟩) hP hD hS hA [0, 1, 2] [3] rfl rfl rfl (by decide) (fun r_11 u_10 H locs w_9 hP hD hS => ?_)
        have hP : va_P D vwCl [(hf, cubE (redGo 1000 f)), (h0, wkE sc cd), (sc, cubE (redGo 1000 f)), (cd, cubE (if unitB j then candF (redGo 1000 f) j else z))] H := hP
        have hD : va_D AA [(hf, cubE (redGo 1000 f)), (h0, wkE sc cd), (sc, cubE (redGo 1000 f)), (cd, cubE (if unitB j then candF (redGo 1000 f) j else z))] := hD
        subst w_9
        refine bb_eq (tgt := 47) X dX4_countAutomorphisms_27 (by decide) (fun c_12 => ?_) (fun c_12 => ?_)
        · refine lv_iinc (v := nI (j + 1)) (lv' := [(3, .int (nI (j + 1))), (0, .ref h0), (1, .ref hf), (2, .int (nI a9))]) X.1 X.2.1 dX4_countAutomorphisms_47 hl (k := 3) rfl (nI_1 j) (by decide) rfl (fun ls hl => ?_)
          refine lv_goto (tgt := 16) X.1 X.2.1 dX4_countAutomorphisms_50 (by decide) ?_
          exact ih16  (j + 1) k a9 (if unitB j then candF (redGo 1000 f) j else z) (by omega) (by rw [← hG, autGo]; simp only [c_12, Bool.and_true, Bool.true_and, Bool.and_false, Bool.false_and, if_true, if_false, Bool.false_eq_true]) (by omega) _ _ _ (hP.sub [1, 2, 3, 0] rfl) (hD.sub [1, 2, 3, 0] rfl rfl) hS (lv_sub hl [1, 2, 3, 0] rfl)
        · rw [if_pos c_12] at hP hD
          refine lv_aload_n X.1 X.2.1 dX4_countAutomorphisms_30 rfl (lv_at hl 0 rfl) ?_
          refine gf_X4_18 (v := .ref cd) X hP 1 rfl rfl dX4_countAutomorphisms_31 ?_
          refine lv_aload_n X.1 X.2.1 dX4_countAutomorphisms_34 rfl (lv_at hl 0 rfl) ?_
          refine gf_X4_12 (v := .ref sc) X hP 1 rfl rfl dX4_countAutomorphisms_35 ?_
          refine fin_i (wr := [(hf, cubE (redGo 1000 f)), (h0, wkE sc cd)]) (cv_X4_40 X (c_Cubic_isSameAs l D cI cJ cd (candF (redGo 1000 f) j) sc (redGo 1000 f)  _) rfl rfl dX4_countAutomorphisms_38 hP hD 3 rfl [3, 2] rfl rfl hl.1 rfl rfl (Nat.le_of_ble_eq_true rfl) ⟨Nat.le_of_ble_eq_true rfl, Nat.le_of_ble_eq_true rfl⟩ ⟨Nat.le_of_ble_eq_true rfl, Nat.le_of_ble_eq_true rfl⟩) hP hD hS hA [3, 2] [0, 1] rfl rfl rfl (by decide) (fun r_15 u_14 H locs w_13 hP hD hS => ?_)
          have hP : va_P D vwCl [(hf, cubE (redGo 1000 f)), (h0, wkE sc cd), (cd, cubE (candF (redGo 1000 f) j)), (sc, cubE (redGo 1000 f))] H := hP
          have hD : va_D AA [(hf, cubE (redGo 1000 f)), (h0, wkE sc cd), (cd, cubE (candF (redGo 1000 f) j)), (sc, cubE (redGo 1000 f))] := hD
          subst w_13
          refine bb_eq (tgt := 47) X dX4_countAutomorphisms_41 (by decide) (fun c_16 => ?_) (fun c_16 => ?_)
          · refine lv_iinc (v := nI (j + 1)) (lv' := [(3, .int (nI (j + 1))), (0, .ref h0), (1, .ref hf), (2, .int (nI a9))]) X.1 X.2.1 dX4_countAutomorphisms_47 hl (k := 3) rfl (nI_1 j) (by decide) rfl (fun ls hl => ?_)
            refine lv_goto (tgt := 16) X.1 X.2.1 dX4_countAutomorphisms_50 (by decide) ?_
            exact ih16  (j + 1) k a9 (candF (redGo 1000 f) j) (by omega) (by rw [← hG, autGo]; simp only [c_12, c_16, Bool.and_true, Bool.true_and, Bool.and_false, Bool.false_and, if_true, if_false, Bool.false_eq_true]) (by omega) _ _ _ (hP.sub [1, 3, 2, 0] rfl) (hD.sub [1, 3, 2, 0] rfl rfl) hS (lv_sub hl [1, 2, 3, 0] rfl)
          · refine lv_iinc (v := nI (a9 + 1)) (lv' := [(2, .int (nI (a9 + 1))), (0, .ref h0), (1, .ref hf), (3, .int (nI j))]) X.1 X.2.1 dX4_countAutomorphisms_44 hl (k := 2) rfl (nI_1 a9) (by decide) rfl (fun ls hl => ?_)
            refine lv_iinc (v := nI (j + 1)) (lv' := [(3, .int (nI (j + 1))), (2, .int (nI (a9 + 1))), (0, .ref h0), (1, .ref hf)]) X.1 X.2.1 dX4_countAutomorphisms_47 hl (k := 3) rfl (nI_1 j) (by decide) rfl (fun ls hl => ?_)
            refine lv_goto (tgt := 16) X.1 X.2.1 dX4_countAutomorphisms_50 (by decide) ?_
            exact ih16  (j + 1) k (a9 + 1) (candF (redGo 1000 f) j) (by omega) (by rw [← hG, autGo]; simp only [c_12, c_16, Bool.and_true, Bool.true_and, Bool.and_false, Bool.false_and, if_true, if_false, Bool.false_eq_true]) (by omega) _ _ _ (hP.sub [1, 3, 2, 0] rfl) (hD.sub [1, 3, 2, 0] rfl rfl) hS (lv_sub hl [2, 3, 1, 0] rfl)
  exact loop16 82 0 81 0 b rfl rfl (by decide) _ _ _ (hP.sub [0, 2, 1, 3] rfl) (hD.sub [0, 2, 1, 3] rfl rfl) hS (lv_sub hl [2, 3, 1, 0] rfl)
set_option maxHeartbeats 4000000 in
set_option maxRecDepth 100000 in
theorem c_Wk_splittingCode (l : Launch) (D : va_G) (cI cJ : ClassId) (h0 : Nat) (sc : Nat) (cd : Nat) (a : Fm) (b : Fm) (hf : Nat) (f : Fm) (P : Nat) (h2 : 2 ≤ P) (h9 : P ≤ 997) : CtI l yX4_splittingCode cX4_splittingCode 6 .int (rmk 2 52) D cI cJ [.ref h0, .ref hf, .int (nI P)] [(h0, wkE sc cd), (sc, cubE a), (cd, cubE b), (hf, cubE f)] (fun (u : Fm) => [(h0, wkE sc cd), (sc, cubE a), (cd, cubE u), (hf, cubE f)]) (fun (r : Int32) (u : Fm) => r = splC f P) := by
  refine CtI.of (own := RX4) (by decide +kernel) (Nat.le_of_ble_eq_true rfl) rfl ?_
  intro pr_ en_ sg_ me_ ar_ be_ mt_ co_ AA ls QQ X hA hP hD hS hl hret
  have hl : lv_has ls 6 [(0, .ref h0), (1, .ref hf), (2, .int (nI P))] := hl
  refine lv_iload_n X.1 X.2.1 dX4_splittingCode_0 rfl (lv_at hl 2 rfl) ?_
  refine bz_le (tgt := 12) X dX4_splittingCode_1 (by decide) (fun c_1 => absurd c_1 (not_not_intro ((nI_ltI (a := 0) (by decide) (by omega)).mpr (by omega)))) (fun c_1 => ?_)
  refine lv_aload_n X.1 X.2.1 dX4_splittingCode_4 rfl (lv_at hl 1 rfl) ?_
  refine lv_iload_n X.1 X.2.1 dX4_splittingCode_5 rfl (lv_at hl 2 rfl) ?_
  refine fin_i (wr := [(h0, wkE sc cd), (sc, cubE a), (cd, cubE b)]) (cv_X4_53 X (c_Cubic_isMultipleOf l D cI cJ hf f P (by first | assumption | omega) (by first | assumption | omega) _) rfl rfl dX4_splittingCode_6 hP hD 3 rfl [3] rfl rfl hl.1 rfl rfl (Nat.le_of_ble_eq_true rfl) ⟨Nat.le_of_ble_eq_true rfl, Nat.le_of_ble_eq_true rfl⟩ ⟨Nat.le_of_ble_eq_true rfl, Nat.le_of_ble_eq_true rfl⟩) hP hD hS hA [3] [0, 1, 2] rfl rfl rfl (by decide) (fun r_4 u_3 H locs w_2 hP hD hS => ?_)
  have hP : va_P D vwCl [(h0, wkE sc cd), (sc, cubE a), (cd, cubE b), (hf, cubE f)] H := hP
  have hD : va_D AA [(h0, wkE sc cd), (sc, cubE a), (cd, cubE b), (hf, cubE f)] := hD
  subst w_2
  refine bb_eq (tgt := 14) X dX4_splittingCode_9 (by decide) (fun c_5 => ?_) (fun c_5 => ?_)
  · have e1 : splC f P = splF (splGo f P (P + 1) 0 0 false).1 (splGo f P (P + 1) 0 0 false).2 := by rw [splC, if_neg (by rw [c_5]; decide)]
    refine lv_iconst (v := 0) X.1 X.2.1 dX4_splittingCode_14 (by decide) ?_
    refine lv_istore_n (lv' := [(3, .int 0), (0, .ref h0), (1, .ref hf), (2, .int (nI P))]) X.1 X.2.1 dX4_splittingCode_15 rfl hl (by decide) rfl (fun ls hl => ?_)
    refine lv_iconst (v := 0) X.1 X.2.1 dX4_splittingCode_16 (by decide) ?_
    refine lv_istore (lv' := [(4, .int 0), (3, .int 0), (0, .ref h0), (1, .ref hf), (2, .int (nI P))]) X.1 X.2.1 dX4_splittingCode_17 hl (by decide) rfl (fun ls hl => ?_)
    refine lv_iconst (v := 0) X.1 X.2.1 dX4_splittingCode_19 (by decide) ?_
    refine lv_istore (lv' := [(5, .int 0), (4, .int 0), (3, .int 0), (0, .ref h0), (1, .ref hf), (2, .int (nI P))]) X.1 X.2.1 dX4_splittingCode_20 hl (by decide) rfl (fun ls hl => ?_)
    have loop22 : ∀ (n9 : Nat) (t : Nat) (k : Nat) (a9 : Nat) (b9 : Bool) (z : Fm), (t + k = P + 1) → (a9 ≤ t) → (splGo f P k t a9 b9 = splGo f P (P + 1) 0 0 false) → (k < n9) → ∀ (H : Heap) (locs : List Loc) (ls : Array Slot), va_P D vwCl [(h0, wkE sc cd), (sc, cubE a), (cd, cubE z), (hf, cubE f)] H → va_D AA [(h0, wkE sc cd), (sc, cubE a), (cd, cubE z), (hf, cubE f)] → va_S AA sg_.heap H locs → lv_has ls 6 [(0, .ref h0), (1, .ref hf), (2, .int (nI P)), (3, .int (nI a9)), (4, .int (bI b9)), (5, .int (nI t))] → W pr_ l en_ (rmk 2 52) sg_ me_ ar_ be_ mt_ co_ H locs 0 0 QQ (F0 me_ 22 ls []) := by
      intro n9
      induction n9 with
      | zero =>
        intro t k a9 b9 z hk ha9 hG hn
        omega
      | succ n22 ih22 =>
        intro t k a9 b9 z hk ha9 hG hn H locs ls hP hD hS hl
        refine lv_iload X.1 X.2.1 dX4_splittingCode_22 (lv_at hl 5 rfl) ?_
        refine lv_iload_n X.1 X.2.1 dX4_splittingCode_24 rfl (lv_at hl 2 rfl) ?_
        refine bi_gt (tgt := 91) X dX4_splittingCode_25 (by decide) (fun c_6 => ?_) (fun c_6 => ?_)
        · have ht : P < t := (nI_ltI (by omega) (by omega)).mp c_6
          obtain rfl : k = 0 := by omega
          have hG : (a9, b9) = splGo f P (P + 1) 0 0 false := hG
          refine lv_iload X.1 X.2.1 dX4_splittingCode_91 (lv_at hl 4 rfl) ?_
          refine bb_eq (tgt := 109) X dX4_splittingCode_93 (by decide) (fun c_7 => ?_) (fun c_7 => ?_)
          · refine lv_iload_n X.1 X.2.1 dX4_splittingCode_109 rfl (lv_at hl 3 rfl) ?_
            refine bz_ne (tgt := 115) X dX4_splittingCode_110 (by decide) (fun c_8 => ?_) (fun c_8 => ?_)
            · refine lv_iload_n X.1 X.2.1 dX4_splittingCode_115 rfl (lv_at hl 3 rfl) ?_
              refine lv_iconst (v := 1) X.1 X.2.1 dX4_splittingCode_116 (by decide) ?_
              refine bi_ne (tgt := 125) X dX4_splittingCode_117 (by decide) (fun c_9 => ?_) (fun c_9 => ?_)
              · refine lv_bipush (v := 111) X.1 X.2.1 dX4_splittingCode_125 (by decide) ?_
                exact hret 111 z _ _ _ _ (by rw [e1, ← hG, splF, if_neg (show ¬ b9 = true from by rw [c_7]; exact Bool.false_ne_true), if_neg (show ¬ a9 = 0 from fun q => c_8 ((nI_eq (b := 0) (by omega) (by decide)).mpr q)), if_neg (show ¬ a9 = 1 from fun q => c_9 ((nI_eq (b := 1) (by omega) (by decide)).mpr q))]) rfl (hP.sub [0, 1, 2, 3] rfl) (hD.sub [0, 1, 2, 3] rfl rfl) hS dX4_splittingCode_127
              · refine lv_bipush (v := 21) X.1 X.2.1 dX4_splittingCode_120 (by decide) ?_
                refine lv_goto (tgt := 127) X.1 X.2.1 dX4_splittingCode_122 (by decide) ?_
                exact hret 21 z _ _ _ _ (by rw [e1, ← hG, splF, if_neg (show ¬ b9 = true from by rw [c_7]; exact Bool.false_ne_true), if_neg (show ¬ a9 = 0 from fun q => c_8 ((nI_eq (b := 0) (by omega) (by decide)).mpr q)), if_pos (show a9 = 1 from (nI_eq (b := 1) (by omega) (by decide)).mp c_9)]) rfl (hP.sub [0, 1, 2, 3] rfl) (hD.sub [0, 1, 2, 3] rfl rfl) hS dX4_splittingCode_127
            · refine lv_iconst (v := 3) X.1 X.2.1 dX4_splittingCode_113 (by decide) ?_
              exact hret 3 z _ _ _ _ (by rw [e1, ← hG, splF, if_neg (show ¬ b9 = true from by rw [c_7]; exact Bool.false_ne_true), if_pos (show a9 = 0 from (nI_eq (b := 0) (by omega) (by decide)).mp c_8)]) rfl (hP.sub [0, 1, 2, 3] rfl) (hD.sub [0, 1, 2, 3] rfl rfl) hS dX4_splittingCode_114
          · refine lv_iload_n X.1 X.2.1 dX4_splittingCode_96 rfl (lv_at hl 3 rfl) ?_
            refine lv_iconst (v := 1) X.1 X.2.1 dX4_splittingCode_97 (by decide) ?_
            refine bi_le (tgt := 106) X dX4_splittingCode_98 (by decide) (fun c_10 => ?_) (fun c_10 => ?_)
            · refine lv_bipush (v := 13) X.1 X.2.1 dX4_splittingCode_106 (by decide) ?_
              exact hret 13 z _ _ _ _ (by rw [e1, ← hG, splF, if_pos (show b9 = true from c_7), if_neg (show ¬ 1 < a9 from fun q => c_10 ((nI_ltI (a := 1) (by decide) (by omega)).mpr q))]) rfl (hP.sub [0, 1, 2, 3] rfl) (hD.sub [0, 1, 2, 3] rfl rfl) hS dX4_splittingCode_108
            · refine lv_bipush (v := 121) X.1 X.2.1 dX4_splittingCode_101 (by decide) ?_
              refine lv_goto (tgt := 108) X.1 X.2.1 dX4_splittingCode_103 (by decide) ?_
              exact hret 121 z _ _ _ _ (by rw [e1, ← hG, splF, if_pos (show b9 = true from c_7), if_pos (show 1 < a9 from (nI_ltI (a := 1) (by decide) (by omega)).mp c_10)]) rfl (hP.sub [0, 1, 2, 3] rfl) (hD.sub [0, 1, 2, 3] rfl rfl) hS dX4_splittingCode_108
        · have ht : ¬ P < t := fun q => c_6 ((nI_ltI (by omega) (by omega)).mpr q)
          obtain ⟨k, rfl⟩ : ∃ z, k = z + 1 := ⟨k - 1, by omega⟩
          refine lv_aload_n X.1 X.2.1 dX4_splittingCode_28 rfl (lv_at hl 0 rfl) ?_
          refine gf_X4_18 (v := .ref cd) X hP 0 rfl rfl dX4_splittingCode_29 ?_
          refine lv_aload_n X.1 X.2.1 dX4_splittingCode_32 rfl (lv_at hl 1 rfl) ?_
          refine lv_iload_n X.1 X.2.1 dX4_splittingCode_33 rfl (lv_at hl 2 rfl) ?_
          refine lv_iload X.1 X.2.1 dX4_splittingCode_34 (lv_at hl 5 rfl) ?_
          refine lv_i2l (v := lN t) X.1 X.2.1 dX4_splittingCode_36 (nI_l (by omega)) ?_
          refine fin_v (wr := [(h0, wkE sc cd), (sc, cubE a)]) (cv_X4_56 X (c_Cubic_becomeAtPoint l D cI cJ cd z hf f P (lN t) (by first | assumption | omega) (by first | assumption | omega) _) rfl rfl dX4_splittingCode_37 hP hD 2 rfl [2, 3] rfl rfl hl.1 rfl rfl (Nat.le_of_ble_eq_true rfl) ⟨Nat.le_of_ble_eq_true rfl, Nat.le_of_ble_eq_true rfl⟩ ⟨Nat.le_of_ble_eq_true rfl, Nat.le_of_ble_eq_true rfl⟩) hP hD hS hA [2, 3] [0, 1] rfl rfl rfl (by decide) (fun u_12 H locs w_11 hP hD hS => ?_)
          have hP : va_P D vwCl [(h0, wkE sc cd), (sc, cubE a), (cd, cubE (ptF f (lN P) (lN t))), (hf, cubE f)] H := hP
          have hD : va_D AA [(h0, wkE sc cd), (sc, cubE a), (cd, cubE (ptF f (lN P) (lN t))), (hf, cubE f)] := hD
          refine lv_aload_n X.1 X.2.1 dX4_splittingCode_40 rfl (lv_at hl 0 rfl) ?_
          refine gf_X4_18 (v := .ref cd) X hP 0 rfl rfl dX4_splittingCode_41 ?_
          refine gf_X4_60 (v := .long ((ptF f (lN P) (lN t)).1)) X hP 2 rfl rfl dX4_splittingCode_44 ?_
          refine lv_iload_n X.1 X.2.1 dX4_splittingCode_47 rfl (lv_at hl 2 rfl) ?_
          refine lv_i2l (v := lN P) X.1 X.2.1 dX4_splittingCode_48 (nI_l (by omega)) ?_
          refine lv_lrem X.1 X.2.1 dX4_splittingCode_49 (lN_ne0 (by omega) (by omega)) ?_
          refine lv_lconst (v := 0) X.1 X.2.1 dX4_splittingCode_50 (by decide) ?_
          refine bl_ne (tgt := 85) X dX4_splittingCode_51 dX4_splittingCode_52 (by decide) (fun c_14 => ?_) (fun c_14 => ?_)
          · refine lv_iinc (v := nI (t + 1)) (lv' := [(5, .int (nI (t + 1))), (0, .ref h0), (1, .ref hf), (2, .int (nI P)), (3, .int (nI a9)), (4, .int (bI b9))]) X.1 X.2.1 dX4_splittingCode_85 hl (k := 5) rfl (nI_1 t) (by decide) rfl (fun ls hl => ?_)
            refine lv_goto (tgt := 22) X.1 X.2.1 dX4_splittingCode_88 (by decide) ?_
            exact ih22  (t + 1) k a9 b9 (ptF f (lN P) (lN t)) (by omega) (by omega) (by rw [← hG, splGo, if_neg (show ¬ remL _ _ = 0 from c_14)]) (by omega) _ _ _ (hP.sub [0, 1, 2, 3] rfl) (hD.sub [0, 1, 2, 3] rfl rfl) hS (lv_sub hl [1, 2, 3, 4, 5, 0] rfl)
          · refine lv_iinc (v := nI (a9 + 1)) (lv' := [(3, .int (nI (a9 + 1))), (0, .ref h0), (1, .ref hf), (2, .int (nI P)), (4, .int (bI b9)), (5, .int (nI t))]) X.1 X.2.1 dX4_splittingCode_55 hl (k := 3) rfl (nI_1 a9) (by decide) rfl (fun ls hl => ?_)
            refine lv_iload X.1 X.2.1 dX4_splittingCode_58 (lv_at hl 4 rfl) ?_
            refine bb_ne (tgt := 78) X dX4_splittingCode_60 (by decide) (fun c_15 => ?_) (fun c_15 => ?_)
            · refine lv_iconst (v := 1) X.1 X.2.1 dX4_splittingCode_78 (by decide) ?_
              refine lv_goto (tgt := 83) X.1 X.2.1 dX4_splittingCode_79 (by decide) ?_
              refine lv_istore (lv' := [(4, .int 1), (3, .int (nI (a9 + 1))), (0, .ref h0), (1, .ref hf), (2, .int (nI P)), (5, .int (nI t))]) X.1 X.2.1 dX4_splittingCode_83 hl (by decide) rfl (fun ls hl => ?_)
              refine lv_iinc (v := nI (t + 1)) (lv' := [(5, .int (nI (t + 1))), (4, .int 1), (3, .int (nI (a9 + 1))), (0, .ref h0), (1, .ref hf), (2, .int (nI P))]) X.1 X.2.1 dX4_splittingCode_85 hl (k := 5) rfl (nI_1 t) (by decide) rfl (fun ls hl => ?_)
              refine lv_goto (tgt := 22) X.1 X.2.1 dX4_splittingCode_88 (by decide) ?_
              exact ih22  (t + 1) k (a9 + 1) true (ptF f (lN P) (lN t)) (by omega) (by omega) (by rw [← hG, splGo, if_pos (show remL _ _ = 0 from c_14), c_15, Bool.true_or]) (by omega) _ _ _ (hP.sub [0, 1, 2, 3] rfl) (hD.sub [0, 1, 2, 3] rfl rfl) hS (lv_sub hl [3, 4, 5, 2, 1, 0] rfl)
            · refine lv_aload_n X.1 X.2.1 dX4_splittingCode_63 rfl (lv_at hl 1 rfl) ?_
              refine gf_X4_18 (v := .ref cd) X hP 0 rfl rfl dX4_splittingCode_64 ?_
              refine gf_X4_64 (v := .long ((ptF f (lN P) (lN t)).2.1)) X hP 2 rfl rfl dX4_splittingCode_67 ?_
              refine lv_iload_n X.1 X.2.1 dX4_splittingCode_70 rfl (lv_at hl 3 rfl) ?_
              refine lv_i2l (v := lN P) X.1 X.2.1 dX4_splittingCode_71 (nI_l (by omega)) ?_
              refine lv_lrem X.1 X.2.1 dX4_splittingCode_72 (lN_ne0 (by omega) (by omega)) ?_
              refine lv_lconst (v := 0) X.1 X.2.1 dX4_splittingCode_73 (by decide) ?_
              refine bl_ne (tgt := 82) X dX4_splittingCode_74 dX4_splittingCode_75 (by decide) (fun c_16 => ?_) (fun c_16 => ?_)
              · refine lv_iconst (v := 0) X.1 X.2.1 dX4_splittingCode_82 (by decide) ?_
                refine lv_istore (lv' := [(4, .int 0), (3, .int (nI (a9 + 1))), (0, .ref h0), (1, .ref hf), (2, .int (nI P)), (5, .int (nI t))]) X.1 X.2.1 dX4_splittingCode_83 hl (by decide) rfl (fun ls hl => ?_)
                refine lv_iinc (v := nI (t + 1)) (lv' := [(5, .int (nI (t + 1))), (4, .int 0), (3, .int (nI (a9 + 1))), (0, .ref h0), (1, .ref hf), (2, .int (nI P))]) X.1 X.2.1 dX4_splittingCode_85 hl (k := 5) rfl (nI_1 t) (by decide) rfl (fun ls hl => ?_)
                refine lv_goto (tgt := 22) X.1 X.2.1 dX4_splittingCode_88 (by decide) ?_
                exact ih22  (t + 1) k (a9 + 1) false (ptF f (lN P) (lN t)) (by omega) (by omega) (by rw [← hG, splGo, if_pos (show remL _ _ = 0 from c_14), c_15, Bool.false_or, show decide (remL _ _ = 0) = false from decide_eq_false c_16]) (by omega) _ _ _ (hP.sub [0, 1, 2, 3] rfl) (hD.sub [0, 1, 2, 3] rfl rfl) hS (lv_sub hl [3, 4, 5, 2, 1, 0] rfl)
              · refine lv_iconst (v := 1) X.1 X.2.1 dX4_splittingCode_78 (by decide) ?_
                refine lv_goto (tgt := 83) X.1 X.2.1 dX4_splittingCode_79 (by decide) ?_
                refine lv_istore (lv' := [(4, .int 1), (3, .int (nI (a9 + 1))), (0, .ref h0), (1, .ref hf), (2, .int (nI P)), (5, .int (nI t))]) X.1 X.2.1 dX4_splittingCode_83 hl (by decide) rfl (fun ls hl => ?_)
                refine lv_iinc (v := nI (t + 1)) (lv' := [(5, .int (nI (t + 1))), (4, .int 1), (3, .int (nI (a9 + 1))), (0, .ref h0), (1, .ref hf), (2, .int (nI P))]) X.1 X.2.1 dX4_splittingCode_85 hl (k := 5) rfl (nI_1 t) (by decide) rfl (fun ls hl => ?_)
                refine lv_goto (tgt := 22) X.1 X.2.1 dX4_splittingCode_88 (by decide) ?_
                exact ih22  (t + 1) k (a9 + 1) true (ptF f (lN P) (lN t)) (by omega) (by omega) (by rw [← hG, splGo, if_pos (show remL _ _ = 0 from c_14), c_15, Bool.false_or, show decide (remL _ _ = 0) = true from decide_eq_true c_16]) (by omega) _ _ _ (hP.sub [0, 1, 2, 3] rfl) (hD.sub [0, 1, 2, 3] rfl rfl) hS (lv_sub hl [3, 4, 5, 2, 1, 0] rfl)
    exact loop22 (P + 2) 0 (P + 1) 0 false b (by omega) (Nat.le_refl 0) rfl (by omega) _ _ _ (hP.sub [0, 1, 2, 3] rfl) (hD.sub [0, 1, 2, 3] rfl rfl) hS (lv_sub hl [3, 4, 5, 2, 1, 0] rfl)
  · refine lv_iconst (v := 0) X.1 X.2.1 dX4_splittingCode_12 (by decide) ?_
    exact hret 0 b _ _ _ _ (by rw [splC, if_pos c_5]) rfl (hP.sub [0, 1, 2, 3] rfl) (hD.sub [0, 1, 2, 3] rfl rfl) hS dX4_splittingCode_13
set_option maxHeartbeats 4000000 in
set_option maxRecDepth 100000 in
theorem c_Wk_growAt (l : Launch) (D : va_G) (cI cJ : ClassId) (h0 : Nat) (sc : Nat) (cd : Nat) (a : Fm) (b : Fm) (hf : Nat) (f : Fm) (P : Nat) (h2 : 2 ≤ P) (h9 : P ≤ 997) : CtI l yX4_growAt cX4_growAt 3 .boolean (rmk 3 77) D cI cJ [.ref h0, .ref hf, .int (nI P)] [(h0, wkE sc cd), (sc, cubE a), (cd, cubE b), (hf, cubE f)] (fun (u : Fm) => [(h0, wkE sc cd), (sc, cubE a), (cd, cubE u), (hf, cubE ((ovC f P).getD f))]) (fun (r : Int32) (u : Fm) => r = bI ((ovC f P).isSome)) := by
  refine CtI.of (own := RX4) (by decide +kernel) (Nat.le_of_ble_eq_true rfl) rfl ?_
  intro pr_ en_ sg_ me_ ar_ be_ mt_ co_ AA ls QQ X hA hP hD hS hl hret
  have hl : lv_has ls 3 [(0, .ref h0), (1, .ref hf), (2, .int (nI P))] := hl
  refine lv_aload_n X.1 X.2.1 dX4_growAt_0 rfl (lv_at hl 0 rfl) ?_
  refine gf_X4_18 (v := .ref cd) X hP 0 rfl rfl dX4_growAt_1 ?_
  refine lv_aload_n X.1 X.2.1 dX4_growAt_4 rfl (lv_at hl 1 rfl) ?_
  refine lv_iload_n X.1 X.2.1 dX4_growAt_5 rfl (lv_at hl 2 rfl) ?_
  refine fin_i (wr := [(h0, wkE sc cd), (sc, cubE a)]) (cv_X4_67 X (c_Cubic_becomeOverring l D cI cJ cd b hf f P (by first | assumption | omega) (by first | assumption | omega) _) rfl rfl dX4_growAt_6 hP hD 2 rfl [2, 3] rfl rfl hl.1 rfl rfl (Nat.le_of_ble_eq_true rfl) ⟨Nat.le_of_ble_eq_true rfl, Nat.le_of_ble_eq_true rfl⟩ ⟨Nat.le_of_ble_eq_true rfl, Nat.le_of_ble_eq_true rfl⟩) hP hD hS hA [2, 3] [0, 1] rfl rfl rfl (by decide) (fun r_3 u_2 H locs w_1 hP hD hS => ?_)
  have hP : va_P D vwCl [(h0, wkE sc cd), (sc, cubE a), (cd, cubE u_2), (hf, cubE f)] H := hP
  have hD : va_D AA [(h0, wkE sc cd), (sc, cubE a), (cd, cubE u_2), (hf, cubE f)] := hD
  obtain ⟨rfl, w_1⟩ := w_1
  refine bb_ne (tgt := 14) X dX4_growAt_9 (by decide) (fun c_4 => ?_) (fun c_4 => ?_)
  · refine lv_aload_n X.1 X.2.1 dX4_growAt_14 rfl (lv_at hl 1 rfl) ?_
    refine lv_aload_n X.1 X.2.1 dX4_growAt_15 rfl (lv_at hl 0 rfl) ?_
    refine gf_X4_18 (v := .ref cd) X hP 0 rfl rfl dX4_growAt_16 ?_
    refine fin_v (wr := [(h0, wkE sc cd), (sc, cubE a)]) (cv_X4_24 X (c_Cubic_copyFrom l D cI cJ hf f cd u_2  _) rfl rfl dX4_growAt_19 hP hD 3 rfl [3, 2] rfl rfl hl.1 rfl rfl (Nat.le_of_ble_eq_true rfl) ⟨Nat.le_of_ble_eq_true rfl, Nat.le_of_ble_eq_true rfl⟩ ⟨Nat.le_of_ble_eq_true rfl, Nat.le_of_ble_eq_true rfl⟩) hP hD hS hA [3, 2] [0, 1] rfl rfl rfl (by decide) (fun u_6 H locs w_5 hP hD hS => ?_)
    have hP : va_P D vwCl [(h0, wkE sc cd), (sc, cubE a), (hf, cubE u_2), (cd, cubE u_2)] H := hP
    have hD : va_D AA [(h0, wkE sc cd), (sc, cubE a), (hf, cubE u_2), (cd, cubE u_2)] := hD
    obtain ⟨z0, hz0⟩ := Option.isSome_iff_exists.mp c_4
    have e0 : u_2 = (ovC f P).getD f := by rw [w_1 z0 hz0, hz0]; rfl
    rw [e0] at hP hD
    refine lv_iconst (v := 1) X.1 X.2.1 dX4_growAt_22 (by decide) ?_
    exact hret 1 ((ovC f P).getD f) _ _ _ _ (by rw [c_4]; rfl) rfl (hP.sub [0, 1, 3, 2] rfl) (hD.sub [0, 1, 3, 2] rfl rfl) hS dX4_growAt_23
  · rw [show f = (ovC f P).getD f from by rw [isSome_f c_4]; rfl] at hP hD
    refine lv_iconst (v := 0) X.1 X.2.1 dX4_growAt_12 (by decide) ?_
    exact hret 0 u_2 _ _ _ _ (by rw [c_4]; rfl) rfl (hP.sub [0, 1, 2, 3] rfl) (hD.sub [0, 1, 2, 3] rfl rfl) hS dX4_growAt_13
set_option maxHeartbeats 4000000 in
set_option maxRecDepth 100000 in
theorem c_Wk_growAtLeastPrime (l : Launch) (D : va_G) (cI cJ : ClassId) (h0 : Nat) (sc : Nat) (cd : Nat) (a : Fm) (b : Fm) (hf : Nat) (f : Fm)  : CtI l yX4_growAtLeastPrime cX4_growAtLeastPrime 5 .boolean (rmk 3 77) D cI cJ [.ref h0, .ref hf] [(h0, wkE sc cd), (sc, cubE a), (cd, cubE b), (hf, cubE f)] (fun (u : Fm) => [(h0, wkE sc cd), (sc, cubE a), (cd, cubE u), (hf, cubE ((glpC f).getD f))]) (fun (r : Int32) (u : Fm) => r = bI ((glpC f).isSome)) := by
  refine CtI.of (own := RX4) (by decide +kernel) (Nat.le_of_ble_eq_true rfl) rfl ?_
  intro pr_ en_ sg_ me_ ar_ be_ mt_ co_ AA ls QQ X hA hP hD hS hl hret
  have hl : lv_has ls 5 [(0, .ref h0), (1, .ref hf)] := hl
  refine lv_aload_n X.1 X.2.1 dX4_growAtLeastPrime_0 rfl (lv_at hl 1 rfl) ?_
  refine fin_l (wr := [(h0, wkE sc cd), (sc, cubE a), (cd, cubE b)]) (cv_X4_71 X (c_Cubic_disc l D cI cJ hf f  _) rfl rfl dX4_growAtLeastPrime_1 hP hD 3 rfl [3] rfl rfl hl.1 rfl rfl (Nat.le_of_ble_eq_true rfl) ⟨Nat.le_of_ble_eq_true rfl, Nat.le_of_ble_eq_true rfl⟩ ⟨Nat.le_of_ble_eq_true rfl, Nat.le_of_ble_eq_true rfl⟩) hP hD hS hA [3] [0, 1, 2] rfl rfl rfl (by decide) (fun r_3 u_2 H locs w_1 hP hD hS => ?_)
  have hP : va_P D vwCl [(h0, wkE sc cd), (sc, cubE a), (cd, cubE b), (hf, cubE f)] H := hP
  have hD : va_D AA [(h0, wkE sc cd), (sc, cubE a), (cd, cubE b), (hf, cubE f)] := hD
  subst w_1
  refine lv_lstore_n (lv' := [(2, .long (discF f)), (0, .ref h0), (1, .ref hf)]) X.1 X.2.1 dX4_growAtLeastPrime_4 rfl hl (by decide) rfl (fun ls hl => ?_)
  refine lv_iconst (v := 2) X.1 X.2.1 dX4_growAtLeastPrime_5 (by decide) ?_
  refine lv_istore (lv' := [(4, .int 2), (2, .long (discF f)), (0, .ref h0), (1, .ref hf)]) X.1 X.2.1 dX4_growAtLeastPrime_6 hl (by decide) rfl (fun ls hl => ?_)
  have loop8 : ∀ (n9 : Nat) (P : Nat) (k : Nat) (z : Fm), (P + k = 998) → (2 ≤ P) → (glpGo f k P = glpC f) → (k < n9) → ∀ (H : Heap) (locs : List Loc) (ls : Array Slot), va_P D vwCl [(h0, wkE sc cd), (sc, cubE a), (cd, cubE z), (hf, cubE f)] H → va_D AA [(h0, wkE sc cd), (sc, cubE a), (cd, cubE z), (hf, cubE f)] → va_S AA sg_.heap H locs → lv_has ls 5 [(0, .ref h0), (1, .ref hf), (2, .long (discF f)), (4, .int (nI P))] → W pr_ l en_ (rmk 3 77) sg_ me_ ar_ be_ mt_ co_ H locs 0 0 QQ (F0 me_ 8 ls []) := by
    intro n9
    induction n9 with
    | zero =>
      intro P k z hk hP2 hG hn
      omega
    | succ n8 ih8 =>
      intro P k z hk hP2 hG hn H locs ls hP hD hS hl
      refine lv_iload X.1 X.2.1 dX4_growAtLeastPrime_8 (lv_at hl 3 rfl) ?_
      refine lv_sipush (v := 997) X.1 X.2.1 dX4_growAtLeastPrime_10 (by decide) ?_
      refine bi_gt (tgt := 79) X dX4_growAtLeastPrime_13 (by decide) (fun c_4 => ?_) (fun c_4 => ?_)
      · have hp : 997 < P := (nI_ltI (a := 997) (by decide) (by omega)).mp c_4
        obtain rfl : k = 0 := by omega
        have eg : glpC f = none := hG.symm
        rw [show f = (glpC f).getD f from by rw [eg]; rfl] at hP hD
        refine lv_iconst (v := 0) X.1 X.2.1 dX4_growAtLeastPrime_79 (by decide) ?_
        exact hret 0 z _ _ _ _ (by rw [eg]; rfl) rfl (hP.sub [0, 1, 2, 3] rfl) (hD.sub [0, 1, 2, 3] rfl rfl) hS dX4_growAtLeastPrime_80
      · refine lv_iload X.1 X.2.1 dX4_growAtLeastPrime_16 (lv_at hl 3 rfl) ?_
        refine lv_i2l (v := lN P) X.1 X.2.1 dX4_growAtLeastPrime_18 (nI_l (by omega)) ?_
        refine lv_iload X.1 X.2.1 dX4_growAtLeastPrime_19 (lv_at hl 3 rfl) ?_
        refine lv_i2l (v := lN P) X.1 X.2.1 dX4_growAtLeastPrime_21 (nI_l (by omega)) ?_
        refine lv_lmul X.1 X.2.1 dX4_growAtLeastPrime_22 ?_
        refine lv_lload_n X.1 X.2.1 dX4_growAtLeastPrime_23 rfl (lv_at hl 2 rfl) ?_
        refine bl_gt (tgt := 79) X dX4_growAtLeastPrime_24 dX4_growAtLeastPrime_25 (by decide) (fun c_5 => ?_) (fun c_5 => ?_)
        · have hp : ¬ 997 < P := fun q => c_4 ((nI_ltI (a := 997) (by decide) (by omega)).mpr q)
          obtain ⟨k, rfl⟩ : ∃ z, k = z + 1 := ⟨k - 1, by omega⟩
          have eg : glpC f = none := by rw [← hG, glpGo, if_pos c_5]
          rw [show f = (glpC f).getD f from by rw [eg]; rfl] at hP hD
          refine lv_iconst (v := 0) X.1 X.2.1 dX4_growAtLeastPrime_79 (by decide) ?_
          exact hret 0 z _ _ _ _ (by rw [eg]; rfl) rfl (hP.sub [0, 1, 2, 3] rfl) (hD.sub [0, 1, 2, 3] rfl rfl) hS dX4_growAtLeastPrime_80
        · have hp : ¬ 997 < P := fun q => c_4 ((nI_ltI (a := 997) (by decide) (by omega)).mpr q)
          obtain ⟨k, rfl⟩ : ∃ z, k = z + 1 := ⟨k - 1, by omega⟩
          refine lv_lload_n X.1 X.2.1 dX4_growAtLeastPrime_28 rfl (lv_at hl 2 rfl) ?_
          refine lv_iload X.1 X.2.1 dX4_growAtLeastPrime_29 (lv_at hl 3 rfl) ?_
          refine lv_i2l (v := lN P) X.1 X.2.1 dX4_growAtLeastPrime_31 (nI_l (by omega)) ?_
          refine lv_iload X.1 X.2.1 dX4_growAtLeastPrime_32 (lv_at hl 3 rfl) ?_
          refine lv_i2l (v := lN P) X.1 X.2.1 dX4_growAtLeastPrime_34 (nI_l (by omega)) ?_
          refine lv_lmul X.1 X.2.1 dX4_growAtLeastPrime_35 ?_
          refine lv_lrem X.1 X.2.1 dX4_growAtLeastPrime_36 (lN_sq0 (by omega) (by omega)) ?_
          refine lv_lconst (v := 0) X.1 X.2.1 dX4_growAtLeastPrime_37 (by decide) ?_
          refine bl_ne (tgt := 73) X dX4_growAtLeastPrime_38 dX4_growAtLeastPrime_39 (by decide) (fun c_6 => ?_) (fun c_6 => ?_)
          · refine lv_iinc (v := nI (P + 1)) (lv' := [(4, .int (nI (P + 1))), (0, .ref h0), (1, .ref hf), (2, .long (discF f))]) X.1 X.2.1 dX4_growAtLeastPrime_73 hl (k := 3) rfl (nI_1 P) (by decide) rfl (fun ls hl => ?_)
            refine lv_goto (tgt := 8) X.1 X.2.1 dX4_growAtLeastPrime_76 (by decide) ?_
            exact ih8  (P + 1) k z (by omega) (by omega) (by rw [← hG, glpGo, if_neg c_5, if_neg (show ¬ remL _ _ = 0 from c_6)]) (by omega) _ _ _ (hP.sub [0, 1, 2, 3] rfl) (hD.sub [0, 1, 2, 3] rfl rfl) hS (lv_sub hl [1, 2, 3, 0] rfl)
          · refine lv_iload X.1 X.2.1 dX4_growAtLeastPrime_42 (lv_at hl 3 rfl) ?_
            refine fin_i (wr := [(h0, wkE sc cd), (sc, cubE a), (cd, cubE z), (hf, cubE f)]) (cv_X4_75 X (c_isPrime l D cI cJ (nI P)  _) rfl rfl dX4_growAtLeastPrime_44 hP hD [] rfl rfl hl.1 rfl rfl (Nat.le_of_ble_eq_true rfl) ⟨Nat.le_of_ble_eq_true rfl, Nat.le_of_ble_eq_true rfl⟩ ⟨Nat.le_of_ble_eq_true rfl, Nat.le_of_ble_eq_true rfl⟩) hP hD hS hA [] [0, 1, 2, 3] rfl rfl rfl (by decide) (fun r_9 u_8 H locs w_7 hP hD hS => ?_)
            have hP : va_P D vwCl [(h0, wkE sc cd), (sc, cubE a), (cd, cubE z), (hf, cubE f)] H := hP
            have hD : va_D AA [(h0, wkE sc cd), (sc, cubE a), (cd, cubE z), (hf, cubE f)] := hD
            subst w_7
            refine bb_eq (tgt := 73) X dX4_growAtLeastPrime_47 (by decide) (fun c_10 => ?_) (fun c_10 => ?_)
            · refine lv_iinc (v := nI (P + 1)) (lv' := [(4, .int (nI (P + 1))), (0, .ref h0), (1, .ref hf), (2, .long (discF f))]) X.1 X.2.1 dX4_growAtLeastPrime_73 hl (k := 3) rfl (nI_1 P) (by decide) rfl (fun ls hl => ?_)
              refine lv_goto (tgt := 8) X.1 X.2.1 dX4_growAtLeastPrime_76 (by decide) ?_
              exact ih8  (P + 1) k z (by omega) (by omega) (by rw [← hG, glpGo, if_neg c_5, if_pos (show remL _ _ = 0 from c_6), if_neg (by rw [c_10]; decide)]) (by omega) _ _ _ (hP.sub [0, 1, 2, 3] rfl) (hD.sub [0, 1, 2, 3] rfl rfl) hS (lv_sub hl [1, 2, 3, 0] rfl)
            · refine lv_aload_n X.1 X.2.1 dX4_growAtLeastPrime_50 rfl (lv_at hl 0 rfl) ?_
              refine gf_X4_18 (v := .ref cd) X hP 0 rfl rfl dX4_growAtLeastPrime_51 ?_
              refine lv_aload_n X.1 X.2.1 dX4_growAtLeastPrime_54 rfl (lv_at hl 1 rfl) ?_
              refine lv_iload X.1 X.2.1 dX4_growAtLeastPrime_55 (lv_at hl 3 rfl) ?_
              refine fin_i (wr := [(h0, wkE sc cd), (sc, cubE a)]) (cv_X4_67 X (c_Cubic_becomeOverring l D cI cJ cd z hf f P hP2 (by omega) _) rfl rfl dX4_growAtLeastPrime_57 hP hD 2 rfl [2, 3] rfl rfl hl.1 rfl rfl (Nat.le_of_ble_eq_true rfl) ⟨Nat.le_of_ble_eq_true rfl, Nat.le_of_ble_eq_true rfl⟩ ⟨Nat.le_of_ble_eq_true rfl, Nat.le_of_ble_eq_true rfl⟩) hP hD hS hA [2, 3] [0, 1] rfl rfl rfl (by decide) (fun r_13 u_12 H locs w_11 hP hD hS => ?_)
              have hP : va_P D vwCl [(h0, wkE sc cd), (sc, cubE a), (cd, cubE u_12), (hf, cubE f)] H := hP
              have hD : va_D AA [(h0, wkE sc cd), (sc, cubE a), (cd, cubE u_12), (hf, cubE f)] := hD
              obtain ⟨rfl, w_11⟩ := w_11
              refine bb_eq (tgt := 73) X dX4_growAtLeastPrime_60 (by decide) (fun c_14 => ?_) (fun c_14 => ?_)
              · refine lv_iinc (v := nI (P + 1)) (lv' := [(4, .int (nI (P + 1))), (0, .ref h0), (1, .ref hf), (2, .long (discF f))]) X.1 X.2.1 dX4_growAtLeastPrime_73 hl (k := 3) rfl (nI_1 P) (by decide) rfl (fun ls hl => ?_)
                refine lv_goto (tgt := 8) X.1 X.2.1 dX4_growAtLeastPrime_76 (by decide) ?_
                exact ih8  (P + 1) k u_12 (by omega) (by omega) (by rw [← hG, glpGo, if_neg c_5, if_pos (show remL _ _ = 0 from c_6), if_pos c_10, if_neg (by rw [c_14]; decide)]) (by omega) _ _ _ (hP.sub [0, 1, 2, 3] rfl) (hD.sub [0, 1, 2, 3] rfl rfl) hS (lv_sub hl [1, 2, 3, 0] rfl)
              · refine lv_aload_n X.1 X.2.1 dX4_growAtLeastPrime_63 rfl (lv_at hl 1 rfl) ?_
                refine lv_aload_n X.1 X.2.1 dX4_growAtLeastPrime_64 rfl (lv_at hl 0 rfl) ?_
                refine gf_X4_18 (v := .ref cd) X hP 0 rfl rfl dX4_growAtLeastPrime_65 ?_
                refine fin_v (wr := [(h0, wkE sc cd), (sc, cubE a)]) (cv_X4_24 X (c_Cubic_copyFrom l D cI cJ hf f cd u_12  _) rfl rfl dX4_growAtLeastPrime_68 hP hD 3 rfl [3, 2] rfl rfl hl.1 rfl rfl (Nat.le_of_ble_eq_true rfl) ⟨Nat.le_of_ble_eq_true rfl, Nat.le_of_ble_eq_true rfl⟩ ⟨Nat.le_of_ble_eq_true rfl, Nat.le_of_ble_eq_true rfl⟩) hP hD hS hA [3, 2] [0, 1] rfl rfl rfl (by decide) (fun u_16 H locs w_15 hP hD hS => ?_)
                have hP : va_P D vwCl [(h0, wkE sc cd), (sc, cubE a), (hf, cubE u_12), (cd, cubE u_12)] H := hP
                have hD : va_D AA [(h0, wkE sc cd), (sc, cubE a), (hf, cubE u_12), (cd, cubE u_12)] := hD
                have eg : glpC f = ovC f P := by rw [← hG, glpGo, if_neg c_5, if_pos (show remL _ _ = 0 from c_6), if_pos c_10, if_pos c_14]
                obtain ⟨z0, hz0⟩ := Option.isSome_iff_exists.mp c_14
                have e0 : u_12 = (glpC f).getD f := by rw [w_11 z0 hz0, eg, hz0]; rfl
                rw [e0] at hP hD
                refine lv_iconst (v := 1) X.1 X.2.1 dX4_growAtLeastPrime_71 (by decide) ?_
                exact hret 1 ((glpC f).getD f) _ _ _ _ (by rw [eg, c_14]; rfl) rfl (hP.sub [0, 1, 3, 2] rfl) (hD.sub [0, 1, 3, 2] rfl rfl) hS dX4_growAtLeastPrime_72
  exact loop8 997 2 996 b rfl (Nat.le_refl 2) rfl (by decide) _ _ _ (hP.sub [0, 1, 2, 3] rfl) (hD.sub [0, 1, 2, 3] rfl rfl) hS (lv_sub hl [2, 3, 1, 0] rfl)
set_option maxHeartbeats 4000000 in
set_option maxRecDepth 100000 in
theorem c_Wk_makeMaximal (l : Launch) (D : va_G) (cI cJ : ClassId) (h0 : Nat) (sc : Nat) (cd : Nat) (a : Fm) (b : Fm) (hf : Nat) (f : Fm)  : CtV l yX4_makeMaximal cX4_makeMaximal 3 (rmk 4 101) D cI cJ [.ref h0, .ref hf] [(h0, wkE sc cd), (sc, cubE a), (cd, cubE b), (hf, cubE f)] (fun (u : Fm × Fm) => [(h0, wkE sc cd), (sc, cubE u.1), (cd, cubE u.2), (hf, cubE (sealM 0 f))]) (fun (u : Fm × Fm) => True) 0 0 := by
  refine CtV.of (own := RX4) (by decide +kernel) (Nat.le_of_ble_eq_true rfl) rfl ?_
  intro pr_ en_ sg_ me_ ar_ be_ mt_ co_ AA ls QQ X hin hA hP hD hS hl hret
  have hl : lv_has ls 3 [(0, .ref h0), (1, .ref hf)] := hl
  refine lv_aload_n X.1 X.2.1 dX4_makeMaximal_0 rfl (lv_at hl 0 rfl) ?_
  refine lv_aload_n X.1 X.2.1 dX4_makeMaximal_1 rfl (lv_at hl 1 rfl) ?_
  refine fin_v (wr := []) (cv_X4_78 X (c_Wk_makeCanonical l D cI cJ h0 sc cd a b hf f  _) rfl rfl dX4_makeMaximal_2 hP hD 0 rfl [0, 1, 2, 3] rfl rfl hl.1 rfl rfl (Nat.le_of_ble_eq_true rfl) ⟨Nat.le_of_ble_eq_true rfl, Nat.le_of_ble_eq_true rfl⟩ ⟨Nat.le_of_ble_eq_true rfl, Nat.le_of_ble_eq_true rfl⟩) hP hD hS hA [0, 1, 2, 3] [] rfl rfl rfl (by decide) (fun u_2 H locs w_1 hP hD hS => ?_)
  have hP : va_P D vwCl [(h0, wkE sc cd), (sc, cubE u_2.1), (cd, cubE u_2.2), (hf, cubE (sealC 0 f))] H := hP
  have hD : va_D AA [(h0, wkE sc cd), (sc, cubE u_2.1), (cd, cubE u_2.2), (hf, cubE (sealC 0 f))] := hD
  refine lv_iconst (v := 0) X.1 X.2.1 dX4_makeMaximal_5 (by decide) ?_
  refine lv_istore_n (lv' := [(2, .int 0), (0, .ref h0), (1, .ref hf)]) X.1 X.2.1 dX4_makeMaximal_6 rfl hl (by decide) rfl (fun ls hl => ?_)
  have loop7 : ∀ (n9 : Nat) (j : Nat) (k : Nat) (g : Fm) (y : Fm) (z : Fm), (j + k = 64) → (maxGo k g = maxC f) → (k < n9) → ∀ (H : Heap) (locs : List Loc) (ls : Array Slot), va_P D vwCl [(h0, wkE sc cd), (sc, cubE y), (cd, cubE z), (hf, cubE g)] H → va_D AA [(h0, wkE sc cd), (sc, cubE y), (cd, cubE z), (hf, cubE g)] → va_S AA sg_.heap H locs → lv_has ls 3 [(0, .ref h0), (1, .ref hf), (2, .int (nI j))] → W pr_ l en_ (rmk 4 101) sg_ me_ ar_ be_ mt_ co_ H locs 0 0 QQ (F0 me_ 7 ls []) := by
    intro n9
    induction n9 with
    | zero =>
      intro j k g y z hk hG hn
      omega
    | succ n7 ih7 =>
      intro j k g y z hk hG hn H locs ls hP hD hS hl
      refine lv_iload_n X.1 X.2.1 dX4_makeMaximal_7 rfl (lv_at hl 2 rfl) ?_
      refine lv_bipush (v := 64) X.1 X.2.1 dX4_makeMaximal_8 (by decide) ?_
      refine bi_ge (tgt := 33) X dX4_makeMaximal_10 (by decide) (fun c_4 => ?_) (fun c_4 => ?_)
      · have hj : ¬ j < 64 := fun q => c_4 ((nI_ltn (by omega) (by decide) rfl).mpr q)
        obtain rfl : k = 0 := by omega
        have e : g = sealM 0 f := by rw [sealM_eq]; exact hG
        rw [e] at hP hD
        exact hret (y, z) _ _ _ _ (trivial) (hP.sub [0, 1, 2, 3] rfl) (hD.sub [0, 1, 2, 3] rfl rfl) hS dX4_makeMaximal_33
      · have hj : j < 64 := (nI_ltn (by omega) (by decide) rfl).mp c_4
        obtain ⟨k, rfl⟩ : ∃ z, k = z + 1 := ⟨k - 1, by omega⟩
        refine lv_aload_n X.1 X.2.1 dX4_makeMaximal_13 rfl (lv_at hl 0 rfl) ?_
        refine lv_aload_n X.1 X.2.1 dX4_makeMaximal_14 rfl (lv_at hl 1 rfl) ?_
        refine fin_i (wr := []) (cv_X4_81 X (c_Wk_growAtLeastPrime l D cI cJ h0 sc cd y z hf g  _) rfl rfl dX4_makeMaximal_15 hP hD 0 rfl [0, 1, 2, 3] rfl rfl hl.1 rfl rfl (Nat.le_of_ble_eq_true rfl) ⟨Nat.le_of_ble_eq_true rfl, Nat.le_of_ble_eq_true rfl⟩ ⟨Nat.le_of_ble_eq_true rfl, Nat.le_of_ble_eq_true rfl⟩) hP hD hS hA [0, 1, 2, 3] [] rfl rfl rfl (by decide) (fun r_7 u_6 H locs w_5 hP hD hS => ?_)
        have hP : va_P D vwCl [(h0, wkE sc cd), (sc, cubE y), (cd, cubE u_6), (hf, cubE ((glpC g).getD g))] H := hP
        have hD : va_D AA [(h0, wkE sc cd), (sc, cubE y), (cd, cubE u_6), (hf, cubE ((glpC g).getD g))] := hD
        subst w_5
        refine bb_ne (tgt := 22) X dX4_makeMaximal_18 (by decide) (fun c_8 => ?_) (fun c_8 => ?_)
        · refine lv_aload_n X.1 X.2.1 dX4_makeMaximal_22 rfl (lv_at hl 0 rfl) ?_
          refine lv_aload_n X.1 X.2.1 dX4_makeMaximal_23 rfl (lv_at hl 1 rfl) ?_
          refine fin_v (wr := []) (cv_X4_78 X (c_Wk_makeCanonical l D cI cJ h0 sc cd y u_6 hf ((glpC g).getD g)  _) rfl rfl dX4_makeMaximal_24 hP hD 0 rfl [0, 1, 2, 3] rfl rfl hl.1 rfl rfl (Nat.le_of_ble_eq_true rfl) ⟨Nat.le_of_ble_eq_true rfl, Nat.le_of_ble_eq_true rfl⟩ ⟨Nat.le_of_ble_eq_true rfl, Nat.le_of_ble_eq_true rfl⟩) hP hD hS hA [0, 1, 2, 3] [] rfl rfl rfl (by decide) (fun u_10 H locs w_9 hP hD hS => ?_)
          have hP : va_P D vwCl [(h0, wkE sc cd), (sc, cubE u_10.1), (cd, cubE u_10.2), (hf, cubE (sealC 0 ((glpC g).getD g)))] H := hP
          have hD : va_D AA [(h0, wkE sc cd), (sc, cubE u_10.1), (cd, cubE u_10.2), (hf, cubE (sealC 0 ((glpC g).getD g)))] := hD
          refine lv_iinc (v := nI (j + 1)) (lv' := [(2, .int (nI (j + 1))), (0, .ref h0), (1, .ref hf)]) X.1 X.2.1 dX4_makeMaximal_27 hl (k := 2) rfl (nI_1 j) (by decide) rfl (fun ls hl => ?_)
          refine lv_goto (tgt := 7) X.1 X.2.1 dX4_makeMaximal_30 (by decide) ?_
          exact ih7  (j + 1) k (sealC 0 ((glpC g).getD g)) u_10.1 u_10.2 (by omega) (by rw [sealC_eq, ← hG, maxGo, if_pos c_8]) (by omega) _ _ _ (hP.sub [0, 1, 2, 3] rfl) (hD.sub [0, 1, 2, 3] rfl rfl) hS (lv_sub hl [1, 2, 0] rfl)
        · have e : (glpC g).getD g = sealM 0 f := by rw [sealM_eq, ← hG, maxGo, if_neg (by rw [c_8]; decide), isSome_f c_8]; rfl
          rw [e] at hP hD
          exact hret (y, u_6) _ _ _ _ (trivial) (hP.sub [0, 1, 2, 3] rfl) (hD.sub [0, 1, 2, 3] rfl rfl) hS dX4_makeMaximal_21
  exact loop7 65 0 64 (sealC 0 f) u_2.1 u_2.2 rfl (by rw [sealC_eq]; rfl) (by decide) _ _ _ (hP.sub [0, 1, 2, 3] rfl) (hD.sub [0, 1, 2, 3] rfl rfl) hS (lv_sub hl [1, 2, 0] rfl)
