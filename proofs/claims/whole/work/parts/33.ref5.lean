set_option maxHeartbeats 4000000 in
set_option maxRecDepth 100000 in
theorem m_isReducibleNow (l : Launch) (D : va_G) (cI cJ : ClassId) (h0 : Nat) (st : Nat) (he : Nat) (ma : Nat) (tr : Nat) (fo : Nat) (gi : Nat) (n : Nat) (f : Fm) (k : Fm) (p : Em) (t : Fm) (tb : Int32) (An : Nat) (Dn : Nat) (ha : absL f.1 = lN An) (hA1 : An ≤ 300) (hd : absL f.2.2.2 = lN Dn) (hD1 : Dn ≤ 300) : CtI l yX6_isReducibleNow cX6_isReducibleNow 5 .boolean (rmk 1 24) D cI cJ [.ref h0] [(h0, moE (nI n) st f k he p ma tr t tb fo gi)] (fun (_ : Unit) => [(h0, moE (nI n) st f k he p ma tr t tb fo gi)]) (fun (r : Int32) (_ : Unit) => r = bI (rootC f An Dn)) := by
  refine CtI.of (own := RX6) (by decide +kernel) (Nat.le_of_ble_eq_true rfl) rfl ?_
  intro pr_ en_ sg_ me_ ar_ be_ mt_ co_ AA ls QQ X hA hP hD hS hl hret
  have hl : lv_has ls 5 [(0, .ref h0)] := hl
  refine lv_aload_n X.1 X.2.1 dX6_isReducibleNow_0 rfl (lv_at hl 0 rfl) ?_
  refine gf_X6_41 (v := .long f.1) X hP 0 rfl rfl dX6_isReducibleNow_1 ?_
  refine lv_lconst (v := 0) X.1 X.2.1 dX6_isReducibleNow_4 (by decide) ?_
  refine bl_eq (tgt := 18) X dX6_isReducibleNow_5 dX6_isReducibleNow_6 (by decide) (fun c_1 => ?_) (fun c_1 => ?_)
  · refine lv_iconst (v := 1) X.1 X.2.1 dX6_isReducibleNow_18 (by decide) ?_
    exact hret 1 () _ _ _ _ (by simp [rootC, bI, c_1]) rfl (hP.sub [0] rfl) (hD.sub [0] rfl rfl) hS dX6_isReducibleNow_19
  · refine lv_aload_n X.1 X.2.1 dX6_isReducibleNow_9 rfl (lv_at hl 0 rfl) ?_
    refine gf_X6_51 (v := .long f.2.2.2) X hP 0 rfl rfl dX6_isReducibleNow_10 ?_
    refine lv_lconst (v := 0) X.1 X.2.1 dX6_isReducibleNow_13 (by decide) ?_
    refine bl_ne (tgt := 20) X dX6_isReducibleNow_14 dX6_isReducibleNow_15 (by decide) (fun c_2 => ?_) (fun c_2 => ?_)
    · have hA0 : 0 < An := by
        rcases Nat.eq_zero_or_pos An with q | q
        · exact absurd (absL_0 (by rw [ha, q]; rfl)) c_1
        · exact q
      have hD0 : 0 < Dn := by
        rcases Nat.eq_zero_or_pos Dn with q | q
        · exact absurd (absL_0 (by rw [hd, q]; rfl)) c_2
        · exact q
      have ea : f.1 ≠ 0 := c_1
      have ed : f.2.2.2 ≠ 0 := c_2
      refine lv_lconst (v := 1) X.1 X.2.1 dX6_isReducibleNow_20 (by decide) ?_
      refine lv_lstore_n (lv' := [(1, .long 1), (0, .ref h0)]) X.1 X.2.1 dX6_isReducibleNow_21 rfl hl (by decide) rfl (fun ls hl => ?_)
      have loop22 : ∀ (n9 : Nat) (y : Nat), (1 ≤ y) → (y ≤ An + 1) → (linInv (fun y => rootOver f Dn (lN y)) An y) → (An + 2 ≤ y + n9) → ∀ (H : Heap) (locs : List Loc) (ls : Array Slot), va_P D vwCl [(h0, moE (nI n) st f k he p ma tr t tb fo gi)] H → va_D AA [(h0, moE (nI n) st f k he p ma tr t tb fo gi)] → va_S AA sg_.heap H locs → lv_has ls 5 [(0, .ref h0), (1, .long (lN y))] → W pr_ l en_ (rmk 1 24) sg_ me_ ar_ be_ mt_ co_ H locs 0 0 QQ (F0 me_ 22 ls []) := by
        intro n9
        induction n9 with
        | zero =>
          intro y hy1 hy2 hi hn9
          omega
        | succ n22 ih22 =>
          intro y hy1 hy2 hi hn9 H locs ls hP hD hS hl
          refine lv_lload_n X.1 X.2.1 dX6_isReducibleNow_22 rfl (lv_at hl 1 rfl) ?_
          refine lv_aload_n X.1 X.2.1 dX6_isReducibleNow_23 rfl (lv_at hl 0 rfl) ?_
          refine gf_X6_41 (v := .long f.1) X hP 0 rfl rfl dX6_isReducibleNow_24 ?_
          refine fin_l (wr := [(h0, moE (nI n) st f k he p ma tr t tb fo gi)]) (cv_X6_109 X (m_size l D cI cJ f.1  _) rfl rfl dX6_isReducibleNow_27 hP hD [] rfl rfl hl.1 rfl rfl (Nat.le_of_ble_eq_true rfl) ⟨Nat.le_of_ble_eq_true rfl, Nat.le_of_ble_eq_true rfl⟩ ⟨Nat.le_of_ble_eq_true rfl, Nat.le_of_ble_eq_true rfl⟩) hP hD hS hA [] [0] rfl rfl rfl (by decide) (fun r_5 u_4 H locs w_3 hP hD hS => ?_)
          have hP : va_P D vwCl [(h0, moE (nI n) st f k he p ma tr t tb fo gi)] H := hP
          have hD : va_D AA [(h0, moE (nI n) st f k he p ma tr t tb fo gi)] := hD
          subst w_3
          rw [sizeL_abs, ha]
          refine bl_gt (tgt := 109) X dX6_isReducibleNow_30 dX6_isReducibleNow_31 (by decide) (fun c_6 => ?_) (fun c_6 => ?_)
          · refine lv_iconst (v := 0) X.1 X.2.1 dX6_isReducibleNow_109 (by decide) ?_
            exact hret 0 () _ _ _ _ (by simp only [rootC, ea, ed, decide_false, Bool.false_or]; rw [linInv_end hi ((lN_lt (by omega) (by omega)).mp c_6)]; rfl) rfl (hP.sub [0] rfl) (hD.sub [0] rfl rfl) hS dX6_isReducibleNow_110
          · have hyA : ¬ An < y := fun q => c_6 ((lN_lt (by omega) (by omega)).mpr q)
            refine lv_lconst (v := 1) X.1 X.2.1 dX6_isReducibleNow_34 (by decide) ?_
            refine lv_lstore_n (lv' := [(3, .long 1), (0, .ref h0), (1, .long (lN y))]) X.1 X.2.1 dX6_isReducibleNow_35 rfl hl (by decide) rfl (fun ls hl => ?_)
            have loop36 : ∀ (n9 : Nat) (x : Nat), (1 ≤ x) → (x ≤ Dn + 1) → (linInv (fun x => vanF f (lN x) (lN y)) Dn x) → (Dn + 2 ≤ x + n9) → ∀ (H : Heap) (locs : List Loc) (ls : Array Slot), va_P D vwCl [(h0, moE (nI n) st f k he p ma tr t tb fo gi)] H → va_D AA [(h0, moE (nI n) st f k he p ma tr t tb fo gi)] → va_S AA sg_.heap H locs → lv_has ls 5 [(0, .ref h0), (1, .long (lN y)), (3, .long (lN x))] → W pr_ l en_ (rmk 1 24) sg_ me_ ar_ be_ mt_ co_ H locs 0 0 QQ (F0 me_ 36 ls []) := by
              intro n9
              induction n9 with
              | zero =>
                intro x hx1 hx2 hj hn8
                omega
              | succ n36 ih36 =>
                intro x hx1 hx2 hj hn8 H locs ls hP hD hS hl
                refine lv_lload_n X.1 X.2.1 dX6_isReducibleNow_36 rfl (lv_at hl 2 rfl) ?_
                refine lv_aload_n X.1 X.2.1 dX6_isReducibleNow_37 rfl (lv_at hl 0 rfl) ?_
                refine gf_X6_51 (v := .long f.2.2.2) X hP 0 rfl rfl dX6_isReducibleNow_38 ?_
                refine fin_l (wr := [(h0, moE (nI n) st f k he p ma tr t tb fo gi)]) (cv_X6_109 X (m_size l D cI cJ f.2.2.2  _) rfl rfl dX6_isReducibleNow_41 hP hD [] rfl rfl hl.1 rfl rfl (Nat.le_of_ble_eq_true rfl) ⟨Nat.le_of_ble_eq_true rfl, Nat.le_of_ble_eq_true rfl⟩ ⟨Nat.le_of_ble_eq_true rfl, Nat.le_of_ble_eq_true rfl⟩) hP hD hS hA [] [0] rfl rfl rfl (by decide) (fun r_9 u_8 H locs w_7 hP hD hS => ?_)
                have hP : va_P D vwCl [(h0, moE (nI n) st f k he p ma tr t tb fo gi)] H := hP
                have hD : va_D AA [(h0, moE (nI n) st f k he p ma tr t tb fo gi)] := hD
                subst w_7
                rw [sizeL_abs, hd]
                refine bl_gt (tgt := 102) X dX6_isReducibleNow_44 dX6_isReducibleNow_45 (by decide) (fun c_10 => ?_) (fun c_10 => ?_)
                · refine lv_lload_n X.1 X.2.1 dX6_isReducibleNow_102 rfl (lv_at hl 1 rfl) ?_
                  refine lv_lconst (v := 1) X.1 X.2.1 dX6_isReducibleNow_103 (by decide) ?_
                  refine lv_ladd X.1 X.2.1 dX6_isReducibleNow_104 ?_
                  rw [lN_1]
                  refine lv_lstore_n (lv' := [(1, .long (lN (y + 1))), (0, .ref h0), (3, .long (lN x))]) X.1 X.2.1 dX6_isReducibleNow_105 rfl hl (by decide) rfl (fun ls hl => ?_)
                  refine lv_goto (tgt := 22) X.1 X.2.1 dX6_isReducibleNow_106 (by decide) ?_
                  exact ih22  (y + 1) (by omega) (by omega) (linInv_s hi (fun q => linInv_end hj ((lN_lt (by omega) (by omega)).mp c_10))) (by omega) _ _ _ (hP.sub [0] rfl) (hD.sub [0] rfl rfl) hS (lv_sub hl [1, 0] rfl)
                · have hxD : ¬ Dn < x := fun q => c_10 ((lN_lt (by omega) (by omega)).mpr q)
                  refine lv_aload_n X.1 X.2.1 dX6_isReducibleNow_48 rfl (lv_at hl 0 rfl) ?_
                  refine gf_X6_41 (v := .long f.1) X hP 0 rfl rfl dX6_isReducibleNow_49 ?_
                  refine lv_lload_n X.1 X.2.1 dX6_isReducibleNow_52 rfl (lv_at hl 1 rfl) ?_
                  refine lv_lrem X.1 X.2.1 dX6_isReducibleNow_53 (lN_ne0 (by omega) (by omega)) ?_
                  refine lv_lconst (v := 0) X.1 X.2.1 dX6_isReducibleNow_54 (by decide) ?_
                  refine bl_ne (tgt := 102) X dX6_isReducibleNow_55 dX6_isReducibleNow_56 (by decide) (fun c_11 => ?_) (fun c_11 => ?_)
                  · refine lv_lload_n X.1 X.2.1 dX6_isReducibleNow_102 rfl (lv_at hl 1 rfl) ?_
                    refine lv_lconst (v := 1) X.1 X.2.1 dX6_isReducibleNow_103 (by decide) ?_
                    refine lv_ladd X.1 X.2.1 dX6_isReducibleNow_104 ?_
                    rw [lN_1]
                    refine lv_lstore_n (lv' := [(1, .long (lN (y + 1))), (0, .ref h0), (3, .long (lN x))]) X.1 X.2.1 dX6_isReducibleNow_105 rfl hl (by decide) rfl (fun ls hl => ?_)
                    refine lv_goto (tgt := 22) X.1 X.2.1 dX6_isReducibleNow_106 (by decide) ?_
                    exact ih22  (y + 1) (by omega) (by omega) (linInv_s hi (fun q => absurd ((remL_abs ha (by omega) (by omega) (by omega)).mpr q) c_11)) (by omega) _ _ _ (hP.sub [0] rfl) (hD.sub [0] rfl rfl) hS (lv_sub hl [1, 0] rfl)
                  · have hmA : An % y = 0 := (remL_abs ha (by omega) (by omega) (by omega)).mp c_11
                    refine lv_aload_n X.1 X.2.1 dX6_isReducibleNow_59 rfl (lv_at hl 0 rfl) ?_
                    refine gf_X6_51 (v := .long f.2.2.2) X hP 0 rfl rfl dX6_isReducibleNow_60 ?_
                    refine lv_lload_n X.1 X.2.1 dX6_isReducibleNow_63 rfl (lv_at hl 2 rfl) ?_
                    refine lv_lrem X.1 X.2.1 dX6_isReducibleNow_64 (lN_ne0 (by omega) (by omega)) ?_
                    refine lv_lconst (v := 0) X.1 X.2.1 dX6_isReducibleNow_65 (by decide) ?_
                    refine bl_ne (tgt := 95) X dX6_isReducibleNow_66 dX6_isReducibleNow_67 (by decide) (fun c_12 => ?_) (fun c_12 => ?_)
                    · refine lv_lload_n X.1 X.2.1 dX6_isReducibleNow_95 rfl (lv_at hl 2 rfl) ?_
                      refine lv_lconst (v := 1) X.1 X.2.1 dX6_isReducibleNow_96 (by decide) ?_
                      refine lv_ladd X.1 X.2.1 dX6_isReducibleNow_97 ?_
                      rw [lN_1]
                      refine lv_lstore_n (lv' := [(3, .long (lN (x + 1))), (0, .ref h0), (1, .long (lN y))]) X.1 X.2.1 dX6_isReducibleNow_98 rfl hl (by decide) rfl (fun ls hl => ?_)
                      refine lv_goto (tgt := 36) X.1 X.2.1 dX6_isReducibleNow_99 (by decide) ?_
                      exact ih36  (x + 1) (by omega) (by omega) (linInv_s hj (fun q => absurd ((remL_abs hd (by omega) (by omega) (by omega)).mpr q) c_12)) (by omega) _ _ _ (hP.sub [0] rfl) (hD.sub [0] rfl rfl) hS (lv_sub hl [1, 2, 0] rfl)
                    · have hmD : Dn % x = 0 := (remL_abs hd (by omega) (by omega) (by omega)).mp c_12
                      refine lv_aload_n X.1 X.2.1 dX6_isReducibleNow_70 rfl (lv_at hl 0 rfl) ?_
                      refine lv_lload_n X.1 X.2.1 dX6_isReducibleNow_71 rfl (lv_at hl 2 rfl) ?_
                      refine lv_lload_n X.1 X.2.1 dX6_isReducibleNow_72 rfl (lv_at hl 1 rfl) ?_
                      refine fin_l (wr := []) (cv_X6_105 X (m_valueNow l D cI cJ h0 st he ma tr fo gi n f k p t tb (lN x) (lN y)  _) rfl rfl dX6_isReducibleNow_73 hP hD 0 rfl [0] rfl rfl hl.1 rfl rfl (Nat.le_of_ble_eq_true rfl) ⟨Nat.le_of_ble_eq_true rfl, Nat.le_of_ble_eq_true rfl⟩ ⟨Nat.le_of_ble_eq_true rfl, Nat.le_of_ble_eq_true rfl⟩) hP hD hS hA [0] [] rfl rfl rfl (by decide) (fun r_15 u_14 H locs w_13 hP hD hS => ?_)
                      have hP : va_P D vwCl [(h0, moE (nI n) st f k he p ma tr t tb fo gi)] H := hP
                      have hD : va_D AA [(h0, moE (nI n) st f k he p ma tr t tb fo gi)] := hD
                      subst w_13
                      refine lv_lconst (v := 0) X.1 X.2.1 dX6_isReducibleNow_76 (by decide) ?_
                      refine bl_eq (tgt := 93) X dX6_isReducibleNow_77 dX6_isReducibleNow_78 (by decide) (fun c_16 => ?_) (fun c_16 => ?_)
                      · refine lv_iconst (v := 1) X.1 X.2.1 dX6_isReducibleNow_93 (by decide) ?_
                        exact hret 1 () _ _ _ _ (by simp only [rootC, ea, ed, decide_false, Bool.false_or]; rw [anyDiv_yes hA0 hy1 hmA (show rootOver f Dn (lN y) = true from anyDiv_yes hD0 hx1 hmD (vanF_of c_16))]; rfl) rfl (hP.sub [0] rfl) (hD.sub [0] rfl rfl) hS dX6_isReducibleNow_94
                      · refine lv_aload_n X.1 X.2.1 dX6_isReducibleNow_81 rfl (lv_at hl 0 rfl) ?_
                        refine lv_lload_n X.1 X.2.1 dX6_isReducibleNow_82 rfl (lv_at hl 2 rfl) ?_
                        refine lv_lneg X.1 X.2.1 dX6_isReducibleNow_83 ?_
                        refine lv_lload_n X.1 X.2.1 dX6_isReducibleNow_84 rfl (lv_at hl 1 rfl) ?_
                        refine fin_l (wr := []) (cv_X6_105 X (m_valueNow l D cI cJ h0 st he ma tr fo gi n f k p t tb (-(lN x)) (lN y)  _) rfl rfl dX6_isReducibleNow_85 hP hD 0 rfl [0] rfl rfl hl.1 rfl rfl (Nat.le_of_ble_eq_true rfl) ⟨Nat.le_of_ble_eq_true rfl, Nat.le_of_ble_eq_true rfl⟩ ⟨Nat.le_of_ble_eq_true rfl, Nat.le_of_ble_eq_true rfl⟩) hP hD hS hA [0] [] rfl rfl rfl (by decide) (fun r_19 u_18 H locs w_17 hP hD hS => ?_)
                        have hP : va_P D vwCl [(h0, moE (nI n) st f k he p ma tr t tb fo gi)] H := hP
                        have hD : va_D AA [(h0, moE (nI n) st f k he p ma tr t tb fo gi)] := hD
                        subst w_17
                        refine lv_lconst (v := 0) X.1 X.2.1 dX6_isReducibleNow_88 (by decide) ?_
                        refine bl_ne (tgt := 95) X dX6_isReducibleNow_89 dX6_isReducibleNow_90 (by decide) (fun c_20 => ?_) (fun c_20 => ?_)
                        · refine lv_lload_n X.1 X.2.1 dX6_isReducibleNow_95 rfl (lv_at hl 2 rfl) ?_
                          refine lv_lconst (v := 1) X.1 X.2.1 dX6_isReducibleNow_96 (by decide) ?_
                          refine lv_ladd X.1 X.2.1 dX6_isReducibleNow_97 ?_
                          rw [lN_1]
                          refine lv_lstore_n (lv' := [(3, .long (lN (x + 1))), (0, .ref h0), (1, .long (lN y))]) X.1 X.2.1 dX6_isReducibleNow_98 rfl hl (by decide) rfl (fun ls hl => ?_)
                          refine lv_goto (tgt := 36) X.1 X.2.1 dX6_isReducibleNow_99 (by decide) ?_
                          exact ih36  (x + 1) (by omega) (by omega) (linInv_s hj (fun q => vanF_no c_16 c_20)) (by omega) _ _ _ (hP.sub [0] rfl) (hD.sub [0] rfl rfl) hS (lv_sub hl [1, 2, 0] rfl)
                        · refine lv_iconst (v := 1) X.1 X.2.1 dX6_isReducibleNow_93 (by decide) ?_
                          exact hret 1 () _ _ _ _ (by simp only [rootC, ea, ed, decide_false, Bool.false_or]; rw [anyDiv_yes hA0 hy1 hmA (show rootOver f Dn (lN y) = true from anyDiv_yes hD0 hx1 hmD (vanF_of2 c_20))]; rfl) rfl (hP.sub [0] rfl) (hD.sub [0] rfl rfl) hS dX6_isReducibleNow_94
            exact loop36 (Dn + 1) 1 (Nat.le_refl 1) (by omega) linInv_1 (by omega) _ _ _ (hP.sub [0] rfl) (hD.sub [0] rfl rfl) hS (lv_sub hl [1, 2, 0] rfl)
      exact loop22 (An + 1) 1 (Nat.le_refl 1) (by omega) linInv_1 (by omega) _ _ _ (hP.sub [0] rfl) (hD.sub [0] rfl rfl) hS (lv_sub hl [1, 0] rfl)
    · refine lv_iconst (v := 1) X.1 X.2.1 dX6_isReducibleNow_18 (by decide) ?_
      exact hret 1 () _ _ _ _ (by simp [rootC, bI, c_2]) rfl (hP.sub [0] rfl) (hD.sub [0] rfl rfl) hS dX6_isReducibleNow_19
set_option maxHeartbeats 4000000 in
set_option maxRecDepth 100000 in
theorem m_isReducible (l : Launch) (D : va_G) (cI cJ : ClassId) (h0 : Nat) (st : Nat) (he : Nat) (ma : Nat) (tr : Nat) (fo : Nat) (gi : Nat) (n : Nat) (f : Fm) (k : Fm) (p : Em) (t : Fm) (tb : Int32) (C : Nat → Int32) (x : Int32) (hn : n ≤ 60) (hC : rngC C) : CtI l yX6_isReducible cX6_isReducible 2 .int (rmk 2 48) D cI cJ [.ref h0, .int x] [(h0, moE (nI n) st f k he p ma tr t tb fo gi), (st, aiE cI 240 C)] (fun (u : Fm) => [(h0, moE (nI n) st u k he p ma tr t tb fo gi), (st, aiE cI 240 C)]) (fun (r : Int32) (u : Fm) => r = if isFormB n x then (if rootF (ldF C x.toNatClampNeg) then 1 else 0) else (-10001)) := by
  refine CtI.of (own := RX6) (by decide +kernel) (Nat.le_of_ble_eq_true rfl) rfl ?_
  intro pr_ en_ sg_ me_ ar_ be_ mt_ co_ AA ls QQ X hA hP hD hS hl hret
  have hl : lv_has ls 2 [(0, .ref h0), (1, .int x)] := hl
  refine lv_aload_n X.1 X.2.1 dX6_isReducible_0 rfl (lv_at hl 0 rfl) ?_
  refine lv_iload_n X.1 X.2.1 dX6_isReducible_1 rfl (lv_at hl 1 rfl) ?_
  refine fin_i (wr := [(st, aiE cI 240 C)]) (cv_X6_66 X (m_isForm l D cI cJ h0 st he ma tr fo gi n f k p t tb x (by first | assumption | omega) _) rfl rfl dX6_isReducible_2 hP hD 0 rfl [0] rfl rfl hl.1 rfl rfl (Nat.le_of_ble_eq_true rfl) ⟨Nat.le_of_ble_eq_true rfl, Nat.le_of_ble_eq_true rfl⟩ ⟨Nat.le_of_ble_eq_true rfl, Nat.le_of_ble_eq_true rfl⟩) hP hD hS hA [0] [1] rfl rfl rfl (by decide) (fun r_3 u_2 H locs w_1 hP hD hS => ?_)
  have hP : va_P D vwCl [(st, aiE cI 240 C), (h0, moE (nI n) st f k he p ma tr t tb fo gi)] H := hP
  have hD : va_D AA [(st, aiE cI 240 C), (h0, moE (nI n) st f k he p ma tr t tb fo gi)] := hD
  subst w_1
  refine bb_ne (tgt := 12) X dX6_isReducible_5 (by decide) (fun c_4 => ?_) (fun c_4 => ?_)
  · refine lv_aload_n X.1 X.2.1 dX6_isReducible_12 rfl (lv_at hl 0 rfl) ?_
    refine lv_iload_n X.1 X.2.1 dX6_isReducible_13 rfl (lv_at hl 1 rfl) ?_
    refine fin_v (wr := []) (cv_X6_82 X (m_load l D cI cJ h0 st he ma tr fo gi n f k p t tb C x hn c_4 _) rfl rfl dX6_isReducible_14 hP hD 1 rfl [1, 0] rfl rfl hl.1 rfl rfl (Nat.le_of_ble_eq_true rfl) ⟨Nat.le_of_ble_eq_true rfl, Nat.le_of_ble_eq_true rfl⟩ ⟨Nat.le_of_ble_eq_true rfl, Nat.le_of_ble_eq_true rfl⟩) hP hD hS hA [1, 0] [] rfl rfl rfl (by decide) (fun u_6 H locs w_5 hP hD hS => ?_)
    have hP : va_P D vwCl [(h0, moE (nI n) st (ldF C x.toNatClampNeg) k he p ma tr t tb fo gi), (st, aiE cI 240 C)] H := hP
    have hD : va_D AA [(h0, moE (nI n) st (ldF C x.toNatClampNeg) k he p ma tr t tb fo gi), (st, aiE cI 240 C)] := hD
    refine lv_aload_n X.1 X.2.1 dX6_isReducible_17 rfl (lv_at hl 0 rfl) ?_
    refine fin_i (wr := [(st, aiE cI 240 C)]) (cv_X6_127 X (m_isReducibleNow l D cI cJ h0 st he ma tr fo gi n (ldF C x.toNatClampNeg) k p t tb (anF (ldF C x.toNatClampNeg)) (dnF (ldF C x.toNatClampNeg)) ((ldF_a hC hn c_4).1) ((ldF_a hC hn c_4).2) ((ldF_d hC hn c_4).1) ((ldF_d hC hn c_4).2) _) rfl rfl dX6_isReducible_18 hP hD 0 rfl [0] rfl rfl hl.1 rfl rfl (Nat.le_of_ble_eq_true rfl) ⟨Nat.le_of_ble_eq_true rfl, Nat.le_of_ble_eq_true rfl⟩ ⟨Nat.le_of_ble_eq_true rfl, Nat.le_of_ble_eq_true rfl⟩) hP hD hS hA [0] [1] rfl rfl rfl (by decide) (fun r_10 u_9 H locs w_8 hP hD hS => ?_)
    have hP : va_P D vwCl [(st, aiE cI 240 C), (h0, moE (nI n) st (ldF C x.toNatClampNeg) k he p ma tr t tb fo gi)] H := hP
    have hD : va_D AA [(st, aiE cI 240 C), (h0, moE (nI n) st (ldF C x.toNatClampNeg) k he p ma tr t tb fo gi)] := hD
    subst w_8
    refine bb_eq (tgt := 28) X dX6_isReducible_21 (by decide) (fun c_11 => ?_) (fun c_11 => ?_)
    · refine lv_iconst (v := 0) X.1 X.2.1 dX6_isReducible_28 (by decide) ?_
      exact hret 0 (ldF C x.toNatClampNeg) _ _ _ _ (by rw [if_pos c_4, if_neg (show ¬ rootF _ = true from by rw [show rootF _ = false from c_11]; decide)]) rfl (hP.sub [1, 0] rfl) (hD.sub [1, 0] rfl rfl) hS dX6_isReducible_29
    · refine lv_iconst (v := 1) X.1 X.2.1 dX6_isReducible_24 (by decide) ?_
      refine lv_goto (tgt := 29) X.1 X.2.1 dX6_isReducible_25 (by decide) ?_
      exact hret 1 (ldF C x.toNatClampNeg) _ _ _ _ (by rw [if_pos c_4, if_pos (show rootF _ = true from c_11)]) rfl (hP.sub [1, 0] rfl) (hD.sub [1, 0] rfl rfl) hS dX6_isReducible_29
  · refine lv_sipush (v := (-10001)) X.1 X.2.1 dX6_isReducible_8 (by decide) ?_
    exact hret (-10001) f _ _ _ _ (by rw [if_neg (by rw [c_4]; decide)]) rfl (hP.sub [1, 0] rfl) (hD.sub [1, 0] rfl rfl) hS dX6_isReducible_11
set_option maxHeartbeats 4000000 in
set_option maxRecDepth 100000 in
theorem m_splitting (l : Launch) (D : va_G) (cI cJ : ClassId) (h0 : Nat) (st : Nat) (he : Nat) (ma : Nat) (tr : Nat) (fo : Nat) (gi : Nat) (n : Nat) (f : Fm) (k : Fm) (p : Em) (t : Fm) (tb : Int32) (C : Nat → Int32) (x : Int32) (y : Int32) (hn : n ≤ 60) : CtI l yX6_splitting cX6_splitting 6 .int (rmk 2 46) D cI cJ [.ref h0, .int x, .int y] [(h0, moE (nI n) st f k he p ma tr t tb fo gi), (st, aiE cI 240 C)] (fun (u : Fm × Fm) => [(h0, moE (nI n) st u.1 k he p ma tr u.2 tb fo gi), (st, aiE cI 240 C)]) (fun (r : Int32) (u : Fm × Fm) => r = splR n C x y) := by
  refine CtI.of (own := RX6) (by decide +kernel) (Nat.le_of_ble_eq_true rfl) rfl ?_
  intro pr_ en_ sg_ me_ ar_ be_ mt_ co_ AA ls QQ X hA hP hD hS hl hret
  have hl : lv_has ls 6 [(0, .ref h0), (1, .int x), (2, .int y)] := hl
  refine lv_aload_n X.1 X.2.1 dX6_splitting_0 rfl (lv_at hl 0 rfl) ?_
  refine lv_iload_n X.1 X.2.1 dX6_splitting_1 rfl (lv_at hl 1 rfl) ?_
  refine fin_i (wr := [(st, aiE cI 240 C)]) (cv_X6_66 X (m_isForm l D cI cJ h0 st he ma tr fo gi n f k p t tb x (by first | assumption | omega) _) rfl rfl dX6_splitting_2 hP hD 0 rfl [0] rfl rfl hl.1 rfl rfl (Nat.le_of_ble_eq_true rfl) ⟨Nat.le_of_ble_eq_true rfl, Nat.le_of_ble_eq_true rfl⟩ ⟨Nat.le_of_ble_eq_true rfl, Nat.le_of_ble_eq_true rfl⟩) hP hD hS hA [0] [1] rfl rfl rfl (by decide) (fun r_3 u_2 H locs w_1 hP hD hS => ?_)
  have hP : va_P D vwCl [(st, aiE cI 240 C), (h0, moE (nI n) st f k he p ma tr t tb fo gi)] H := hP
  have hD : va_D AA [(st, aiE cI 240 C), (h0, moE (nI n) st f k he p ma tr t tb fo gi)] := hD
  subst w_1
  refine bb_ne (tgt := 12) X dX6_splitting_5 (by decide) (fun c_4 => ?_) (fun c_4 => ?_)
  · refine lv_iload_n X.1 X.2.1 dX6_splitting_12 rfl (lv_at hl 2 rfl) ?_
    refine fin_i (wr := [(st, aiE cI 240 C), (h0, moE (nI n) st f k he p ma tr t tb fo gi)]) (cv_X6_214 X (m_isPrime l D cI cJ y  _) rfl rfl dX6_splitting_13 hP hD [] rfl rfl hl.1 rfl rfl (Nat.le_of_ble_eq_true rfl) ⟨Nat.le_of_ble_eq_true rfl, Nat.le_of_ble_eq_true rfl⟩ ⟨Nat.le_of_ble_eq_true rfl, Nat.le_of_ble_eq_true rfl⟩) hP hD hS hA [] [0, 1] rfl rfl rfl (by decide) (fun r_7 u_6 H locs w_5 hP hD hS => ?_)
    have hP : va_P D vwCl [(st, aiE cI 240 C), (h0, moE (nI n) st f k he p ma tr t tb fo gi)] H := hP
    have hD : va_D AA [(st, aiE cI 240 C), (h0, moE (nI n) st f k he p ma tr t tb fo gi)] := hD
    subst w_5
    refine bb_ne (tgt := 23) X dX6_splitting_16 (by decide) (fun c_8 => ?_) (fun c_8 => ?_)
    · obtain ⟨P, h2, h9, hy, hpr⟩ := primeB_out c_8
      have hyc : y.toNatClampNeg = P := by rw [hy]; exact nI_clamp (by omega)
      rw [hy] at hl
      refine lv_aload_n X.1 X.2.1 dX6_splitting_23 rfl (lv_at hl 0 rfl) ?_
      refine lv_iload_n X.1 X.2.1 dX6_splitting_24 rfl (lv_at hl 1 rfl) ?_
      refine fin_v (wr := []) (cv_X6_82 X (m_load l D cI cJ h0 st he ma tr fo gi n f k p t tb C x hn c_4 _) rfl rfl dX6_splitting_25 hP hD 1 rfl [1, 0] rfl rfl hl.1 rfl rfl (Nat.le_of_ble_eq_true rfl) ⟨Nat.le_of_ble_eq_true rfl, Nat.le_of_ble_eq_true rfl⟩ ⟨Nat.le_of_ble_eq_true rfl, Nat.le_of_ble_eq_true rfl⟩) hP hD hS hA [1, 0] [] rfl rfl rfl (by decide) (fun u_10 H locs w_9 hP hD hS => ?_)
      have hP : va_P D vwCl [(h0, moE (nI n) st (ldF C x.toNatClampNeg) k he p ma tr t tb fo gi), (st, aiE cI 240 C)] H := hP
      have hD : va_D AA [(h0, moE (nI n) st (ldF C x.toNatClampNeg) k he p ma tr t tb fo gi), (st, aiE cI 240 C)] := hD
      refine lv_aload_n X.1 X.2.1 dX6_splitting_28 rfl (lv_at hl 0 rfl) ?_
      refine lv_iload_n X.1 X.2.1 dX6_splitting_29 rfl (lv_at hl 2 rfl) ?_
      refine lv_i2l (v := lN P) X.1 X.2.1 dX6_splitting_30 (nI_l (by omega)) ?_
      refine fin_i (wr := [(st, aiE cI 240 C)]) (cv_X6_217 X (m_dividesAll l D cI cJ h0 st he ma tr fo gi n (ldF C x.toNatClampNeg) k p t tb P (by first | assumption | omega) (by first | assumption | omega) _) rfl rfl dX6_splitting_31 hP hD 0 rfl [0] rfl rfl hl.1 rfl rfl (Nat.le_of_ble_eq_true rfl) ⟨Nat.le_of_ble_eq_true rfl, Nat.le_of_ble_eq_true rfl⟩ ⟨Nat.le_of_ble_eq_true rfl, Nat.le_of_ble_eq_true rfl⟩) hP hD hS hA [0] [1] rfl rfl rfl (by decide) (fun r_14 u_13 H locs w_12 hP hD hS => ?_)
      have hP : va_P D vwCl [(st, aiE cI 240 C), (h0, moE (nI n) st (ldF C x.toNatClampNeg) k he p ma tr t tb fo gi)] H := hP
      have hD : va_D AA [(st, aiE cI 240 C), (h0, moE (nI n) st (ldF C x.toNatClampNeg) k he p ma tr t tb fo gi)] := hD
      subst w_12
      refine bb_eq (tgt := 39) X dX6_splitting_34 (by decide) (fun c_15 => ?_) (fun c_15 => ?_)
      · have eS : splR n C x y = splC (ldF C x.toNatClampNeg) P := by rw [splR, if_pos c_4, if_pos c_8, hyc]
        have e1 : splC (ldF C x.toNatClampNeg) P = splF (splGo (ldF C x.toNatClampNeg) P (P + 1) 0 0 false).1 (splGo (ldF C x.toNatClampNeg) P (P + 1) 0 0 false).2 := by rw [splC, if_neg (by rw [c_15]; decide)]
        refine lv_iconst (v := 0) X.1 X.2.1 dX6_splitting_39 (by decide) ?_
        refine lv_istore_n (lv' := [(3, .int 0), (0, .ref h0), (1, .int x), (2, .int (nI P))]) X.1 X.2.1 dX6_splitting_40 rfl hl (by decide) rfl (fun ls hl => ?_)
        refine lv_iconst (v := 0) X.1 X.2.1 dX6_splitting_41 (by decide) ?_
        refine lv_istore (lv' := [(4, .int 0), (3, .int 0), (0, .ref h0), (1, .int x), (2, .int (nI P))]) X.1 X.2.1 dX6_splitting_42 hl (by decide) rfl (fun ls hl => ?_)
        refine lv_iconst (v := 0) X.1 X.2.1 dX6_splitting_44 (by decide) ?_
        refine lv_istore (lv' := [(5, .int 0), (4, .int 0), (3, .int 0), (0, .ref h0), (1, .int x), (2, .int (nI P))]) X.1 X.2.1 dX6_splitting_45 hl (by decide) rfl (fun ls hl => ?_)
        have loop47 : ∀ (n9 : Nat) (t9 : Nat) (K : Nat) (a9 : Nat) (m9 : Nat) (z : Fm), (t9 + K = P + 1) → (a9 ≤ t9) → (m9 ≤ t9) → (splGo (ldF C x.toNatClampNeg) P K t9 a9 (decide (0 < m9)) = splGo (ldF C x.toNatClampNeg) P (P + 1) 0 0 false) → (K < n9) → ∀ (H : Heap) (locs : List Loc) (ls : Array Slot), va_P D vwCl [(h0, moE (nI n) st (ldF C x.toNatClampNeg) k he p ma tr z tb fo gi), (st, aiE cI 240 C)] H → va_D AA [(h0, moE (nI n) st (ldF C x.toNatClampNeg) k he p ma tr z tb fo gi), (st, aiE cI 240 C)] → va_S AA sg_.heap H locs → lv_has ls 6 [(0, .ref h0), (2, .int (nI P)), (3, .int (nI a9)), (4, .int (nI m9)), (5, .int (nI t9))] → W pr_ l en_ (rmk 2 46) sg_ me_ ar_ be_ mt_ co_ H locs 0 0 QQ (F0 me_ 47 ls []) := by
          intro n9
          induction n9 with
          | zero =>
            intro t9 K a9 m9 z hk ha9 hm9 hG hn9
            omega
          | succ n47 ih47 =>
            intro t9 K a9 m9 z hk ha9 hm9 hG hn9 H locs ls hP hD hS hl
            refine lv_iload X.1 X.2.1 dX6_splitting_47 (lv_at hl 4 rfl) ?_
            refine lv_iload_n X.1 X.2.1 dX6_splitting_49 rfl (lv_at hl 1 rfl) ?_
            refine bi_gt (tgt := 122) X dX6_splitting_50 (by decide) (fun c_16 => ?_) (fun c_16 => ?_)
            · have ht : P < t9 := (nI_ltI (by omega) (by omega)).mp c_16
              obtain rfl : K = 0 := by omega
              have hG : (a9, decide (0 < m9)) = splGo (ldF C x.toNatClampNeg) P (P + 1) 0 0 false := hG
              refine lv_iload X.1 X.2.1 dX6_splitting_122 (lv_at hl 3 rfl) ?_
              refine bz_le (tgt := 140) X dX6_splitting_124 (by decide) (fun c_17 => ?_) (fun c_17 => ?_)
              · refine lv_iload_n X.1 X.2.1 dX6_splitting_140 rfl (lv_at hl 2 rfl) ?_
                refine bz_ne (tgt := 148) X dX6_splitting_141 (by decide) (fun c_18 => ?_) (fun c_18 => ?_)
                · refine lv_iload_n X.1 X.2.1 dX6_splitting_148 rfl (lv_at hl 2 rfl) ?_
                  refine lv_iconst (v := 1) X.1 X.2.1 dX6_splitting_149 (by decide) ?_
                  refine bi_ne (tgt := 158) X dX6_splitting_150 (by decide) (fun c_19 => ?_) (fun c_19 => ?_)
                  · refine lv_bipush (v := 111) X.1 X.2.1 dX6_splitting_158 (by decide) ?_
                    exact hret 111 (ldF C x.toNatClampNeg, z) _ _ _ _ (by rw [eS, e1, ← hG, splF, if_neg (show ¬ decide (0 < m9) = true from fun q => c_17 ((nI_ltI (a := 0) (by decide) (by omega)).mpr (of_decide_eq_true q))), if_neg (show ¬ a9 = 0 from fun q => c_18 ((nI_eq (b := 0) (by omega) (by decide)).mpr q)), if_neg (show ¬ a9 = 1 from fun q => c_19 ((nI_eq (b := 1) (by omega) (by decide)).mpr q))]) rfl (hP.sub [0, 1] rfl) (hD.sub [0, 1] rfl rfl) hS dX6_splitting_160
                  · refine lv_bipush (v := 21) X.1 X.2.1 dX6_splitting_153 (by decide) ?_
                    refine lv_goto (tgt := 160) X.1 X.2.1 dX6_splitting_155 (by decide) ?_
                    exact hret 21 (ldF C x.toNatClampNeg, z) _ _ _ _ (by rw [eS, e1, ← hG, splF, if_neg (show ¬ decide (0 < m9) = true from fun q => c_17 ((nI_ltI (a := 0) (by decide) (by omega)).mpr (of_decide_eq_true q))), if_neg (show ¬ a9 = 0 from fun q => c_18 ((nI_eq (b := 0) (by omega) (by decide)).mpr q)), if_pos (show a9 = 1 from (nI_eq (b := 1) (by omega) (by decide)).mp c_19)]) rfl (hP.sub [0, 1] rfl) (hD.sub [0, 1] rfl rfl) hS dX6_splitting_160
                · refine lv_iconst (v := 3) X.1 X.2.1 dX6_splitting_144 (by decide) ?_
                  refine lv_goto (tgt := 160) X.1 X.2.1 dX6_splitting_145 (by decide) ?_
                  exact hret 3 (ldF C x.toNatClampNeg, z) _ _ _ _ (by rw [eS, e1, ← hG, splF, if_neg (show ¬ decide (0 < m9) = true from fun q => c_17 ((nI_ltI (a := 0) (by decide) (by omega)).mpr (of_decide_eq_true q))), if_pos (show a9 = 0 from (nI_eq (b := 0) (by omega) (by decide)).mp c_18)]) rfl (hP.sub [0, 1] rfl) (hD.sub [0, 1] rfl rfl) hS dX6_splitting_160
              · refine lv_iload_n X.1 X.2.1 dX6_splitting_127 rfl (lv_at hl 2 rfl) ?_
                refine lv_iconst (v := 1) X.1 X.2.1 dX6_splitting_128 (by decide) ?_
                refine bi_le (tgt := 137) X dX6_splitting_129 (by decide) (fun c_20 => ?_) (fun c_20 => ?_)
                · refine lv_bipush (v := 13) X.1 X.2.1 dX6_splitting_137 (by decide) ?_
                  exact hret 13 (ldF C x.toNatClampNeg, z) _ _ _ _ (by rw [eS, e1, ← hG, splF, if_pos (show decide (0 < m9) = true from decide_eq_true ((nI_ltI (a := 0) (by decide) (by omega)).mp c_17)), if_neg (show ¬ 1 < a9 from fun q => c_20 ((nI_ltI (a := 1) (by decide) (by omega)).mpr q))]) rfl (hP.sub [0, 1] rfl) (hD.sub [0, 1] rfl rfl) hS dX6_splitting_139
                · refine lv_bipush (v := 121) X.1 X.2.1 dX6_splitting_132 (by decide) ?_
                  refine lv_goto (tgt := 139) X.1 X.2.1 dX6_splitting_134 (by decide) ?_
                  exact hret 121 (ldF C x.toNatClampNeg, z) _ _ _ _ (by rw [eS, e1, ← hG, splF, if_pos (show decide (0 < m9) = true from decide_eq_true ((nI_ltI (a := 0) (by decide) (by omega)).mp c_17)), if_pos (show 1 < a9 from (nI_ltI (a := 1) (by decide) (by omega)).mp c_20)]) rfl (hP.sub [0, 1] rfl) (hD.sub [0, 1] rfl rfl) hS dX6_splitting_139
            · have ht : ¬ P < t9 := fun q => c_16 ((nI_ltI (by omega) (by omega)).mpr q)
              obtain ⟨K, rfl⟩ : ∃ z, K = z + 1 := ⟨K - 1, by omega⟩
              refine lv_aload_n X.1 X.2.1 dX6_splitting_53 rfl (lv_at hl 0 rfl) ?_
              refine lv_iload X.1 X.2.1 dX6_splitting_54 (lv_at hl 4 rfl) ?_
              refine lv_i2l (v := lN t9) X.1 X.2.1 dX6_splitting_56 (nI_l (by omega)) ?_
              refine lv_iload_n X.1 X.2.1 dX6_splitting_57 rfl (lv_at hl 1 rfl) ?_
              refine lv_i2l (v := lN P) X.1 X.2.1 dX6_splitting_58 (nI_l (by omega)) ?_
              refine fin_v (wr := [(st, aiE cI 240 C)]) (cv_X6_220 X (m_layPoint l D cI cJ h0 st he ma tr fo gi n (ldF C x.toNatClampNeg) k p z tb (lN t9) (lN P)  _) rfl rfl dX6_splitting_59 hP hD 0 rfl [0] rfl rfl hl.1 rfl rfl (Nat.le_of_ble_eq_true rfl) ⟨Nat.le_of_ble_eq_true rfl, Nat.le_of_ble_eq_true rfl⟩ ⟨Nat.le_of_ble_eq_true rfl, Nat.le_of_ble_eq_true rfl⟩) hP hD hS hA [0] [1] rfl rfl rfl (by decide) (fun u_22 H locs w_21 hP hD hS => ?_)
              have hP : va_P D vwCl [(st, aiE cI 240 C), (h0, moE (nI n) st (ldF C x.toNatClampNeg) k he p ma tr (ptF (ldF C x.toNatClampNeg) (lN P) (lN t9)) tb fo gi)] H := hP
              have hD : va_D AA [(st, aiE cI 240 C), (h0, moE (nI n) st (ldF C x.toNatClampNeg) k he p ma tr (ptF (ldF C x.toNatClampNeg) (lN P) (lN t9)) tb fo gi)] := hD
              refine lv_iload_n X.1 X.2.1 dX6_splitting_62 rfl (lv_at hl 2 rfl) ?_
              refine lv_aload_n X.1 X.2.1 dX6_splitting_63 rfl (lv_at hl 0 rfl) ?_
              refine gf_X6_202 (v := .long ((ptF (ldF C x.toNatClampNeg) (lN P) (lN t9)).1)) X hP 1 rfl rfl dX6_splitting_64 ?_
              refine lv_iload_n X.1 X.2.1 dX6_splitting_67 rfl (lv_at hl 1 rfl) ?_
              refine lv_i2l (v := lN P) X.1 X.2.1 dX6_splitting_68 (nI_l (by omega)) ?_
              refine lv_lrem X.1 X.2.1 dX6_splitting_69 (lN_ne0 (by omega) (by omega)) ?_
              refine lv_lconst (v := 0) X.1 X.2.1 dX6_splitting_70 (by decide) ?_
              refine bl_ne (tgt := 79) X dX6_splitting_71 dX6_splitting_72 (by decide) (fun c_24 => ?_) (fun c_24 => ?_)
              · refine lv_iconst (v := 0) X.1 X.2.1 dX6_splitting_79 (by decide) ?_
                refine lv_iadd X.1 X.2.1 dX6_splitting_80 ?_
                rw [show nI a9 + 0 = nI a9 from nI_add a9 0]
                refine lv_istore_n (lv' := [(3, .int (nI a9)), (0, .ref h0), (2, .int (nI P)), (4, .int (nI m9)), (5, .int (nI t9))]) X.1 X.2.1 dX6_splitting_81 rfl hl (by decide) rfl (fun ls hl => ?_)
                refine lv_iload X.1 X.2.1 dX6_splitting_82 (lv_at hl 3 rfl) ?_
                refine lv_aload_n X.1 X.2.1 dX6_splitting_84 rfl (lv_at hl 1 rfl) ?_
                refine gf_X6_202 (v := .long ((ptF (ldF C x.toNatClampNeg) (lN P) (lN t9)).1)) X hP 1 rfl rfl dX6_splitting_85 ?_
                refine lv_iload_n X.1 X.2.1 dX6_splitting_88 rfl (lv_at hl 2 rfl) ?_
                refine lv_i2l (v := lN P) X.1 X.2.1 dX6_splitting_89 (nI_l (by omega)) ?_
                refine lv_lrem X.1 X.2.1 dX6_splitting_90 (lN_ne0 (by omega) (by omega)) ?_
                refine lv_lconst (v := 0) X.1 X.2.1 dX6_splitting_91 (by decide) ?_
                refine bl_ne (tgt := 112) X dX6_splitting_92 dX6_splitting_93 (by decide) (fun c_25 => ?_) (fun c_25 => absurd c_25 (c_24))
                refine lv_iconst (v := 0) X.1 X.2.1 dX6_splitting_112 (by decide) ?_
                refine lv_iadd X.1 X.2.1 dX6_splitting_113 ?_
                rw [show nI m9 + 0 = nI m9 from nI_add m9 0]
                refine lv_istore (lv' := [(4, .int (nI m9)), (3, .int (nI a9)), (0, .ref h0), (2, .int (nI P)), (5, .int (nI t9))]) X.1 X.2.1 dX6_splitting_114 hl (by decide) rfl (fun ls hl => ?_)
                refine lv_iinc (v := nI (t9 + 1)) (lv' := [(5, .int (nI (t9 + 1))), (4, .int (nI m9)), (3, .int (nI a9)), (0, .ref h0), (2, .int (nI P))]) X.1 X.2.1 dX6_splitting_116 hl (k := 4) rfl (nI_1 t9) (by decide) rfl (fun ls hl => ?_)
                refine lv_goto (tgt := 47) X.1 X.2.1 dX6_splitting_119 (by decide) ?_
                exact ih47  (t9 + 1) K a9 m9 (ptF (ldF C x.toNatClampNeg) (lN P) (lN t9)) (by omega) (by omega) (by omega) (by rw [← hG, splGo, if_neg (show ¬ remL _ _ = 0 from c_24)]) (by omega) _ _ _ (hP.sub [1, 0] rfl) (hD.sub [1, 0] rfl rfl) hS (lv_sub hl [3, 4, 2, 1, 0] rfl)
              · refine lv_iconst (v := 1) X.1 X.2.1 dX6_splitting_75 (by decide) ?_
                refine lv_goto (tgt := 80) X.1 X.2.1 dX6_splitting_76 (by decide) ?_
                refine lv_iadd X.1 X.2.1 dX6_splitting_80 ?_
                rw [nI_1]
                refine lv_istore_n (lv' := [(3, .int (nI (a9 + 1))), (0, .ref h0), (2, .int (nI P)), (4, .int (nI m9)), (5, .int (nI t9))]) X.1 X.2.1 dX6_splitting_81 rfl hl (by decide) rfl (fun ls hl => ?_)
                refine lv_iload X.1 X.2.1 dX6_splitting_82 (lv_at hl 3 rfl) ?_
                refine lv_aload_n X.1 X.2.1 dX6_splitting_84 rfl (lv_at hl 1 rfl) ?_
                refine gf_X6_202 (v := .long ((ptF (ldF C x.toNatClampNeg) (lN P) (lN t9)).1)) X hP 1 rfl rfl dX6_splitting_85 ?_
                refine lv_iload_n X.1 X.2.1 dX6_splitting_88 rfl (lv_at hl 2 rfl) ?_
                refine lv_i2l (v := lN P) X.1 X.2.1 dX6_splitting_89 (nI_l (by omega)) ?_
                refine lv_lrem X.1 X.2.1 dX6_splitting_90 (lN_ne0 (by omega) (by omega)) ?_
                refine lv_lconst (v := 0) X.1 X.2.1 dX6_splitting_91 (by decide) ?_
                refine bl_ne (tgt := 112) X dX6_splitting_92 dX6_splitting_93 (by decide) (fun c_26 => absurd c_26 (not_not_intro c_24)) (fun c_26 => ?_)
                refine lv_aload_n X.1 X.2.1 dX6_splitting_96 rfl (lv_at hl 1 rfl) ?_
                refine gf_X6_205 (v := .long ((ptF (ldF C x.toNatClampNeg) (lN P) (lN t9)).2.1)) X hP 1 rfl rfl dX6_splitting_97 ?_
                refine lv_iload_n X.1 X.2.1 dX6_splitting_100 rfl (lv_at hl 2 rfl) ?_
                refine lv_i2l (v := lN P) X.1 X.2.1 dX6_splitting_101 (nI_l (by omega)) ?_
                refine lv_lrem X.1 X.2.1 dX6_splitting_102 (lN_ne0 (by omega) (by omega)) ?_
                refine lv_lconst (v := 0) X.1 X.2.1 dX6_splitting_103 (by decide) ?_
                refine bl_ne (tgt := 112) X dX6_splitting_104 dX6_splitting_105 (by decide) (fun c_27 => ?_) (fun c_27 => ?_)
                · refine lv_iconst (v := 0) X.1 X.2.1 dX6_splitting_112 (by decide) ?_
                  refine lv_iadd X.1 X.2.1 dX6_splitting_113 ?_
                  rw [show nI m9 + 0 = nI m9 from nI_add m9 0]
                  refine lv_istore (lv' := [(4, .int (nI m9)), (3, .int (nI (a9 + 1))), (0, .ref h0), (2, .int (nI P)), (5, .int (nI t9))]) X.1 X.2.1 dX6_splitting_114 hl (by decide) rfl (fun ls hl => ?_)
                  refine lv_iinc (v := nI (t9 + 1)) (lv' := [(5, .int (nI (t9 + 1))), (4, .int (nI m9)), (3, .int (nI (a9 + 1))), (0, .ref h0), (2, .int (nI P))]) X.1 X.2.1 dX6_splitting_116 hl (k := 4) rfl (nI_1 t9) (by decide) rfl (fun ls hl => ?_)
                  refine lv_goto (tgt := 47) X.1 X.2.1 dX6_splitting_119 (by decide) ?_
                  exact ih47  (t9 + 1) K (a9 + 1) m9 (ptF (ldF C x.toNatClampNeg) (lN P) (lN t9)) (by omega) (by omega) (by omega) (by rw [← hG, splGo, if_pos (show remL _ _ = 0 from c_24), show decide (remL _ _ = 0) = false from decide_eq_false c_27, Bool.or_false]) (by omega) _ _ _ (hP.sub [1, 0] rfl) (hD.sub [1, 0] rfl rfl) hS (lv_sub hl [3, 4, 2, 1, 0] rfl)
                · refine lv_iconst (v := 1) X.1 X.2.1 dX6_splitting_108 (by decide) ?_
                  refine lv_goto (tgt := 113) X.1 X.2.1 dX6_splitting_109 (by decide) ?_
                  refine lv_iadd X.1 X.2.1 dX6_splitting_113 ?_
                  rw [nI_1]
                  refine lv_istore (lv' := [(4, .int (nI (m9 + 1))), (3, .int (nI (a9 + 1))), (0, .ref h0), (2, .int (nI P)), (5, .int (nI t9))]) X.1 X.2.1 dX6_splitting_114 hl (by decide) rfl (fun ls hl => ?_)
                  refine lv_iinc (v := nI (t9 + 1)) (lv' := [(5, .int (nI (t9 + 1))), (4, .int (nI (m9 + 1))), (3, .int (nI (a9 + 1))), (0, .ref h0), (2, .int (nI P))]) X.1 X.2.1 dX6_splitting_116 hl (k := 4) rfl (nI_1 t9) (by decide) rfl (fun ls hl => ?_)
                  refine lv_goto (tgt := 47) X.1 X.2.1 dX6_splitting_119 (by decide) ?_
                  exact ih47  (t9 + 1) K (a9 + 1) (m9 + 1) (ptF (ldF C x.toNatClampNeg) (lN P) (lN t9)) (by omega) (by omega) (by omega) (by rw [← hG, splGo, if_pos (show remL _ _ = 0 from c_24), show decide (remL _ _ = 0) = true from decide_eq_true c_27, Bool.or_true, show decide (0 < m9 + 1) = true from decide_eq_true (by omega)]) (by omega) _ _ _ (hP.sub [1, 0] rfl) (hD.sub [1, 0] rfl rfl) hS (lv_sub hl [3, 4, 2, 1, 0] rfl)
        exact loop47 (P + 2) 0 (P + 1) 0 0 t (by omega) (Nat.le_refl 0) (Nat.le_refl 0) rfl (by omega) _ _ _ (hP.sub [1, 0] rfl) (hD.sub [1, 0] rfl rfl) hS (lv_sub hl [3, 5, 2, 1, 0] rfl)
      · refine lv_iconst (v := 0) X.1 X.2.1 dX6_splitting_37 (by decide) ?_
        exact hret 0 (ldF C x.toNatClampNeg, t) _ _ _ _ (by rw [splR, if_pos c_4, if_pos c_8, hyc, splC, if_pos c_15]) rfl (hP.sub [1, 0] rfl) (hD.sub [1, 0] rfl rfl) hS dX6_splitting_38
    · refine lv_sipush (v := (-10003)) X.1 X.2.1 dX6_splitting_19 (by decide) ?_
      exact hret (-10003) (f, t) _ _ _ _ (by rw [splR, if_pos c_4, if_neg (by rw [c_8]; decide)]) rfl (hP.sub [1, 0] rfl) (hD.sub [1, 0] rfl rfl) hS dX6_splitting_22
  · refine lv_sipush (v := (-10001)) X.1 X.2.1 dX6_splitting_8 (by decide) ?_
    exact hret (-10001) (f, t) _ _ _ _ (by rw [splR, if_neg (by rw [c_4]; decide)]) rfl (hP.sub [1, 0] rfl) (hD.sub [1, 0] rfl rfl) hS dX6_splitting_11
set_option maxHeartbeats 4000000 in
set_option maxRecDepth 100000 in
theorem m_maximalOverring (l : Launch) (D : va_G) (cI cJ : ClassId) (h0 : Nat) (st : Nat) (he : Nat) (ma : Nat) (tr : Nat) (fo : Nat) (gi : Nat) (n : Nat) (f : Fm) (k : Fm) (p : Em) (t : Fm) (tb : Int32) (C : Nat → Int32) (N0 : Nat) (x : Int32) (hn : n ≤ 60) (hC : rngC C) (hc : isFormB n x = true → 0 < discF (ldF C x.toNatClampNeg) → rootF (ldF C x.toNatClampNeg) = false → canOK (ldF C x.toNatClampNeg) ∧ mxRel N0 (sealC 0 (ldF C x.toNatClampNeg)) (sealM 0 (ldF C x.toNatClampNeg))) : CtI l yX6_maximalOverring cX6_maximalOverring 2 .int (rmk 4 117) D cI cJ [.ref h0, .int x] [(h0, moE (nI n) st f k he p ma tr t tb fo gi), (st, aiE cI 240 C)] (fun (u : Fm × Fm × Fm) => [(h0, moE (nI (outS n C (maxO n C x)).1) st u.1 u.2.1 he p ma tr u.2.2 tb fo gi), (st, aiE cI 240 ((outS n C (maxO n C x)).2))]) (fun (r : Int32) (u : Fm × Fm × Fm) => r = outR n (maxO n C x)) := by
  refine CtI.of (own := RX6) (by decide +kernel) (Nat.le_of_ble_eq_true rfl) rfl ?_
  intro pr_ en_ sg_ me_ ar_ be_ mt_ co_ AA ls QQ X hA hP hD hS hl hret
  have hl : lv_has ls 2 [(0, .ref h0), (1, .int x)] := hl
  refine lv_aload_n X.1 X.2.1 dX6_maximalOverring_0 rfl (lv_at hl 0 rfl) ?_
  refine lv_iload_n X.1 X.2.1 dX6_maximalOverring_1 rfl (lv_at hl 1 rfl) ?_
  refine fin_i (wr := [(st, aiE cI 240 C)]) (cv_X6_66 X (m_isForm l D cI cJ h0 st he ma tr fo gi n f k p t tb x (by first | assumption | omega) _) rfl rfl dX6_maximalOverring_2 hP hD 0 rfl [0] rfl rfl hl.1 rfl rfl (Nat.le_of_ble_eq_true rfl) ⟨Nat.le_of_ble_eq_true rfl, Nat.le_of_ble_eq_true rfl⟩ ⟨Nat.le_of_ble_eq_true rfl, Nat.le_of_ble_eq_true rfl⟩) hP hD hS hA [0] [1] rfl rfl rfl (by decide) (fun r_3 u_2 H locs w_1 hP hD hS => ?_)
  have hP : va_P D vwCl [(st, aiE cI 240 C), (h0, moE (nI n) st f k he p ma tr t tb fo gi)] H := hP
  have hD : va_D AA [(st, aiE cI 240 C), (h0, moE (nI n) st f k he p ma tr t tb fo gi)] := hD
  subst w_1
  refine bb_ne (tgt := 12) X dX6_maximalOverring_5 (by decide) (fun c_4 => ?_) (fun c_4 => ?_)
  · refine lv_aload_n X.1 X.2.1 dX6_maximalOverring_12 rfl (lv_at hl 0 rfl) ?_
    refine lv_iload_n X.1 X.2.1 dX6_maximalOverring_13 rfl (lv_at hl 1 rfl) ?_
    refine fin_i (wr := []) (cv_X6_159 X (m_isPositive l D cI cJ h0 st he ma tr fo gi n f k p t tb C x hn c_4 _) rfl rfl dX6_maximalOverring_14 hP hD 1 rfl [1, 0] rfl rfl hl.1 rfl rfl (Nat.le_of_ble_eq_true rfl) ⟨Nat.le_of_ble_eq_true rfl, Nat.le_of_ble_eq_true rfl⟩ ⟨Nat.le_of_ble_eq_true rfl, Nat.le_of_ble_eq_true rfl⟩) hP hD hS hA [1, 0] [] rfl rfl rfl (by decide) (fun r_7 u_6 H locs w_5 hP hD hS => ?_)
    have hP : va_P D vwCl [(h0, moE (nI n) st (ldF C x.toNatClampNeg) k he p ma tr t tb fo gi), (st, aiE cI 240 C)] H := hP
    have hD : va_D AA [(h0, moE (nI n) st (ldF C x.toNatClampNeg) k he p ma tr t tb fo gi), (st, aiE cI 240 C)] := hD
    subst w_5
    refine bb_ne (tgt := 24) X dX6_maximalOverring_17 (by decide) (fun c_8 => ?_) (fun c_8 => ?_)
    · refine lv_aload_n X.1 X.2.1 dX6_maximalOverring_24 rfl (lv_at hl 0 rfl) ?_
      refine fin_i (wr := [(st, aiE cI 240 C)]) (cv_X6_127 X (m_isReducibleNow l D cI cJ h0 st he ma tr fo gi n (ldF C x.toNatClampNeg) k p t tb (anF (ldF C x.toNatClampNeg)) (dnF (ldF C x.toNatClampNeg)) ((ldF_a hC hn c_4).1) ((ldF_a hC hn c_4).2) ((ldF_d hC hn c_4).1) ((ldF_d hC hn c_4).2) _) rfl rfl dX6_maximalOverring_25 hP hD 0 rfl [0] rfl rfl hl.1 rfl rfl (Nat.le_of_ble_eq_true rfl) ⟨Nat.le_of_ble_eq_true rfl, Nat.le_of_ble_eq_true rfl⟩ ⟨Nat.le_of_ble_eq_true rfl, Nat.le_of_ble_eq_true rfl⟩) hP hD hS hA [0] [1] rfl rfl rfl (by decide) (fun r_11 u_10 H locs w_9 hP hD hS => ?_)
      have hP : va_P D vwCl [(st, aiE cI 240 C), (h0, moE (nI n) st (ldF C x.toNatClampNeg) k he p ma tr t tb fo gi)] H := hP
      have hD : va_D AA [(st, aiE cI 240 C), (h0, moE (nI n) st (ldF C x.toNatClampNeg) k he p ma tr t tb fo gi)] := hD
      subst w_9
      refine bb_eq (tgt := 35) X dX6_maximalOverring_28 (by decide) (fun c_12 => ?_) (fun c_12 => ?_)
      · have hcc := hc c_4 (of_decide_eq_true c_8) c_12
        have eo : maxO n C x = .inr (sealM 0 (ldF C x.toNatClampNeg)) := by rw [maxO, if_pos c_4, if_pos (of_decide_eq_true c_8), if_neg (show ¬ rootF _ = true from by rw [show rootF _ = false from c_12]; decide)]
        refine lv_aload_n X.1 X.2.1 dX6_maximalOverring_35 rfl (lv_at hl 0 rfl) ?_
        refine fin_v (wr := [(st, aiE cI 240 C)]) (cv_X6_162 X (m_canonise l D cI cJ h0 st he ma tr fo gi n (ldF C x.toNatClampNeg) k p t tb hcc.1 _) rfl rfl dX6_maximalOverring_36 hP hD 1 rfl [1] rfl rfl hl.1 rfl rfl (Nat.le_of_ble_eq_true rfl) ⟨Nat.le_of_ble_eq_true rfl, Nat.le_of_ble_eq_true rfl⟩ ⟨Nat.le_of_ble_eq_true rfl, Nat.le_of_ble_eq_true rfl⟩) hP hD hS hA [1] [0] rfl rfl rfl (by decide) (fun u_14 H locs w_13 hP hD hS => ?_)
        have hP : va_P D vwCl [(st, aiE cI 240 C), (h0, moE (nI n) st (sealC 0 (ldF C x.toNatClampNeg)) u_14 he p ma tr t tb fo gi)] H := hP
        have hD : va_D AA [(st, aiE cI 240 C), (h0, moE (nI n) st (sealC 0 (ldF C x.toNatClampNeg)) u_14 he p ma tr t tb fo gi)] := hD
        have loop39 : ∀ (n9 : Nat) (g : Fm) (K : Nat) (y1 : Fm) (y2 : Fm), (mxRel K g (sealM 0 (ldF C x.toNatClampNeg))) → (K < n9) → ∀ (H : Heap) (locs : List Loc) (ls : Array Slot), va_P D vwCl [(h0, moE (nI n) st g y1 he p ma tr y2 tb fo gi), (st, aiE cI 240 C)] H → va_D AA [(h0, moE (nI n) st g y1 he p ma tr y2 tb fo gi), (st, aiE cI 240 C)] → va_S AA sg_.heap H locs → lv_has ls 2 [(0, .ref h0)] → W pr_ l en_ (rmk 4 117) sg_ me_ ar_ be_ mt_ co_ H locs 0 0 QQ (F0 me_ 39 ls []) := by
          intro n9
          induction n9 with
          | zero =>
            intro g K y1 y2 hm hn9
            omega
          | succ n39 ih39 =>
            intro g K y1 y2 hm hn9 H locs ls hP hD hS hl
            refine lv_aload_n X.1 X.2.1 dX6_maximalOverring_39 rfl (lv_at hl 0 rfl) ?_
            refine fin_i (wr := [(st, aiE cI 240 C)]) (cv_X6_227 X (m_enlargeSomewhere l D cI cJ h0 st he ma tr fo gi n g y1 p y2 tb  _) rfl rfl dX6_maximalOverring_40 hP hD 0 rfl [0] rfl rfl hl.1 rfl rfl (Nat.le_of_ble_eq_true rfl) ⟨Nat.le_of_ble_eq_true rfl, Nat.le_of_ble_eq_true rfl⟩ ⟨Nat.le_of_ble_eq_true rfl, Nat.le_of_ble_eq_true rfl⟩) hP hD hS hA [0] [1] rfl rfl rfl (by decide) (fun r_18 u_17 H locs w_16 hP hD hS => ?_)
            have hP : va_P D vwCl [(st, aiE cI 240 C), (h0, moE (nI n) st ((sealG 0 g).getD g) y1 he p ma tr u_17 tb fo gi)] H := hP
            have hD : va_D AA [(st, aiE cI 240 C), (h0, moE (nI n) st ((sealG 0 g).getD g) y1 he p ma tr u_17 tb fo gi)] := hD
            subst w_16
            refine bb_eq (tgt := 53) X dX6_maximalOverring_43 (by decide) (fun c_19 => ?_) (fun c_19 => ?_)
            · have e : (sealG 0 g).getD g = sealM 0 (ldF C x.toNatClampNeg) := by
                rcases K with _ | K
                · cases hm
                · rw [mxRel, if_neg (by rw [c_19]; decide)] at hm
                  rw [isSome_f c_19]; exact hm
              rw [e] at hP hD
              refine lv_aload_n X.1 X.2.1 dX6_maximalOverring_53 rfl (lv_at hl 0 rfl) ?_
              refine fin_i (wr := []) (cv_X6_62 X (m_store l D cI cJ h0 st he ma tr fo gi n (sealM 0 (ldF C x.toNatClampNeg)) y1 p u_17 tb C (by first | assumption | omega) _) rfl rfl dX6_maximalOverring_54 hP hD 1 rfl [1, 0] rfl rfl hl.1 rfl rfl (Nat.le_of_ble_eq_true rfl) ⟨Nat.le_of_ble_eq_true rfl, Nat.le_of_ble_eq_true rfl⟩ ⟨Nat.le_of_ble_eq_true rfl, Nat.le_of_ble_eq_true rfl⟩) hP hD hS hA [1, 0] [] rfl rfl rfl (by decide) (fun r_22 u_21 H locs w_20 hP hD hS => ?_)
              have hP : va_P D vwCl [(h0, moE (nI (sifS n C (sealM 0 (ldF C x.toNatClampNeg))).1) st (sealM 0 (ldF C x.toNatClampNeg)) y1 he p ma tr u_17 tb fo gi), (st, aiE cI 240 ((sifS n C (sealM 0 (ldF C x.toNatClampNeg))).2))] H := hP
              have hD : va_D AA [(h0, moE (nI (sifS n C (sealM 0 (ldF C x.toNatClampNeg))).1) st (sealM 0 (ldF C x.toNatClampNeg)) y1 he p ma tr u_17 tb fo gi), (st, aiE cI 240 ((sifS n C (sealM 0 (ldF C x.toNatClampNeg))).2))] := hD
              subst w_20
              
              have hP : va_P D vwCl [(h0, moE (nI (outS n C (maxO n C x)).1) st (sealM 0 (ldF C x.toNatClampNeg)) y1 he p ma tr u_17 tb fo gi), (st, aiE cI 240 ((outS n C (maxO n C x)).2))] H := by rw [eo]; exact hP
              have hD : va_D AA [(h0, moE (nI (outS n C (maxO n C x)).1) st (sealM 0 (ldF C x.toNatClampNeg)) y1 he p ma tr u_17 tb fo gi), (st, aiE cI 240 ((outS n C (maxO n C x)).2))] := by rw [eo]; exact hD
              exact hret (sifR n (sealM 0 (ldF C x.toNatClampNeg))) (sealM 0 (ldF C x.toNatClampNeg), y1, u_17) _ _ _ _ (by rw [eo]; rfl) rfl (hP.sub [0, 1] rfl) (hD.sub [0, 1] rfl rfl) hS dX6_maximalOverring_57
            · obtain ⟨K, rfl⟩ : ∃ z, K = z + 1 := ⟨K - 1, by rcases K with _ | K; (cases hm); omega⟩
              have hm2 := hm
              rw [mxRel, if_pos c_19] at hm2
              refine lv_aload_n X.1 X.2.1 dX6_maximalOverring_46 rfl (lv_at hl 0 rfl) ?_
              refine fin_v (wr := [(st, aiE cI 240 C)]) (cv_X6_162 X (m_canonise l D cI cJ h0 st he ma tr fo gi n ((sealG 0 g).getD g) y1 p u_17 tb hm2.1 _) rfl rfl dX6_maximalOverring_47 hP hD 1 rfl [1] rfl rfl hl.1 rfl rfl (Nat.le_of_ble_eq_true rfl) ⟨Nat.le_of_ble_eq_true rfl, Nat.le_of_ble_eq_true rfl⟩ ⟨Nat.le_of_ble_eq_true rfl, Nat.le_of_ble_eq_true rfl⟩) hP hD hS hA [1] [0] rfl rfl rfl (by decide) (fun u_24 H locs w_23 hP hD hS => ?_)
              have hP : va_P D vwCl [(st, aiE cI 240 C), (h0, moE (nI n) st (sealC 0 ((sealG 0 g).getD g)) u_24 he p ma tr u_17 tb fo gi)] H := hP
              have hD : va_D AA [(st, aiE cI 240 C), (h0, moE (nI n) st (sealC 0 ((sealG 0 g).getD g)) u_24 he p ma tr u_17 tb fo gi)] := hD
              refine lv_goto (tgt := 39) X.1 X.2.1 dX6_maximalOverring_50 (by decide) ?_
              exact ih39  (sealC 0 ((sealG 0 g).getD g)) K u_24 u_17 hm2.2 (by omega) _ _ _ (hP.sub [1, 0] rfl) (hD.sub [1, 0] rfl rfl) hS (lv_sub hl [0] rfl)
        exact loop39 (N0 + 1) (sealC 0 (ldF C x.toNatClampNeg)) N0 u_14 t hcc.2 (by omega) _ _ _ (hP.sub [1, 0] rfl) (hD.sub [1, 0] rfl rfl) hS (lv_sub hl [0] rfl)
      · have eo : maxO n C x = .inl (-10007) := by rw [maxO, if_pos c_4, if_pos (of_decide_eq_true c_8), if_pos (show rootF _ = true from c_12)]
        have hP : va_P D vwCl [(st, aiE cI 240 ((outS n C (maxO n C x)).2)), (h0, moE (nI (outS n C (maxO n C x)).1) st (ldF C x.toNatClampNeg) k he p ma tr t tb fo gi)] H := by rw [eo]; exact hP
        have hD : va_D AA [(st, aiE cI 240 ((outS n C (maxO n C x)).2)), (h0, moE (nI (outS n C (maxO n C x)).1) st (ldF C x.toNatClampNeg) k he p ma tr t tb fo gi)] := by rw [eo]; exact hD
        refine lv_sipush (v := (-10007)) X.1 X.2.1 dX6_maximalOverring_31 (by decide) ?_
        exact hret (-10007) (ldF C x.toNatClampNeg, k, t) _ _ _ _ (by rw [eo]; rfl) rfl (hP.sub [1, 0] rfl) (hD.sub [1, 0] rfl rfl) hS dX6_maximalOverring_34
    · have eo : maxO n C x = .inl (-10006) := by rw [maxO, if_pos c_4, if_neg (of_decide_eq_false c_8)]
      have hP : va_P D vwCl [(h0, moE (nI (outS n C (maxO n C x)).1) st (ldF C x.toNatClampNeg) k he p ma tr t tb fo gi), (st, aiE cI 240 ((outS n C (maxO n C x)).2))] H := by rw [eo]; exact hP
      have hD : va_D AA [(h0, moE (nI (outS n C (maxO n C x)).1) st (ldF C x.toNatClampNeg) k he p ma tr t tb fo gi), (st, aiE cI 240 ((outS n C (maxO n C x)).2))] := by rw [eo]; exact hD
      refine lv_sipush (v := (-10006)) X.1 X.2.1 dX6_maximalOverring_20 (by decide) ?_
      exact hret (-10006) (ldF C x.toNatClampNeg, k, t) _ _ _ _ (by rw [eo]; rfl) rfl (hP.sub [0, 1] rfl) (hD.sub [0, 1] rfl rfl) hS dX6_maximalOverring_23
  · have eo : maxO n C x = .inl (-10001) := by rw [maxO, if_neg (by rw [c_4]; decide)]
    have hP : va_P D vwCl [(st, aiE cI 240 ((outS n C (maxO n C x)).2)), (h0, moE (nI (outS n C (maxO n C x)).1) st f k he p ma tr t tb fo gi)] H := by rw [eo]; exact hP
    have hD : va_D AA [(st, aiE cI 240 ((outS n C (maxO n C x)).2)), (h0, moE (nI (outS n C (maxO n C x)).1) st f k he p ma tr t tb fo gi)] := by rw [eo]; exact hD
    refine lv_sipush (v := (-10001)) X.1 X.2.1 dX6_maximalOverring_8 (by decide) ?_
    exact hret (-10001) (f, k, t) _ _ _ _ (by rw [eo]; rfl) rfl (hP.sub [1, 0] rfl) (hD.sub [1, 0] rfl rfl) hS dX6_maximalOverring_11
set_option maxHeartbeats 4000000 in
set_option maxRecDepth 100000 in
theorem m_isCanonicalNow (l : Launch) (D : va_G) (cI cJ : ClassId) (h0 : Nat) (st : Nat) (he : Nat) (ma : Nat) (tr : Nat) (fo : Nat) (gi : Nat) (n : Nat) (f : Fm) (k : Fm) (p : Em) (t : Fm) (tb : Int32) (hc : reduM f = true → canOK f) : CtI l yX6_isCanonicalNow cX6_isCanonicalNow 10 .boolean (rmk 4 117) D cI cJ [.ref h0] [(h0, moE (nI n) st f k he p ma tr t tb fo gi)] (fun (u : Fm) => [(h0, moE (nI n) st f u he p ma tr t tb fo gi)]) (fun (r : Int32) (u : Fm) => r = bI (reduM f && sameF (sealC 0 f) f)) := by
  refine CtI.of (own := RX6) (by decide +kernel) (Nat.le_of_ble_eq_true rfl) rfl ?_
  intro pr_ en_ sg_ me_ ar_ be_ mt_ co_ AA ls QQ X hA hP hD hS hl hret
  have hl : lv_has ls 10 [(0, .ref h0)] := hl
  refine lv_aload_n X.1 X.2.1 dX6_isCanonicalNow_0 rfl (lv_at hl 0 rfl) ?_
  refine gf_X6_41 (v := .long f.1) X hP 0 rfl rfl dX6_isCanonicalNow_1 ?_
  refine lv_lstore_n (lv' := [(1, .long f.1), (0, .ref h0)]) X.1 X.2.1 dX6_isCanonicalNow_4 rfl hl (by decide) rfl (fun ls hl => ?_)
  refine lv_aload_n X.1 X.2.1 dX6_isCanonicalNow_5 rfl (lv_at hl 1 rfl) ?_
  refine gf_X6_45 (v := .long f.2.1) X hP 0 rfl rfl dX6_isCanonicalNow_6 ?_
  refine lv_lstore_n (lv' := [(3, .long f.2.1), (1, .long f.1), (0, .ref h0)]) X.1 X.2.1 dX6_isCanonicalNow_9 rfl hl (by decide) rfl (fun ls hl => ?_)
  refine lv_aload_n X.1 X.2.1 dX6_isCanonicalNow_10 rfl (lv_at hl 2 rfl) ?_
  refine gf_X6_48 (v := .long f.2.2.1) X hP 0 rfl rfl dX6_isCanonicalNow_11 ?_
  refine lv_lstore (lv' := [(5, .long f.2.2.1), (3, .long f.2.1), (1, .long f.1), (0, .ref h0)]) X.1 X.2.1 dX6_isCanonicalNow_14 hl (by decide) rfl (fun ls hl => ?_)
  refine lv_aload_n X.1 X.2.1 dX6_isCanonicalNow_16 rfl (lv_at hl 3 rfl) ?_
  refine gf_X6_51 (v := .long f.2.2.2) X hP 0 rfl rfl dX6_isCanonicalNow_17 ?_
  refine lv_lstore (lv' := [(7, .long f.2.2.2), (5, .long f.2.2.1), (3, .long f.2.1), (1, .long f.1), (0, .ref h0)]) X.1 X.2.1 dX6_isCanonicalNow_20 hl (by decide) rfl (fun ls hl => ?_)
  refine lv_aload_n X.1 X.2.1 dX6_isCanonicalNow_22 rfl (lv_at hl 4 rfl) ?_
  refine fin_i (wr := []) (cv_X6_131 X (m_isReducedNow l D cI cJ h0 st he ma tr fo gi n f k p t tb  _) rfl rfl dX6_isCanonicalNow_23 hP hD 0 rfl [0] rfl rfl hl.1 rfl rfl (Nat.le_of_ble_eq_true rfl) ⟨Nat.le_of_ble_eq_true rfl, Nat.le_of_ble_eq_true rfl⟩ ⟨Nat.le_of_ble_eq_true rfl, Nat.le_of_ble_eq_true rfl⟩) hP hD hS hA [0] [] rfl rfl rfl (by decide) (fun r_3 u_2 H locs w_1 hP hD hS => ?_)
  have hP : va_P D vwCl [(h0, moE (nI n) st f k he p ma tr t tb fo gi)] H := hP
  have hD : va_D AA [(h0, moE (nI n) st f k he p ma tr t tb fo gi)] := hD
  subst w_1
  refine bb_ne (tgt := 31) X dX6_isCanonicalNow_26 (by decide) (fun c_4 => ?_) (fun c_4 => ?_)
  · refine lv_aload_n X.1 X.2.1 dX6_isCanonicalNow_31 rfl (lv_at hl 4 rfl) ?_
    refine fin_v (wr := []) (cv_X6_162 X (m_canonise l D cI cJ h0 st he ma tr fo gi n f k p t tb (hc c_4) _) rfl rfl dX6_isCanonicalNow_32 hP hD 0 rfl [0] rfl rfl hl.1 rfl rfl (Nat.le_of_ble_eq_true rfl) ⟨Nat.le_of_ble_eq_true rfl, Nat.le_of_ble_eq_true rfl⟩ ⟨Nat.le_of_ble_eq_true rfl, Nat.le_of_ble_eq_true rfl⟩) hP hD hS hA [0] [] rfl rfl rfl (by decide) (fun u_6 H locs w_5 hP hD hS => ?_)
    have hP : va_P D vwCl [(h0, moE (nI n) st (sealC 0 f) u_6 he p ma tr t tb fo gi)] H := hP
    have hD : va_D AA [(h0, moE (nI n) st (sealC 0 f) u_6 he p ma tr t tb fo gi)] := hD
    refine lv_aload_n X.1 X.2.1 dX6_isCanonicalNow_35 rfl (lv_at hl 4 rfl) ?_
    refine gf_X6_41 (v := .long ((sealC 0 f).1)) X hP 0 rfl rfl dX6_isCanonicalNow_36 ?_
    refine lv_lload_n X.1 X.2.1 dX6_isCanonicalNow_39 rfl (lv_at hl 3 rfl) ?_
    refine bl_ne (tgt := 77) X dX6_isCanonicalNow_40 dX6_isCanonicalNow_41 (by decide) (fun c_8 => ?_) (fun c_8 => ?_)
    · refine lv_iconst (v := 0) X.1 X.2.1 dX6_isCanonicalNow_77 (by decide) ?_
      refine lv_istore (lv' := [(9, .int 0), (7, .long f.2.2.2), (5, .long f.2.2.1), (3, .long f.2.1), (1, .long f.1), (0, .ref h0)]) X.1 X.2.1 dX6_isCanonicalNow_78 hl (by decide) rfl (fun ls hl => ?_)
      refine lv_aload_n X.1 X.2.1 dX6_isCanonicalNow_80 rfl (lv_at hl 5 rfl) ?_
      refine lv_lload_n X.1 X.2.1 dX6_isCanonicalNow_81 rfl (lv_at hl 4 rfl) ?_
      refine lv_lload_n X.1 X.2.1 dX6_isCanonicalNow_82 rfl (lv_at hl 3 rfl) ?_
      refine lv_lload X.1 X.2.1 dX6_isCanonicalNow_83 (lv_at hl 2 rfl) ?_
      refine lv_lload X.1 X.2.1 dX6_isCanonicalNow_85 (lv_at hl 1 rfl) ?_
      refine fin_v (wr := []) (cv_X6_58 X (m_set l D cI cJ h0 st he ma tr fo gi n (sealC 0 f) u_6 p t tb f.1 f.2.1 f.2.2.1 f.2.2.2  _) rfl rfl dX6_isCanonicalNow_87 hP hD 0 rfl [0] rfl rfl hl.1 rfl rfl (Nat.le_of_ble_eq_true rfl) ⟨Nat.le_of_ble_eq_true rfl, Nat.le_of_ble_eq_true rfl⟩ ⟨Nat.le_of_ble_eq_true rfl, Nat.le_of_ble_eq_true rfl⟩) hP hD hS hA [0] [] rfl rfl rfl (by decide) (fun u_10 H locs w_9 hP hD hS => ?_)
      have hP : va_P D vwCl [(h0, moE (nI n) st f u_6 he p ma tr t tb fo gi)] H := hP
      have hD : va_D AA [(h0, moE (nI n) st f u_6 he p ma tr t tb fo gi)] := hD
      refine lv_iload X.1 X.2.1 dX6_isCanonicalNow_90 (lv_at hl 0 rfl) ?_
      exact hret 0 u_6 _ _ _ _ (by rw [show (reduM f && sameF (sealC 0 f) f) = false from by rw [c_4]; simp only [sameF, c_8, decide_true, decide_false, Bool.and_true, Bool.true_and, Bool.and_false, Bool.false_and]]; rfl) rfl (hP.sub [0] rfl) (hD.sub [0] rfl rfl) hS dX6_isCanonicalNow_92
    · refine lv_aload_n X.1 X.2.1 dX6_isCanonicalNow_44 rfl (lv_at hl 4 rfl) ?_
      refine gf_X6_45 (v := .long ((sealC 0 f).2.1)) X hP 0 rfl rfl dX6_isCanonicalNow_45 ?_
      refine lv_lload_n X.1 X.2.1 dX6_isCanonicalNow_48 rfl (lv_at hl 2 rfl) ?_
      refine bl_ne (tgt := 77) X dX6_isCanonicalNow_49 dX6_isCanonicalNow_50 (by decide) (fun c_12 => ?_) (fun c_12 => ?_)
      · refine lv_iconst (v := 0) X.1 X.2.1 dX6_isCanonicalNow_77 (by decide) ?_
        refine lv_istore (lv' := [(9, .int 0), (7, .long f.2.2.2), (5, .long f.2.2.1), (3, .long f.2.1), (1, .long f.1), (0, .ref h0)]) X.1 X.2.1 dX6_isCanonicalNow_78 hl (by decide) rfl (fun ls hl => ?_)
        refine lv_aload_n X.1 X.2.1 dX6_isCanonicalNow_80 rfl (lv_at hl 5 rfl) ?_
        refine lv_lload_n X.1 X.2.1 dX6_isCanonicalNow_81 rfl (lv_at hl 4 rfl) ?_
        refine lv_lload_n X.1 X.2.1 dX6_isCanonicalNow_82 rfl (lv_at hl 3 rfl) ?_
        refine lv_lload X.1 X.2.1 dX6_isCanonicalNow_83 (lv_at hl 2 rfl) ?_
        refine lv_lload X.1 X.2.1 dX6_isCanonicalNow_85 (lv_at hl 1 rfl) ?_
        refine fin_v (wr := []) (cv_X6_58 X (m_set l D cI cJ h0 st he ma tr fo gi n (sealC 0 f) u_6 p t tb f.1 f.2.1 f.2.2.1 f.2.2.2  _) rfl rfl dX6_isCanonicalNow_87 hP hD 0 rfl [0] rfl rfl hl.1 rfl rfl (Nat.le_of_ble_eq_true rfl) ⟨Nat.le_of_ble_eq_true rfl, Nat.le_of_ble_eq_true rfl⟩ ⟨Nat.le_of_ble_eq_true rfl, Nat.le_of_ble_eq_true rfl⟩) hP hD hS hA [0] [] rfl rfl rfl (by decide) (fun u_14 H locs w_13 hP hD hS => ?_)
        have hP : va_P D vwCl [(h0, moE (nI n) st f u_6 he p ma tr t tb fo gi)] H := hP
        have hD : va_D AA [(h0, moE (nI n) st f u_6 he p ma tr t tb fo gi)] := hD
        refine lv_iload X.1 X.2.1 dX6_isCanonicalNow_90 (lv_at hl 0 rfl) ?_
        exact hret 0 u_6 _ _ _ _ (by rw [show (reduM f && sameF (sealC 0 f) f) = false from by rw [c_4]; simp only [sameF, c_8, c_12, decide_true, decide_false, Bool.and_true, Bool.true_and, Bool.and_false, Bool.false_and]]; rfl) rfl (hP.sub [0] rfl) (hD.sub [0] rfl rfl) hS dX6_isCanonicalNow_92
      · refine lv_aload_n X.1 X.2.1 dX6_isCanonicalNow_53 rfl (lv_at hl 4 rfl) ?_
        refine gf_X6_48 (v := .long ((sealC 0 f).2.2.1)) X hP 0 rfl rfl dX6_isCanonicalNow_54 ?_
        refine lv_lload X.1 X.2.1 dX6_isCanonicalNow_57 (lv_at hl 1 rfl) ?_
        refine bl_ne (tgt := 77) X dX6_isCanonicalNow_59 dX6_isCanonicalNow_60 (by decide) (fun c_16 => ?_) (fun c_16 => ?_)
        · refine lv_iconst (v := 0) X.1 X.2.1 dX6_isCanonicalNow_77 (by decide) ?_
          refine lv_istore (lv' := [(9, .int 0), (7, .long f.2.2.2), (5, .long f.2.2.1), (3, .long f.2.1), (1, .long f.1), (0, .ref h0)]) X.1 X.2.1 dX6_isCanonicalNow_78 hl (by decide) rfl (fun ls hl => ?_)
          refine lv_aload_n X.1 X.2.1 dX6_isCanonicalNow_80 rfl (lv_at hl 5 rfl) ?_
          refine lv_lload_n X.1 X.2.1 dX6_isCanonicalNow_81 rfl (lv_at hl 4 rfl) ?_
          refine lv_lload_n X.1 X.2.1 dX6_isCanonicalNow_82 rfl (lv_at hl 3 rfl) ?_
          refine lv_lload X.1 X.2.1 dX6_isCanonicalNow_83 (lv_at hl 2 rfl) ?_
          refine lv_lload X.1 X.2.1 dX6_isCanonicalNow_85 (lv_at hl 1 rfl) ?_
          refine fin_v (wr := []) (cv_X6_58 X (m_set l D cI cJ h0 st he ma tr fo gi n (sealC 0 f) u_6 p t tb f.1 f.2.1 f.2.2.1 f.2.2.2  _) rfl rfl dX6_isCanonicalNow_87 hP hD 0 rfl [0] rfl rfl hl.1 rfl rfl (Nat.le_of_ble_eq_true rfl) ⟨Nat.le_of_ble_eq_true rfl, Nat.le_of_ble_eq_true rfl⟩ ⟨Nat.le_of_ble_eq_true rfl, Nat.le_of_ble_eq_true rfl⟩) hP hD hS hA [0] [] rfl rfl rfl (by decide) (fun u_18 H locs w_17 hP hD hS => ?_)
          have hP : va_P D vwCl [(h0, moE (nI n) st f u_6 he p ma tr t tb fo gi)] H := hP
          have hD : va_D AA [(h0, moE (nI n) st f u_6 he p ma tr t tb fo gi)] := hD
          refine lv_iload X.1 X.2.1 dX6_isCanonicalNow_90 (lv_at hl 0 rfl) ?_
          exact hret 0 u_6 _ _ _ _ (by rw [show (reduM f && sameF (sealC 0 f) f) = false from by rw [c_4]; simp only [sameF, c_8, c_12, c_16, decide_true, decide_false, Bool.and_true, Bool.true_and, Bool.and_false, Bool.false_and]]; rfl) rfl (hP.sub [0] rfl) (hD.sub [0] rfl rfl) hS dX6_isCanonicalNow_92
        · refine lv_aload_n X.1 X.2.1 dX6_isCanonicalNow_63 rfl (lv_at hl 4 rfl) ?_
          refine gf_X6_51 (v := .long ((sealC 0 f).2.2.2)) X hP 0 rfl rfl dX6_isCanonicalNow_64 ?_
          refine lv_lload X.1 X.2.1 dX6_isCanonicalNow_67 (lv_at hl 0 rfl) ?_
          refine bl_ne (tgt := 77) X dX6_isCanonicalNow_69 dX6_isCanonicalNow_70 (by decide) (fun c_20 => ?_) (fun c_20 => ?_)
          · refine lv_iconst (v := 0) X.1 X.2.1 dX6_isCanonicalNow_77 (by decide) ?_
            refine lv_istore (lv' := [(9, .int 0), (7, .long f.2.2.2), (5, .long f.2.2.1), (3, .long f.2.1), (1, .long f.1), (0, .ref h0)]) X.1 X.2.1 dX6_isCanonicalNow_78 hl (by decide) rfl (fun ls hl => ?_)
            refine lv_aload_n X.1 X.2.1 dX6_isCanonicalNow_80 rfl (lv_at hl 5 rfl) ?_
            refine lv_lload_n X.1 X.2.1 dX6_isCanonicalNow_81 rfl (lv_at hl 4 rfl) ?_
            refine lv_lload_n X.1 X.2.1 dX6_isCanonicalNow_82 rfl (lv_at hl 3 rfl) ?_
            refine lv_lload X.1 X.2.1 dX6_isCanonicalNow_83 (lv_at hl 2 rfl) ?_
            refine lv_lload X.1 X.2.1 dX6_isCanonicalNow_85 (lv_at hl 1 rfl) ?_
            refine fin_v (wr := []) (cv_X6_58 X (m_set l D cI cJ h0 st he ma tr fo gi n (sealC 0 f) u_6 p t tb f.1 f.2.1 f.2.2.1 f.2.2.2  _) rfl rfl dX6_isCanonicalNow_87 hP hD 0 rfl [0] rfl rfl hl.1 rfl rfl (Nat.le_of_ble_eq_true rfl) ⟨Nat.le_of_ble_eq_true rfl, Nat.le_of_ble_eq_true rfl⟩ ⟨Nat.le_of_ble_eq_true rfl, Nat.le_of_ble_eq_true rfl⟩) hP hD hS hA [0] [] rfl rfl rfl (by decide) (fun u_22 H locs w_21 hP hD hS => ?_)
            have hP : va_P D vwCl [(h0, moE (nI n) st f u_6 he p ma tr t tb fo gi)] H := hP
            have hD : va_D AA [(h0, moE (nI n) st f u_6 he p ma tr t tb fo gi)] := hD
            refine lv_iload X.1 X.2.1 dX6_isCanonicalNow_90 (lv_at hl 0 rfl) ?_
            exact hret 0 u_6 _ _ _ _ (by rw [show (reduM f && sameF (sealC 0 f) f) = false from by rw [c_4]; simp only [sameF, c_8, c_12, c_16, c_20, decide_true, decide_false, Bool.and_true, Bool.true_and, Bool.and_false, Bool.false_and]]; rfl) rfl (hP.sub [0] rfl) (hD.sub [0] rfl rfl) hS dX6_isCanonicalNow_92
          · refine lv_iconst (v := 1) X.1 X.2.1 dX6_isCanonicalNow_73 (by decide) ?_
            refine lv_goto (tgt := 78) X.1 X.2.1 dX6_isCanonicalNow_74 (by decide) ?_
            refine lv_istore (lv' := [(9, .int 1), (7, .long f.2.2.2), (5, .long f.2.2.1), (3, .long f.2.1), (1, .long f.1), (0, .ref h0)]) X.1 X.2.1 dX6_isCanonicalNow_78 hl (by decide) rfl (fun ls hl => ?_)
            refine lv_aload_n X.1 X.2.1 dX6_isCanonicalNow_80 rfl (lv_at hl 5 rfl) ?_
            refine lv_lload_n X.1 X.2.1 dX6_isCanonicalNow_81 rfl (lv_at hl 4 rfl) ?_
            refine lv_lload_n X.1 X.2.1 dX6_isCanonicalNow_82 rfl (lv_at hl 3 rfl) ?_
            refine lv_lload X.1 X.2.1 dX6_isCanonicalNow_83 (lv_at hl 2 rfl) ?_
            refine lv_lload X.1 X.2.1 dX6_isCanonicalNow_85 (lv_at hl 1 rfl) ?_
            refine fin_v (wr := []) (cv_X6_58 X (m_set l D cI cJ h0 st he ma tr fo gi n (sealC 0 f) u_6 p t tb f.1 f.2.1 f.2.2.1 f.2.2.2  _) rfl rfl dX6_isCanonicalNow_87 hP hD 0 rfl [0] rfl rfl hl.1 rfl rfl (Nat.le_of_ble_eq_true rfl) ⟨Nat.le_of_ble_eq_true rfl, Nat.le_of_ble_eq_true rfl⟩ ⟨Nat.le_of_ble_eq_true rfl, Nat.le_of_ble_eq_true rfl⟩) hP hD hS hA [0] [] rfl rfl rfl (by decide) (fun u_25 H locs w_24 hP hD hS => ?_)
            have hP : va_P D vwCl [(h0, moE (nI n) st f u_6 he p ma tr t tb fo gi)] H := hP
            have hD : va_D AA [(h0, moE (nI n) st f u_6 he p ma tr t tb fo gi)] := hD
            refine lv_iload X.1 X.2.1 dX6_isCanonicalNow_90 (lv_at hl 0 rfl) ?_
            exact hret 1 u_6 _ _ _ _ (by rw [show (reduM f && sameF (sealC 0 f) f) = true from by rw [c_4]; simp only [sameF, c_8, c_12, c_16, c_20, decide_true, decide_false, Bool.and_true, Bool.true_and, Bool.and_false, Bool.false_and]]; rfl) rfl (hP.sub [0] rfl) (hD.sub [0] rfl rfl) hS dX6_isCanonicalNow_92
  · refine lv_iconst (v := 0) X.1 X.2.1 dX6_isCanonicalNow_29 (by decide) ?_
    exact hret 0 k _ _ _ _ (by rw [c_4]; rfl) rfl (hP.sub [0] rfl) (hD.sub [0] rfl rfl) hS dX6_isCanonicalNow_30
