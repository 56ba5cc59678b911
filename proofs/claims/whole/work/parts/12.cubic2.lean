set_option maxHeartbeats 4000000 in
set_option maxRecDepth 100000 in
theorem c_floorDiv (l : Launch) (D : va_G) (cI cJ : ClassId) (x : Int64) (y : Int64) (hy : ¬ y = 0) : CtL l yJ9_floorDiv_f86c9 cJ9_floorDiv_f86c9 6 (rmk 0 0) D cI cJ [.long x, .long y] [] (fun (_ : Unit) => []) (fun (r : Int64) (_ : Unit) => r = fdivL x y) := by
  refine CtL.ofF (own := RJ9) (by decide +kernel) (Nat.le_of_ble_eq_true rfl) rfl ?_
  intro pr_ en_ sg_ me_ ar_ be_ mt_ co_ AA ls QQ X hA hP hD hS hl hret
  have hl : lv_has ls 6 [(0, .long x), (2, .long y)] := hl
  refine lv_lload_n X.1 X.2.1 dJ9_floorDiv_f86c9_0 rfl (lv_at hl 0 rfl) ?_
  refine lv_lload_n X.1 X.2.1 dJ9_floorDiv_f86c9_1 rfl (lv_at hl 1 rfl) ?_
  refine lv_ldiv X.1 X.2.1 dJ9_floorDiv_f86c9_2 (hy) ?_
  refine lv_lstore (lv' := [(4, .long (x / y)), (0, .long x), (2, .long y)]) X.1 X.2.1 dJ9_floorDiv_f86c9_3 hl (by decide) rfl (fun ls hl => ?_)
  refine lv_lload_n X.1 X.2.1 dJ9_floorDiv_f86c9_5 rfl (lv_at hl 1 rfl) ?_
  refine lv_lload_n X.1 X.2.1 dJ9_floorDiv_f86c9_6 rfl (lv_at hl 2 rfl) ?_
  refine lv_lxor X.1 X.2.1 dJ9_floorDiv_f86c9_7 ?_
  refine lv_lconst (v := 0) X.1 X.2.1 dJ9_floorDiv_f86c9_8 (by decide) ?_
  refine bl_ge (tgt := 27) X dJ9_floorDiv_f86c9_9 dJ9_floorDiv_f86c9_10 (by decide) (fun c_1 => ?_) (fun c_1 => ?_)
  · refine lv_lload X.1 X.2.1 dJ9_floorDiv_f86c9_27 (lv_at hl 0 rfl) ?_
    exact hret (x / y) () _ _ _ _ (by simp [fdivL, c_1]) (hP.sub [] rfl) (hD.sub [] rfl rfl) hS dJ9_floorDiv_f86c9_29
  · refine lv_lload X.1 X.2.1 dJ9_floorDiv_f86c9_13 (lv_at hl 0 rfl) ?_
    refine lv_lload_n X.1 X.2.1 dJ9_floorDiv_f86c9_15 rfl (lv_at hl 2 rfl) ?_
    refine lv_lmul X.1 X.2.1 dJ9_floorDiv_f86c9_16 ?_
    refine lv_lload_n X.1 X.2.1 dJ9_floorDiv_f86c9_17 rfl (lv_at hl 1 rfl) ?_
    refine bl_eq (tgt := 27) X dJ9_floorDiv_f86c9_18 dJ9_floorDiv_f86c9_19 (by decide) (fun c_2 => ?_) (fun c_2 => ?_)
    · refine lv_lload X.1 X.2.1 dJ9_floorDiv_f86c9_27 (lv_at hl 0 rfl) ?_
      exact hret (x / y) () _ _ _ _ (by simp [fdivL, c_1, c_2]) (hP.sub [] rfl) (hD.sub [] rfl rfl) hS dJ9_floorDiv_f86c9_29
    · refine lv_lload X.1 X.2.1 dJ9_floorDiv_f86c9_22 (lv_at hl 0 rfl) ?_
      refine lv_lconst (v := 1) X.1 X.2.1 dJ9_floorDiv_f86c9_24 (by decide) ?_
      refine lv_lsub X.1 X.2.1 dJ9_floorDiv_f86c9_25 ?_
      exact hret ((x / y) - 1) () _ _ _ _ (by simp [fdivL, c_1, c_2]) (hP.sub [] rfl) (hD.sub [] rfl rfl) hS dJ9_floorDiv_f86c9_26
set_option maxHeartbeats 4000000 in
set_option maxRecDepth 100000 in
theorem c_Cubic_reduceHessian (l : Launch) (D : va_G) (cI cJ : ClassId) (h0 : Nat) (f : Fm)  : CtV l yX0_reduceHessian cX0_reduceHessian 6 (rmk 2 48) D cI cJ [.ref h0] [(h0, cubE f)] (fun (_ : Unit) => [(h0, cubE (redGo 1000 f))]) (fun (_ : Unit) => True) 0 0 := by
  refine CtV.of (own := RX0) (by decide +kernel) (Nat.le_of_ble_eq_true rfl) rfl ?_
  intro pr_ en_ sg_ me_ ar_ be_ mt_ co_ AA ls QQ X hin hA hP hD hS hl hret
  have hl : lv_has ls 6 [(0, .ref h0)] := hl
  refine lv_iconst (v := 0) X.1 X.2.1 dX0_reduceHessian_0 (by decide) ?_
  refine lv_istore_n (lv' := [(1, .int 0), (0, .ref h0)]) X.1 X.2.1 dX0_reduceHessian_1 rfl hl (by decide) rfl (fun ls hl => ?_)
  have loop2 : ∀ (n9 : Nat) (j : Nat) (k : Nat) (g : Fm), (j + k = 1000) → (redGo k g = redGo 1000 f) → (k < n9) → ∀ (H : Heap) (locs : List Loc) (ls : Array Slot), va_P D vwCl [(h0, cubE g)] H → va_D AA [(h0, cubE g)] → va_S AA sg_.heap H locs → lv_has ls 6 [(0, .ref h0), (1, .int (nI j))] → W pr_ l en_ (rmk 2 48) sg_ me_ ar_ be_ mt_ co_ H locs 0 0 QQ (F0 me_ 2 ls []) := by
    intro n9
    induction n9 with
    | zero =>
      intro j k g hk hG hn
      omega
    | succ n2 ih2 =>
      intro j k g hk hG hn H locs ls hP hD hS hl
      refine lv_iload_n X.1 X.2.1 dX0_reduceHessian_2 rfl (lv_at hl 1 rfl) ?_
      refine lv_sipush (v := 1000) X.1 X.2.1 dX0_reduceHessian_3 (by decide) ?_
      refine bi_ge (tgt := 64) X dX0_reduceHessian_6 (by decide) (fun c_1 => ?_) (fun c_1 => ?_)
      · have hj : ¬ j < 1000 := fun q => c_1 ((nI_ltn (by omega) (by decide) rfl).mpr q)
        obtain rfl : k = 0 := by omega
        have e : g = redGo 1000 f := hG
        rw [e] at hP hD
        exact hret () _ _ _ _ (trivial) (hP.sub [0] rfl) (hD.sub [0] rfl rfl) hS dX0_reduceHessian_64
      · have hj : j < 1000 := (nI_ltn (by omega) (by decide) rfl).mp c_1
        obtain ⟨k, rfl⟩ : ∃ z, k = z + 1 := ⟨k - 1, by omega⟩
        refine lv_aload_n X.1 X.2.1 dX0_reduceHessian_9 rfl (lv_at hl 0 rfl) ?_
        refine fin_l (wr := []) (cv_X0_44 X (c_Cubic_hessianP l D cI cJ h0 g  _) rfl rfl dX0_reduceHessian_10 hP hD 0 rfl [0] rfl rfl hl.1 rfl rfl (Nat.le_of_ble_eq_true rfl) ⟨Nat.le_of_ble_eq_true rfl, Nat.le_of_ble_eq_true rfl⟩ ⟨Nat.le_of_ble_eq_true rfl, Nat.le_of_ble_eq_true rfl⟩) hP hD hS hA [0] [] rfl rfl rfl (by decide) (fun r_4 u_3 H locs w_2 hP hD hS => ?_)
        have hP : va_P D vwCl [(h0, cubE g)] H := hP
        have hD : va_D AA [(h0, cubE g)] := hD
        subst w_2
        refine lv_lstore_n (lv' := [(2, .long (hpF g)), (0, .ref h0), (1, .int (nI j))]) X.1 X.2.1 dX0_reduceHessian_13 rfl hl (by decide) rfl (fun ls hl => ?_)
        refine lc_X0_58 X dX0_reduceHessian_14 ?_
        refine lv_lload_n X.1 X.2.1 dX0_reduceHessian_17 rfl (lv_at hl 0 rfl) ?_
        refine lv_lmul X.1 X.2.1 dX0_reduceHessian_18 ?_
        refine lv_lstore (lv' := [(4, .long (2 * (hpF g))), (2, .long (hpF g)), (0, .ref h0), (1, .int (nI j))]) X.1 X.2.1 dX0_reduceHessian_19 hl (by decide) rfl (fun ls hl => ?_)
        refine lv_lload X.1 X.2.1 dX0_reduceHessian_21 (lv_at hl 0 rfl) ?_
        refine lv_lconst (v := 0) X.1 X.2.1 dX0_reduceHessian_23 (by decide) ?_
        refine bl_gt (tgt := 29) X dX0_reduceHessian_24 dX0_reduceHessian_25 (by decide) (fun c_5 => ?_) (fun c_5 => ?_)
        · refine lv_aload_n X.1 X.2.1 dX0_reduceHessian_29 rfl (lv_at hl 2 rfl) ?_
          refine lv_lload_n X.1 X.2.1 dX0_reduceHessian_30 rfl (lv_at hl 1 rfl) ?_
          refine lv_aload_n X.1 X.2.1 dX0_reduceHessian_31 rfl (lv_at hl 2 rfl) ?_
          refine fin_l (wr := []) (cv_X0_48 X (c_Cubic_hessianQ l D cI cJ h0 g  _) rfl rfl dX0_reduceHessian_32 hP hD 0 rfl [0] rfl rfl hl.1 rfl rfl (Nat.le_of_ble_eq_true rfl) ⟨Nat.le_of_ble_eq_true rfl, Nat.le_of_ble_eq_true rfl⟩ ⟨Nat.le_of_ble_eq_true rfl, Nat.le_of_ble_eq_true rfl⟩) hP hD hS hA [0] [] rfl rfl rfl (by decide) (fun r_8 u_7 H locs w_6 hP hD hS => ?_)
          have hP : va_P D vwCl [(h0, cubE g)] H := hP
          have hD : va_D AA [(h0, cubE g)] := hD
          subst w_6
          refine lv_lsub X.1 X.2.1 dX0_reduceHessian_35 ?_
          refine lv_lload X.1 X.2.1 dX0_reduceHessian_36 (lv_at hl 0 rfl) ?_
          refine fin_l (wr := [(h0, cubE g)]) (cv_X0_60 X (c_floorDiv l D cI cJ ((hpF g) - (hqF g)) (2 * (hpF g)) (fun q => by rw [q] at c_5; exact absurd c_5 (by decide)) _) rfl rfl dX0_reduceHessian_38 hP hD [] rfl rfl hl.1 rfl rfl (Nat.le_of_ble_eq_true rfl) ⟨Nat.le_of_ble_eq_true rfl, Nat.le_of_ble_eq_true rfl⟩ ⟨Nat.le_of_ble_eq_true rfl, Nat.le_of_ble_eq_true rfl⟩) hP hD hS hA [] [0] rfl rfl rfl (by decide) (fun r_11 u_10 H locs w_9 hP hD hS => ?_)
          have hP : va_P D vwCl [(h0, cubE g)] H := hP
          have hD : va_D AA [(h0, cubE g)] := hD
          subst w_9
          refine fin_v (wr := []) (cv_X0_65 X (c_Cubic_shift l D cI cJ h0 g (fdivL ((hpF g) - (hqF g)) (2 * (hpF g)))  _) rfl rfl dX0_reduceHessian_41 hP hD 0 rfl [0] rfl rfl hl.1 rfl rfl (Nat.le_of_ble_eq_true rfl) ⟨Nat.le_of_ble_eq_true rfl, Nat.le_of_ble_eq_true rfl⟩ ⟨Nat.le_of_ble_eq_true rfl, Nat.le_of_ble_eq_true rfl⟩) hP hD hS hA [0] [] rfl rfl rfl (by decide) (fun u_13 H locs w_12 hP hD hS => ?_)
          have hP : va_P D vwCl [(h0, cubE (shF g (fdivL ((hpF g) - (hqF g)) (2 * (hpF g)))))] H := hP
          have hD : va_D AA [(h0, cubE (shF g (fdivL ((hpF g) - (hqF g)) (2 * (hpF g)))))] := hD
          refine lv_lload_n X.1 X.2.1 dX0_reduceHessian_44 rfl (lv_at hl 1 rfl) ?_
          refine lv_aload_n X.1 X.2.1 dX0_reduceHessian_45 rfl (lv_at hl 2 rfl) ?_
          refine fin_l (wr := []) (cv_X0_51 X (c_Cubic_hessianR l D cI cJ h0 (shF g (fdivL ((hpF g) - (hqF g)) (2 * (hpF g))))  _) rfl rfl dX0_reduceHessian_46 hP hD 0 rfl [0] rfl rfl hl.1 rfl rfl (Nat.le_of_ble_eq_true rfl) ⟨Nat.le_of_ble_eq_true rfl, Nat.le_of_ble_eq_true rfl⟩ ⟨Nat.le_of_ble_eq_true rfl, Nat.le_of_ble_eq_true rfl⟩) hP hD hS hA [0] [] rfl rfl rfl (by decide) (fun r_17 u_16 H locs w_15 hP hD hS => ?_)
          have hP : va_P D vwCl [(h0, cubE (shF g (fdivL ((hpF g) - (hqF g)) (2 * (hpF g)))))] H := hP
          have hD : va_D AA [(h0, cubE (shF g (fdivL ((hpF g) - (hqF g)) (2 * (hpF g)))))] := hD
          subst w_15
          refine bl_gt (tgt := 54) X dX0_reduceHessian_49 dX0_reduceHessian_50 (by decide) (fun c_18 => ?_) (fun c_18 => ?_)
          · refine lv_aload_n X.1 X.2.1 dX0_reduceHessian_54 rfl (lv_at hl 2 rfl) ?_
            refine fin_v (wr := []) (cv_X0_69 X (c_Cubic_swap l D cI cJ h0 (shF g (fdivL ((hpF g) - (hqF g)) (2 * (hpF g))))  _) rfl rfl dX0_reduceHessian_55 hP hD 0 rfl [0] rfl rfl hl.1 rfl rfl (Nat.le_of_ble_eq_true rfl) ⟨Nat.le_of_ble_eq_true rfl, Nat.le_of_ble_eq_true rfl⟩ ⟨Nat.le_of_ble_eq_true rfl, Nat.le_of_ble_eq_true rfl⟩) hP hD hS hA [0] [] rfl rfl rfl (by decide) (fun u_20 H locs w_19 hP hD hS => ?_)
            have hP : va_P D vwCl [(h0, cubE (swF (shF g (fdivL ((hpF g) - (hqF g)) (2 * (hpF g))))))] H := hP
            have hD : va_D AA [(h0, cubE (swF (shF g (fdivL ((hpF g) - (hqF g)) (2 * (hpF g))))))] := hD
            refine lv_iinc (v := nI (j + 1)) (lv' := [(1, .int (nI (j + 1))), (4, .long (2 * (hpF g))), (2, .long (hpF g)), (0, .ref h0)]) X.1 X.2.1 dX0_reduceHessian_58 hl (k := 3) rfl (nI_1 j) (by decide) rfl (fun ls hl => ?_)
            refine lv_goto (tgt := 2) X.1 X.2.1 dX0_reduceHessian_61 (by decide) ?_
            exact ih2  (j + 1) k (swF (shF g (fdivL ((hpF g) - (hqF g)) (2 * (hpF g))))) (by omega) (by rw [← hG, redGo, if_pos c_5, if_pos c_18]) (by omega) _ _ _ (hP.sub [0] rfl) (hD.sub [0] rfl rfl) hS (lv_sub hl [3, 0] rfl)
          · have e : shF g (fdivL (hpF g - hqF g) (2 * hpF g)) = redGo 1000 f := by rw [← hG, redGo, if_pos c_5, if_neg c_18]
            rw [e] at hP hD
            exact hret () _ _ _ _ (trivial) (hP.sub [0] rfl) (hD.sub [0] rfl rfl) hS dX0_reduceHessian_53
        · have e : g = redGo 1000 f := by rw [← hG, redGo, if_neg c_5]
          rw [e] at hP hD
          exact hret () _ _ _ _ (trivial) (hP.sub [0] rfl) (hD.sub [0] rfl rfl) hS dX0_reduceHessian_28
  exact loop2 1001 0 1000 f rfl rfl (by decide) _ _ _ (hP.sub [0] rfl) (hD.sub [0] rfl rfl) hS (lv_sub hl [1, 0] rfl)
set_option maxHeartbeats 4000000 in
set_option maxRecDepth 100000 in
theorem c_Cubic_vanishesAt (l : Launch) (D : va_G) (cI cJ : ClassId) (h0 : Nat) (f : Fm) (x : Int64) (y : Int64)  : CtI l yX0_vanishesAt cX0_vanishesAt 5 .boolean (rmk 1 24) D cI cJ [.ref h0, .long x, .long y] [(h0, cubE f)] (fun (_ : Unit) => [(h0, cubE f)]) (fun (r : Int32) (_ : Unit) => r = bI (vanF f x y)) := by
  refine CtI.of (own := RX0) (by decide +kernel) (Nat.le_of_ble_eq_true rfl) rfl ?_
  intro pr_ en_ sg_ me_ ar_ be_ mt_ co_ AA ls QQ X hA hP hD hS hl hret
  have hl : lv_has ls 5 [(0, .ref h0), (1, .long x), (3, .long y)] := hl
  refine lv_aload_n X.1 X.2.1 dX0_vanishesAt_0 rfl (lv_at hl 0 rfl) ?_
  refine lv_lload_n X.1 X.2.1 dX0_vanishesAt_1 rfl (lv_at hl 1 rfl) ?_
  refine lv_lload_n X.1 X.2.1 dX0_vanishesAt_2 rfl (lv_at hl 2 rfl) ?_
  refine fin_l (wr := []) (cv_X0_54 X (c_Cubic_valueAt l D cI cJ h0 f x y  _) rfl rfl dX0_vanishesAt_3 hP hD 0 rfl [0] rfl rfl hl.1 rfl rfl (Nat.le_of_ble_eq_true rfl) ⟨Nat.le_of_ble_eq_true rfl, Nat.le_of_ble_eq_true rfl⟩ ⟨Nat.le_of_ble_eq_true rfl, Nat.le_of_ble_eq_true rfl⟩) hP hD hS hA [0] [] rfl rfl rfl (by decide) (fun r_3 u_2 H locs w_1 hP hD hS => ?_)
  have hP : va_P D vwCl [(h0, cubE f)] H := hP
  have hD : va_D AA [(h0, cubE f)] := hD
  subst w_1
  refine lv_lconst (v := 0) X.1 X.2.1 dX0_vanishesAt_6 (by decide) ?_
  refine bl_eq (tgt := 23) X dX0_vanishesAt_7 dX0_vanishesAt_8 (by decide) (fun c_4 => ?_) (fun c_4 => ?_)
  · refine lv_iconst (v := 1) X.1 X.2.1 dX0_vanishesAt_23 (by decide) ?_
    refine lv_goto (tgt := 28) X.1 X.2.1 dX0_vanishesAt_24 (by decide) ?_
    exact hret 1 () _ _ _ _ (by simp [vanF, bI, c_4]) rfl (hP.sub [0] rfl) (hD.sub [0] rfl rfl) hS dX0_vanishesAt_28
  · refine lv_aload_n X.1 X.2.1 dX0_vanishesAt_11 rfl (lv_at hl 0 rfl) ?_
    refine lv_lload_n X.1 X.2.1 dX0_vanishesAt_12 rfl (lv_at hl 1 rfl) ?_
    refine lv_lneg X.1 X.2.1 dX0_vanishesAt_13 ?_
    refine lv_lload_n X.1 X.2.1 dX0_vanishesAt_14 rfl (lv_at hl 2 rfl) ?_
    refine fin_l (wr := []) (cv_X0_54 X (c_Cubic_valueAt l D cI cJ h0 f (-x) y  _) rfl rfl dX0_vanishesAt_15 hP hD 0 rfl [0] rfl rfl hl.1 rfl rfl (Nat.le_of_ble_eq_true rfl) ⟨Nat.le_of_ble_eq_true rfl, Nat.le_of_ble_eq_true rfl⟩ ⟨Nat.le_of_ble_eq_true rfl, Nat.le_of_ble_eq_true rfl⟩) hP hD hS hA [0] [] rfl rfl rfl (by decide) (fun r_7 u_6 H locs w_5 hP hD hS => ?_)
    have hP : va_P D vwCl [(h0, cubE f)] H := hP
    have hD : va_D AA [(h0, cubE f)] := hD
    subst w_5
    refine lv_lconst (v := 0) X.1 X.2.1 dX0_vanishesAt_18 (by decide) ?_
    refine bl_ne (tgt := 27) X dX0_vanishesAt_19 dX0_vanishesAt_20 (by decide) (fun c_8 => ?_) (fun c_8 => ?_)
    · refine lv_iconst (v := 0) X.1 X.2.1 dX0_vanishesAt_27 (by decide) ?_
      exact hret 0 () _ _ _ _ (by simp [vanF, bI, c_4, c_8]) rfl (hP.sub [0] rfl) (hD.sub [0] rfl rfl) hS dX0_vanishesAt_28
    · refine lv_iconst (v := 1) X.1 X.2.1 dX0_vanishesAt_23 (by decide) ?_
      refine lv_goto (tgt := 28) X.1 X.2.1 dX0_vanishesAt_24 (by decide) ?_
      exact hret 1 () _ _ _ _ (by simp [vanF, bI, c_4, c_8]) rfl (hP.sub [0] rfl) (hD.sub [0] rfl rfl) hS dX0_vanishesAt_28
set_option maxHeartbeats 4000000 in
set_option maxRecDepth 100000 in
theorem c_Cubic_hasRootOver (l : Launch) (D : va_G) (cI cJ : ClassId) (h0 : Nat) (f : Fm) (y : Int64) (Dn : Nat) (hd : absL f.2.2.2 = lN Dn) (hD0 : 0 < Dn) (hD1 : Dn ≤ 300) : CtI l yX0_hasRootOver cX0_hasRootOver 7 .boolean (rmk 2 48) D cI cJ [.ref h0, .long y] [(h0, cubE f)] (fun (_ : Unit) => [(h0, cubE f)]) (fun (r : Int32) (_ : Unit) => r = bI (rootOver f Dn y)) := by
  refine CtI.of (own := RX0) (by decide +kernel) (Nat.le_of_ble_eq_true rfl) rfl ?_
  intro pr_ en_ sg_ me_ ar_ be_ mt_ co_ AA ls QQ X hA hP hD hS hl hret
  have hl : lv_has ls 7 [(0, .ref h0), (1, .long y)] := hl
  refine lv_aload_n X.1 X.2.1 dX0_hasRootOver_0 rfl (lv_at hl 0 rfl) ?_
  refine gf_X0_21 (v := .long f.2.2.2) X hP 0 rfl rfl dX0_hasRootOver_1 ?_
  refine cv_X0_72 X hl.1 (Nat.le_of_ble_eq_true rfl) (Nat.le_of_ble_eq_true rfl) (Nat.zero_le _) (Nat.zero_le _) dX0_hasRootOver_4 ?_
  show W pr_ l en_ (rmk 2 48) sg_ me_ ar_ be_ mt_ co_ _ _ 0 0 QQ (F0 me_ _ ls (.long (absL f.2.2.2) :: _))
  rw [hd]
  refine lv_lstore_n (lv' := [(3, .long (lN Dn)), (0, .ref h0), (1, .long y)]) X.1 X.2.1 dX0_hasRootOver_7 rfl hl (by decide) rfl (fun ls hl => ?_)
  refine lv_lconst (v := 1) X.1 X.2.1 dX0_hasRootOver_8 (by decide) ?_
  refine lv_lstore (lv' := [(5, .long 1), (3, .long (lN Dn)), (0, .ref h0), (1, .long y)]) X.1 X.2.1 dX0_hasRootOver_9 hl (by decide) rfl (fun ls hl => ?_)
  have loop11 : ∀ (n9 : Nat) (x : Nat), (1 ≤ x) → (x ≤ Dn + 1) → (sqInv (fun x => vanF f (lN x) y) Dn x) → (Dn + 2 ≤ x + n9) → ∀ (H : Heap) (locs : List Loc) (ls : Array Slot), va_P D vwCl [(h0, cubE f)] H → va_D AA [(h0, cubE f)] → va_S AA sg_.heap H locs → lv_has ls 7 [(0, .ref h0), (1, .long y), (3, .long (lN Dn)), (5, .long (lN x))] → W pr_ l en_ (rmk 2 48) sg_ me_ ar_ be_ mt_ co_ H locs 0 0 QQ (F0 me_ 11 ls []) := by
    intro n9
    induction n9 with
    | zero =>
      intro x hx1 hx2 hi hn
      omega
    | succ n11 ih11 =>
      intro x hx1 hx2 hi hn H locs ls hP hD hS hl
      refine lv_lload X.1 X.2.1 dX0_hasRootOver_11 (lv_at hl 3 rfl) ?_
      refine lv_lload X.1 X.2.1 dX0_hasRootOver_13 (lv_at hl 3 rfl) ?_
      refine lv_lmul X.1 X.2.1 dX0_hasRootOver_15 ?_
      refine lv_lload_n X.1 X.2.1 dX0_hasRootOver_16 rfl (lv_at hl 2 rfl) ?_
      refine bl_gt (tgt := 63) X dX0_hasRootOver_17 dX0_hasRootOver_18 (by decide) (fun c_1 => ?_) (fun c_1 => ?_)
      · refine lv_iconst (v := 0) X.1 X.2.1 dX0_hasRootOver_63 (by decide) ?_
        exact hret 0 () _ _ _ _ (by rw [show rootOver f Dn y = false from sqInv_end hi hD0 ((lN_ltsq (by omega) (by omega)).mp c_1)]; rfl) rfl (hP.sub [0] rfl) (hD.sub [0] rfl rfl) hS dX0_hasRootOver_64
      · have hxx : ¬ Dn < x * x := fun q => c_1 ((lN_ltsq (by omega) (by omega)).mpr q)
        have hxD : x ≤ Dn := Nat.le_trans (Nat.le_mul_of_pos_left x hx1) (by omega)
        refine lv_lload_n X.1 X.2.1 dX0_hasRootOver_21 rfl (lv_at hl 2 rfl) ?_
        refine lv_lload X.1 X.2.1 dX0_hasRootOver_22 (lv_at hl 3 rfl) ?_
        refine lv_lrem X.1 X.2.1 dX0_hasRootOver_24 (lN_ne0 (by omega) (by omega)) ?_
        refine lv_lconst (v := 0) X.1 X.2.1 dX0_hasRootOver_25 (by decide) ?_
        refine bl_ne (tgt := 54) X dX0_hasRootOver_26 dX0_hasRootOver_27 (by decide) (fun c_2 => ?_) (fun c_2 => ?_)
        · refine lv_lload X.1 X.2.1 dX0_hasRootOver_54 (lv_at hl 3 rfl) ?_
          refine lv_lconst (v := 1) X.1 X.2.1 dX0_hasRootOver_56 (by decide) ?_
          refine lv_ladd X.1 X.2.1 dX0_hasRootOver_57 ?_
          rw [lN_1]
          refine lv_lstore (lv' := [(5, .long (lN (x + 1))), (0, .ref h0), (1, .long y), (3, .long (lN Dn))]) X.1 X.2.1 dX0_hasRootOver_58 hl (by decide) rfl (fun ls hl => ?_)
          refine lv_goto (tgt := 11) X.1 X.2.1 dX0_hasRootOver_60 (by decide) ?_
          exact ih11  (x + 1) (by omega) (by omega) (sqInv_s hi (fun q => absurd ((lN_rem0 (by omega) (by omega) (by omega)).mpr q) c_2)) (by omega) _ _ _ (hP.sub [0] rfl) (hD.sub [0] rfl rfl) hS (lv_sub hl [1, 2, 3, 0] rfl)
        · have hm : Dn % x = 0 := (lN_rem0 (by omega) (by omega) (by omega)).mp c_2
          refine lv_aload_n X.1 X.2.1 dX0_hasRootOver_30 rfl (lv_at hl 0 rfl) ?_
          refine lv_lload X.1 X.2.1 dX0_hasRootOver_31 (lv_at hl 3 rfl) ?_
          refine lv_lload_n X.1 X.2.1 dX0_hasRootOver_33 rfl (lv_at hl 1 rfl) ?_
          refine fin_i (wr := []) (cv_X0_80 X (c_Cubic_vanishesAt l D cI cJ h0 f (lN x) y  _) rfl rfl dX0_hasRootOver_34 hP hD 0 rfl [0] rfl rfl hl.1 rfl rfl (Nat.le_of_ble_eq_true rfl) ⟨Nat.le_of_ble_eq_true rfl, Nat.le_of_ble_eq_true rfl⟩ ⟨Nat.le_of_ble_eq_true rfl, Nat.le_of_ble_eq_true rfl⟩) hP hD hS hA [0] [] rfl rfl rfl (by decide) (fun r_5 u_4 H locs w_3 hP hD hS => ?_)
          have hP : va_P D vwCl [(h0, cubE f)] H := hP
          have hD : va_D AA [(h0, cubE f)] := hD
          subst w_3
          refine bb_ne (tgt := 52) X dX0_hasRootOver_37 (by decide) (fun c_6 => ?_) (fun c_6 => ?_)
          · refine lv_iconst (v := 1) X.1 X.2.1 dX0_hasRootOver_52 (by decide) ?_
            exact hret 1 () _ _ _ _ (by rw [show rootOver f Dn y = true from anyDiv_yes hD0 hx1 hm c_6]; rfl) rfl (hP.sub [0] rfl) (hD.sub [0] rfl rfl) hS dX0_hasRootOver_53
          · refine lv_aload_n X.1 X.2.1 dX0_hasRootOver_40 rfl (lv_at hl 0 rfl) ?_
            refine lv_lload_n X.1 X.2.1 dX0_hasRootOver_41 rfl (lv_at hl 2 rfl) ?_
            refine lv_lload X.1 X.2.1 dX0_hasRootOver_42 (lv_at hl 3 rfl) ?_
            refine lv_ldiv X.1 X.2.1 dX0_hasRootOver_44 (lN_ne0 (by omega) (by omega)) ?_
            refine lv_lload_n X.1 X.2.1 dX0_hasRootOver_45 rfl (lv_at hl 1 rfl) ?_
            refine fin_i (wr := []) (cv_X0_80 X (c_Cubic_vanishesAt l D cI cJ h0 f ((lN Dn) / (lN x)) y  _) rfl rfl dX0_hasRootOver_46 hP hD 0 rfl [0] rfl rfl hl.1 rfl rfl (Nat.le_of_ble_eq_true rfl) ⟨Nat.le_of_ble_eq_true rfl, Nat.le_of_ble_eq_true rfl⟩ ⟨Nat.le_of_ble_eq_true rfl, Nat.le_of_ble_eq_true rfl⟩) hP hD hS hA [0] [] rfl rfl rfl (by decide) (fun r_9 u_8 H locs w_7 hP hD hS => ?_)
            have hP : va_P D vwCl [(h0, cubE f)] H := hP
            have hD : va_D AA [(h0, cubE f)] := hD
            subst w_7
            refine bb_eq (tgt := 54) X dX0_hasRootOver_49 (by decide) (fun c_10 => ?_) (fun c_10 => ?_)
            · refine lv_lload X.1 X.2.1 dX0_hasRootOver_54 (lv_at hl 3 rfl) ?_
              refine lv_lconst (v := 1) X.1 X.2.1 dX0_hasRootOver_56 (by decide) ?_
              refine lv_ladd X.1 X.2.1 dX0_hasRootOver_57 ?_
              rw [lN_1]
              refine lv_lstore (lv' := [(5, .long (lN (x + 1))), (0, .ref h0), (1, .long y), (3, .long (lN Dn))]) X.1 X.2.1 dX0_hasRootOver_58 hl (by decide) rfl (fun ls hl => ?_)
              refine lv_goto (tgt := 11) X.1 X.2.1 dX0_hasRootOver_60 (by decide) ?_
              exact ih11  (x + 1) (by omega) (by omega) (sqInv_s hi (fun q => ⟨c_6, by rw [pk_lDiv (by omega) (by omega) (by omega)] at c_10; exact c_10⟩)) (by omega) _ _ _ (hP.sub [0] rfl) (hD.sub [0] rfl rfl) hS (lv_sub hl [1, 2, 3, 0] rfl)
            · refine lv_iconst (v := 1) X.1 X.2.1 dX0_hasRootOver_52 (by decide) ?_
              exact hret 1 () _ _ _ _ (by rw [show rootOver f Dn y = true from anyDiv_yes hD0 (Nat.div_pos hxD hx1) (Nat.mod_eq_zero_of_dvd (Nat.div_dvd_of_dvd (Nat.dvd_of_mod_eq_zero hm))) (by rw [pk_lDiv (by omega) (by omega) (by omega)] at c_10; exact c_10)]; rfl) rfl (hP.sub [0] rfl) (hD.sub [0] rfl rfl) hS dX0_hasRootOver_53
  exact loop11 (Dn + 1) 1 (Nat.le_refl 1) (by omega) sqInv_1 (by omega) _ _ _ (hP.sub [0] rfl) (hD.sub [0] rfl rfl) hS (lv_sub hl [2, 3, 1, 0] rfl)
set_option maxHeartbeats 4000000 in
set_option maxRecDepth 100000 in
theorem c_Cubic_hasRationalRoot (l : Launch) (D : va_G) (cI cJ : ClassId) (h0 : Nat) (f : Fm) (An : Nat) (Dn : Nat) (ha : absL f.1 = lN An) (hA1 : An ≤ 300) (hd : absL f.2.2.2 = lN Dn) (hD1 : Dn ≤ 300) : CtI l yX0_hasRationalRoot cX0_hasRationalRoot 5 .boolean (rmk 3 74) D cI cJ [.ref h0] [(h0, cubE f)] (fun (_ : Unit) => [(h0, cubE f)]) (fun (r : Int32) (_ : Unit) => r = bI (rootC f An Dn)) := by
  refine CtI.of (own := RX0) (by decide +kernel) (Nat.le_of_ble_eq_true rfl) rfl ?_
  intro pr_ en_ sg_ me_ ar_ be_ mt_ co_ AA ls QQ X hA hP hD hS hl hret
  have hl : lv_has ls 5 [(0, .ref h0)] := hl
  refine lv_aload_n X.1 X.2.1 dX0_hasRationalRoot_0 rfl (lv_at hl 0 rfl) ?_
  refine gf_X0_9 (v := .long f.1) X hP 0 rfl rfl dX0_hasRationalRoot_1 ?_
  refine lv_lconst (v := 0) X.1 X.2.1 dX0_hasRationalRoot_4 (by decide) ?_
  refine bl_eq (tgt := 18) X dX0_hasRationalRoot_5 dX0_hasRationalRoot_6 (by decide) (fun c_1 => ?_) (fun c_1 => ?_)
  · refine lv_iconst (v := 1) X.1 X.2.1 dX0_hasRationalRoot_18 (by decide) ?_
    exact hret 1 () _ _ _ _ (by simp [rootC, bI, c_1]) rfl (hP.sub [0] rfl) (hD.sub [0] rfl rfl) hS dX0_hasRationalRoot_19
  · refine lv_aload_n X.1 X.2.1 dX0_hasRationalRoot_9 rfl (lv_at hl 0 rfl) ?_
    refine gf_X0_21 (v := .long f.2.2.2) X hP 0 rfl rfl dX0_hasRationalRoot_10 ?_
    refine lv_lconst (v := 0) X.1 X.2.1 dX0_hasRationalRoot_13 (by decide) ?_
    refine bl_ne (tgt := 20) X dX0_hasRationalRoot_14 dX0_hasRationalRoot_15 (by decide) (fun c_2 => ?_) (fun c_2 => ?_)
    · have hA0 : 0 < An := by
        rcases Nat.eq_zero_or_pos An with q | q
        · exact absurd (absL_0 (by rw [ha, q]; rfl)) c_1
        · exact q
      have hD0 : 0 < Dn := by
        rcases Nat.eq_zero_or_pos Dn with q | q
        · exact absurd (absL_0 (by rw [hd, q]; rfl)) c_2
        · exact q
      have ea : f.1 ≠ 0 := c_1
      have ed : f.2.2.2 ≠ 0 := c_2
      refine lv_aload_n X.1 X.2.1 dX0_hasRationalRoot_20 rfl (lv_at hl 0 rfl) ?_
      refine gf_X0_9 (v := .long f.1) X hP 0 rfl rfl dX0_hasRationalRoot_21 ?_
      refine cv_X0_72 X hl.1 (Nat.le_of_ble_eq_true rfl) (Nat.le_of_ble_eq_true rfl) (Nat.zero_le _) (Nat.zero_le _) dX0_hasRationalRoot_24 ?_
      show W pr_ l en_ (rmk 3 74) sg_ me_ ar_ be_ mt_ co_ _ _ 0 0 QQ (F0 me_ _ ls (.long (absL f.1) :: _))
      rw [ha]
      refine lv_lstore_n (lv' := [(1, .long (lN An)), (0, .ref h0)]) X.1 X.2.1 dX0_hasRationalRoot_27 rfl hl (by decide) rfl (fun ls hl => ?_)
      refine lv_lconst (v := 1) X.1 X.2.1 dX0_hasRationalRoot_28 (by decide) ?_
      refine lv_lstore_n (lv' := [(3, .long 1), (1, .long (lN An)), (0, .ref h0)]) X.1 X.2.1 dX0_hasRationalRoot_29 rfl hl (by decide) rfl (fun ls hl => ?_)
      have loop30 : ∀ (n9 : Nat) (x : Nat), (1 ≤ x) → (x ≤ An + 1) → (sqInv (fun y => rootOver f Dn (lN y)) An x) → (An + 2 ≤ x + n9) → ∀ (H : Heap) (locs : List Loc) (ls : Array Slot), va_P D vwCl [(h0, cubE f)] H → va_D AA [(h0, cubE f)] → va_S AA sg_.heap H locs → lv_has ls 5 [(0, .ref h0), (1, .long (lN An)), (3, .long (lN x))] → W pr_ l en_ (rmk 3 74) sg_ me_ ar_ be_ mt_ co_ H locs 0 0 QQ (F0 me_ 30 ls []) := by
        intro n9
        induction n9 with
        | zero =>
          intro x hx1 hx2 hi hn
          omega
        | succ n30 ih30 =>
          intro x hx1 hx2 hi hn H locs ls hP hD hS hl
          refine lv_lload_n X.1 X.2.1 dX0_hasRationalRoot_30 rfl (lv_at hl 2 rfl) ?_
          refine lv_lload_n X.1 X.2.1 dX0_hasRationalRoot_31 rfl (lv_at hl 2 rfl) ?_
          refine lv_lmul X.1 X.2.1 dX0_hasRationalRoot_32 ?_
          refine lv_lload_n X.1 X.2.1 dX0_hasRationalRoot_33 rfl (lv_at hl 1 rfl) ?_
          refine bl_gt (tgt := 73) X dX0_hasRationalRoot_34 dX0_hasRationalRoot_35 (by decide) (fun c_3 => ?_) (fun c_3 => ?_)
          · refine lv_iconst (v := 0) X.1 X.2.1 dX0_hasRationalRoot_73 (by decide) ?_
            exact hret 0 () _ _ _ _ (by simp only [rootC, ea, ed, decide_false, Bool.false_or]; rw [sqInv_end hi hA0 ((lN_ltsq (by omega) (by omega)).mp c_3)]; rfl) rfl (hP.sub [0] rfl) (hD.sub [0] rfl rfl) hS dX0_hasRationalRoot_74
          · have hxx : ¬ An < x * x := fun q => c_3 ((lN_ltsq (by omega) (by omega)).mpr q)
            have hxD : x ≤ An := Nat.le_trans (Nat.le_mul_of_pos_left x hx1) (by omega)
            refine lv_lload_n X.1 X.2.1 dX0_hasRationalRoot_38 rfl (lv_at hl 1 rfl) ?_
            refine lv_lload_n X.1 X.2.1 dX0_hasRationalRoot_39 rfl (lv_at hl 2 rfl) ?_
            refine lv_lrem X.1 X.2.1 dX0_hasRationalRoot_40 (lN_ne0 (by omega) (by omega)) ?_
            refine lv_lconst (v := 0) X.1 X.2.1 dX0_hasRationalRoot_41 (by decide) ?_
            refine bl_ne (tgt := 66) X dX0_hasRationalRoot_42 dX0_hasRationalRoot_43 (by decide) (fun c_4 => ?_) (fun c_4 => ?_)
            · refine lv_lload_n X.1 X.2.1 dX0_hasRationalRoot_66 rfl (lv_at hl 2 rfl) ?_
              refine lv_lconst (v := 1) X.1 X.2.1 dX0_hasRationalRoot_67 (by decide) ?_
              refine lv_ladd X.1 X.2.1 dX0_hasRationalRoot_68 ?_
              rw [lN_1]
              refine lv_lstore_n (lv' := [(3, .long (lN (x + 1))), (0, .ref h0), (1, .long (lN An))]) X.1 X.2.1 dX0_hasRationalRoot_69 rfl hl (by decide) rfl (fun ls hl => ?_)
              refine lv_goto (tgt := 30) X.1 X.2.1 dX0_hasRationalRoot_70 (by decide) ?_
              exact ih30  (x + 1) (by omega) (by omega) (sqInv_s hi (fun q => absurd ((lN_rem0 (by omega) (by omega) (by omega)).mpr q) c_4)) (by omega) _ _ _ (hP.sub [0] rfl) (hD.sub [0] rfl rfl) hS (lv_sub hl [1, 2, 0] rfl)
            · have hm : An % x = 0 := (lN_rem0 (by omega) (by omega) (by omega)).mp c_4
              refine lv_aload_n X.1 X.2.1 dX0_hasRationalRoot_46 rfl (lv_at hl 0 rfl) ?_
              refine lv_lload_n X.1 X.2.1 dX0_hasRationalRoot_47 rfl (lv_at hl 2 rfl) ?_
              refine fin_i (wr := []) (cv_X0_76 X (c_Cubic_hasRootOver l D cI cJ h0 f (lN x) Dn hd hD0 hD1 _) rfl rfl dX0_hasRationalRoot_48 hP hD 0 rfl [0] rfl rfl hl.1 rfl rfl (Nat.le_of_ble_eq_true rfl) ⟨Nat.le_of_ble_eq_true rfl, Nat.le_of_ble_eq_true rfl⟩ ⟨Nat.le_of_ble_eq_true rfl, Nat.le_of_ble_eq_true rfl⟩) hP hD hS hA [0] [] rfl rfl rfl (by decide) (fun r_7 u_6 H locs w_5 hP hD hS => ?_)
              have hP : va_P D vwCl [(h0, cubE f)] H := hP
              have hD : va_D AA [(h0, cubE f)] := hD
              subst w_5
              refine bb_ne (tgt := 64) X dX0_hasRationalRoot_51 (by decide) (fun c_8 => ?_) (fun c_8 => ?_)
              · refine lv_iconst (v := 1) X.1 X.2.1 dX0_hasRationalRoot_64 (by decide) ?_
                exact hret 1 () _ _ _ _ (by simp only [rootC, ea, ed, decide_false, Bool.false_or]; rw [anyDiv_yes hA0 hx1 hm c_8]; rfl) rfl (hP.sub [0] rfl) (hD.sub [0] rfl rfl) hS dX0_hasRationalRoot_65
              · refine lv_aload_n X.1 X.2.1 dX0_hasRationalRoot_54 rfl (lv_at hl 0 rfl) ?_
                refine lv_lload_n X.1 X.2.1 dX0_hasRationalRoot_55 rfl (lv_at hl 1 rfl) ?_
                refine lv_lload_n X.1 X.2.1 dX0_hasRationalRoot_56 rfl (lv_at hl 2 rfl) ?_
                refine lv_ldiv X.1 X.2.1 dX0_hasRationalRoot_57 (lN_ne0 (by omega) (by omega)) ?_
                refine fin_i (wr := []) (cv_X0_76 X (c_Cubic_hasRootOver l D cI cJ h0 f ((lN An) / (lN x)) Dn hd hD0 hD1 _) rfl rfl dX0_hasRationalRoot_58 hP hD 0 rfl [0] rfl rfl hl.1 rfl rfl (Nat.le_of_ble_eq_true rfl) ⟨Nat.le_of_ble_eq_true rfl, Nat.le_of_ble_eq_true rfl⟩ ⟨Nat.le_of_ble_eq_true rfl, Nat.le_of_ble_eq_true rfl⟩) hP hD hS hA [0] [] rfl rfl rfl (by decide) (fun r_11 u_10 H locs w_9 hP hD hS => ?_)
                have hP : va_P D vwCl [(h0, cubE f)] H := hP
                have hD : va_D AA [(h0, cubE f)] := hD
                subst w_9
                refine bb_eq (tgt := 66) X dX0_hasRationalRoot_61 (by decide) (fun c_12 => ?_) (fun c_12 => ?_)
                · refine lv_lload_n X.1 X.2.1 dX0_hasRationalRoot_66 rfl (lv_at hl 2 rfl) ?_
                  refine lv_lconst (v := 1) X.1 X.2.1 dX0_hasRationalRoot_67 (by decide) ?_
                  refine lv_ladd X.1 X.2.1 dX0_hasRationalRoot_68 ?_
                  rw [lN_1]
                  refine lv_lstore_n (lv' := [(3, .long (lN (x + 1))), (0, .ref h0), (1, .long (lN An))]) X.1 X.2.1 dX0_hasRationalRoot_69 rfl hl (by decide) rfl (fun ls hl => ?_)
                  refine lv_goto (tgt := 30) X.1 X.2.1 dX0_hasRationalRoot_70 (by decide) ?_
                  exact ih30  (x + 1) (by omega) (by omega) (sqInv_s hi (fun q => ⟨c_8, by rw [pk_lDiv (by omega) (by omega) (by omega)] at c_12; exact c_12⟩)) (by omega) _ _ _ (hP.sub [0] rfl) (hD.sub [0] rfl rfl) hS (lv_sub hl [1, 2, 0] rfl)
                · refine lv_iconst (v := 1) X.1 X.2.1 dX0_hasRationalRoot_64 (by decide) ?_
                  exact hret 1 () _ _ _ _ (by simp only [rootC, ea, ed, decide_false, Bool.false_or]; rw [anyDiv_yes (q := fun y => rootOver f Dn (lN y)) hA0 (Nat.div_pos hxD hx1) (Nat.mod_eq_zero_of_dvd (Nat.div_dvd_of_dvd (Nat.dvd_of_mod_eq_zero hm))) (by rw [pk_lDiv (by omega) (by omega) (by omega)] at c_12; exact c_12)]; rfl) rfl (hP.sub [0] rfl) (hD.sub [0] rfl rfl) hS dX0_hasRationalRoot_65
      exact loop30 (An + 1) 1 (Nat.le_refl 1) (by omega) sqInv_1 (by omega) _ _ _ (hP.sub [0] rfl) (hD.sub [0] rfl rfl) hS (lv_sub hl [2, 1, 0] rfl)
    · refine lv_iconst (v := 1) X.1 X.2.1 dX0_hasRationalRoot_18 (by decide) ?_
      exact hret 1 () _ _ _ _ (by simp [rootC, bI, c_2]) rfl (hP.sub [0] rfl) (hD.sub [0] rfl rfl) hS dX0_hasRationalRoot_19
set_option maxHeartbeats 4000000 in
set_option maxRecDepth 100000 in
theorem c_Cubic_isMultipleOf (l : Launch) (D : va_G) (cI cJ : ClassId) (h0 : Nat) (f : Fm) (P : Nat) (h2 : 2 ≤ P) (h9 : P ≤ 997) : CtI l yX0_isMultipleOf cX0_isMultipleOf 2 .boolean (rmk 0 0) D cI cJ [.ref h0, .int (nI P)] [(h0, cubE f)] (fun (_ : Unit) => [(h0, cubE f)]) (fun (r : Int32) (_ : Unit) => r = bI (mulF f (lN P))) := by
  refine CtI.of (own := RX0) (by decide +kernel) (Nat.le_of_ble_eq_true rfl) rfl ?_
  intro pr_ en_ sg_ me_ ar_ be_ mt_ co_ AA ls QQ X hA hP hD hS hl hret
  have hl : lv_has ls 2 [(0, .ref h0), (1, .int (nI P))] := hl
  refine lv_iload_n X.1 X.2.1 dX0_isMultipleOf_0 rfl (lv_at hl 1 rfl) ?_
  refine bz_le (tgt := 56) X dX0_isMultipleOf_1 (by decide) (fun c_1 => absurd c_1 (not_not_intro ((nI_ltI (a := 0) (by decide) (by omega)).mpr (by omega)))) (fun c_1 => ?_)
  refine lv_aload_n X.1 X.2.1 dX0_isMultipleOf_4 rfl (lv_at hl 0 rfl) ?_
  refine gf_X0_9 (v := .long f.1) X hP 0 rfl rfl dX0_isMultipleOf_5 ?_
  refine lv_iload_n X.1 X.2.1 dX0_isMultipleOf_8 rfl (lv_at hl 1 rfl) ?_
  refine lv_i2l (v := lN P) X.1 X.2.1 dX0_isMultipleOf_9 (nI_l (by omega)) ?_
  refine lv_lrem X.1 X.2.1 dX0_isMultipleOf_10 (lN_ne0 (by omega) (by omega)) ?_
  refine lv_lconst (v := 0) X.1 X.2.1 dX0_isMultipleOf_11 (by decide) ?_
  refine bl_ne (tgt := 56) X dX0_isMultipleOf_12 dX0_isMultipleOf_13 (by decide) (fun c_2 => ?_) (fun c_2 => ?_)
  · refine lv_iconst (v := 0) X.1 X.2.1 dX0_isMultipleOf_56 (by decide) ?_
    exact hret 0 () _ _ _ _ (by simp only [mulF, remL, bI, c_2, decide_true, decide_false, Bool.and_true, Bool.true_and, Bool.and_false, Bool.false_and, if_true, if_false]; rfl) rfl (hP.sub [0] rfl) (hD.sub [0] rfl rfl) hS dX0_isMultipleOf_57
  · refine lv_aload_n X.1 X.2.1 dX0_isMultipleOf_16 rfl (lv_at hl 0 rfl) ?_
    refine gf_X0_15 (v := .long f.2.1) X hP 0 rfl rfl dX0_isMultipleOf_17 ?_
    refine lv_iload_n X.1 X.2.1 dX0_isMultipleOf_20 rfl (lv_at hl 1 rfl) ?_
    refine lv_i2l (v := lN P) X.1 X.2.1 dX0_isMultipleOf_21 (nI_l (by omega)) ?_
    refine lv_lrem X.1 X.2.1 dX0_isMultipleOf_22 (lN_ne0 (by omega) (by omega)) ?_
    refine lv_lconst (v := 0) X.1 X.2.1 dX0_isMultipleOf_23 (by decide) ?_
    refine bl_ne (tgt := 56) X dX0_isMultipleOf_24 dX0_isMultipleOf_25 (by decide) (fun c_3 => ?_) (fun c_3 => ?_)
    · refine lv_iconst (v := 0) X.1 X.2.1 dX0_isMultipleOf_56 (by decide) ?_
      exact hret 0 () _ _ _ _ (by simp only [mulF, remL, bI, c_2, c_3, decide_true, decide_false, Bool.and_true, Bool.true_and, Bool.and_false, Bool.false_and, if_true, if_false]; rfl) rfl (hP.sub [0] rfl) (hD.sub [0] rfl rfl) hS dX0_isMultipleOf_57
    · refine lv_aload_n X.1 X.2.1 dX0_isMultipleOf_28 rfl (lv_at hl 0 rfl) ?_
      refine gf_X0_18 (v := .long f.2.2.1) X hP 0 rfl rfl dX0_isMultipleOf_29 ?_
      refine lv_iload_n X.1 X.2.1 dX0_isMultipleOf_32 rfl (lv_at hl 1 rfl) ?_
      refine lv_i2l (v := lN P) X.1 X.2.1 dX0_isMultipleOf_33 (nI_l (by omega)) ?_
      refine lv_lrem X.1 X.2.1 dX0_isMultipleOf_34 (lN_ne0 (by omega) (by omega)) ?_
      refine lv_lconst (v := 0) X.1 X.2.1 dX0_isMultipleOf_35 (by decide) ?_
      refine bl_ne (tgt := 56) X dX0_isMultipleOf_36 dX0_isMultipleOf_37 (by decide) (fun c_4 => ?_) (fun c_4 => ?_)
      · refine lv_iconst (v := 0) X.1 X.2.1 dX0_isMultipleOf_56 (by decide) ?_
        exact hret 0 () _ _ _ _ (by simp only [mulF, remL, bI, c_2, c_3, c_4, decide_true, decide_false, Bool.and_true, Bool.true_and, Bool.and_false, Bool.false_and, if_true, if_false]; rfl) rfl (hP.sub [0] rfl) (hD.sub [0] rfl rfl) hS dX0_isMultipleOf_57
      · refine lv_aload_n X.1 X.2.1 dX0_isMultipleOf_40 rfl (lv_at hl 0 rfl) ?_
        refine gf_X0_21 (v := .long f.2.2.2) X hP 0 rfl rfl dX0_isMultipleOf_41 ?_
        refine lv_iload_n X.1 X.2.1 dX0_isMultipleOf_44 rfl (lv_at hl 1 rfl) ?_
        refine lv_i2l (v := lN P) X.1 X.2.1 dX0_isMultipleOf_45 (nI_l (by omega)) ?_
        refine lv_lrem X.1 X.2.1 dX0_isMultipleOf_46 (lN_ne0 (by omega) (by omega)) ?_
        refine lv_lconst (v := 0) X.1 X.2.1 dX0_isMultipleOf_47 (by decide) ?_
        refine bl_ne (tgt := 56) X dX0_isMultipleOf_48 dX0_isMultipleOf_49 (by decide) (fun c_5 => ?_) (fun c_5 => ?_)
        · refine lv_iconst (v := 0) X.1 X.2.1 dX0_isMultipleOf_56 (by decide) ?_
          exact hret 0 () _ _ _ _ (by simp only [mulF, remL, bI, c_2, c_3, c_4, c_5, decide_true, decide_false, Bool.and_true, Bool.true_and, Bool.and_false, Bool.false_and, if_true, if_false]; rfl) rfl (hP.sub [0] rfl) (hD.sub [0] rfl rfl) hS dX0_isMultipleOf_57
        · refine lv_iconst (v := 1) X.1 X.2.1 dX0_isMultipleOf_52 (by decide) ?_
          refine lv_goto (tgt := 57) X.1 X.2.1 dX0_isMultipleOf_53 (by decide) ?_
          exact hret 1 () _ _ _ _ (by simp only [mulF, remL, bI, c_2, c_3, c_4, c_5, decide_true, decide_false, Bool.and_true, Bool.true_and, Bool.and_false, Bool.false_and, if_true, if_false]) rfl (hP.sub [0] rfl) (hD.sub [0] rfl rfl) hS dX0_isMultipleOf_57
set_option maxHeartbeats 4000000 in
set_option maxRecDepth 100000 in
theorem c_Cubic_becomeAtPoint (l : Launch) (D : va_G) (cI cJ : ClassId) (h0 : Nat) (f : Fm) (h1 : Nat) (g : Fm) (P : Nat) (t : Int64) (h2 : 2 ≤ P) (h9 : P ≤ 997) : CtV l yX0_becomeAtPoint cX0_becomeAtPoint 5 (rmk 1 28) D cI cJ [.ref h0, .ref h1, .int (nI P), .long t] [(h0, cubE f), (h1, cubE g)] (fun (_ : Unit) => [(h0, cubE (ptF g (lN P) t)), (h1, cubE g)]) (fun (_ : Unit) => True) 0 0 := by
  refine CtV.of (own := RX0) (by decide +kernel) (Nat.le_of_ble_eq_true rfl) rfl ?_
  intro pr_ en_ sg_ me_ ar_ be_ mt_ co_ AA ls QQ X hin hA hP hD hS hl hret
  have hl : lv_has ls 5 [(0, .ref h0), (1, .ref h1), (2, .int (nI P)), (3, .long t)] := hl
  refine lv_lload_n X.1 X.2.1 dX0_becomeAtPoint_0 rfl (lv_at hl 3 rfl) ?_
  refine lv_iload_n X.1 X.2.1 dX0_becomeAtPoint_1 rfl (lv_at hl 2 rfl) ?_
  refine lv_i2l (v := lN P) X.1 X.2.1 dX0_becomeAtPoint_2 (nI_l (by omega)) ?_
  refine bl_ne (tgt := 30) X dX0_becomeAtPoint_3 dX0_becomeAtPoint_4 (by decide) (fun c_1 => ?_) (fun c_1 => ?_)
  · refine lv_aload_n X.1 X.2.1 dX0_becomeAtPoint_30 rfl (lv_at hl 0 rfl) ?_
    refine lv_aload_n X.1 X.2.1 dX0_becomeAtPoint_31 rfl (lv_at hl 1 rfl) ?_
    refine gf_X0_21 (v := .long g.2.2.2) X hP 1 rfl rfl dX0_becomeAtPoint_32 ?_
    refine lv_lload_n X.1 X.2.1 dX0_becomeAtPoint_35 rfl (lv_at hl 3 rfl) ?_
    refine lv_lmul X.1 X.2.1 dX0_becomeAtPoint_36 ?_
    refine lv_aload_n X.1 X.2.1 dX0_becomeAtPoint_37 rfl (lv_at hl 1 rfl) ?_
    refine gf_X0_18 (v := .long g.2.2.1) X hP 1 rfl rfl dX0_becomeAtPoint_38 ?_
    refine lv_ladd X.1 X.2.1 dX0_becomeAtPoint_41 ?_
    refine lv_lload_n X.1 X.2.1 dX0_becomeAtPoint_42 rfl (lv_at hl 3 rfl) ?_
    refine lv_lmul X.1 X.2.1 dX0_becomeAtPoint_43 ?_
    refine lv_aload_n X.1 X.2.1 dX0_becomeAtPoint_44 rfl (lv_at hl 1 rfl) ?_
    refine gf_X0_15 (v := .long g.2.1) X hP 1 rfl rfl dX0_becomeAtPoint_45 ?_
    refine lv_ladd X.1 X.2.1 dX0_becomeAtPoint_48 ?_
    refine lv_lload_n X.1 X.2.1 dX0_becomeAtPoint_49 rfl (lv_at hl 3 rfl) ?_
    refine lv_lmul X.1 X.2.1 dX0_becomeAtPoint_50 ?_
    refine lv_aload_n X.1 X.2.1 dX0_becomeAtPoint_51 rfl (lv_at hl 1 rfl) ?_
    refine gf_X0_9 (v := .long g.1) X hP 1 rfl rfl dX0_becomeAtPoint_52 ?_
    refine lv_ladd X.1 X.2.1 dX0_becomeAtPoint_55 ?_
    refine lc_X0_40 X dX0_becomeAtPoint_56 ?_
    refine lv_aload_n X.1 X.2.1 dX0_becomeAtPoint_59 rfl (lv_at hl 1 rfl) ?_
    refine gf_X0_21 (v := .long g.2.2.2) X hP 1 rfl rfl dX0_becomeAtPoint_60 ?_
    refine lv_lmul X.1 X.2.1 dX0_becomeAtPoint_63 ?_
    refine lv_lload_n X.1 X.2.1 dX0_becomeAtPoint_64 rfl (lv_at hl 3 rfl) ?_
    refine lv_lmul X.1 X.2.1 dX0_becomeAtPoint_65 ?_
    refine lc_X0_58 X dX0_becomeAtPoint_66 ?_
    refine lv_aload_n X.1 X.2.1 dX0_becomeAtPoint_69 rfl (lv_at hl 1 rfl) ?_
    refine gf_X0_18 (v := .long g.2.2.1) X hP 1 rfl rfl dX0_becomeAtPoint_70 ?_
    refine lv_lmul X.1 X.2.1 dX0_becomeAtPoint_73 ?_
    refine lv_ladd X.1 X.2.1 dX0_becomeAtPoint_74 ?_
    refine lv_lload_n X.1 X.2.1 dX0_becomeAtPoint_75 rfl (lv_at hl 3 rfl) ?_
    refine lv_lmul X.1 X.2.1 dX0_becomeAtPoint_76 ?_
    refine lv_aload_n X.1 X.2.1 dX0_becomeAtPoint_77 rfl (lv_at hl 1 rfl) ?_
    refine gf_X0_15 (v := .long g.2.1) X hP 1 rfl rfl dX0_becomeAtPoint_78 ?_
    refine lv_ladd X.1 X.2.1 dX0_becomeAtPoint_81 ?_
    refine lc_X0_40 X dX0_becomeAtPoint_82 ?_
    refine lv_aload_n X.1 X.2.1 dX0_becomeAtPoint_85 rfl (lv_at hl 1 rfl) ?_
    refine gf_X0_21 (v := .long g.2.2.2) X hP 1 rfl rfl dX0_becomeAtPoint_86 ?_
    refine lv_lmul X.1 X.2.1 dX0_becomeAtPoint_89 ?_
    refine lv_lload_n X.1 X.2.1 dX0_becomeAtPoint_90 rfl (lv_at hl 3 rfl) ?_
    refine lv_lmul X.1 X.2.1 dX0_becomeAtPoint_91 ?_
    refine lv_aload_n X.1 X.2.1 dX0_becomeAtPoint_92 rfl (lv_at hl 1 rfl) ?_
    refine gf_X0_18 (v := .long g.2.2.1) X hP 1 rfl rfl dX0_becomeAtPoint_93 ?_
    refine lv_ladd X.1 X.2.1 dX0_becomeAtPoint_96 ?_
    refine lv_aload_n X.1 X.2.1 dX0_becomeAtPoint_97 rfl (lv_at hl 1 rfl) ?_
    refine gf_X0_21 (v := .long g.2.2.2) X hP 1 rfl rfl dX0_becomeAtPoint_98 ?_
    refine fin_v (wr := [(h1, cubE g)]) (cv_X0_24 X (c_Cubic_set l D cI cJ h0 f ((((((g.2.2.2 * t) + g.2.2.1) * t) + g.2.1) * t) + g.1) (((((3 * g.2.2.2) * t) + (2 * g.2.2.1)) * t) + g.2.1) (((3 * g.2.2.2) * t) + g.2.2.1) g.2.2.2  _) rfl rfl dX0_becomeAtPoint_101 hP hD 0 rfl [0] rfl rfl hl.1 rfl rfl (Nat.le_of_ble_eq_true rfl) ⟨Nat.le_of_ble_eq_true rfl, Nat.le_of_ble_eq_true rfl⟩ ⟨Nat.le_of_ble_eq_true rfl, Nat.le_of_ble_eq_true rfl⟩) hP hD hS hA [0] [1] rfl rfl rfl (by decide) (fun u_3 H locs w_2 hP hD hS => ?_)
    have hP : va_P D vwCl [(h1, cubE g), (h0, cubE (((((((g.2.2.2 * t) + g.2.2.1) * t) + g.2.1) * t) + g.1), (((((3 * g.2.2.2) * t) + (2 * g.2.2.1)) * t) + g.2.1), (((3 * g.2.2.2) * t) + g.2.2.1), g.2.2.2))] H := hP
    have hD : va_D AA [(h1, cubE g), (h0, cubE (((((((g.2.2.2 * t) + g.2.2.1) * t) + g.2.1) * t) + g.1), (((((3 * g.2.2.2) * t) + (2 * g.2.2.1)) * t) + g.2.1), (((3 * g.2.2.2) * t) + g.2.2.1), g.2.2.2))] := hD
    rw [show (((((((g.2.2.2 * t) + g.2.2.1) * t) + g.2.1) * t) + g.1), (((((3 * g.2.2.2) * t) + (2 * g.2.2.1)) * t) + g.2.1), (((3 * g.2.2.2) * t) + g.2.2.1), g.2.2.2) = ptF g (lN P) t from by rw [ptF, if_neg c_1]] at hP hD
    exact hret () _ _ _ _ (trivial) (hP.sub [1, 0] rfl) (hD.sub [1, 0] rfl rfl) hS dX0_becomeAtPoint_104
  · refine lv_aload_n X.1 X.2.1 dX0_becomeAtPoint_7 rfl (lv_at hl 0 rfl) ?_
    refine lv_aload_n X.1 X.2.1 dX0_becomeAtPoint_8 rfl (lv_at hl 1 rfl) ?_
    refine gf_X0_21 (v := .long g.2.2.2) X hP 1 rfl rfl dX0_becomeAtPoint_9 ?_
    refine lv_aload_n X.1 X.2.1 dX0_becomeAtPoint_12 rfl (lv_at hl 1 rfl) ?_
    refine gf_X0_18 (v := .long g.2.2.1) X hP 1 rfl rfl dX0_becomeAtPoint_13 ?_
    refine lv_aload_n X.1 X.2.1 dX0_becomeAtPoint_16 rfl (lv_at hl 1 rfl) ?_
    refine gf_X0_15 (v := .long g.2.1) X hP 1 rfl rfl dX0_becomeAtPoint_17 ?_
    refine lv_aload_n X.1 X.2.1 dX0_becomeAtPoint_20 rfl (lv_at hl 1 rfl) ?_
    refine gf_X0_9 (v := .long g.1) X hP 1 rfl rfl dX0_becomeAtPoint_21 ?_
    refine fin_v (wr := [(h1, cubE g)]) (cv_X0_24 X (c_Cubic_set l D cI cJ h0 f g.2.2.2 g.2.2.1 g.2.1 g.1  _) rfl rfl dX0_becomeAtPoint_24 hP hD 0 rfl [0] rfl rfl hl.1 rfl rfl (Nat.le_of_ble_eq_true rfl) ⟨Nat.le_of_ble_eq_true rfl, Nat.le_of_ble_eq_true rfl⟩ ⟨Nat.le_of_ble_eq_true rfl, Nat.le_of_ble_eq_true rfl⟩) hP hD hS hA [0] [1] rfl rfl rfl (by decide) (fun u_6 H locs w_5 hP hD hS => ?_)
    have hP : va_P D vwCl [(h1, cubE g), (h0, cubE (g.2.2.2, g.2.2.1, g.2.1, g.1))] H := hP
    have hD : va_D AA [(h1, cubE g), (h0, cubE (g.2.2.2, g.2.2.1, g.2.1, g.1))] := hD
    refine lv_goto (tgt := 104) X.1 X.2.1 dX0_becomeAtPoint_27 (by decide) ?_
    rw [show (g.2.2.2, g.2.2.1, g.2.1, g.1) = ptF g (lN P) t from by rw [ptF, if_pos c_1]] at hP hD
    exact hret () _ _ _ _ (trivial) (hP.sub [1, 0] rfl) (hD.sub [1, 0] rfl rfl) hS dX0_becomeAtPoint_104
set_option maxHeartbeats 4000000 in
set_option maxRecDepth 100000 in
theorem c_Cubic_becomeOverring (l : Launch) (D : va_G) (cI cJ : ClassId) (h0 : Nat) (f : Fm) (h1 : Nat) (g : Fm) (P : Nat) (h2 : 2 ≤ P) (h9 : P ≤ 997) : CtI l yX0_becomeOverring cX0_becomeOverring 6 .boolean (rmk 2 52) D cI cJ [.ref h0, .ref h1, .int (nI P)] [(h0, cubE f), (h1, cubE g)] (fun (u : Fm) => [(h0, cubE u), (h1, cubE g)]) (fun (r : Int32) (u : Fm) => r = bI ((ovC g P).isSome) ∧ (∀ z, ovC g P = some z → u = z)) := by
  refine CtI.of (own := RX0) (by decide +kernel) (Nat.le_of_ble_eq_true rfl) rfl ?_
  intro pr_ en_ sg_ me_ ar_ be_ mt_ co_ AA ls QQ X hA hP hD hS hl hret
  have hl : lv_has ls 6 [(0, .ref h0), (1, .ref h1), (2, .int (nI P))] := hl
  refine lv_iload_n X.1 X.2.1 dX0_becomeOverring_0 rfl (lv_at hl 2 rfl) ?_
  refine lv_i2l (v := lN P) X.1 X.2.1 dX0_becomeOverring_1 (nI_l (by omega)) ?_
  refine lv_iload_n X.1 X.2.1 dX0_becomeOverring_2 rfl (lv_at hl 2 rfl) ?_
  refine lv_i2l (v := lN P) X.1 X.2.1 dX0_becomeOverring_3 (nI_l (by omega)) ?_
  refine lv_lmul X.1 X.2.1 dX0_becomeOverring_4 ?_
  refine lv_lstore_n (lv' := [(3, .long ((lN P) * (lN P))), (0, .ref h0), (1, .ref h1), (2, .int (nI P))]) X.1 X.2.1 dX0_becomeOverring_5 rfl hl (by decide) rfl (fun ls hl => ?_)
  refine lv_lload_n X.1 X.2.1 dX0_becomeOverring_6 rfl (lv_at hl 0 rfl) ?_
  refine lv_lconst (v := 0) X.1 X.2.1 dX0_becomeOverring_7 (by decide) ?_
  refine bl_le (tgt := 23) X dX0_becomeOverring_8 dX0_becomeOverring_9 (by decide) (fun c_1 => absurd c_1 (not_not_intro (lN_sqpos (by omega) (by omega)))) (fun c_1 => ?_)
  refine lv_aload_n X.1 X.2.1 dX0_becomeOverring_12 rfl (lv_at hl 2 rfl) ?_
  refine fin_l (wr := [(h0, cubE f)]) (cv_X0_83 X (c_Cubic_disc l D cI cJ h1 g  _) rfl rfl dX0_becomeOverring_13 hP hD 1 rfl [1] rfl rfl hl.1 rfl rfl (Nat.le_of_ble_eq_true rfl) ⟨Nat.le_of_ble_eq_true rfl, Nat.le_of_ble_eq_true rfl⟩ ⟨Nat.le_of_ble_eq_true rfl, Nat.le_of_ble_eq_true rfl⟩) hP hD hS hA [1] [0] rfl rfl rfl (by decide) (fun r_4 u_3 H locs w_2 hP hD hS => ?_)
  have hP : va_P D vwCl [(h0, cubE f), (h1, cubE g)] H := hP
  have hD : va_D AA [(h0, cubE f), (h1, cubE g)] := hD
  subst w_2
  refine lv_lload_n X.1 X.2.1 dX0_becomeOverring_16 rfl (lv_at hl 0 rfl) ?_
  refine lv_lrem X.1 X.2.1 dX0_becomeOverring_17 (lN_sq0 (by omega) (by omega)) ?_
  refine lv_lconst (v := 0) X.1 X.2.1 dX0_becomeOverring_18 (by decide) ?_
  refine bl_eq (tgt := 25) X dX0_becomeOverring_19 dX0_becomeOverring_20 (by decide) (fun c_5 => ?_) (fun c_5 => ?_)
  · have e0 : ovC g P = ovM g P := by rw [ovC, if_pos (show remL (discF g) (lN P * lN P) = 0 from c_5)]
    refine lv_aload_n X.1 X.2.1 dX0_becomeOverring_25 rfl (lv_at hl 2 rfl) ?_
    refine lv_iload_n X.1 X.2.1 dX0_becomeOverring_26 rfl (lv_at hl 3 rfl) ?_
    refine fin_i (wr := [(h0, cubE f)]) (cv_X0_86 X (c_Cubic_isMultipleOf l D cI cJ h1 g P (by first | assumption | omega) (by first | assumption | omega) _) rfl rfl dX0_becomeOverring_27 hP hD 1 rfl [1] rfl rfl hl.1 rfl rfl (Nat.le_of_ble_eq_true rfl) ⟨Nat.le_of_ble_eq_true rfl, Nat.le_of_ble_eq_true rfl⟩ ⟨Nat.le_of_ble_eq_true rfl, Nat.le_of_ble_eq_true rfl⟩) hP hD hS hA [1] [0] rfl rfl rfl (by decide) (fun r_8 u_7 H locs w_6 hP hD hS => ?_)
    have hP : va_P D vwCl [(h0, cubE f), (h1, cubE g)] H := hP
    have hD : va_D AA [(h0, cubE f), (h1, cubE g)] := hD
    subst w_6
    refine bb_eq (tgt := 67) X dX0_becomeOverring_30 (by decide) (fun c_9 => ?_) (fun c_9 => ?_)
    · have e1 : ovC g P = ovGo g P (P + 1) 0 := by rw [e0, ovM, if_neg (by rw [c_9]; decide)]
      refine lv_iconst (v := 0) X.1 X.2.1 dX0_becomeOverring_67 (by decide) ?_
      refine lv_istore (lv' := [(5, .int 0), (3, .long ((lN P) * (lN P))), (0, .ref h0), (1, .ref h1), (2, .int (nI P))]) X.1 X.2.1 dX0_becomeOverring_68 hl (by decide) rfl (fun ls hl => ?_)
      have loop70 : ∀ (n9 : Nat) (t : Nat) (k : Nat) (z : Fm), (t + k = P + 1) → (ovC g P = ovGo g P k t) → (k < n9) → ∀ (H : Heap) (locs : List Loc) (ls : Array Slot), va_P D vwCl [(h0, cubE z), (h1, cubE g)] H → va_D AA [(h0, cubE z), (h1, cubE g)] → va_S AA sg_.heap H locs → lv_has ls 6 [(0, .ref h0), (1, .ref h1), (2, .int (nI P)), (3, .long (lN P * lN P)), (5, .int (nI t))] → W pr_ l en_ (rmk 2 52) sg_ me_ ar_ be_ mt_ co_ H locs 0 0 QQ (F0 me_ 70 ls []) := by
        intro n9
        induction n9 with
        | zero =>
          intro t k z hk hG hn
          omega
        | succ n70 ih70 =>
          intro t k z hk hG hn H locs ls hP hD hS hl
          refine lv_iload X.1 X.2.1 dX0_becomeOverring_70 (lv_at hl 4 rfl) ?_
          refine lv_iload_n X.1 X.2.1 dX0_becomeOverring_72 rfl (lv_at hl 2 rfl) ?_
          refine bi_gt (tgt := 144) X dX0_becomeOverring_73 (by decide) (fun c_10 => ?_) (fun c_10 => ?_)
          · refine lv_iconst (v := 0) X.1 X.2.1 dX0_becomeOverring_144 (by decide) ?_
            have e : ovC g P = none := by
              have ht : ¬ t < P + 1 := by
                have := (nI_ltI (by omega) (by omega)).mp c_10
                omega
              obtain rfl : k = 0 := by omega
              exact hG
            exact hret 0 z _ _ _ _ (⟨by rw [e]; rfl, fun z h => by rw [e] at h; cases h⟩) rfl (hP.sub [0, 1] rfl) (hD.sub [0, 1] rfl rfl) hS dX0_becomeOverring_145
          · have ht : ¬ P < t := fun q => c_10 ((nI_ltI (by omega) (by omega)).mpr q)
            obtain ⟨k, rfl⟩ : ∃ z, k = z + 1 := ⟨k - 1, by omega⟩
            refine lv_aload_n X.1 X.2.1 dX0_becomeOverring_76 rfl (lv_at hl 0 rfl) ?_
            refine lv_aload_n X.1 X.2.1 dX0_becomeOverring_77 rfl (lv_at hl 1 rfl) ?_
            refine lv_iload_n X.1 X.2.1 dX0_becomeOverring_78 rfl (lv_at hl 2 rfl) ?_
            refine lv_iload X.1 X.2.1 dX0_becomeOverring_79 (lv_at hl 4 rfl) ?_
            refine lv_i2l (v := lN t) X.1 X.2.1 dX0_becomeOverring_81 (nI_l (by omega)) ?_
            refine fin_v (wr := []) (cv_X0_90 X (c_Cubic_becomeAtPoint l D cI cJ h0 z h1 g P (lN t) (by first | assumption | omega) (by first | assumption | omega) _) rfl rfl dX0_becomeOverring_82 hP hD 0 rfl [0, 1] rfl rfl hl.1 rfl rfl (Nat.le_of_ble_eq_true rfl) ⟨Nat.le_of_ble_eq_true rfl, Nat.le_of_ble_eq_true rfl⟩ ⟨Nat.le_of_ble_eq_true rfl, Nat.le_of_ble_eq_true rfl⟩) hP hD hS hA [0, 1] [] rfl rfl rfl (by decide) (fun u_12 H locs w_11 hP hD hS => ?_)
            have hP : va_P D vwCl [(h0, cubE (ptF g (lN P) (lN t))), (h1, cubE g)] H := hP
            have hD : va_D AA [(h0, cubE (ptF g (lN P) (lN t))), (h1, cubE g)] := hD
            refine lv_aload_n X.1 X.2.1 dX0_becomeOverring_85 rfl (lv_at hl 0 rfl) ?_
            refine gf_X0_9 (v := .long ((ptF g (lN P) (lN t)).1)) X hP 0 rfl rfl dX0_becomeOverring_86 ?_
            refine lv_lload_n X.1 X.2.1 dX0_becomeOverring_89 rfl (lv_at hl 3 rfl) ?_
            refine lv_lrem X.1 X.2.1 dX0_becomeOverring_90 (lN_sq0 (by omega) (by omega)) ?_
            refine lv_lconst (v := 0) X.1 X.2.1 dX0_becomeOverring_91 (by decide) ?_
            refine bl_ne (tgt := 138) X dX0_becomeOverring_92 dX0_becomeOverring_93 (by decide) (fun c_14 => ?_) (fun c_14 => ?_)
            · refine lv_iinc (v := nI (t + 1)) (lv' := [(5, .int (nI (t + 1))), (0, .ref h0), (1, .ref h1), (2, .int (nI P)), (3, .long (lN P * lN P))]) X.1 X.2.1 dX0_becomeOverring_138 hl (k := 4) rfl (nI_1 t) (by decide) rfl (fun ls hl => ?_)
              refine lv_goto (tgt := 70) X.1 X.2.1 dX0_becomeOverring_141 (by decide) ?_
              exact ih70  (t + 1) k (ptF g (lN P) (lN t)) (by omega) (by rw [hG, ovGo, if_neg (show ¬ remL _ _ = 0 from c_14)]) (by omega) _ _ _ (hP.sub [0, 1] rfl) (hD.sub [0, 1] rfl rfl) hS (lv_sub hl [1, 2, 3, 4, 0] rfl)
            · refine lv_aload_n X.1 X.2.1 dX0_becomeOverring_96 rfl (lv_at hl 0 rfl) ?_
              refine gf_X0_15 (v := .long ((ptF g (lN P) (lN t)).2.1)) X hP 0 rfl rfl dX0_becomeOverring_97 ?_
              refine lv_iload_n X.1 X.2.1 dX0_becomeOverring_100 rfl (lv_at hl 2 rfl) ?_
              refine lv_i2l (v := lN P) X.1 X.2.1 dX0_becomeOverring_101 (nI_l (by omega)) ?_
              refine lv_lrem X.1 X.2.1 dX0_becomeOverring_102 (lN_ne0 (by omega) (by omega)) ?_
              refine lv_lconst (v := 0) X.1 X.2.1 dX0_becomeOverring_103 (by decide) ?_
              refine bl_ne (tgt := 138) X dX0_becomeOverring_104 dX0_becomeOverring_105 (by decide) (fun c_15 => ?_) (fun c_15 => ?_)
              · refine lv_iinc (v := nI (t + 1)) (lv' := [(5, .int (nI (t + 1))), (0, .ref h0), (1, .ref h1), (2, .int (nI P)), (3, .long (lN P * lN P))]) X.1 X.2.1 dX0_becomeOverring_138 hl (k := 4) rfl (nI_1 t) (by decide) rfl (fun ls hl => ?_)
                refine lv_goto (tgt := 70) X.1 X.2.1 dX0_becomeOverring_141 (by decide) ?_
                exact ih70  (t + 1) k (ptF g (lN P) (lN t)) (by omega) (by rw [hG, ovGo, if_pos (show remL _ _ = 0 from c_14), if_neg (show ¬ remL _ _ = 0 from c_15)]) (by omega) _ _ _ (hP.sub [0, 1] rfl) (hD.sub [0, 1] rfl rfl) hS (lv_sub hl [1, 2, 3, 4, 0] rfl)
              · refine lv_aload_n X.1 X.2.1 dX0_becomeOverring_108 rfl (lv_at hl 0 rfl) ?_
                refine lv_aload_n X.1 X.2.1 dX0_becomeOverring_109 rfl (lv_at hl 0 rfl) ?_
                refine gf_X0_9 (v := .long ((ptF g (lN P) (lN t)).1)) X hP 0 rfl rfl dX0_becomeOverring_110 ?_
                refine lv_lload_n X.1 X.2.1 dX0_becomeOverring_113 rfl (lv_at hl 3 rfl) ?_
                refine lv_ldiv X.1 X.2.1 dX0_becomeOverring_114 (lN_sq0 (by omega) (by omega)) ?_
                refine lv_aload_n X.1 X.2.1 dX0_becomeOverring_115 rfl (lv_at hl 0 rfl) ?_
                refine gf_X0_15 (v := .long ((ptF g (lN P) (lN t)).2.1)) X hP 0 rfl rfl dX0_becomeOverring_116 ?_
                refine lv_iload_n X.1 X.2.1 dX0_becomeOverring_119 rfl (lv_at hl 2 rfl) ?_
                refine lv_i2l (v := lN P) X.1 X.2.1 dX0_becomeOverring_120 (nI_l (by omega)) ?_
                refine lv_ldiv X.1 X.2.1 dX0_becomeOverring_121 (lN_ne0 (by omega) (by omega)) ?_
                refine lv_aload_n X.1 X.2.1 dX0_becomeOverring_122 rfl (lv_at hl 0 rfl) ?_
                refine gf_X0_18 (v := .long ((ptF g (lN P) (lN t)).2.2.1)) X hP 0 rfl rfl dX0_becomeOverring_123 ?_
                refine lv_aload_n X.1 X.2.1 dX0_becomeOverring_126 rfl (lv_at hl 0 rfl) ?_
                refine gf_X0_21 (v := .long ((ptF g (lN P) (lN t)).2.2.2)) X hP 0 rfl rfl dX0_becomeOverring_127 ?_
                refine lv_iload_n X.1 X.2.1 dX0_becomeOverring_130 rfl (lv_at hl 2 rfl) ?_
                refine lv_i2l (v := lN P) X.1 X.2.1 dX0_becomeOverring_131 (nI_l (by omega)) ?_
                refine lv_lmul X.1 X.2.1 dX0_becomeOverring_132 ?_
                refine fin_v (wr := [(h1, cubE g)]) (cv_X0_24 X (c_Cubic_set l D cI cJ h0 (ptF g (lN P) (lN t)) (((ptF g (lN P) (lN t)).1) / (lN P * lN P)) (((ptF g (lN P) (lN t)).2.1) / (lN P)) ((ptF g (lN P) (lN t)).2.2.1) (((ptF g (lN P) (lN t)).2.2.2) * (lN P))  _) rfl rfl dX0_becomeOverring_133 hP hD 0 rfl [0] rfl rfl hl.1 rfl rfl (Nat.le_of_ble_eq_true rfl) ⟨Nat.le_of_ble_eq_true rfl, Nat.le_of_ble_eq_true rfl⟩ ⟨Nat.le_of_ble_eq_true rfl, Nat.le_of_ble_eq_true rfl⟩) hP hD hS hA [0] [1] rfl rfl rfl (by decide) (fun u_17 H locs w_16 hP hD hS => ?_)
                have hP : va_P D vwCl [(h1, cubE g), (h0, cubE ((((ptF g (lN P) (lN t)).1) / (lN P * lN P)), (((ptF g (lN P) (lN t)).2.1) / (lN P)), ((ptF g (lN P) (lN t)).2.2.1), (((ptF g (lN P) (lN t)).2.2.2) * (lN P))))] H := hP
                have hD : va_D AA [(h1, cubE g), (h0, cubE ((((ptF g (lN P) (lN t)).1) / (lN P * lN P)), (((ptF g (lN P) (lN t)).2.1) / (lN P)), ((ptF g (lN P) (lN t)).2.2.1), (((ptF g (lN P) (lN t)).2.2.2) * (lN P))))] := hD
                refine lv_iconst (v := 1) X.1 X.2.1 dX0_becomeOverring_136 (by decide) ?_
                have e := (show ovC g P = some _ from by rw [hG, ovGo, if_pos (show remL _ _ = 0 from c_14), if_pos (show remL _ _ = 0 from c_15)])
                exact hret 1 ((((ptF g (lN P) (lN t)).1) / (lN P * lN P)), (((ptF g (lN P) (lN t)).2.1) / (lN P)), ((ptF g (lN P) (lN t)).2.2.1), (((ptF g (lN P) (lN t)).2.2.2) * (lN P))) _ _ _ _ (⟨by rw [e]; rfl, fun z h => by rw [e] at h; exact Option.some.inj h⟩) rfl (hP.sub [1, 0] rfl) (hD.sub [1, 0] rfl rfl) hS dX0_becomeOverring_137
      exact loop70 (P + 2) 0 (P + 1) f (by omega) e1 (by omega) _ _ _ (hP.sub [0, 1] rfl) (hD.sub [0, 1] rfl rfl) hS (lv_sub hl [2, 3, 4, 1, 0] rfl)
    · refine lv_aload_n X.1 X.2.1 dX0_becomeOverring_33 rfl (lv_at hl 1 rfl) ?_
      refine lv_aload_n X.1 X.2.1 dX0_becomeOverring_34 rfl (lv_at hl 2 rfl) ?_
      refine gf_X0_9 (v := .long g.1) X hP 1 rfl rfl dX0_becomeOverring_35 ?_
      refine lv_iload_n X.1 X.2.1 dX0_becomeOverring_38 rfl (lv_at hl 3 rfl) ?_
      refine lv_i2l (v := lN P) X.1 X.2.1 dX0_becomeOverring_39 (nI_l (by omega)) ?_
      refine lv_ldiv X.1 X.2.1 dX0_becomeOverring_40 (lN_ne0 (by omega) (by omega)) ?_
      refine lv_aload_n X.1 X.2.1 dX0_becomeOverring_41 rfl (lv_at hl 2 rfl) ?_
      refine gf_X0_15 (v := .long g.2.1) X hP 1 rfl rfl dX0_becomeOverring_42 ?_
      refine lv_iload_n X.1 X.2.1 dX0_becomeOverring_45 rfl (lv_at hl 3 rfl) ?_
      refine lv_i2l (v := lN P) X.1 X.2.1 dX0_becomeOverring_46 (nI_l (by omega)) ?_
      refine lv_ldiv X.1 X.2.1 dX0_becomeOverring_47 (lN_ne0 (by omega) (by omega)) ?_
      refine lv_aload_n X.1 X.2.1 dX0_becomeOverring_48 rfl (lv_at hl 2 rfl) ?_
      refine gf_X0_18 (v := .long g.2.2.1) X hP 1 rfl rfl dX0_becomeOverring_49 ?_
      refine lv_iload_n X.1 X.2.1 dX0_becomeOverring_52 rfl (lv_at hl 3 rfl) ?_
      refine lv_i2l (v := lN P) X.1 X.2.1 dX0_becomeOverring_53 (nI_l (by omega)) ?_
      refine lv_ldiv X.1 X.2.1 dX0_becomeOverring_54 (lN_ne0 (by omega) (by omega)) ?_
      refine lv_aload_n X.1 X.2.1 dX0_becomeOverring_55 rfl (lv_at hl 2 rfl) ?_
      refine gf_X0_21 (v := .long g.2.2.2) X hP 1 rfl rfl dX0_becomeOverring_56 ?_
      refine lv_iload_n X.1 X.2.1 dX0_becomeOverring_59 rfl (lv_at hl 3 rfl) ?_
      refine lv_i2l (v := lN P) X.1 X.2.1 dX0_becomeOverring_60 (nI_l (by omega)) ?_
      refine lv_ldiv X.1 X.2.1 dX0_becomeOverring_61 (lN_ne0 (by omega) (by omega)) ?_
      refine fin_v (wr := [(h1, cubE g)]) (cv_X0_24 X (c_Cubic_set l D cI cJ h0 f (g.1 / (lN P)) (g.2.1 / (lN P)) (g.2.2.1 / (lN P)) (g.2.2.2 / (lN P))  _) rfl rfl dX0_becomeOverring_62 hP hD 0 rfl [0] rfl rfl hl.1 rfl rfl (Nat.le_of_ble_eq_true rfl) ⟨Nat.le_of_ble_eq_true rfl, Nat.le_of_ble_eq_true rfl⟩ ⟨Nat.le_of_ble_eq_true rfl, Nat.le_of_ble_eq_true rfl⟩) hP hD hS hA [0] [1] rfl rfl rfl (by decide) (fun u_20 H locs w_19 hP hD hS => ?_)
      have hP : va_P D vwCl [(h1, cubE g), (h0, cubE ((g.1 / (lN P)), (g.2.1 / (lN P)), (g.2.2.1 / (lN P)), (g.2.2.2 / (lN P))))] H := hP
      have hD : va_D AA [(h1, cubE g), (h0, cubE ((g.1 / (lN P)), (g.2.1 / (lN P)), (g.2.2.1 / (lN P)), (g.2.2.2 / (lN P))))] := hD
      refine lv_iconst (v := 1) X.1 X.2.1 dX0_becomeOverring_65 (by decide) ?_
      have e := (show ovC g P = some _ from by rw [e0, ovM, if_pos c_9])
      exact hret 1 ((g.1 / (lN P)), (g.2.1 / (lN P)), (g.2.2.1 / (lN P)), (g.2.2.2 / (lN P))) _ _ _ _ (⟨by rw [e]; rfl, fun z h => by rw [e] at h; exact Option.some.inj h⟩) rfl (hP.sub [1, 0] rfl) (hD.sub [1, 0] rfl rfl) hS dX0_becomeOverring_66
  · refine lv_iconst (v := 0) X.1 X.2.1 dX0_becomeOverring_23 (by decide) ?_
    have e : ovC g P = none := by rw [ovC, if_neg (show ¬ remL (discF g) (lN P * lN P) = 0 from c_5)]
    exact hret 0 f _ _ _ _ (⟨by rw [e]; rfl, fun z h => by rw [e] at h; cases h⟩) rfl (hP.sub [0, 1] rfl) (hD.sub [0, 1] rfl rfl) hS dX0_becomeOverring_24
set_option maxHeartbeats 4000000 in
set_option maxRecDepth 100000 in
theorem c_isPrime (l : Launch) (D : va_G) (cI cJ : ClassId) (x : Int32)  : CtI l yX5_isPrime cX5_isPrime 2 .boolean (rmk 0 0) D cI cJ [.int x] [] (fun (_ : Unit) => []) (fun (r : Int32) (_ : Unit) => r = bI (primeB x)) := by
  refine CtI.of (own := RX5) (by decide +kernel) (Nat.le_of_ble_eq_true rfl) rfl ?_
  intro pr_ en_ sg_ me_ ar_ be_ mt_ co_ AA ls QQ X hA hP hD hS hl hret
  have hl : lv_has ls 2 [(0, .int x)] := hl
  refine lv_iload_n X.1 X.2.1 dX5_isPrime_0 rfl (lv_at hl 0 rfl) ?_
  refine lv_iconst (v := 2) X.1 X.2.1 dX5_isPrime_1 (by decide) ?_
  refine bi_lt (tgt := 12) X dX5_isPrime_2 (by decide) (fun c_1 => ?_) (fun c_1 => ?_)
  · refine lv_iconst (v := 0) X.1 X.2.1 dX5_isPrime_12 (by decide) ?_
    exact hret 0 () _ _ _ _ (by simp [primeB, bI, c_1]) rfl (hP.sub [] rfl) (hD.sub [] rfl rfl) hS dX5_isPrime_13
  · refine lv_iload_n X.1 X.2.1 dX5_isPrime_5 rfl (lv_at hl 0 rfl) ?_
    refine lv_sipush (v := 997) X.1 X.2.1 dX5_isPrime_6 (by decide) ?_
    refine bi_le (tgt := 14) X dX5_isPrime_9 (by decide) (fun c_2 => ?_) (fun c_2 => ?_)
    · obtain ⟨P, hP2, hP9, rfl⟩ : ∃ P, 2 ≤ P ∧ P ≤ 997 ∧ x = nI P := x_in2 c_1 c_2
      refine lv_iconst (v := 2) X.1 X.2.1 dX5_isPrime_14 (by decide) ?_
      refine lv_istore_n (lv' := [(1, .int 2), (0, .int (nI P))]) X.1 X.2.1 dX5_isPrime_15 rfl hl (by decide) rfl (fun ls hl => ?_)
      have loop16 : ∀ (n9 : Nat) (k : Nat), (2 ≤ k) → (k ≤ P + 1) → (∀ j, 2 ≤ j → j < k → P % j ≠ 0) → (P + 3 ≤ k + n9) → ∀ (H : Heap) (locs : List Loc) (ls : Array Slot), va_P D vwCl [] H → va_D AA [] → va_S AA sg_.heap H locs → lv_has ls 2 [(0, .int (nI P)), (1, .int (nI k))] → W pr_ l en_ (rmk 0 0) sg_ me_ ar_ be_ mt_ co_ H locs 0 0 QQ (F0 me_ 16 ls []) := by
        intro n9
        induction n9 with
        | zero =>
          intro k hk2 hkP hi hn
          omega
        | succ n16 ih16 =>
          intro k hk2 hkP hi hn H locs ls hP hD hS hl
          refine lv_iload_n X.1 X.2.1 dX5_isPrime_16 rfl (lv_at hl 1 rfl) ?_
          refine lv_iload_n X.1 X.2.1 dX5_isPrime_17 rfl (lv_at hl 1 rfl) ?_
          refine lv_imul X.1 X.2.1 dX5_isPrime_18 ?_
          refine lv_iload_n X.1 X.2.1 dX5_isPrime_19 rfl (lv_at hl 0 rfl) ?_
          refine bi_gt (tgt := 37) X dX5_isPrime_20 (by decide) (fun c_3 => ?_) (fun c_3 => ?_)
          · refine lv_iconst (v := 1) X.1 X.2.1 dX5_isPrime_37 (by decide) ?_
            exact hret 1 () _ _ _ _ (by rw [primeB_of hP2 hP9, prB_yes hi ((nI_ltsq (by omega) (by omega)).mp c_3)]; rfl) rfl (hP.sub [] rfl) (hD.sub [] rfl rfl) hS dX5_isPrime_38
          · have hkk : ¬ P < k * k := fun q => c_3 ((nI_ltsq (by omega) (by omega)).mpr q)
            have hkP2 : k < P := by
              have := Nat.mul_le_mul_right k hk2
              omega
            refine lv_iload_n X.1 X.2.1 dX5_isPrime_23 rfl (lv_at hl 0 rfl) ?_
            refine lv_iload_n X.1 X.2.1 dX5_isPrime_24 rfl (lv_at hl 1 rfl) ?_
            refine lv_irem X.1 X.2.1 dX5_isPrime_25 (nI_ne0 (by omega) (by omega)) ?_
            refine bz_ne (tgt := 31) X dX5_isPrime_26 (by decide) (fun c_4 => ?_) (fun c_4 => ?_)
            · refine lv_iinc (v := nI (k + 1)) (lv' := [(1, .int (nI (k + 1))), (0, .int (nI P))]) X.1 X.2.1 dX5_isPrime_31 hl (k := 1) rfl (nI_1 k) (by decide) rfl (fun ls hl => ?_)
              refine lv_goto (tgt := 16) X.1 X.2.1 dX5_isPrime_34 (by decide) ?_
              exact ih16  (k + 1) (by omega) (by omega) (fun j h1 h2 => by
                rcases Nat.lt_or_ge j k with q | q
                · exact hi j h1 q
                · obtain rfl : j = k := by omega
                  exact fun q => c_4 ((nI_rem0 (by omega) (by omega) (by omega)).mpr q)) (by omega) _ _ _ (hP.sub [] rfl) (hD.sub [] rfl rfl) hS (lv_sub hl [1, 0] rfl)
            · refine lv_iconst (v := 0) X.1 X.2.1 dX5_isPrime_29 (by decide) ?_
              exact hret 0 () _ _ _ _ (by rw [primeB_of hP2 hP9, prB_no hk2 (by omega) hP9 ((nI_rem0 (by omega) (by omega) (by omega)).mp c_4)]; rfl) rfl (hP.sub [] rfl) (hD.sub [] rfl rfl) hS dX5_isPrime_30
      exact loop16 (P + 1) 2 (Nat.le_refl 2) (by omega) (fun j h1 h2 => by omega) (by omega) _ _ _ (hP.sub [] rfl) (hD.sub [] rfl rfl) hS (lv_sub hl [1, 0] rfl)
    · refine lv_iconst (v := 0) X.1 X.2.1 dX5_isPrime_12 (by decide) ?_
      exact hret 0 () _ _ _ _ (by simp [primeB, bI, c_2]) rfl (hP.sub [] rfl) (hD.sub [] rfl rfl) hS dX5_isPrime_13
