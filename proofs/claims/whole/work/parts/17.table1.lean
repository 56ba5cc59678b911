set_option maxHeartbeats 4000000 in
set_option maxRecDepth 100000 in
theorem c_FT_countTo (l : Launch) (D : va_G) (cI cJ : ClassId) (h0 : Nat) (A : Nat → Int32) (n : Nat) (lim : Int32) (hn : n ≤ 64) : CtI l yX1_countTo cX1_countTo 5 .int (rmk 0 0) D cI cJ [.ref h0, .int (nI n), .int lim] [(h0, aiE cI 64 A)] (fun (_ : Unit) => [(h0, aiE cI 64 A)]) (fun (r : Int32) (_ : Unit) => r = nI (cntT A lim n)) := by
  refine CtI.of (own := RX1) (by decide +kernel) (Nat.le_of_ble_eq_true rfl) rfl ?_
  intro pr_ en_ sg_ me_ ar_ be_ mt_ co_ AA ls QQ X hA hP hD hS hl hret
  have hl : lv_has ls 5 [(0, .ref h0), (1, .int (nI n)), (2, .int lim)] := hl
  refine lv_iconst (v := 0) X.1 X.2.1 dX1_countTo_0 (by decide) ?_
  refine lv_istore_n (lv' := [(3, .int 0), (0, .ref h0), (1, .int (nI n)), (2, .int lim)]) X.1 X.2.1 dX1_countTo_1 rfl hl (by decide) rfl (fun ls hl => ?_)
  refine lv_iconst (v := 0) X.1 X.2.1 dX1_countTo_2 (by decide) ?_
  refine lv_istore (lv' := [(4, .int 0), (3, .int 0), (0, .ref h0), (1, .int (nI n)), (2, .int lim)]) X.1 X.2.1 dX1_countTo_3 hl (by decide) rfl (fun ls hl => ?_)
  have loop5 : ∀ (n9 : Nat) (i : Nat), (i ≤ n) → (n < i + n9) → ∀ (H : Heap) (locs : List Loc) (ls : Array Slot), va_P D vwCl [(h0, aiE cI 64 A)] H → va_D AA [(h0, aiE cI 64 A)] → va_S AA sg_.heap H locs → lv_has ls 5 [(0, .ref h0), (1, .int (nI n)), (2, .int lim), (3, .int (nI (cntT A lim i))), (4, .int (nI i))] → W pr_ l en_ (rmk 0 0) sg_ me_ ar_ be_ mt_ co_ H locs 0 0 QQ (F0 me_ 5 ls []) := by
    intro n9
    induction n9 with
    | zero =>
      intro i hi hf
      omega
    | succ n5 ih5 =>
      intro i hi hf H locs ls hP hD hS hl
      refine lv_iload X.1 X.2.1 dX1_countTo_5 (lv_at hl 4 rfl) ?_
      refine lv_iload_n X.1 X.2.1 dX1_countTo_7 rfl (lv_at hl 1 rfl) ?_
      refine bi_ge (tgt := 35) X dX1_countTo_8 (by decide) (fun c_1 => ?_) (fun c_1 => ?_)
      · have hin : ¬ i < n := fun q => c_1 ((nI_ltI (by omega) (by omega)).mpr q)
        obtain rfl : i = n := by omega
        refine lv_iload_n X.1 X.2.1 dX1_countTo_35 rfl (lv_at hl 3 rfl) ?_
        exact hret (nI (cntT A lim i)) () _ _ _ _ (rfl) rfl (hP.sub [0] rfl) (hD.sub [0] rfl rfl) hS dX1_countTo_36
      · have hin : i < n := (nI_ltI (by omega) (by omega)).mp c_1
        refine lv_iload X.1 X.2.1 dX1_countTo_11 (lv_at hl 4 rfl) ?_
        refine lv_aload_n X.1 X.2.1 dX1_countTo_13 rfl (lv_at hl 0 rfl) ?_
        refine va_alen (v := 64) X.1 X.2.1 X.k hP 0 0 rfl rfl rfl dX1_countTo_14 ?_
        refine bi_ge (tgt := 35) X dX1_countTo_15 (by decide) (fun c_2 => absurd c_2 (not_not_intro ((nI_ltI (b := 64) (by omega) (by decide)).mpr (by omega)))) (fun c_2 => ?_)
        refine lv_aload_n X.1 X.2.1 dX1_countTo_18 rfl (lv_at hl 0 rfl) ?_
        refine lv_iload X.1 X.2.1 dX1_countTo_19 (lv_at hl 4 rfl) ?_
        refine va_iald X.1 X.2.1 X.k hP 0 0 rfl rfl (vp_in_nI (by omega) (by omega)) dX1_countTo_21 ?_
        refine lv_iload_n X.1 X.2.1 dX1_countTo_22 rfl (lv_at hl 2 rfl) ?_
        refine bi_gt (tgt := 29) X dX1_countTo_23 (by decide) (fun c_3 => ?_) (fun c_3 => ?_)
        · have hc : lim < A i := by
            have := c_3
            rw [nI_clamp (by omega)] at this
            exact this
          rw [show cntT A lim i = cntT A lim (i + 1) from by rw [cntT, if_pos hc]; rfl] at hl
          refine lv_iinc (v := nI (i + 1)) (lv' := [(4, .int (nI (i + 1))), (0, .ref h0), (1, .int (nI n)), (2, .int lim), (3, .int (nI (cntT A lim (i + 1))))]) X.1 X.2.1 dX1_countTo_29 hl (k := 4) rfl (nI_1 i) (by decide) rfl (fun ls hl => ?_)
          refine lv_goto (tgt := 5) X.1 X.2.1 dX1_countTo_32 (by decide) ?_
          exact ih5  (i + 1) (by omega) (by omega) _ _ _ (hP.sub [0] rfl) (hD.sub [0] rfl rfl) hS (lv_sub hl [1, 2, 3, 4, 0] rfl)
        · have hc : ¬ lim < A i := by
            have := c_3
            rw [nI_clamp (by omega)] at this
            exact this
          refine lv_iinc (v := nI (cntT A lim (i + 1))) (lv' := [(3, .int (nI (cntT A lim (i + 1)))), (0, .ref h0), (1, .int (nI n)), (2, .int lim), (4, .int (nI i))]) X.1 X.2.1 dX1_countTo_26 hl (k := 3) rfl (by rw [show cntT A lim (i + 1) = cntT A lim i + 1 from by rw [cntT, if_neg hc]]; exact nI_1 _) (by decide) rfl (fun ls hl => ?_)
          refine lv_iinc (v := nI (i + 1)) (lv' := [(4, .int (nI (i + 1))), (3, .int (nI (cntT A lim (i + 1)))), (0, .ref h0), (1, .int (nI n)), (2, .int lim)]) X.1 X.2.1 dX1_countTo_29 hl (k := 4) rfl (nI_1 i) (by decide) rfl (fun ls hl => ?_)
          refine lv_goto (tgt := 5) X.1 X.2.1 dX1_countTo_32 (by decide) ?_
          exact ih5  (i + 1) (by omega) (by omega) _ _ _ (hP.sub [0] rfl) (hD.sub [0] rfl rfl) hS (lv_sub hl [2, 3, 4, 1, 0] rfl)
  exact loop5 (n + 1) 0 (Nat.zero_le _) (by omega) _ _ _ (hP.sub [0] rfl) (hD.sub [0] rfl rfl) hS (lv_sub hl [2, 3, 4, 1, 0] rfl)
set_option maxHeartbeats 4000000 in
set_option maxRecDepth 100000 in
theorem c_FT_insert (l : Launch) (D : va_G) (cI cJ : ClassId) (h0 : Nat) (A : Nat → Int32) (n : Nat) (d : Int32) (hn : n < 64) : CtI l yX1_insert cX1_insert 4 .boolean (rmk 0 0) D cI cJ [.ref h0, .int (nI n), .int d] [(h0, aiE cI 64 A)] (fun (u : (Nat → Int32)) => [(h0, aiE cI 64 u)]) (fun (r : Int32) (u : (Nat → Int32)) => r = bI true ∧ insAt A u n d) := by
  refine CtI.of (own := RX1) (by decide +kernel) (Nat.le_of_ble_eq_true rfl) rfl ?_
  intro pr_ en_ sg_ me_ ar_ be_ mt_ co_ AA ls QQ X hA hP hD hS hl hret
  have hl : lv_has ls 4 [(0, .ref h0), (1, .int (nI n)), (2, .int d)] := hl
  refine lv_iload_n X.1 X.2.1 dX1_insert_0 rfl (lv_at hl 1 rfl) ?_
  refine bz_lt (tgt := 10) X dX1_insert_1 (by decide) (fun c_1 => absurd c_1 (nI_pos (by omega))) (fun c_1 => ?_)
  refine lv_iload_n X.1 X.2.1 dX1_insert_4 rfl (lv_at hl 1 rfl) ?_
  refine lv_aload_n X.1 X.2.1 dX1_insert_5 rfl (lv_at hl 0 rfl) ?_
  refine va_alen (v := 64) X.1 X.2.1 X.k hP 0 0 rfl rfl rfl dX1_insert_6 ?_
  refine bi_lt (tgt := 12) X dX1_insert_7 (by decide) (fun c_2 => ?_) (fun c_2 => absurd c_2 (not_not_intro ((nI_ltI (b := 64) (by omega) (by decide)).mpr (by omega))))
  refine lv_iload_n X.1 X.2.1 dX1_insert_12 rfl (lv_at hl 1 rfl) ?_
  refine lv_istore_n (lv' := [(3, .int (nI n)), (0, .ref h0), (1, .int (nI n)), (2, .int d)]) X.1 X.2.1 dX1_insert_13 rfl hl (by decide) rfl (fun ls hl => ?_)
  have loop14 : ∀ (n9 : Nat) (j : Nat) (g : Nat → Int32), (insInv A g n j d) → (j < n9) → ∀ (H : Heap) (locs : List Loc) (ls : Array Slot), va_P D vwCl [(h0, aiE cI 64 g)] H → va_D AA [(h0, aiE cI 64 g)] → va_S AA sg_.heap H locs → lv_has ls 4 [(0, .ref h0), (1, .int (nI n)), (2, .int d), (3, .int (nI j))] → W pr_ l en_ (rmk 0 0) sg_ me_ ar_ be_ mt_ co_ H locs 0 0 QQ (F0 me_ 14 ls []) := by
    intro n9
    induction n9 with
    | zero =>
      intro j g hi hf
      omega
    | succ n14 ih14 =>
      intro j g hi hf H locs ls hP hD hS hl
      refine lv_iload_n X.1 X.2.1 dX1_insert_14 rfl (lv_at hl 3 rfl) ?_
      refine bz_le (tgt := 41) X dX1_insert_15 (by decide) (fun c_3 => ?_) (fun c_3 => ?_)
      · refine lv_aload_n X.1 X.2.1 dX1_insert_41 rfl (lv_at hl 0 rfl) ?_
        refine lv_iload_n X.1 X.2.1 dX1_insert_42 rfl (lv_at hl 3 rfl) ?_
        refine lv_iload_n X.1 X.2.1 dX1_insert_43 rfl (lv_at hl 2 rfl) ?_
        refine va_iast X.1 X.2.1 X.k hP hD hS 0 0 rfl rfl (vp_in_nI (by have := hi.1; omega) (by omega)) dX1_insert_44 (fun H locs hP hD hS => ?_)
        have hP : va_P D vwCl [(h0, aiE cI 64 (upd g ((nI j).toNatClampNeg) d))] H := hP
        have hD : va_D AA [(h0, aiE cI 64 (upd g ((nI j).toNatClampNeg) d))] := hD
        refine lv_iconst (v := 1) X.1 X.2.1 dX1_insert_45 (by decide) ?_
        have he : insAt A (upd g j d) n d := insInv_e hi (Or.inl (by
          rcases Nat.eq_zero_or_pos j with q | q
          · exact q
          · exact absurd ((nI_ltI (a := 0) (by decide) (by have := hi.1; omega)).mpr q) c_3))
        have ec : (nI j).toNatClampNeg = j := nI_clamp (by have := hi.1; omega)
        exact hret 1 (upd g ((nI j).toNatClampNeg) d) _ _ _ _ (⟨rfl, by rw [ec]; exact he⟩) rfl (hP.sub [0] rfl) (hD.sub [0] rfl rfl) hS dX1_insert_46
      · have hj0 : 0 < j := (nI_ltI (a := 0) (by decide) (by have := hi.1; omega)).mp c_3
        obtain ⟨j, rfl⟩ : ∃ z, j = z + 1 := ⟨j - 1, by omega⟩
        have ec1 : (nI (j + 1)).toNatClampNeg = j + 1 := nI_clamp (by have := hi.1; omega)
        have ec2 : (nI (j + 1) - 1).toNatClampNeg = j := by rw [nI_pred]; exact nI_clamp (by have := hi.1; omega)
        refine lv_aload_n X.1 X.2.1 dX1_insert_18 rfl (lv_at hl 0 rfl) ?_
        refine lv_iload_n X.1 X.2.1 dX1_insert_19 rfl (lv_at hl 3 rfl) ?_
        refine lv_iconst (v := 1) X.1 X.2.1 dX1_insert_20 (by decide) ?_
        refine lv_isub X.1 X.2.1 dX1_insert_21 ?_
        refine va_iald X.1 X.2.1 X.k hP 0 0 rfl rfl (by rw [nI_pred]; exact vp_in_nI (by have := hi.1; omega) (by omega)) dX1_insert_22 ?_
        refine lv_iload_n X.1 X.2.1 dX1_insert_23 rfl (lv_at hl 2 rfl) ?_
        refine bi_le (tgt := 41) X dX1_insert_24 (by decide) (fun c_4 => ?_) (fun c_4 => ?_)
        · refine lv_aload_n X.1 X.2.1 dX1_insert_41 rfl (lv_at hl 0 rfl) ?_
          refine lv_iload_n X.1 X.2.1 dX1_insert_42 rfl (lv_at hl 3 rfl) ?_
          refine lv_iload_n X.1 X.2.1 dX1_insert_43 rfl (lv_at hl 2 rfl) ?_
          refine va_iast X.1 X.2.1 X.k hP hD hS 0 0 rfl rfl (vp_in_nI (by have := hi.1; omega) (by omega)) dX1_insert_44 (fun H locs hP hD hS => ?_)
          have hP : va_P D vwCl [(h0, aiE cI 64 (upd g ((nI (j + 1)).toNatClampNeg) d))] H := hP
          have hD : va_D AA [(h0, aiE cI 64 (upd g ((nI (j + 1)).toNatClampNeg) d))] := hD
          refine lv_iconst (v := 1) X.1 X.2.1 dX1_insert_45 (by decide) ?_
          have he : insAt A (upd g (j + 1) d) n d := insInv_e hi (Or.inr ⟨j, rfl, by have h9 := c_4; rw [ec2] at h9; exact h9⟩)
          have ec := ec1
          exact hret 1 (upd g ((nI (j + 1)).toNatClampNeg) d) _ _ _ _ (⟨rfl, by rw [ec]; exact he⟩) rfl (hP.sub [0] rfl) (hD.sub [0] rfl rfl) hS dX1_insert_46
        · refine lv_aload_n X.1 X.2.1 dX1_insert_27 rfl (lv_at hl 0 rfl) ?_
          refine lv_iload_n X.1 X.2.1 dX1_insert_28 rfl (lv_at hl 3 rfl) ?_
          refine lv_aload_n X.1 X.2.1 dX1_insert_29 rfl (lv_at hl 0 rfl) ?_
          refine lv_iload_n X.1 X.2.1 dX1_insert_30 rfl (lv_at hl 3 rfl) ?_
          refine lv_iconst (v := 1) X.1 X.2.1 dX1_insert_31 (by decide) ?_
          refine lv_isub X.1 X.2.1 dX1_insert_32 ?_
          refine va_iald X.1 X.2.1 X.k hP 0 0 rfl rfl (by rw [nI_pred]; exact vp_in_nI (by have := hi.1; omega) (by omega)) dX1_insert_33 ?_
          refine va_iast X.1 X.2.1 X.k hP hD hS 0 0 rfl rfl (vp_in_nI (by have := hi.1; omega) (by omega)) dX1_insert_34 (fun H locs hP hD hS => ?_)
          have hP : va_P D vwCl [(h0, aiE cI 64 (upd g ((nI (j + 1)).toNatClampNeg) (g (((nI (j + 1)) - 1).toNatClampNeg))))] H := hP
          have hD : va_D AA [(h0, aiE cI 64 (upd g ((nI (j + 1)).toNatClampNeg) (g (((nI (j + 1)) - 1).toNatClampNeg))))] := hD
          refine lv_iinc (v := nI j) (lv' := [(3, .int (nI j)), (0, .ref h0), (1, .int (nI n)), (2, .int d)]) X.1 X.2.1 dX1_insert_35 hl (k := 3) rfl (pk_m1 j) (by decide) rfl (fun ls hl => ?_)
          refine lv_goto (tgt := 14) X.1 X.2.1 dX1_insert_38 (by decide) ?_
          exact ih14  j (upd g ((nI (j + 1)).toNatClampNeg) (g (((nI (j + 1)) - 1).toNatClampNeg))) (by
            have h9 := c_4
            rw [ec2] at h9
            rw [ec1, ec2]
            exact insInv_s hi h9) (by omega) _ _ _ (hP.sub [0] rfl) (hD.sub [0] rfl rfl) hS (lv_sub hl [1, 2, 3, 0] rfl)
  exact loop14 (n + 1) n A insInv_0 (by omega) _ _ _ (hP.sub [0] rfl) (hD.sub [0] rfl rfl) hS (lv_sub hl [1, 2, 3, 0] rfl)
set_option maxHeartbeats 4000000 in
set_option maxRecDepth 100000 in
theorem c_FT_countFormsTo (l : Launch) (D : va_G) (cI cJ : ClassId) (h0 : Nat) (fd : Nat) (gd : Nat) (fo : Nat) (le : Nat) (n : Nat) (n2 : Nat) (fl : Int32) (A : Nat → Int32) (lim : Int32) (hn : n ≤ 64) : CtI l yX1_countFormsTo cX1_countFormsTo 2 .int (rmk 1 24) D cI cJ [.ref h0, .int lim] [(h0, ftE fd (nI n) gd (nI n2) fl fo le), (fd, aiE cI 64 A)] (fun (_ : Unit) => [(h0, ftE fd (nI n) gd (nI n2) fl fo le), (fd, aiE cI 64 A)]) (fun (r : Int32) (_ : Unit) => r = nI (cntT A lim n)) := by
  refine CtI.of (own := RX1) (by decide +kernel) (Nat.le_of_ble_eq_true rfl) rfl ?_
  intro pr_ en_ sg_ me_ ar_ be_ mt_ co_ AA ls QQ X hA hP hD hS hl hret
  have hl : lv_has ls 2 [(0, .ref h0), (1, .int lim)] := hl
  refine lv_aload_n X.1 X.2.1 dX1_countFormsTo_0 rfl (lv_at hl 0 rfl) ?_
  refine gf_X1_9 (v := .ref fd) X hP 0 rfl rfl dX1_countFormsTo_1 ?_
  refine lv_aload_n X.1 X.2.1 dX1_countFormsTo_4 rfl (lv_at hl 0 rfl) ?_
  refine gf_X1_13 (v := .int (nI n)) X hP 0 rfl rfl dX1_countFormsTo_5 ?_
  refine lv_iload_n X.1 X.2.1 dX1_countFormsTo_8 rfl (lv_at hl 1 rfl) ?_
  refine fin_i (wr := [(h0, ftE fd (nI n) gd (nI n2) fl fo le)]) (cv_X1_37 X (c_FT_countTo l D cI cJ fd A n lim (by first | assumption | omega) _) rfl rfl dX1_countFormsTo_9 hP hD [1] rfl rfl hl.1 rfl rfl (Nat.le_of_ble_eq_true rfl) ⟨Nat.le_of_ble_eq_true rfl, Nat.le_of_ble_eq_true rfl⟩ ⟨Nat.le_of_ble_eq_true rfl, Nat.le_of_ble_eq_true rfl⟩) hP hD hS hA [1] [0] rfl rfl rfl (by decide) (fun r_3 u_2 H locs w_1 hP hD hS => ?_)
  have hP : va_P D vwCl [(h0, ftE fd (nI n) gd (nI n2) fl fo le), (fd, aiE cI 64 A)] H := hP
  have hD : va_D AA [(h0, ftE fd (nI n) gd (nI n2) fl fo le), (fd, aiE cI 64 A)] := hD
  subst w_1
  exact hret (nI (cntT A lim n)) () _ _ _ _ (rfl) rfl (hP.sub [0, 1] rfl) (hD.sub [0, 1] rfl rfl) hS dX1_countFormsTo_12
set_option maxHeartbeats 4000000 in
set_option maxRecDepth 100000 in
theorem c_FT_countFieldsTo (l : Launch) (D : va_G) (cI cJ : ClassId) (h0 : Nat) (fd : Nat) (gd : Nat) (fo : Nat) (le : Nat) (n : Nat) (n2 : Nat) (fl : Int32) (B : Nat → Int32) (lim : Int32) (hn : n2 ≤ 64) : CtI l yX1_countFieldsTo cX1_countFieldsTo 2 .int (rmk 1 24) D cI cJ [.ref h0, .int lim] [(h0, ftE fd (nI n) gd (nI n2) fl fo le), (gd, aiE cI 64 B)] (fun (_ : Unit) => [(h0, ftE fd (nI n) gd (nI n2) fl fo le), (gd, aiE cI 64 B)]) (fun (r : Int32) (_ : Unit) => r = nI (cntT B lim n2)) := by
  refine CtI.of (own := RX1) (by decide +kernel) (Nat.le_of_ble_eq_true rfl) rfl ?_
  intro pr_ en_ sg_ me_ ar_ be_ mt_ co_ AA ls QQ X hA hP hD hS hl hret
  have hl : lv_has ls 2 [(0, .ref h0), (1, .int lim)] := hl
  refine lv_aload_n X.1 X.2.1 dX1_countFieldsTo_0 rfl (lv_at hl 0 rfl) ?_
  refine gf_X1_17 (v := .ref gd) X hP 0 rfl rfl dX1_countFieldsTo_1 ?_
  refine lv_aload_n X.1 X.2.1 dX1_countFieldsTo_4 rfl (lv_at hl 0 rfl) ?_
  refine gf_X1_20 (v := .int (nI n2)) X hP 0 rfl rfl dX1_countFieldsTo_5 ?_
  refine lv_iload_n X.1 X.2.1 dX1_countFieldsTo_8 rfl (lv_at hl 1 rfl) ?_
  refine fin_i (wr := [(h0, ftE fd (nI n) gd (nI n2) fl fo le)]) (cv_X1_37 X (c_FT_countTo l D cI cJ gd B n2 lim (by first | assumption | omega) _) rfl rfl dX1_countFieldsTo_9 hP hD [1] rfl rfl hl.1 rfl rfl (Nat.le_of_ble_eq_true rfl) ⟨Nat.le_of_ble_eq_true rfl, Nat.le_of_ble_eq_true rfl⟩ ⟨Nat.le_of_ble_eq_true rfl, Nat.le_of_ble_eq_true rfl⟩) hP hD hS hA [1] [0] rfl rfl rfl (by decide) (fun r_3 u_2 H locs w_1 hP hD hS => ?_)
  have hP : va_P D vwCl [(h0, ftE fd (nI n) gd (nI n2) fl fo le), (gd, aiE cI 64 B)] H := hP
  have hD : va_D AA [(h0, ftE fd (nI n) gd (nI n2) fl fo le), (gd, aiE cI 64 B)] := hD
  subst w_1
  exact hret (nI (cntT B lim n2)) () _ _ _ _ (rfl) rfl (hP.sub [0, 1] rfl) (hD.sub [0, 1] rfl rfl) hS dX1_countFieldsTo_12
set_option maxHeartbeats 4000000 in
set_option maxRecDepth 100000 in
theorem c_FT_isTabulated (l : Launch) (D : va_G) (cI cJ : ClassId) (h0 : Nat) (fd : Nat) (gd : Nat) (fo : Nat) (le : Nat) (n : Nat) (n2 : Nat) (fl : Int32) (f : Fm) (y : Fm) (hw : Nat) (sc : Nat) (cd : Nat) (a : Fm) (b : Fm) (An : Nat) (Dn : Nat) (ha : absL f.1 = lN An) (hA1 : An ≤ 300) (hd : absL f.2.2.2 = lN Dn) (hD1 : Dn ≤ 300) : CtI l yX1_isTabulated cX1_isTabulated 4 .boolean (rmk 4 100) D cI cJ [.ref h0, .ref hw] [(h0, ftE fd (nI n) gd (nI n2) fl fo le), (fo, cubE f), (le, cubE y), (hw, wkE sc cd), (sc, cubE a), (cd, cubE b)] (fun (u : Fm × Fm × Fm) => [(h0, ftE fd (nI n) gd (nI n2) fl fo le), (fo, cubE f), (le, cubE u.1), (hw, wkE sc cd), (sc, cubE u.2.1), (cd, cubE u.2.2)]) (fun (r : Int32) (u : Fm × Fm × Fm) => r = bI (tabF f An Dn)) := by
  refine CtI.of (own := RX1) (by decide +kernel) (Nat.le_of_ble_eq_true rfl) rfl ?_
  intro pr_ en_ sg_ me_ ar_ be_ mt_ co_ AA ls QQ X hA hP hD hS hl hret
  have hl : lv_has ls 4 [(0, .ref h0), (1, .ref hw)] := hl
  refine lv_aload_n X.1 X.2.1 dX1_isTabulated_0 rfl (lv_at hl 0 rfl) ?_
  refine gf_X1_30 (v := .ref fo) X hP 0 rfl rfl dX1_isTabulated_1 ?_
  refine fin_i (wr := [(h0, ftE fd (nI n) gd (nI n2) fl fo le), (le, cubE y), (hw, wkE sc cd), (sc, cubE a), (cd, cubE b)]) (cv_X1_53 X (c_Cubic_hasReducedHessian l D cI cJ fo f  _) rfl rfl dX1_isTabulated_4 hP hD 1 rfl [1] rfl rfl hl.1 rfl rfl (Nat.le_of_ble_eq_true rfl) ⟨Nat.le_of_ble_eq_true rfl, Nat.le_of_ble_eq_true rfl⟩ ⟨Nat.le_of_ble_eq_true rfl, Nat.le_of_ble_eq_true rfl⟩) hP hD hS hA [1] [0, 2, 3, 4, 5] rfl rfl rfl (by decide) (fun r_3 u_2 H locs w_1 hP hD hS => ?_)
  have hP : va_P D vwCl [(h0, ftE fd (nI n) gd (nI n2) fl fo le), (le, cubE y), (hw, wkE sc cd), (sc, cubE a), (cd, cubE b), (fo, cubE f)] H := hP
  have hD : va_D AA [(h0, ftE fd (nI n) gd (nI n2) fl fo le), (le, cubE y), (hw, wkE sc cd), (sc, cubE a), (cd, cubE b), (fo, cubE f)] := hD
  subst w_1
  refine bb_ne (tgt := 12) X dX1_isTabulated_7 (by decide) (fun c_4 => ?_) (fun c_4 => ?_)
  · refine lv_aload_n X.1 X.2.1 dX1_isTabulated_12 rfl (lv_at hl 0 rfl) ?_
    refine gf_X1_30 (v := .ref fo) X hP 0 rfl rfl dX1_isTabulated_13 ?_
    refine fin_l (wr := [(h0, ftE fd (nI n) gd (nI n2) fl fo le), (le, cubE y), (hw, wkE sc cd), (sc, cubE a), (cd, cubE b)]) (cv_X1_57 X (c_Cubic_disc l D cI cJ fo f  _) rfl rfl dX1_isTabulated_16 hP hD 5 rfl [5] rfl rfl hl.1 rfl rfl (Nat.le_of_ble_eq_true rfl) ⟨Nat.le_of_ble_eq_true rfl, Nat.le_of_ble_eq_true rfl⟩ ⟨Nat.le_of_ble_eq_true rfl, Nat.le_of_ble_eq_true rfl⟩) hP hD hS hA [5] [0, 1, 2, 3, 4] rfl rfl rfl (by decide) (fun r_7 u_6 H locs w_5 hP hD hS => ?_)
    have hP : va_P D vwCl [(h0, ftE fd (nI n) gd (nI n2) fl fo le), (le, cubE y), (hw, wkE sc cd), (sc, cubE a), (cd, cubE b), (fo, cubE f)] H := hP
    have hD : va_D AA [(h0, ftE fd (nI n) gd (nI n2) fl fo le), (le, cubE y), (hw, wkE sc cd), (sc, cubE a), (cd, cubE b), (fo, cubE f)] := hD
    subst w_5
    refine lv_lstore_n (lv' := [(2, .long (discF f)), (0, .ref h0), (1, .ref hw)]) X.1 X.2.1 dX1_isTabulated_19 rfl hl (by decide) rfl (fun ls hl => ?_)
    refine lv_lload_n X.1 X.2.1 dX1_isTabulated_20 rfl (lv_at hl 0 rfl) ?_
    refine lv_lconst (v := 0) X.1 X.2.1 dX1_isTabulated_21 (by decide) ?_
    refine bl_le (tgt := 44) X dX1_isTabulated_22 dX1_isTabulated_23 (by decide) (fun c_8 => ?_) (fun c_8 => ?_)
    · refine lv_iconst (v := 0) X.1 X.2.1 dX1_isTabulated_44 (by decide) ?_
      exact hret 0 (y, a, b) _ _ _ _ (by simp [tabF, bI, ← sealC_eq, c_4, c_8]) rfl (hP.sub [0, 5, 1, 2, 3, 4] rfl) (hD.sub [0, 5, 1, 2, 3, 4] rfl rfl) hS dX1_isTabulated_45
    · refine lv_lload_n X.1 X.2.1 dX1_isTabulated_26 rfl (lv_at hl 0 rfl) ?_
      refine lc_X1_61 X dX1_isTabulated_27 ?_
      refine bl_gt (tgt := 44) X dX1_isTabulated_30 dX1_isTabulated_31 (by decide) (fun c_9 => ?_) (fun c_9 => ?_)
      · refine lv_iconst (v := 0) X.1 X.2.1 dX1_isTabulated_44 (by decide) ?_
        exact hret 0 (y, a, b) _ _ _ _ (by simp [tabF, bI, ← sealC_eq, c_4, c_8, c_9]) rfl (hP.sub [0, 5, 1, 2, 3, 4] rfl) (hD.sub [0, 5, 1, 2, 3, 4] rfl rfl) hS dX1_isTabulated_45
      · refine lv_aload_n X.1 X.2.1 dX1_isTabulated_34 rfl (lv_at hl 1 rfl) ?_
        refine gf_X1_30 (v := .ref fo) X hP 0 rfl rfl dX1_isTabulated_35 ?_
        refine fin_i (wr := [(h0, ftE fd (nI n) gd (nI n2) fl fo le), (le, cubE y), (hw, wkE sc cd), (sc, cubE a), (cd, cubE b)]) (cv_X1_63 X (c_Cubic_hasRationalRoot l D cI cJ fo f An Dn ha hA1 hd hD1 _) rfl rfl dX1_isTabulated_38 hP hD 5 rfl [5] rfl rfl hl.1 rfl rfl (Nat.le_of_ble_eq_true rfl) ⟨Nat.le_of_ble_eq_true rfl, Nat.le_of_ble_eq_true rfl⟩ ⟨Nat.le_of_ble_eq_true rfl, Nat.le_of_ble_eq_true rfl⟩) hP hD hS hA [5] [0, 1, 2, 3, 4] rfl rfl rfl (by decide) (fun r_12 u_11 H locs w_10 hP hD hS => ?_)
        have hP : va_P D vwCl [(h0, ftE fd (nI n) gd (nI n2) fl fo le), (le, cubE y), (hw, wkE sc cd), (sc, cubE a), (cd, cubE b), (fo, cubE f)] H := hP
        have hD : va_D AA [(h0, ftE fd (nI n) gd (nI n2) fl fo le), (le, cubE y), (hw, wkE sc cd), (sc, cubE a), (cd, cubE b), (fo, cubE f)] := hD
        subst w_10
        refine bb_eq (tgt := 46) X dX1_isTabulated_41 (by decide) (fun c_13 => ?_) (fun c_13 => ?_)
        · refine lv_aload_n X.1 X.2.1 dX1_isTabulated_46 rfl (lv_at hl 1 rfl) ?_
          refine gf_X1_34 (v := .ref le) X hP 0 rfl rfl dX1_isTabulated_47 ?_
          refine lv_aload_n X.1 X.2.1 dX1_isTabulated_50 rfl (lv_at hl 1 rfl) ?_
          refine gf_X1_30 (v := .ref fo) X hP 0 rfl rfl dX1_isTabulated_51 ?_
          refine fin_v (wr := [(h0, ftE fd (nI n) gd (nI n2) fl fo le), (hw, wkE sc cd), (sc, cubE a), (cd, cubE b)]) (cv_X1_66 X (c_Cubic_copyFrom l D cI cJ le y fo f  _) rfl rfl dX1_isTabulated_54 hP hD 1 rfl [1, 5] rfl rfl hl.1 rfl rfl (Nat.le_of_ble_eq_true rfl) ⟨Nat.le_of_ble_eq_true rfl, Nat.le_of_ble_eq_true rfl⟩ ⟨Nat.le_of_ble_eq_true rfl, Nat.le_of_ble_eq_true rfl⟩) hP hD hS hA [1, 5] [0, 2, 3, 4] rfl rfl rfl (by decide) (fun u_15 H locs w_14 hP hD hS => ?_)
          have hP : va_P D vwCl [(h0, ftE fd (nI n) gd (nI n2) fl fo le), (hw, wkE sc cd), (sc, cubE a), (cd, cubE b), (le, cubE f), (fo, cubE f)] H := hP
          have hD : va_D AA [(h0, ftE fd (nI n) gd (nI n2) fl fo le), (hw, wkE sc cd), (sc, cubE a), (cd, cubE b), (le, cubE f), (fo, cubE f)] := hD
          refine lv_aload_n X.1 X.2.1 dX1_isTabulated_57 rfl (lv_at hl 2 rfl) ?_
          refine lv_aload_n X.1 X.2.1 dX1_isTabulated_58 rfl (lv_at hl 1 rfl) ?_
          refine gf_X1_34 (v := .ref le) X hP 0 rfl rfl dX1_isTabulated_59 ?_
          refine fin_v (wr := [(h0, ftE fd (nI n) gd (nI n2) fl fo le), (fo, cubE f)]) (cv_X1_70 X (c_Wk_makeCanonical l D cI cJ hw sc cd a b le f  _) rfl rfl dX1_isTabulated_62 hP hD 1 rfl [1, 2, 3, 4] rfl rfl hl.1 rfl rfl (Nat.le_of_ble_eq_true rfl) ⟨Nat.le_of_ble_eq_true rfl, Nat.le_of_ble_eq_true rfl⟩ ⟨Nat.le_of_ble_eq_true rfl, Nat.le_of_ble_eq_true rfl⟩) hP hD hS hA [1, 2, 3, 4] [0, 5] rfl rfl rfl (by decide) (fun u_18 H locs w_17 hP hD hS => ?_)
          have hP : va_P D vwCl [(h0, ftE fd (nI n) gd (nI n2) fl fo le), (fo, cubE f), (hw, wkE sc cd), (sc, cubE u_18.1), (cd, cubE u_18.2), (le, cubE (sealC 0 f))] H := hP
          have hD : va_D AA [(h0, ftE fd (nI n) gd (nI n2) fl fo le), (fo, cubE f), (hw, wkE sc cd), (sc, cubE u_18.1), (cd, cubE u_18.2), (le, cubE (sealC 0 f))] := hD
          refine lv_aload_n X.1 X.2.1 dX1_isTabulated_65 rfl (lv_at hl 1 rfl) ?_
          refine gf_X1_34 (v := .ref le) X hP 0 rfl rfl dX1_isTabulated_66 ?_
          refine lv_aload_n X.1 X.2.1 dX1_isTabulated_69 rfl (lv_at hl 1 rfl) ?_
          refine gf_X1_30 (v := .ref fo) X hP 0 rfl rfl dX1_isTabulated_70 ?_
          refine fin_i (wr := [(h0, ftE fd (nI n) gd (nI n2) fl fo le), (hw, wkE sc cd), (sc, cubE u_18.1), (cd, cubE u_18.2)]) (cv_X1_75 X (c_Cubic_isSameAs l D cI cJ le (sealC 0 f) fo f  _) rfl rfl dX1_isTabulated_73 hP hD 5 rfl [5, 1] rfl rfl hl.1 rfl rfl (Nat.le_of_ble_eq_true rfl) ⟨Nat.le_of_ble_eq_true rfl, Nat.le_of_ble_eq_true rfl⟩ ⟨Nat.le_of_ble_eq_true rfl, Nat.le_of_ble_eq_true rfl⟩) hP hD hS hA [5, 1] [0, 2, 3, 4] rfl rfl rfl (by decide) (fun r_22 u_21 H locs w_20 hP hD hS => ?_)
          have hP : va_P D vwCl [(h0, ftE fd (nI n) gd (nI n2) fl fo le), (hw, wkE sc cd), (sc, cubE u_18.1), (cd, cubE u_18.2), (le, cubE (sealC 0 f)), (fo, cubE f)] H := hP
          have hD : va_D AA [(h0, ftE fd (nI n) gd (nI n2) fl fo le), (hw, wkE sc cd), (sc, cubE u_18.1), (cd, cubE u_18.2), (le, cubE (sealC 0 f)), (fo, cubE f)] := hD
          subst w_20
          exact hret (bI (sameF (sealC 0 f) f)) (sealC 0 f, u_18.1, u_18.2) _ _ _ _ (by simp [tabF, bI, ← sealC_eq, c_4, c_8, c_9, c_13]) (bI_nar _) (hP.sub [0, 5, 4, 1, 2, 3] rfl) (hD.sub [0, 5, 4, 1, 2, 3] rfl rfl) hS dX1_isTabulated_76
        · refine lv_iconst (v := 0) X.1 X.2.1 dX1_isTabulated_44 (by decide) ?_
          exact hret 0 (y, a, b) _ _ _ _ (by simp [tabF, bI, ← sealC_eq, c_4, c_8, c_9, c_13]) rfl (hP.sub [0, 5, 1, 2, 3, 4] rfl) (hD.sub [0, 5, 1, 2, 3, 4] rfl rfl) hS dX1_isTabulated_45
  · refine lv_iconst (v := 0) X.1 X.2.1 dX1_isTabulated_10 (by decide) ?_
    exact hret 0 (y, a, b) _ _ _ _ (by simp [tabF, bI, ← sealC_eq, c_4]) rfl (hP.sub [0, 5, 1, 2, 3, 4] rfl) (hD.sub [0, 5, 1, 2, 3, 4] rfl rfl) hS dX1_isTabulated_11
set_option maxHeartbeats 4000000 in
set_option maxRecDepth 100000 in
theorem c_FT_addTabulated (l : Launch) (D : va_G) (cI cJ : ClassId) (h0 : Nat) (fd : Nat) (gd : Nat) (fo : Nat) (le : Nat) (T : Tab) (fl : Int32) (f : Fm) (A : Nat → Int32) (B : Nat → Int32) (hw : Nat) (sc : Nat) (cd : Nat) (a : Fm) (b : Fm) (rA : repR A T.1) (rB : repR B T.2) (h1 : T.1.length < 64) (h2 : T.2.length < 64) (hd : discF f = lN (dN f)) (hd2 : dN f ≤ 1000) : CtV l yX1_addTabulated cX1_addTabulated 3 (rmk 4 101) D cI cJ [.ref h0, .ref hw] [(h0, ftE fd (nI T.1.length) gd (nI T.2.length) fl fo le), (fd, aiE cI 64 A), (gd, aiE cI 64 B), (fo, cubE f), (hw, wkE sc cd), (sc, cubE a), (cd, cubE b)] (fun (u : (Nat → Int32) × (Nat → Int32) × Fm × Fm) => [(h0, ftE fd (nI (addT f T).1.length) gd (nI (addT f T).2.length) fl fo le), (fd, aiE cI 64 u.1), (gd, aiE cI 64 u.2.1), (fo, cubE u.2.2.1), (hw, wkE sc cd), (sc, cubE a), (cd, cubE u.2.2.2)]) (fun (u : (Nat → Int32) × (Nat → Int32) × Fm × Fm) => repR u.1 (addT f T).1 ∧ repR u.2.1 (addT f T).2) 0 0 := by
  refine CtV.of (own := RX1) (by decide +kernel) (Nat.le_of_ble_eq_true rfl) rfl ?_
  intro pr_ en_ sg_ me_ ar_ be_ mt_ co_ AA ls QQ X hin hA hP hD hS hl hret
  have hl : lv_has ls 3 [(0, .ref h0), (1, .ref hw)] := hl
  refine lv_aload_n X.1 X.2.1 dX1_addTabulated_0 rfl (lv_at hl 0 rfl) ?_
  refine gf_X1_30 (v := .ref fo) X hP 0 rfl rfl dX1_addTabulated_1 ?_
  refine fin_l (wr := [(h0, ftE fd (nI T.1.length) gd (nI T.2.length) fl fo le), (fd, aiE cI 64 A), (gd, aiE cI 64 B), (hw, wkE sc cd), (sc, cubE a), (cd, cubE b)]) (cv_X1_57 X (c_Cubic_disc l D cI cJ fo f  _) rfl rfl dX1_addTabulated_4 hP hD 3 rfl [3] rfl rfl hl.1 rfl rfl (Nat.le_of_ble_eq_true rfl) ⟨Nat.le_of_ble_eq_true rfl, Nat.le_of_ble_eq_true rfl⟩ ⟨Nat.le_of_ble_eq_true rfl, Nat.le_of_ble_eq_true rfl⟩) hP hD hS hA [3] [0, 1, 2, 4, 5, 6] rfl rfl rfl (by decide) (fun r_3 u_2 H locs w_1 hP hD hS => ?_)
  have hP : va_P D vwCl [(h0, ftE fd (nI T.1.length) gd (nI T.2.length) fl fo le), (fd, aiE cI 64 A), (gd, aiE cI 64 B), (hw, wkE sc cd), (sc, cubE a), (cd, cubE b), (fo, cubE f)] H := hP
  have hD : va_D AA [(h0, ftE fd (nI T.1.length) gd (nI T.2.length) fl fo le), (fd, aiE cI 64 A), (gd, aiE cI 64 B), (hw, wkE sc cd), (sc, cubE a), (cd, cubE b), (fo, cubE f)] := hD
  subst w_1
  refine lv_l2i X.1 X.2.1 dX1_addTabulated_7 rfl ?_
  rw [hd, lN_i]
  refine lv_istore_n (lv' := [(2, .int (nI (dN f))), (0, .ref h0), (1, .ref hw)]) X.1 X.2.1 dX1_addTabulated_8 rfl hl (by decide) rfl (fun ls hl => ?_)
  refine lv_aload_n X.1 X.2.1 dX1_addTabulated_9 rfl (lv_at hl 1 rfl) ?_
  refine gf_X1_9 (v := .ref fd) X hP 0 rfl rfl dX1_addTabulated_10 ?_
  refine lv_aload_n X.1 X.2.1 dX1_addTabulated_13 rfl (lv_at hl 1 rfl) ?_
  refine gf_X1_13 (v := .int (nI T.1.length)) X hP 0 rfl rfl dX1_addTabulated_14 ?_
  refine lv_iload_n X.1 X.2.1 dX1_addTabulated_17 rfl (lv_at hl 0 rfl) ?_
  refine fin_i (wr := [(h0, ftE fd (nI T.1.length) gd (nI T.2.length) fl fo le), (gd, aiE cI 64 B), (hw, wkE sc cd), (sc, cubE a), (cd, cubE b), (fo, cubE f)]) (cv_X1_79 X (c_FT_insert l D cI cJ fd A T.1.length (nI (dN f)) h1 _) rfl rfl dX1_addTabulated_18 hP hD [1] rfl rfl hl.1 rfl rfl (Nat.le_of_ble_eq_true rfl) ⟨Nat.le_of_ble_eq_true rfl, Nat.le_of_ble_eq_true rfl⟩ ⟨Nat.le_of_ble_eq_true rfl, Nat.le_of_ble_eq_true rfl⟩) hP hD hS hA [1] [0, 2, 3, 4, 5, 6] rfl rfl rfl (by decide) (fun r_6 u_5 H locs w_4 hP hD hS => ?_)
  have hP : va_P D vwCl [(h0, ftE fd (nI T.1.length) gd (nI T.2.length) fl fo le), (gd, aiE cI 64 B), (hw, wkE sc cd), (sc, cubE a), (cd, cubE b), (fo, cubE f), (fd, aiE cI 64 u_5)] H := hP
  have hD : va_D AA [(h0, ftE fd (nI T.1.length) gd (nI T.2.length) fl fo le), (gd, aiE cI 64 B), (hw, wkE sc cd), (sc, cubE a), (cd, cubE b), (fo, cubE f), (fd, aiE cI 64 u_5)] := hD
  obtain ⟨rfl, w_4⟩ := w_4
  refine bb_eq (tgt := 34) X dX1_addTabulated_21 (by decide) (fun c_7 => absurd c_7 (by decide)) (fun c_7 => ?_)
  refine lv_aload_n X.1 X.2.1 dX1_addTabulated_24 rfl (lv_at hl 1 rfl) ?_
  refine lv_dup X.1 X.2.1 dX1_addTabulated_25 rfl ?_
  refine gf_X1_13 (v := .int (nI T.1.length)) X hP 0 rfl rfl dX1_addTabulated_26 ?_
  refine lv_iconst (v := 1) X.1 X.2.1 dX1_addTabulated_29 (by decide) ?_
  refine lv_iadd X.1 X.2.1 dX1_addTabulated_30 ?_
  rw [nI_1]
  refine pf_X1_13 X hP hD hS 0 rfl rfl rfl (Nat.le_of_ble_eq_true rfl) dX1_addTabulated_31 (fun H locs hP hD hS => ?_)
  have hP : va_P D vwCl [(h0, ftE fd (nI (T.1.length + 1)) gd (nI T.2.length) fl fo le), (gd, aiE cI 64 B), (hw, wkE sc cd), (sc, cubE a), (cd, cubE b), (fo, cubE f), (fd, aiE cI 64 u_5)] H := hP
  have hD : va_D AA [(h0, ftE fd (nI (T.1.length + 1)) gd (nI T.2.length) fl fo le), (gd, aiE cI 64 B), (hw, wkE sc cd), (sc, cubE a), (cd, cubE b), (fo, cubE f), (fd, aiE cI 64 u_5)] := hD
  refine lv_aload_n X.1 X.2.1 dX1_addTabulated_34 rfl (lv_at hl 2 rfl) ?_
  refine lv_aload_n X.1 X.2.1 dX1_addTabulated_35 rfl (lv_at hl 1 rfl) ?_
  refine gf_X1_30 (v := .ref fo) X hP 0 rfl rfl dX1_addTabulated_36 ?_
  refine fin_i (wr := [(h0, ftE fd (nI (T.1.length + 1)) gd (nI T.2.length) fl fo le), (gd, aiE cI 64 B), (fd, aiE cI 64 u_5)]) (cv_X1_83 X (c_Wk_growAtLeastPrime l D cI cJ hw sc cd a b fo f  _) rfl rfl dX1_addTabulated_39 hP hD 2 rfl [2, 3, 4, 5] rfl rfl hl.1 rfl rfl (Nat.le_of_ble_eq_true rfl) ⟨Nat.le_of_ble_eq_true rfl, Nat.le_of_ble_eq_true rfl⟩ ⟨Nat.le_of_ble_eq_true rfl, Nat.le_of_ble_eq_true rfl⟩) hP hD hS hA [2, 3, 4, 5] [0, 1, 6] rfl rfl rfl (by decide) (fun r_10 u_9 H locs w_8 hP hD hS => ?_)
  have hP : va_P D vwCl [(h0, ftE fd (nI (T.1.length + 1)) gd (nI T.2.length) fl fo le), (gd, aiE cI 64 B), (fd, aiE cI 64 u_5), (hw, wkE sc cd), (sc, cubE a), (cd, cubE u_9), (fo, cubE ((glpC f).getD f))] H := hP
  have hD : va_D AA [(h0, ftE fd (nI (T.1.length + 1)) gd (nI T.2.length) fl fo le), (gd, aiE cI 64 B), (fd, aiE cI 64 u_5), (hw, wkE sc cd), (sc, cubE a), (cd, cubE u_9), (fo, cubE ((glpC f).getD f))] := hD
  subst w_8
  refine bb_ne (tgt := 70) X dX1_addTabulated_42 (by decide) (fun c_11 => ?_) (fun c_11 => ?_)
  · have q1 : (addT f T).1.length = T.1.length + 1 := by simp [addT, insRev_len]
    have q2 : (addT f T).2.length = T.2.length := by simp [addT, c_11]
    rw [← q1, ← q2] at hP hD
    exact hret (u_5, B, (glpC f).getD f, u_9) _ _ _ _ (⟨insAt_rep hd2 rA w_4, by rw [show (addT f T).2 = T.2 from by simp [addT, c_11]]; exact rB⟩) (hP.sub [0, 2, 1, 6, 3, 4, 5] rfl) (hD.sub [0, 2, 1, 6, 3, 4, 5] rfl rfl) hS dX1_addTabulated_70
  · refine lv_aload_n X.1 X.2.1 dX1_addTabulated_45 rfl (lv_at hl 1 rfl) ?_
    refine gf_X1_17 (v := .ref gd) X hP 0 rfl rfl dX1_addTabulated_46 ?_
    refine lv_aload_n X.1 X.2.1 dX1_addTabulated_49 rfl (lv_at hl 1 rfl) ?_
    refine gf_X1_20 (v := .int (nI T.2.length)) X hP 0 rfl rfl dX1_addTabulated_50 ?_
    refine lv_iload_n X.1 X.2.1 dX1_addTabulated_53 rfl (lv_at hl 0 rfl) ?_
    refine fin_i (wr := [(h0, ftE fd (nI (T.1.length + 1)) gd (nI T.2.length) fl fo le), (fd, aiE cI 64 u_5), (hw, wkE sc cd), (sc, cubE a), (cd, cubE u_9), (fo, cubE ((glpC f).getD f))]) (cv_X1_79 X (c_FT_insert l D cI cJ gd B T.2.length (nI (dN f)) h2 _) rfl rfl dX1_addTabulated_54 hP hD [1] rfl rfl hl.1 rfl rfl (Nat.le_of_ble_eq_true rfl) ⟨Nat.le_of_ble_eq_true rfl, Nat.le_of_ble_eq_true rfl⟩ ⟨Nat.le_of_ble_eq_true rfl, Nat.le_of_ble_eq_true rfl⟩) hP hD hS hA [1] [0, 2, 3, 4, 5, 6] rfl rfl rfl (by decide) (fun r_14 u_13 H locs w_12 hP hD hS => ?_)
    have hP : va_P D vwCl [(h0, ftE fd (nI (T.1.length + 1)) gd (nI T.2.length) fl fo le), (fd, aiE cI 64 u_5), (hw, wkE sc cd), (sc, cubE a), (cd, cubE u_9), (fo, cubE ((glpC f).getD f)), (gd, aiE cI 64 u_13)] H := hP
    have hD : va_D AA [(h0, ftE fd (nI (T.1.length + 1)) gd (nI T.2.length) fl fo le), (fd, aiE cI 64 u_5), (hw, wkE sc cd), (sc, cubE a), (cd, cubE u_9), (fo, cubE ((glpC f).getD f)), (gd, aiE cI 64 u_13)] := hD
    obtain ⟨rfl, w_12⟩ := w_12
    refine bb_eq (tgt := 70) X dX1_addTabulated_57 (by decide) (fun c_15 => absurd c_15 (by decide)) (fun c_15 => ?_)
    refine lv_aload_n X.1 X.2.1 dX1_addTabulated_60 rfl (lv_at hl 1 rfl) ?_
    refine lv_dup X.1 X.2.1 dX1_addTabulated_61 rfl ?_
    refine gf_X1_20 (v := .int (nI T.2.length)) X hP 0 rfl rfl dX1_addTabulated_62 ?_
    refine lv_iconst (v := 1) X.1 X.2.1 dX1_addTabulated_65 (by decide) ?_
    refine lv_iadd X.1 X.2.1 dX1_addTabulated_66 ?_
    rw [nI_1]
    refine pf_X1_20 X hP hD hS 0 rfl rfl rfl (Nat.le_of_ble_eq_true rfl) dX1_addTabulated_67 (fun H locs hP hD hS => ?_)
    have hP : va_P D vwCl [(h0, ftE fd (nI (T.1.length + 1)) gd (nI (T.2.length + 1)) fl fo le), (fd, aiE cI 64 u_5), (hw, wkE sc cd), (sc, cubE a), (cd, cubE u_9), (fo, cubE ((glpC f).getD f)), (gd, aiE cI 64 u_13)] H := hP
    have hD : va_D AA [(h0, ftE fd (nI (T.1.length + 1)) gd (nI (T.2.length + 1)) fl fo le), (fd, aiE cI 64 u_5), (hw, wkE sc cd), (sc, cubE a), (cd, cubE u_9), (fo, cubE ((glpC f).getD f)), (gd, aiE cI 64 u_13)] := hD
    have q1 : (addT f T).1.length = T.1.length + 1 := by simp [addT, insRev_len]
    have q2 : (addT f T).2.length = T.2.length + 1 := by simp [addT, c_11, insRev_len]
    rw [← q1, ← q2] at hP hD
    exact hret (u_5, u_13, (glpC f).getD f, u_9) _ _ _ _ (⟨insAt_rep hd2 rA w_4, by rw [show (addT f T).2 = insRev T.2 (dN f) from by simp [addT, c_11]]; exact insAt_rep hd2 rB w_12⟩) (hP.sub [0, 1, 6, 5, 2, 3, 4] rfl) (hD.sub [0, 1, 6, 5, 2, 3, 4] rfl rfl) hS dX1_addTabulated_70
