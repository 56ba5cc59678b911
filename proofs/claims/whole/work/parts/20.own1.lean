set_option maxHeartbeats 4000000 in
set_option maxRecDepth 100000 in
theorem c_isRegister (l : Launch) (D : va_G) (cI cJ : ClassId) (x : Int32)  : CtI l yX5_isRegister cX5_isRegister 1 .boolean (rmk 0 0) D cI cJ [.int x] [] (fun (_ : Unit) => []) (fun (r : Int32) (_ : Unit) => r = bI (isRegB x)) := by
  refine CtI.of (own := RX5) (by decide +kernel) (Nat.le_of_ble_eq_true rfl) rfl ?_
  intro pr_ en_ sg_ me_ ar_ be_ mt_ co_ AA ls QQ X hA hP hD hS hl hret
  have hl : lv_has ls 1 [(0, .int x)] := hl
  refine lv_iload_n X.1 X.2.1 dX5_isRegister_0 rfl (lv_at hl 0 rfl) ?_
  refine bz_lt (tgt := 14) X dX5_isRegister_1 (by decide) (fun c_1 => ?_) (fun c_1 => ?_)
  · refine lv_iconst (v := 0) X.1 X.2.1 dX5_isRegister_14 (by decide) ?_
    exact hret 0 () _ _ _ _ (by simp [isRegB, bI, c_1]) rfl (hP.sub [] rfl) (hD.sub [] rfl rfl) hS dX5_isRegister_15
  · refine lv_iload_n X.1 X.2.1 dX5_isRegister_4 rfl (lv_at hl 0 rfl) ?_
    refine lv_bipush (v := 6) X.1 X.2.1 dX5_isRegister_5 (by decide) ?_
    refine bi_ge (tgt := 14) X dX5_isRegister_7 (by decide) (fun c_2 => ?_) (fun c_2 => ?_)
    · refine lv_iconst (v := 0) X.1 X.2.1 dX5_isRegister_14 (by decide) ?_
      exact hret 0 () _ _ _ _ (by simp [isRegB, bI, c_1, c_2]) rfl (hP.sub [] rfl) (hD.sub [] rfl rfl) hS dX5_isRegister_15
    · refine lv_iconst (v := 1) X.1 X.2.1 dX5_isRegister_10 (by decide) ?_
      refine lv_goto (tgt := 15) X.1 X.2.1 dX5_isRegister_11 (by decide) ?_
      exact hret 1 () _ _ _ _ (by simp [isRegB, bI, c_1, c_2]) rfl (hP.sub [] rfl) (hD.sub [] rfl rfl) hS dX5_isRegister_15
set_option maxHeartbeats 4000000 in
set_option maxRecDepth 100000 in
theorem c_isSubstitution (l : Launch) (D : va_G) (cI cJ : ClassId) (p1 : Int32) (q1 : Int32) (r1 : Int32) (s1 : Int32)  : CtI l yX5_isSubstitution cX5_isSubstitution 4 .boolean (rmk 1 23) D cI cJ [.int p1, .int q1, .int r1, .int s1] [] (fun (_ : Unit) => []) (fun (r : Int32) (_ : Unit) => r = bI (isSubB p1 q1 r1 s1)) := by
  refine CtI.of (own := RX5) (by decide +kernel) (Nat.le_of_ble_eq_true rfl) rfl ?_
  intro pr_ en_ sg_ me_ ar_ be_ mt_ co_ AA ls QQ X hA hP hD hS hl hret
  have hl : lv_has ls 4 [(0, .int p1), (1, .int q1), (2, .int r1), (3, .int s1)] := hl
  refine lv_iload_n X.1 X.2.1 dX5_isSubstitution_0 rfl (lv_at hl 0 rfl) ?_
  refine lv_i2l X.1 X.2.1 dX5_isSubstitution_1 rfl ?_
  refine lc_X5_202 X dX5_isSubstitution_2 ?_
  refine fin_i (wr := []) (cv_X5_100 X (c_isWithin l D cI cJ p1.toInt64 100  _) rfl rfl dX5_isSubstitution_5 hP hD [] rfl rfl hl.1 rfl rfl (Nat.le_of_ble_eq_true rfl) ⟨Nat.le_of_ble_eq_true rfl, Nat.le_of_ble_eq_true rfl⟩ ⟨Nat.le_of_ble_eq_true rfl, Nat.le_of_ble_eq_true rfl⟩) hP hD hS hA [] [] rfl rfl rfl (by decide) (fun r_3 u_2 H locs w_1 hP hD hS => ?_)
  have hP : va_P D vwCl [] H := hP
  have hD : va_D AA [] := hD
  subst w_1
  refine bb_eq (tgt := 22) X dX5_isSubstitution_8 (by decide) (fun c_4 => ?_) (fun c_4 => ?_)
  · refine lv_iconst (v := 0) X.1 X.2.1 dX5_isSubstitution_22 (by decide) ?_
    exact hret 0 () _ _ _ _ (by simp [isSubB, bI, c_4]) rfl (hP.sub [] rfl) (hD.sub [] rfl rfl) hS dX5_isSubstitution_23
  · refine lv_iload_n X.1 X.2.1 dX5_isSubstitution_11 rfl (lv_at hl 1 rfl) ?_
    refine lv_i2l X.1 X.2.1 dX5_isSubstitution_12 rfl ?_
    refine lc_X5_202 X dX5_isSubstitution_13 ?_
    refine fin_i (wr := []) (cv_X5_100 X (c_isWithin l D cI cJ q1.toInt64 100  _) rfl rfl dX5_isSubstitution_16 hP hD [] rfl rfl hl.1 rfl rfl (Nat.le_of_ble_eq_true rfl) ⟨Nat.le_of_ble_eq_true rfl, Nat.le_of_ble_eq_true rfl⟩ ⟨Nat.le_of_ble_eq_true rfl, Nat.le_of_ble_eq_true rfl⟩) hP hD hS hA [] [] rfl rfl rfl (by decide) (fun r_7 u_6 H locs w_5 hP hD hS => ?_)
    have hP : va_P D vwCl [] H := hP
    have hD : va_D AA [] := hD
    subst w_5
    refine bb_ne (tgt := 24) X dX5_isSubstitution_19 (by decide) (fun c_8 => ?_) (fun c_8 => ?_)
    · refine lv_iload_n X.1 X.2.1 dX5_isSubstitution_24 rfl (lv_at hl 2 rfl) ?_
      refine lv_i2l X.1 X.2.1 dX5_isSubstitution_25 rfl ?_
      refine lc_X5_202 X dX5_isSubstitution_26 ?_
      refine fin_i (wr := []) (cv_X5_100 X (c_isWithin l D cI cJ r1.toInt64 100  _) rfl rfl dX5_isSubstitution_29 hP hD [] rfl rfl hl.1 rfl rfl (Nat.le_of_ble_eq_true rfl) ⟨Nat.le_of_ble_eq_true rfl, Nat.le_of_ble_eq_true rfl⟩ ⟨Nat.le_of_ble_eq_true rfl, Nat.le_of_ble_eq_true rfl⟩) hP hD hS hA [] [] rfl rfl rfl (by decide) (fun r_11 u_10 H locs w_9 hP hD hS => ?_)
      have hP : va_P D vwCl [] H := hP
      have hD : va_D AA [] := hD
      subst w_9
      refine bb_eq (tgt := 46) X dX5_isSubstitution_32 (by decide) (fun c_12 => ?_) (fun c_12 => ?_)
      · refine lv_iconst (v := 0) X.1 X.2.1 dX5_isSubstitution_46 (by decide) ?_
        exact hret 0 () _ _ _ _ (by simp [isSubB, bI, c_4, c_8, c_12]) rfl (hP.sub [] rfl) (hD.sub [] rfl rfl) hS dX5_isSubstitution_47
      · refine lv_iload_n X.1 X.2.1 dX5_isSubstitution_35 rfl (lv_at hl 3 rfl) ?_
        refine lv_i2l X.1 X.2.1 dX5_isSubstitution_36 rfl ?_
        refine lc_X5_202 X dX5_isSubstitution_37 ?_
        refine fin_i (wr := []) (cv_X5_100 X (c_isWithin l D cI cJ s1.toInt64 100  _) rfl rfl dX5_isSubstitution_40 hP hD [] rfl rfl hl.1 rfl rfl (Nat.le_of_ble_eq_true rfl) ⟨Nat.le_of_ble_eq_true rfl, Nat.le_of_ble_eq_true rfl⟩ ⟨Nat.le_of_ble_eq_true rfl, Nat.le_of_ble_eq_true rfl⟩) hP hD hS hA [] [] rfl rfl rfl (by decide) (fun r_15 u_14 H locs w_13 hP hD hS => ?_)
        have hP : va_P D vwCl [] H := hP
        have hD : va_D AA [] := hD
        subst w_13
        refine bb_ne (tgt := 48) X dX5_isSubstitution_43 (by decide) (fun c_16 => ?_) (fun c_16 => ?_)
        · refine lv_iload_n X.1 X.2.1 dX5_isSubstitution_48 rfl (lv_at hl 0 rfl) ?_
          refine lv_iload_n X.1 X.2.1 dX5_isSubstitution_49 rfl (lv_at hl 3 rfl) ?_
          refine lv_imul X.1 X.2.1 dX5_isSubstitution_50 ?_
          refine lv_iload_n X.1 X.2.1 dX5_isSubstitution_51 rfl (lv_at hl 1 rfl) ?_
          refine lv_iload_n X.1 X.2.1 dX5_isSubstitution_52 rfl (lv_at hl 2 rfl) ?_
          refine lv_imul X.1 X.2.1 dX5_isSubstitution_53 ?_
          refine lv_isub X.1 X.2.1 dX5_isSubstitution_54 ?_
          refine cv_X5_204 X hl.1 (Nat.le_of_ble_eq_true rfl) (Nat.le_of_ble_eq_true rfl) (Nat.zero_le _) (Nat.zero_le _) dX5_isSubstitution_55 ?_
          show W pr_ l en_ (rmk 1 23) sg_ me_ ar_ be_ mt_ co_ _ _ 0 0 QQ (F0 me_ _ ls (.int (absI ((p1 * s1) - (q1 * r1))) :: _))
          refine lv_iconst (v := 1) X.1 X.2.1 dX5_isSubstitution_58 (by decide) ?_
          refine bi_ne (tgt := 66) X dX5_isSubstitution_59 (by decide) (fun c_17 => ?_) (fun c_17 => ?_)
          · refine lv_iconst (v := 0) X.1 X.2.1 dX5_isSubstitution_66 (by decide) ?_
            exact hret 0 () _ _ _ _ (by simp [isSubB, bI, c_4, c_8, c_12, c_16, c_17]) rfl (hP.sub [] rfl) (hD.sub [] rfl rfl) hS dX5_isSubstitution_67
          · refine lv_iconst (v := 1) X.1 X.2.1 dX5_isSubstitution_62 (by decide) ?_
            refine lv_goto (tgt := 67) X.1 X.2.1 dX5_isSubstitution_63 (by decide) ?_
            exact hret 1 () _ _ _ _ (by simp [isSubB, bI, c_4, c_8, c_12, c_16, c_17]) rfl (hP.sub [] rfl) (hD.sub [] rfl rfl) hS dX5_isSubstitution_67
        · refine lv_iconst (v := 0) X.1 X.2.1 dX5_isSubstitution_46 (by decide) ?_
          exact hret 0 () _ _ _ _ (by simp [isSubB, bI, c_4, c_8, c_12, c_16]) rfl (hP.sub [] rfl) (hD.sub [] rfl rfl) hS dX5_isSubstitution_47
    · refine lv_iconst (v := 0) X.1 X.2.1 dX5_isSubstitution_22 (by decide) ?_
      exact hret 0 () _ _ _ _ (by simp [isSubB, bI, c_4, c_8]) rfl (hP.sub [] rfl) (hD.sub [] rfl rfl) hS dX5_isSubstitution_23
set_option maxHeartbeats 4000000 in
set_option maxRecDepth 100000 in
theorem c_CF_isForm (l : Launch) (D : va_G) (cI cJ : ClassId) (h0 : Nat) (co : Nat) (pa : Nat) (wo : Nat) (ot : Nat) (le : Nat) (ri : Nat) (wk : Nat) (rg : Nat) (ta : Nat) (n : Nat) (x : Int32)  : CtI l yX5_isForm cX5_isForm 2 .boolean (rmk 0 0) D cI cJ [.ref h0, .int x] [(h0, cfE co (nI n) pa wo ot le ri wk rg ta)] (fun (_ : Unit) => [(h0, cfE co (nI n) pa wo ot le ri wk rg ta)]) (fun (r : Int32) (_ : Unit) => r = bI (isFormB n x)) := by
  refine CtI.of (own := RX5) (by decide +kernel) (Nat.le_of_ble_eq_true rfl) rfl ?_
  intro pr_ en_ sg_ me_ ar_ be_ mt_ co_ AA ls QQ X hA hP hD hS hl hret
  have hl : lv_has ls 2 [(0, .ref h0), (1, .int x)] := hl
  refine lv_iload_n X.1 X.2.1 dX5_isForm_0 rfl (lv_at hl 1 rfl) ?_
  refine bz_lt (tgt := 16) X dX5_isForm_1 (by decide) (fun c_1 => ?_) (fun c_1 => ?_)
  · refine lv_iconst (v := 0) X.1 X.2.1 dX5_isForm_16 (by decide) ?_
    exact hret 0 () _ _ _ _ (by simp [isFormB, bI, c_1]) rfl (hP.sub [0] rfl) (hD.sub [0] rfl rfl) hS dX5_isForm_17
  · refine lv_iload_n X.1 X.2.1 dX5_isForm_4 rfl (lv_at hl 1 rfl) ?_
    refine lv_aload_n X.1 X.2.1 dX5_isForm_5 rfl (lv_at hl 0 rfl) ?_
    refine gf_X5_15 (v := .int (nI n)) X hP 0 rfl rfl dX5_isForm_6 ?_
    refine bi_ge (tgt := 16) X dX5_isForm_9 (by decide) (fun c_2 => ?_) (fun c_2 => ?_)
    · refine lv_iconst (v := 0) X.1 X.2.1 dX5_isForm_16 (by decide) ?_
      exact hret 0 () _ _ _ _ (by simp [isFormB, bI, c_1, c_2]) rfl (hP.sub [0] rfl) (hD.sub [0] rfl rfl) hS dX5_isForm_17
    · refine lv_iconst (v := 1) X.1 X.2.1 dX5_isForm_12 (by decide) ?_
      refine lv_goto (tgt := 17) X.1 X.2.1 dX5_isForm_13 (by decide) ?_
      exact hret 1 () _ _ _ _ (by simp [isFormB, bI, c_1, c_2]) rfl (hP.sub [0] rfl) (hD.sub [0] rfl rfl) hS dX5_isForm_17
set_option maxHeartbeats 4000000 in
set_option maxRecDepth 100000 in
theorem c_CF_load (l : Launch) (D : va_G) (cI cJ : ClassId) (h0 : Nat) (co : Nat) (pa : Nat) (wo : Nat) (ot : Nat) (le : Nat) (ri : Nat) (wk : Nat) (rg : Nat) (ta : Nat) (n : Nat) (C : Nat → Int32) (hf : Nat) (f : Fm) (x : Int32) (hn : n ≤ 60) : CtI l yX5_load cX5_load 4 .boolean (rmk 1 28) D cI cJ [.ref h0, .int x, .ref hf] [(h0, cfE co (nI n) pa wo ot le ri wk rg ta), (co, aiE cI 240 C), (hf, cubE f)] (fun (_ : Unit) => [(h0, cfE co (nI n) pa wo ot le ri wk rg ta), (co, aiE cI 240 C), (hf, cubE (if isFormB n x then ldF C x.toNatClampNeg else f))]) (fun (r : Int32) (_ : Unit) => r = bI (isFormB n x)) := by
  refine CtI.of (own := RX5) (by decide +kernel) (Nat.le_of_ble_eq_true rfl) rfl ?_
  intro pr_ en_ sg_ me_ ar_ be_ mt_ co_ AA ls QQ X hA hP hD hS hl hret
  have hl : lv_has ls 4 [(0, .ref h0), (1, .int x), (2, .ref hf)] := hl
  refine lv_aload_n X.1 X.2.1 dX5_load_0 rfl (lv_at hl 0 rfl) ?_
  refine lv_iload_n X.1 X.2.1 dX5_load_1 rfl (lv_at hl 1 rfl) ?_
  refine fin_i (wr := [(co, aiE cI 240 C), (hf, cubE f)]) (cv_X5_75 X (c_CF_isForm l D cI cJ h0 co pa wo ot le ri wk rg ta n x  _) rfl rfl dX5_load_2 hP hD 0 rfl [0] rfl rfl hl.1 rfl rfl (Nat.le_of_ble_eq_true rfl) ⟨Nat.le_of_ble_eq_true rfl, Nat.le_of_ble_eq_true rfl⟩ ⟨Nat.le_of_ble_eq_true rfl, Nat.le_of_ble_eq_true rfl⟩) hP hD hS hA [0] [1, 2] rfl rfl rfl (by decide) (fun r_3 u_2 H locs w_1 hP hD hS => ?_)
  have hP : va_P D vwCl [(co, aiE cI 240 C), (hf, cubE f), (h0, cfE co (nI n) pa wo ot le ri wk rg ta)] H := hP
  have hD : va_D AA [(co, aiE cI 240 C), (hf, cubE f), (h0, cfE co (nI n) pa wo ot le ri wk rg ta)] := hD
  subst w_1
  refine bb_ne (tgt := 10) X dX5_load_5 (by decide) (fun c_4 => ?_) (fun c_4 => ?_)
  · obtain ⟨k, hk, hx⟩ := isFormB_out hn c_4
    rw [hx] at hl
    refine lv_iload_n X.1 X.2.1 dX5_load_10 rfl (lv_at hl 1 rfl) ?_
    refine lv_iconst (v := 4) X.1 X.2.1 dX5_load_11 (by decide) ?_
    refine lv_imul X.1 X.2.1 dX5_load_12 ?_
    rw [nI_4]
    refine lv_istore_n (lv' := [(3, .int (nI (4 * k))), (0, .ref h0), (1, .int (nI k)), (2, .ref hf)]) X.1 X.2.1 dX5_load_13 rfl hl (by decide) rfl (fun ls hl => ?_)
    refine lv_aload_n X.1 X.2.1 dX5_load_14 rfl (lv_at hl 3 rfl) ?_
    refine lv_aload_n X.1 X.2.1 dX5_load_15 rfl (lv_at hl 1 rfl) ?_
    refine gf_X5_11 (v := .ref co) X hP 2 rfl rfl dX5_load_16 ?_
    refine lv_iload_n X.1 X.2.1 dX5_load_19 rfl (lv_at hl 0 rfl) ?_
    refine va_iald X.1 X.2.1 X.k hP 0 0 rfl rfl (vp_in_nI (by omega) (by omega)) dX5_load_20 ?_
    refine lv_i2l X.1 X.2.1 dX5_load_21 rfl ?_
    refine lv_aload_n X.1 X.2.1 dX5_load_22 rfl (lv_at hl 1 rfl) ?_
    refine gf_X5_11 (v := .ref co) X hP 2 rfl rfl dX5_load_23 ?_
    refine lv_iload_n X.1 X.2.1 dX5_load_26 rfl (lv_at hl 0 rfl) ?_
    refine lv_iconst (v := 1) X.1 X.2.1 dX5_load_27 (by decide) ?_
    refine lv_iadd X.1 X.2.1 dX5_load_28 ?_
    rw [nI_1]
    refine va_iald X.1 X.2.1 X.k hP 0 0 rfl rfl (vp_in_nI (by omega) (by omega)) dX5_load_29 ?_
    refine lv_i2l X.1 X.2.1 dX5_load_30 rfl ?_
    refine lv_aload_n X.1 X.2.1 dX5_load_31 rfl (lv_at hl 1 rfl) ?_
    refine gf_X5_11 (v := .ref co) X hP 2 rfl rfl dX5_load_32 ?_
    refine lv_iload_n X.1 X.2.1 dX5_load_35 rfl (lv_at hl 0 rfl) ?_
    refine lv_iconst (v := 2) X.1 X.2.1 dX5_load_36 (by decide) ?_
    refine lv_iadd X.1 X.2.1 dX5_load_37 ?_
    rw [nI_2]
    refine va_iald X.1 X.2.1 X.k hP 0 0 rfl rfl (vp_in_nI (by omega) (by omega)) dX5_load_38 ?_
    refine lv_i2l X.1 X.2.1 dX5_load_39 rfl ?_
    refine lv_aload_n X.1 X.2.1 dX5_load_40 rfl (lv_at hl 1 rfl) ?_
    refine gf_X5_11 (v := .ref co) X hP 2 rfl rfl dX5_load_41 ?_
    refine lv_iload_n X.1 X.2.1 dX5_load_44 rfl (lv_at hl 0 rfl) ?_
    refine lv_iconst (v := 3) X.1 X.2.1 dX5_load_45 (by decide) ?_
    refine lv_iadd X.1 X.2.1 dX5_load_46 ?_
    rw [nI_3]
    refine va_iald X.1 X.2.1 X.k hP 0 0 rfl rfl (vp_in_nI (by omega) (by omega)) dX5_load_47 ?_
    refine lv_i2l X.1 X.2.1 dX5_load_48 rfl ?_
    refine fin_v (wr := [(co, aiE cI 240 C), (h0, cfE co (nI n) pa wo ot le ri wk rg ta)]) (cv_X5_63 X (c_Cubic_set l D cI cJ hf f ((C ((nI (4 * k)).toNatClampNeg)).toInt64) ((C ((nI (4 * k + 1)).toNatClampNeg)).toInt64) ((C ((nI (4 * k + 2)).toNatClampNeg)).toInt64) ((C ((nI (4 * k + 3)).toNatClampNeg)).toInt64)  _) rfl rfl dX5_load_49 hP hD 1 rfl [1] rfl rfl hl.1 rfl rfl (Nat.le_of_ble_eq_true rfl) ⟨Nat.le_of_ble_eq_true rfl, Nat.le_of_ble_eq_true rfl⟩ ⟨Nat.le_of_ble_eq_true rfl, Nat.le_of_ble_eq_true rfl⟩) hP hD hS hA [1] [0, 2] rfl rfl rfl (by decide) (fun u_6 H locs w_5 hP hD hS => ?_)
    have hP : va_P D vwCl [(co, aiE cI 240 C), (h0, cfE co (nI n) pa wo ot le ri wk rg ta), (hf, cubE (((C ((nI (4 * k)).toNatClampNeg)).toInt64), ((C ((nI (4 * k + 1)).toNatClampNeg)).toInt64), ((C ((nI (4 * k + 2)).toNatClampNeg)).toInt64), ((C ((nI (4 * k + 3)).toNatClampNeg)).toInt64)))] H := hP
    have hD : va_D AA [(co, aiE cI 240 C), (h0, cfE co (nI n) pa wo ot le ri wk rg ta), (hf, cubE (((C ((nI (4 * k)).toNatClampNeg)).toInt64), ((C ((nI (4 * k + 1)).toNatClampNeg)).toInt64), ((C ((nI (4 * k + 2)).toNatClampNeg)).toInt64), ((C ((nI (4 * k + 3)).toNatClampNeg)).toInt64)))] := hD
    have eb := c_4
    rw [show (((C ((nI (4 * k)).toNatClampNeg)).toInt64), ((C ((nI (4 * k + 1)).toNatClampNeg)).toInt64), ((C ((nI (4 * k + 2)).toNatClampNeg)).toInt64), ((C ((nI (4 * k + 3)).toNatClampNeg)).toInt64)) = (if isFormB n x then ldF C x.toNatClampNeg else f) from by rw [if_pos eb, hx, nI_clamp (show k < 2 ^ 31 by omega)]; simp only [ldF, nI_clamp (show 4 * k < 2 ^ 31 by omega), nI_clamp (show 4 * k + 1 < 2 ^ 31 by omega), nI_clamp (show 4 * k + 2 < 2 ^ 31 by omega), nI_clamp (show 4 * k + 3 < 2 ^ 31 by omega), nI_clamp (show 3 * k < 2 ^ 31 by omega), nI_clamp (show 3 * k + 1 < 2 ^ 31 by omega), nI_clamp (show 3 * k + 2 < 2 ^ 31 by omega)]] at hP hD
    refine lv_iconst (v := 1) X.1 X.2.1 dX5_load_52 (by decide) ?_
    exact hret 1 () _ _ _ _ (by rw [c_4]; rfl) rfl (hP.sub [1, 0, 2] rfl) (hD.sub [1, 0, 2] rfl rfl) hS dX5_load_53
  · rw [show f = (if isFormB n x then ldF C x.toNatClampNeg else f) from by rw [c_4]; rfl] at hP hD
    refine lv_iconst (v := 0) X.1 X.2.1 dX5_load_8 (by decide) ?_
    exact hret 0 () _ _ _ _ (by rw [c_4]; rfl) rfl (hP.sub [2, 0, 1] rfl) (hD.sub [2, 0, 1] rfl rfl) hS dX5_load_9
set_option maxHeartbeats 4000000 in
set_option maxRecDepth 100000 in
theorem c_CF_loadElement (l : Launch) (D : va_G) (cI cJ : ClassId) (h0 : Nat) (co : Nat) (pa : Nat) (wo : Nat) (ot : Nat) (le : Nat) (ri : Nat) (wk : Nat) (rg : Nat) (ta : Nat) (n : Nat) (G : Nat → Int32) (hf : Nat) (e : Em) (x : Int32)  : CtI l yX5_loadElement cX5_loadElement 4 .boolean (rmk 1 26) D cI cJ [.ref h0, .int x, .ref hf] [(h0, cfE co (nI n) pa wo ot le ri wk rg ta), (pa, aiE cI 18 G), (hf, elE e)] (fun (_ : Unit) => [(h0, cfE co (nI n) pa wo ot le ri wk rg ta), (pa, aiE cI 18 G), (hf, elE (if isRegB x then ldE G x.toNatClampNeg else e))]) (fun (r : Int32) (_ : Unit) => r = bI (isRegB x)) := by
  refine CtI.of (own := RX5) (by decide +kernel) (Nat.le_of_ble_eq_true rfl) rfl ?_
  intro pr_ en_ sg_ me_ ar_ be_ mt_ co_ AA ls QQ X hA hP hD hS hl hret
  have hl : lv_has ls 4 [(0, .ref h0), (1, .int x), (2, .ref hf)] := hl
  refine lv_iload_n X.1 X.2.1 dX5_loadElement_0 rfl (lv_at hl 1 rfl) ?_
  refine fin_i (wr := [(h0, cfE co (nI n) pa wo ot le ri wk rg ta), (pa, aiE cI 18 G), (hf, elE e)]) (cv_X5_150 X (c_isRegister l D cI cJ x  _) rfl rfl dX5_loadElement_1 hP hD [] rfl rfl hl.1 rfl rfl (Nat.le_of_ble_eq_true rfl) ⟨Nat.le_of_ble_eq_true rfl, Nat.le_of_ble_eq_true rfl⟩ ⟨Nat.le_of_ble_eq_true rfl, Nat.le_of_ble_eq_true rfl⟩) hP hD hS hA [] [0, 1, 2] rfl rfl rfl (by decide) (fun r_3 u_2 H locs w_1 hP hD hS => ?_)
  have hP : va_P D vwCl [(h0, cfE co (nI n) pa wo ot le ri wk rg ta), (pa, aiE cI 18 G), (hf, elE e)] H := hP
  have hD : va_D AA [(h0, cfE co (nI n) pa wo ot le ri wk rg ta), (pa, aiE cI 18 G), (hf, elE e)] := hD
  subst w_1
  refine bb_ne (tgt := 9) X dX5_loadElement_4 (by decide) (fun c_4 => ?_) (fun c_4 => ?_)
  · obtain ⟨k, hk, hx⟩ := isRegB_out c_4
    rw [hx] at hl
    refine lv_iload_n X.1 X.2.1 dX5_loadElement_9 rfl (lv_at hl 1 rfl) ?_
    refine lv_iconst (v := 3) X.1 X.2.1 dX5_loadElement_10 (by decide) ?_
    refine lv_imul X.1 X.2.1 dX5_loadElement_11 ?_
    rw [nI_3m]
    refine lv_istore_n (lv' := [(3, .int (nI (3 * k))), (0, .ref h0), (1, .int (nI k)), (2, .ref hf)]) X.1 X.2.1 dX5_loadElement_12 rfl hl (by decide) rfl (fun ls hl => ?_)
    refine lv_aload_n X.1 X.2.1 dX5_loadElement_13 rfl (lv_at hl 3 rfl) ?_
    refine lv_aload_n X.1 X.2.1 dX5_loadElement_14 rfl (lv_at hl 1 rfl) ?_
    refine gf_X5_19 (v := .ref pa) X hP 0 rfl rfl dX5_loadElement_15 ?_
    refine lv_iload_n X.1 X.2.1 dX5_loadElement_18 rfl (lv_at hl 0 rfl) ?_
    refine va_iald X.1 X.2.1 X.k hP 1 0 rfl rfl (vp_in_nI (by omega) (by omega)) dX5_loadElement_19 ?_
    refine lv_i2l X.1 X.2.1 dX5_loadElement_20 rfl ?_
    refine lv_aload_n X.1 X.2.1 dX5_loadElement_21 rfl (lv_at hl 1 rfl) ?_
    refine gf_X5_19 (v := .ref pa) X hP 0 rfl rfl dX5_loadElement_22 ?_
    refine lv_iload_n X.1 X.2.1 dX5_loadElement_25 rfl (lv_at hl 0 rfl) ?_
    refine lv_iconst (v := 1) X.1 X.2.1 dX5_loadElement_26 (by decide) ?_
    refine lv_iadd X.1 X.2.1 dX5_loadElement_27 ?_
    rw [nI_1]
    refine va_iald X.1 X.2.1 X.k hP 1 0 rfl rfl (vp_in_nI (by omega) (by omega)) dX5_loadElement_28 ?_
    refine lv_i2l X.1 X.2.1 dX5_loadElement_29 rfl ?_
    refine lv_aload_n X.1 X.2.1 dX5_loadElement_30 rfl (lv_at hl 1 rfl) ?_
    refine gf_X5_19 (v := .ref pa) X hP 0 rfl rfl dX5_loadElement_31 ?_
    refine lv_iload_n X.1 X.2.1 dX5_loadElement_34 rfl (lv_at hl 0 rfl) ?_
    refine lv_iconst (v := 2) X.1 X.2.1 dX5_loadElement_35 (by decide) ?_
    refine lv_iadd X.1 X.2.1 dX5_loadElement_36 ?_
    rw [nI_2]
    refine va_iald X.1 X.2.1 X.k hP 1 0 rfl rfl (vp_in_nI (by omega) (by omega)) dX5_loadElement_37 ?_
    refine lv_i2l X.1 X.2.1 dX5_loadElement_38 rfl ?_
    refine fin_v (wr := [(h0, cfE co (nI n) pa wo ot le ri wk rg ta), (pa, aiE cI 18 G)]) (cv_X5_137 X (c_El_set l D cI cJ hf e ((G ((nI (3 * k)).toNatClampNeg)).toInt64) ((G ((nI (3 * k + 1)).toNatClampNeg)).toInt64) ((G ((nI (3 * k + 2)).toNatClampNeg)).toInt64)  _) rfl rfl dX5_loadElement_39 hP hD 2 rfl [2] rfl rfl hl.1 rfl rfl (Nat.le_of_ble_eq_true rfl) ⟨Nat.le_of_ble_eq_true rfl, Nat.le_of_ble_eq_true rfl⟩ ⟨Nat.le_of_ble_eq_true rfl, Nat.le_of_ble_eq_true rfl⟩) hP hD hS hA [2] [0, 1] rfl rfl rfl (by decide) (fun u_6 H locs w_5 hP hD hS => ?_)
    have hP : va_P D vwCl [(h0, cfE co (nI n) pa wo ot le ri wk rg ta), (pa, aiE cI 18 G), (hf, elE (((G ((nI (3 * k)).toNatClampNeg)).toInt64), ((G ((nI (3 * k + 1)).toNatClampNeg)).toInt64), ((G ((nI (3 * k + 2)).toNatClampNeg)).toInt64)))] H := hP
    have hD : va_D AA [(h0, cfE co (nI n) pa wo ot le ri wk rg ta), (pa, aiE cI 18 G), (hf, elE (((G ((nI (3 * k)).toNatClampNeg)).toInt64), ((G ((nI (3 * k + 1)).toNatClampNeg)).toInt64), ((G ((nI (3 * k + 2)).toNatClampNeg)).toInt64)))] := hD
    have eb := c_4
    rw [show (((G ((nI (3 * k)).toNatClampNeg)).toInt64), ((G ((nI (3 * k + 1)).toNatClampNeg)).toInt64), ((G ((nI (3 * k + 2)).toNatClampNeg)).toInt64)) = (if isRegB x then ldE G x.toNatClampNeg else e) from by rw [if_pos eb, hx, nI_clamp (show k < 2 ^ 31 by omega)]; simp only [ldE, nI_clamp (show 4 * k < 2 ^ 31 by omega), nI_clamp (show 4 * k + 1 < 2 ^ 31 by omega), nI_clamp (show 4 * k + 2 < 2 ^ 31 by omega), nI_clamp (show 4 * k + 3 < 2 ^ 31 by omega), nI_clamp (show 3 * k < 2 ^ 31 by omega), nI_clamp (show 3 * k + 1 < 2 ^ 31 by omega), nI_clamp (show 3 * k + 2 < 2 ^ 31 by omega)]] at hP hD
    refine lv_iconst (v := 1) X.1 X.2.1 dX5_loadElement_42 (by decide) ?_
    exact hret 1 () _ _ _ _ (by rw [c_4]; rfl) rfl (hP.sub [0, 1, 2] rfl) (hD.sub [0, 1, 2] rfl rfl) hS dX5_loadElement_43
  · rw [show e = (if isRegB x then ldE G x.toNatClampNeg else e) from by rw [c_4]; rfl] at hP hD
    refine lv_iconst (v := 0) X.1 X.2.1 dX5_loadElement_7 (by decide) ?_
    exact hret 0 () _ _ _ _ (by rw [c_4]; rfl) rfl (hP.sub [0, 1, 2] rfl) (hD.sub [0, 1, 2] rfl rfl) hS dX5_loadElement_8
set_option maxHeartbeats 4000000 in
set_option maxRecDepth 100000 in
theorem c_CF_store (l : Launch) (D : va_G) (cI cJ : ClassId) (h0 : Nat) (co : Nat) (pa : Nat) (wo : Nat) (ot : Nat) (le : Nat) (ri : Nat) (wk : Nat) (rg : Nat) (ta : Nat) (n : Nat) (C : Nat → Int32) (hf : Nat) (f : Fm) (hn : n ≤ 60) : CtI l yX5_store cX5_store 3 .int (rmk 0 0) D cI cJ [.ref h0, .ref hf] [(h0, cfE co (nI n) pa wo ot le ri wk rg ta), (co, aiE cI 240 C), (hf, cubE f)] (fun (_ : Unit) => [(h0, cfE co (nI (stS n C f).1) pa wo ot le ri wk rg ta), (co, aiE cI 240 ((stS n C f).2)), (hf, cubE f)]) (fun (r : Int32) (_ : Unit) => r = stR n) := by
  refine CtI.of (own := RX5) (by decide +kernel) (Nat.le_of_ble_eq_true rfl) rfl ?_
  intro pr_ en_ sg_ me_ ar_ be_ mt_ co_ AA ls QQ X hA hP hD hS hl hret
  have hl : lv_has ls 3 [(0, .ref h0), (1, .ref hf)] := hl
  refine lv_aload_n X.1 X.2.1 dX5_store_0 rfl (lv_at hl 0 rfl) ?_
  refine gf_X5_15 (v := .int (nI n)) X hP 0 rfl rfl dX5_store_1 ?_
  refine lv_bipush (v := 60) X.1 X.2.1 dX5_store_4 (by decide) ?_
  refine bi_lt (tgt := 13) X dX5_store_6 (by decide) (fun c_1 => ?_) (fun c_1 => ?_)
  · have e6 : n < 60 := (nI_ltI (b := 60) (by omega) (by decide)).mp c_1
    refine lv_aload_n X.1 X.2.1 dX5_store_13 rfl (lv_at hl 0 rfl) ?_
    refine gf_X5_15 (v := .int (nI n)) X hP 0 rfl rfl dX5_store_14 ?_
    refine lv_iconst (v := 4) X.1 X.2.1 dX5_store_17 (by decide) ?_
    refine lv_imul X.1 X.2.1 dX5_store_18 ?_
    rw [nI_4]
    refine lv_istore_n (lv' := [(2, .int (nI (4 * n))), (0, .ref h0), (1, .ref hf)]) X.1 X.2.1 dX5_store_19 rfl hl (by decide) rfl (fun ls hl => ?_)
    refine lv_aload_n X.1 X.2.1 dX5_store_20 rfl (lv_at hl 1 rfl) ?_
    refine gf_X5_11 (v := .ref co) X hP 0 rfl rfl dX5_store_21 ?_
    refine lv_iload_n X.1 X.2.1 dX5_store_24 rfl (lv_at hl 0 rfl) ?_
    refine lv_aload_n X.1 X.2.1 dX5_store_25 rfl (lv_at hl 2 rfl) ?_
    refine gf_X5_209 (v := .long f.1) X hP 2 rfl rfl dX5_store_26 ?_
    refine lv_l2i X.1 X.2.1 dX5_store_29 rfl ?_
    refine va_iast X.1 X.2.1 X.k hP hD hS 1 0 rfl rfl (vp_in_nI (by omega) (by omega)) dX5_store_30 (fun H locs hP hD hS => ?_)
    have hP : va_P D vwCl [(h0, cfE co (nI n) pa wo ot le ri wk rg ta), (co, aiE cI 240 (upd C ((nI (4 * n)).toNatClampNeg) f.1.toInt32)), (hf, cubE f)] H := hP
    have hD : va_D AA [(h0, cfE co (nI n) pa wo ot le ri wk rg ta), (co, aiE cI 240 (upd C ((nI (4 * n)).toNatClampNeg) f.1.toInt32)), (hf, cubE f)] := hD
    refine lv_aload_n X.1 X.2.1 dX5_store_31 rfl (lv_at hl 1 rfl) ?_
    refine gf_X5_11 (v := .ref co) X hP 0 rfl rfl dX5_store_32 ?_
    refine lv_iload_n X.1 X.2.1 dX5_store_35 rfl (lv_at hl 0 rfl) ?_
    refine lv_iconst (v := 1) X.1 X.2.1 dX5_store_36 (by decide) ?_
    refine lv_iadd X.1 X.2.1 dX5_store_37 ?_
    rw [nI_1]
    refine lv_aload_n X.1 X.2.1 dX5_store_38 rfl (lv_at hl 2 rfl) ?_
    refine gf_X5_213 (v := .long f.2.1) X hP 2 rfl rfl dX5_store_39 ?_
    refine lv_l2i X.1 X.2.1 dX5_store_42 rfl ?_
    refine va_iast X.1 X.2.1 X.k hP hD hS 1 0 rfl rfl (vp_in_nI (by omega) (by omega)) dX5_store_43 (fun H locs hP hD hS => ?_)
    have hP : va_P D vwCl [(h0, cfE co (nI n) pa wo ot le ri wk rg ta), (co, aiE cI 240 (upd (upd C ((nI (4 * n)).toNatClampNeg) f.1.toInt32) ((nI (4 * n + 1)).toNatClampNeg) f.2.1.toInt32)), (hf, cubE f)] H := hP
    have hD : va_D AA [(h0, cfE co (nI n) pa wo ot le ri wk rg ta), (co, aiE cI 240 (upd (upd C ((nI (4 * n)).toNatClampNeg) f.1.toInt32) ((nI (4 * n + 1)).toNatClampNeg) f.2.1.toInt32)), (hf, cubE f)] := hD
    refine lv_aload_n X.1 X.2.1 dX5_store_44 rfl (lv_at hl 1 rfl) ?_
    refine gf_X5_11 (v := .ref co) X hP 0 rfl rfl dX5_store_45 ?_
    refine lv_iload_n X.1 X.2.1 dX5_store_48 rfl (lv_at hl 0 rfl) ?_
    refine lv_iconst (v := 2) X.1 X.2.1 dX5_store_49 (by decide) ?_
    refine lv_iadd X.1 X.2.1 dX5_store_50 ?_
    rw [nI_2]
    refine lv_aload_n X.1 X.2.1 dX5_store_51 rfl (lv_at hl 2 rfl) ?_
    refine gf_X5_216 (v := .long f.2.2.1) X hP 2 rfl rfl dX5_store_52 ?_
    refine lv_l2i X.1 X.2.1 dX5_store_55 rfl ?_
    refine va_iast X.1 X.2.1 X.k hP hD hS 1 0 rfl rfl (vp_in_nI (by omega) (by omega)) dX5_store_56 (fun H locs hP hD hS => ?_)
    have hP : va_P D vwCl [(h0, cfE co (nI n) pa wo ot le ri wk rg ta), (co, aiE cI 240 (upd (upd (upd C ((nI (4 * n)).toNatClampNeg) f.1.toInt32) ((nI (4 * n + 1)).toNatClampNeg) f.2.1.toInt32) ((nI (4 * n + 2)).toNatClampNeg) f.2.2.1.toInt32)), (hf, cubE f)] H := hP
    have hD : va_D AA [(h0, cfE co (nI n) pa wo ot le ri wk rg ta), (co, aiE cI 240 (upd (upd (upd C ((nI (4 * n)).toNatClampNeg) f.1.toInt32) ((nI (4 * n + 1)).toNatClampNeg) f.2.1.toInt32) ((nI (4 * n + 2)).toNatClampNeg) f.2.2.1.toInt32)), (hf, cubE f)] := hD
    refine lv_aload_n X.1 X.2.1 dX5_store_57 rfl (lv_at hl 1 rfl) ?_
    refine gf_X5_11 (v := .ref co) X hP 0 rfl rfl dX5_store_58 ?_
    refine lv_iload_n X.1 X.2.1 dX5_store_61 rfl (lv_at hl 0 rfl) ?_
    refine lv_iconst (v := 3) X.1 X.2.1 dX5_store_62 (by decide) ?_
    refine lv_iadd X.1 X.2.1 dX5_store_63 ?_
    rw [nI_3]
    refine lv_aload_n X.1 X.2.1 dX5_store_64 rfl (lv_at hl 2 rfl) ?_
    refine gf_X5_219 (v := .long f.2.2.2) X hP 2 rfl rfl dX5_store_65 ?_
    refine lv_l2i X.1 X.2.1 dX5_store_68 rfl ?_
    refine va_iast X.1 X.2.1 X.k hP hD hS 1 0 rfl rfl (vp_in_nI (by omega) (by omega)) dX5_store_69 (fun H locs hP hD hS => ?_)
    have hP : va_P D vwCl [(h0, cfE co (nI n) pa wo ot le ri wk rg ta), (co, aiE cI 240 (upd (upd (upd (upd C ((nI (4 * n)).toNatClampNeg) f.1.toInt32) ((nI (4 * n + 1)).toNatClampNeg) f.2.1.toInt32) ((nI (4 * n + 2)).toNatClampNeg) f.2.2.1.toInt32) ((nI (4 * n + 3)).toNatClampNeg) f.2.2.2.toInt32)), (hf, cubE f)] H := hP
    have hD : va_D AA [(h0, cfE co (nI n) pa wo ot le ri wk rg ta), (co, aiE cI 240 (upd (upd (upd (upd C ((nI (4 * n)).toNatClampNeg) f.1.toInt32) ((nI (4 * n + 1)).toNatClampNeg) f.2.1.toInt32) ((nI (4 * n + 2)).toNatClampNeg) f.2.2.1.toInt32) ((nI (4 * n + 3)).toNatClampNeg) f.2.2.2.toInt32)), (hf, cubE f)] := hD
    refine lv_aload_n X.1 X.2.1 dX5_store_70 rfl (lv_at hl 1 rfl) ?_
    refine lv_dup X.1 X.2.1 dX5_store_71 rfl ?_
    refine gf_X5_15 (v := .int (nI n)) X hP 0 rfl rfl dX5_store_72 ?_
    refine lv_iconst (v := 1) X.1 X.2.1 dX5_store_75 (by decide) ?_
    refine lv_iadd X.1 X.2.1 dX5_store_76 ?_
    rw [nI_1]
    refine pf_X5_15 X hP hD hS 0 rfl rfl rfl (Nat.le_of_ble_eq_true rfl) dX5_store_77 (fun H locs hP hD hS => ?_)
    have hP : va_P D vwCl [(h0, cfE co (nI (n + 1)) pa wo ot le ri wk rg ta), (co, aiE cI 240 (upd (upd (upd (upd C ((nI (4 * n)).toNatClampNeg) f.1.toInt32) ((nI (4 * n + 1)).toNatClampNeg) f.2.1.toInt32) ((nI (4 * n + 2)).toNatClampNeg) f.2.2.1.toInt32) ((nI (4 * n + 3)).toNatClampNeg) f.2.2.2.toInt32)), (hf, cubE f)] H := hP
    have hD : va_D AA [(h0, cfE co (nI (n + 1)) pa wo ot le ri wk rg ta), (co, aiE cI 240 (upd (upd (upd (upd C ((nI (4 * n)).toNatClampNeg) f.1.toInt32) ((nI (4 * n + 1)).toNatClampNeg) f.2.1.toInt32) ((nI (4 * n + 2)).toNatClampNeg) f.2.2.1.toInt32) ((nI (4 * n + 3)).toNatClampNeg) f.2.2.2.toInt32)), (hf, cubE f)] := hD
    refine lv_aload_n X.1 X.2.1 dX5_store_80 rfl (lv_at hl 1 rfl) ?_
    refine gf_X5_15 (v := .int (nI (n + 1))) X hP 0 rfl rfl dX5_store_81 ?_
    refine lv_iconst (v := 1) X.1 X.2.1 dX5_store_84 (by decide) ?_
    refine lv_isub X.1 X.2.1 dX5_store_85 ?_
    rw [nI_pred]
    rw [nI_clamp (show 4 * n < 2 ^ 31 by omega), nI_clamp (show 4 * n + 1 < 2 ^ 31 by omega), nI_clamp (show 4 * n + 2 < 2 ^ 31 by omega), nI_clamp (show 4 * n + 3 < 2 ^ 31 by omega)] at hP hD
    have e0 : stS n C f = (n + 1, stA C n f) := by rw [stS, if_pos e6]
    have hP : va_P D vwCl [(h0, cfE co (nI (stS n C f).1) pa wo ot le ri wk rg ta), (co, aiE cI 240 ((stS n C f).2)), (hf, cubE f)] H := by rw [e0]; exact hP
    have hD : va_D AA [(h0, cfE co (nI (stS n C f).1) pa wo ot le ri wk rg ta), (co, aiE cI 240 ((stS n C f).2)), (hf, cubE f)] := by rw [e0]; exact hD
    exact hret (nI n) () _ _ _ _ (by rw [stR, if_pos e6]) rfl (hP.sub [0, 1, 2] rfl) (hD.sub [0, 1, 2] rfl rfl) hS dX5_store_86
  · have e6 : ¬ n < 60 := fun q => c_1 ((nI_ltI (b := 60) (by omega) (by decide)).mpr q)
    have e0 : stS n C f = (n, C) := by rw [stS, if_neg e6]
    have hP : va_P D vwCl [(h0, cfE co (nI (stS n C f).1) pa wo ot le ri wk rg ta), (co, aiE cI 240 ((stS n C f).2)), (hf, cubE f)] sg_.heap := by rw [e0]; exact hP
    have hD : va_D AA [(h0, cfE co (nI (stS n C f).1) pa wo ot le ri wk rg ta), (co, aiE cI 240 ((stS n C f).2)), (hf, cubE f)] := by rw [e0]; exact hD
    refine lv_sipush (v := (-10004)) X.1 X.2.1 dX5_store_9 (by decide) ?_
    exact hret (-10004) () _ _ _ _ (by rw [stR, if_neg e6]) rfl (hP.sub [0, 1, 2] rfl) (hD.sub [0, 1, 2] rfl rfl) hS dX5_store_12
set_option maxHeartbeats 4000000 in
set_option maxRecDepth 100000 in
theorem c_CF_storeIfFits (l : Launch) (D : va_G) (cI cJ : ClassId) (h0 : Nat) (co : Nat) (pa : Nat) (wo : Nat) (ot : Nat) (le : Nat) (ri : Nat) (wk : Nat) (rg : Nat) (ta : Nat) (n : Nat) (C : Nat → Int32) (hf : Nat) (f : Fm) (hn : n ≤ 60) : CtI l yX5_storeIfFits cX5_storeIfFits 2 .int (rmk 2 43) D cI cJ [.ref h0, .ref hf] [(h0, cfE co (nI n) pa wo ot le ri wk rg ta), (co, aiE cI 240 C), (hf, cubE f)] (fun (_ : Unit) => [(h0, cfE co (nI (sifS n C f).1) pa wo ot le ri wk rg ta), (co, aiE cI 240 ((sifS n C f).2)), (hf, cubE f)]) (fun (r : Int32) (_ : Unit) => r = sifR n f) := by
  refine CtI.of (own := RX5) (by decide +kernel) (Nat.le_of_ble_eq_true rfl) rfl ?_
  intro pr_ en_ sg_ me_ ar_ be_ mt_ co_ AA ls QQ X hA hP hD hS hl hret
  have hl : lv_has ls 2 [(0, .ref h0), (1, .ref hf)] := hl
  refine lv_aload_n X.1 X.2.1 dX5_storeIfFits_0 rfl (lv_at hl 1 rfl) ?_
  refine fin_i (wr := [(h0, cfE co (nI n) pa wo ot le ri wk rg ta), (co, aiE cI 240 C)]) (cv_X5_67 X (c_Cubic_fitsStore l D cI cJ hf f  _) rfl rfl dX5_storeIfFits_1 hP hD 2 rfl [2] rfl rfl hl.1 rfl rfl (Nat.le_of_ble_eq_true rfl) ⟨Nat.le_of_ble_eq_true rfl, Nat.le_of_ble_eq_true rfl⟩ ⟨Nat.le_of_ble_eq_true rfl, Nat.le_of_ble_eq_true rfl⟩) hP hD hS hA [2] [0, 1] rfl rfl rfl (by decide) (fun r_3 u_2 H locs w_1 hP hD hS => ?_)
  have hP : va_P D vwCl [(h0, cfE co (nI n) pa wo ot le ri wk rg ta), (co, aiE cI 240 C), (hf, cubE f)] H := hP
  have hD : va_D AA [(h0, cfE co (nI n) pa wo ot le ri wk rg ta), (co, aiE cI 240 C), (hf, cubE f)] := hD
  subst w_1
  refine bb_eq (tgt := 15) X dX5_storeIfFits_4 (by decide) (fun c_4 => ?_) (fun c_4 => ?_)
  · refine lv_sipush (v := (-10005)) X.1 X.2.1 dX5_storeIfFits_15 (by decide) ?_
    have e0 : sifS n C f = (n, C) := by rw [sifS, if_neg (by rw [c_4]; decide)]
    have hP : va_P D vwCl [(h0, cfE co (nI (sifS n C f).1) pa wo ot le ri wk rg ta), (co, aiE cI 240 ((sifS n C f).2)), (hf, cubE f)] H := by rw [e0]; exact hP
    have hD : va_D AA [(h0, cfE co (nI (sifS n C f).1) pa wo ot le ri wk rg ta), (co, aiE cI 240 ((sifS n C f).2)), (hf, cubE f)] := by rw [e0]; exact hD
    exact hret (-10005) () _ _ _ _ (by rw [sifR, if_neg (by rw [c_4]; decide)]) rfl (hP.sub [0, 1, 2] rfl) (hD.sub [0, 1, 2] rfl rfl) hS dX5_storeIfFits_18
  · refine lv_aload_n X.1 X.2.1 dX5_storeIfFits_7 rfl (lv_at hl 0 rfl) ?_
    refine lv_aload_n X.1 X.2.1 dX5_storeIfFits_8 rfl (lv_at hl 1 rfl) ?_
    refine fin_i (wr := []) (cv_X5_71 X (c_CF_store l D cI cJ h0 co pa wo ot le ri wk rg ta n C hf f (by first | assumption | omega) _) rfl rfl dX5_storeIfFits_9 hP hD 0 rfl [0, 1, 2] rfl rfl hl.1 rfl rfl (Nat.le_of_ble_eq_true rfl) ⟨Nat.le_of_ble_eq_true rfl, Nat.le_of_ble_eq_true rfl⟩ ⟨Nat.le_of_ble_eq_true rfl, Nat.le_of_ble_eq_true rfl⟩) hP hD hS hA [0, 1, 2] [] rfl rfl rfl (by decide) (fun r_7 u_6 H locs w_5 hP hD hS => ?_)
    have hP : va_P D vwCl [(h0, cfE co (nI (stS n C f).1) pa wo ot le ri wk rg ta), (co, aiE cI 240 ((stS n C f).2)), (hf, cubE f)] H := hP
    have hD : va_D AA [(h0, cfE co (nI (stS n C f).1) pa wo ot le ri wk rg ta), (co, aiE cI 240 ((stS n C f).2)), (hf, cubE f)] := hD
    subst w_5
    refine lv_goto (tgt := 18) X.1 X.2.1 dX5_storeIfFits_12 (by decide) ?_
    have e0 : sifS n C f = stS n C f := by rw [sifS, if_pos c_4]
    have hP : va_P D vwCl [(h0, cfE co (nI (sifS n C f).1) pa wo ot le ri wk rg ta), (co, aiE cI 240 ((sifS n C f).2)), (hf, cubE f)] H := by rw [e0]; exact hP
    have hD : va_D AA [(h0, cfE co (nI (sifS n C f).1) pa wo ot le ri wk rg ta), (co, aiE cI 240 ((sifS n C f).2)), (hf, cubE f)] := by rw [e0]; exact hD
    exact hret (stR n) () _ _ _ _ (by rw [sifR, if_pos c_4]) rfl (hP.sub [0, 1, 2] rfl) (hD.sub [0, 1, 2] rfl rfl) hS dX5_storeIfFits_18
set_option maxHeartbeats 4000000 in
set_option maxRecDepth 100000 in
theorem c_CF_storeElement (l : Launch) (D : va_G) (cI cJ : ClassId) (h0 : Nat) (co : Nat) (pa : Nat) (wo : Nat) (ot : Nat) (le : Nat) (ri : Nat) (wk : Nat) (rg : Nat) (ta : Nat) (n : Nat) (G : Nat → Int32) (hf : Nat) (e : Em) (x : Int32)  : CtV l yX5_storeElement cX5_storeElement 4 (rmk 1 20) D cI cJ [.ref h0, .int x, .ref hf] [(h0, cfE co (nI n) pa wo ot le ri wk rg ta), (pa, aiE cI 18 G), (hf, elE e)] (fun (_ : Unit) => [(h0, cfE co (nI n) pa wo ot le ri wk rg ta), (pa, aiE cI 18 (if isRegB x then stE G x.toNatClampNeg e else G)), (hf, elE e)]) (fun (_ : Unit) => True) 0 0 := by
  refine CtV.of (own := RX5) (by decide +kernel) (Nat.le_of_ble_eq_true rfl) rfl ?_
  intro pr_ en_ sg_ me_ ar_ be_ mt_ co_ AA ls QQ X hin hA hP hD hS hl hret
  have hl : lv_has ls 4 [(0, .ref h0), (1, .int x), (2, .ref hf)] := hl
  refine lv_iload_n X.1 X.2.1 dX5_storeElement_0 rfl (lv_at hl 1 rfl) ?_
  refine fin_i (wr := [(h0, cfE co (nI n) pa wo ot le ri wk rg ta), (pa, aiE cI 18 G), (hf, elE e)]) (cv_X5_150 X (c_isRegister l D cI cJ x  _) rfl rfl dX5_storeElement_1 hP hD [] rfl rfl hl.1 rfl rfl (Nat.le_of_ble_eq_true rfl) ⟨Nat.le_of_ble_eq_true rfl, Nat.le_of_ble_eq_true rfl⟩ ⟨Nat.le_of_ble_eq_true rfl, Nat.le_of_ble_eq_true rfl⟩) hP hD hS hA [] [0, 1, 2] rfl rfl rfl (by decide) (fun r_3 u_2 H locs w_1 hP hD hS => ?_)
  have hP : va_P D vwCl [(h0, cfE co (nI n) pa wo ot le ri wk rg ta), (pa, aiE cI 18 G), (hf, elE e)] H := hP
  have hD : va_D AA [(h0, cfE co (nI n) pa wo ot le ri wk rg ta), (pa, aiE cI 18 G), (hf, elE e)] := hD
  subst w_1
  refine bb_eq (tgt := 48) X dX5_storeElement_4 (by decide) (fun c_4 => ?_) (fun c_4 => ?_)
  · have e0 : (if isRegB x then stE G x.toNatClampNeg e else G) = G := by rw [c_4]; rfl
    have hP : va_P D vwCl [(h0, cfE co (nI n) pa wo ot le ri wk rg ta), (pa, aiE cI 18 (if isRegB x then stE G x.toNatClampNeg e else G)), (hf, elE e)] H := by rw [e0]; exact hP
    have hD : va_D AA [(h0, cfE co (nI n) pa wo ot le ri wk rg ta), (pa, aiE cI 18 (if isRegB x then stE G x.toNatClampNeg e else G)), (hf, elE e)] := by rw [e0]; exact hD
    exact hret () _ _ _ _ (trivial) (hP.sub [0, 1, 2] rfl) (hD.sub [0, 1, 2] rfl rfl) hS dX5_storeElement_48
  · obtain ⟨k, hk, hx⟩ := isRegB_out c_4
    rw [hx] at hl
    refine lv_iload_n X.1 X.2.1 dX5_storeElement_7 rfl (lv_at hl 1 rfl) ?_
    refine lv_iconst (v := 3) X.1 X.2.1 dX5_storeElement_8 (by decide) ?_
    refine lv_imul X.1 X.2.1 dX5_storeElement_9 ?_
    rw [nI_3m]
    refine lv_istore_n (lv' := [(3, .int (nI (3 * k))), (0, .ref h0), (1, .int (nI k)), (2, .ref hf)]) X.1 X.2.1 dX5_storeElement_10 rfl hl (by decide) rfl (fun ls hl => ?_)
    refine lv_aload_n X.1 X.2.1 dX5_storeElement_11 rfl (lv_at hl 1 rfl) ?_
    refine gf_X5_19 (v := .ref pa) X hP 0 rfl rfl dX5_storeElement_12 ?_
    refine lv_iload_n X.1 X.2.1 dX5_storeElement_15 rfl (lv_at hl 0 rfl) ?_
    refine lv_aload_n X.1 X.2.1 dX5_storeElement_16 rfl (lv_at hl 3 rfl) ?_
    refine gf_X5_222 (v := .long e.1) X hP 2 rfl rfl dX5_storeElement_17 ?_
    refine lv_l2i X.1 X.2.1 dX5_storeElement_20 rfl ?_
    refine va_iast X.1 X.2.1 X.k hP hD hS 1 0 rfl rfl (vp_in_nI (by omega) (by omega)) dX5_storeElement_21 (fun H locs hP hD hS => ?_)
    have hP : va_P D vwCl [(h0, cfE co (nI n) pa wo ot le ri wk rg ta), (pa, aiE cI 18 (upd G ((nI (3 * k)).toNatClampNeg) e.1.toInt32)), (hf, elE e)] H := hP
    have hD : va_D AA [(h0, cfE co (nI n) pa wo ot le ri wk rg ta), (pa, aiE cI 18 (upd G ((nI (3 * k)).toNatClampNeg) e.1.toInt32)), (hf, elE e)] := hD
    refine lv_aload_n X.1 X.2.1 dX5_storeElement_22 rfl (lv_at hl 1 rfl) ?_
    refine gf_X5_19 (v := .ref pa) X hP 0 rfl rfl dX5_storeElement_23 ?_
    refine lv_iload_n X.1 X.2.1 dX5_storeElement_26 rfl (lv_at hl 0 rfl) ?_
    refine lv_iconst (v := 1) X.1 X.2.1 dX5_storeElement_27 (by decide) ?_
    refine lv_iadd X.1 X.2.1 dX5_storeElement_28 ?_
    rw [nI_1]
    refine lv_aload_n X.1 X.2.1 dX5_storeElement_29 rfl (lv_at hl 3 rfl) ?_
    refine gf_X5_225 (v := .long e.2.1) X hP 2 rfl rfl dX5_storeElement_30 ?_
    refine lv_l2i X.1 X.2.1 dX5_storeElement_33 rfl ?_
    refine va_iast X.1 X.2.1 X.k hP hD hS 1 0 rfl rfl (vp_in_nI (by omega) (by omega)) dX5_storeElement_34 (fun H locs hP hD hS => ?_)
    have hP : va_P D vwCl [(h0, cfE co (nI n) pa wo ot le ri wk rg ta), (pa, aiE cI 18 (upd (upd G ((nI (3 * k)).toNatClampNeg) e.1.toInt32) ((nI (3 * k + 1)).toNatClampNeg) e.2.1.toInt32)), (hf, elE e)] H := hP
    have hD : va_D AA [(h0, cfE co (nI n) pa wo ot le ri wk rg ta), (pa, aiE cI 18 (upd (upd G ((nI (3 * k)).toNatClampNeg) e.1.toInt32) ((nI (3 * k + 1)).toNatClampNeg) e.2.1.toInt32)), (hf, elE e)] := hD
    refine lv_aload_n X.1 X.2.1 dX5_storeElement_35 rfl (lv_at hl 1 rfl) ?_
    refine gf_X5_19 (v := .ref pa) X hP 0 rfl rfl dX5_storeElement_36 ?_
    refine lv_iload_n X.1 X.2.1 dX5_storeElement_39 rfl (lv_at hl 0 rfl) ?_
    refine lv_iconst (v := 2) X.1 X.2.1 dX5_storeElement_40 (by decide) ?_
    refine lv_iadd X.1 X.2.1 dX5_storeElement_41 ?_
    rw [nI_2]
    refine lv_aload_n X.1 X.2.1 dX5_storeElement_42 rfl (lv_at hl 3 rfl) ?_
    refine gf_X5_228 (v := .long e.2.2) X hP 2 rfl rfl dX5_storeElement_43 ?_
    refine lv_l2i X.1 X.2.1 dX5_storeElement_46 rfl ?_
    refine va_iast X.1 X.2.1 X.k hP hD hS 1 0 rfl rfl (vp_in_nI (by omega) (by omega)) dX5_storeElement_47 (fun H locs hP hD hS => ?_)
    have hP : va_P D vwCl [(h0, cfE co (nI n) pa wo ot le ri wk rg ta), (pa, aiE cI 18 (upd (upd (upd G ((nI (3 * k)).toNatClampNeg) e.1.toInt32) ((nI (3 * k + 1)).toNatClampNeg) e.2.1.toInt32) ((nI (3 * k + 2)).toNatClampNeg) e.2.2.toInt32)), (hf, elE e)] H := hP
    have hD : va_D AA [(h0, cfE co (nI n) pa wo ot le ri wk rg ta), (pa, aiE cI 18 (upd (upd (upd G ((nI (3 * k)).toNatClampNeg) e.1.toInt32) ((nI (3 * k + 1)).toNatClampNeg) e.2.1.toInt32) ((nI (3 * k + 2)).toNatClampNeg) e.2.2.toInt32)), (hf, elE e)] := hD
    rw [nI_clamp (show 3 * k < 2 ^ 31 by omega), nI_clamp (show 3 * k + 1 < 2 ^ 31 by omega), nI_clamp (show 3 * k + 2 < 2 ^ 31 by omega)] at hP hD
    have e0 : (if isRegB x then stE G x.toNatClampNeg e else G) = stE G k e := by rw [if_pos c_4, hx, nI_clamp (by omega)]
    have hP : va_P D vwCl [(h0, cfE co (nI n) pa wo ot le ri wk rg ta), (pa, aiE cI 18 (if isRegB x then stE G x.toNatClampNeg e else G)), (hf, elE e)] H := by rw [e0]; exact hP
    have hD : va_D AA [(h0, cfE co (nI n) pa wo ot le ri wk rg ta), (pa, aiE cI 18 (if isRegB x then stE G x.toNatClampNeg e else G)), (hf, elE e)] := by rw [e0]; exact hD
    exact hret () _ _ _ _ (trivial) (hP.sub [0, 1, 2] rfl) (hD.sub [0, 1, 2] rfl rfl) hS dX5_storeElement_48
set_option maxHeartbeats 4000000 in
set_option maxRecDepth 100000 in
theorem c_CF_addForm (l : Launch) (D : va_G) (cI cJ : ClassId) (h0 : Nat) (co : Nat) (pa : Nat) (wo : Nat) (ot : Nat) (le : Nat) (ri : Nat) (wk : Nat) (rg : Nat) (ta : Nat) (n : Nat) (C : Nat → Int32) (f : Fm) (a : Int32) (b : Int32) (c : Int32) (d : Int32) (hn : n ≤ 60) : CtI l yX5_addForm cX5_addForm 5 .int (rmk 2 43) D cI cJ [.ref h0, .int a, .int b, .int c, .int d] [(h0, cfE co (nI n) pa wo ot le ri wk rg ta), (co, aiE cI 240 C), (wo, cubE f)] (fun (u : Fm) => [(h0, cfE co (nI (sifS n C (a.toInt64, b.toInt64, c.toInt64, d.toInt64)).1) pa wo ot le ri wk rg ta), (co, aiE cI 240 ((sifS n C (a.toInt64, b.toInt64, c.toInt64, d.toInt64)).2)), (wo, cubE u)]) (fun (r : Int32) (u : Fm) => r = if fitsF (a.toInt64, b.toInt64, c.toInt64, d.toInt64) then stR n else (-10003)) := by
  refine CtI.of (own := RX5) (by decide +kernel) (Nat.le_of_ble_eq_true rfl) rfl ?_
  intro pr_ en_ sg_ me_ ar_ be_ mt_ co_ AA ls QQ X hA hP hD hS hl hret
  have hl : lv_has ls 5 [(0, .ref h0), (1, .int a), (2, .int b), (3, .int c), (4, .int d)] := hl
  refine lv_aload_n X.1 X.2.1 dX5_addForm_0 rfl (lv_at hl 0 rfl) ?_
  refine gf_X5_25 (v := .ref wo) X hP 0 rfl rfl dX5_addForm_1 ?_
  refine lv_iload_n X.1 X.2.1 dX5_addForm_4 rfl (lv_at hl 1 rfl) ?_
  refine lv_i2l X.1 X.2.1 dX5_addForm_5 rfl ?_
  refine lv_iload_n X.1 X.2.1 dX5_addForm_6 rfl (lv_at hl 2 rfl) ?_
  refine lv_i2l X.1 X.2.1 dX5_addForm_7 rfl ?_
  refine lv_iload_n X.1 X.2.1 dX5_addForm_8 rfl (lv_at hl 3 rfl) ?_
  refine lv_i2l X.1 X.2.1 dX5_addForm_9 rfl ?_
  refine lv_iload X.1 X.2.1 dX5_addForm_10 (lv_at hl 4 rfl) ?_
  refine lv_i2l X.1 X.2.1 dX5_addForm_12 rfl ?_
  refine fin_v (wr := [(h0, cfE co (nI n) pa wo ot le ri wk rg ta), (co, aiE cI 240 C)]) (cv_X5_63 X (c_Cubic_set l D cI cJ wo f a.toInt64 b.toInt64 c.toInt64 d.toInt64  _) rfl rfl dX5_addForm_13 hP hD 2 rfl [2] rfl rfl hl.1 rfl rfl (Nat.le_of_ble_eq_true rfl) ⟨Nat.le_of_ble_eq_true rfl, Nat.le_of_ble_eq_true rfl⟩ ⟨Nat.le_of_ble_eq_true rfl, Nat.le_of_ble_eq_true rfl⟩) hP hD hS hA [2] [0, 1] rfl rfl rfl (by decide) (fun u_2 H locs w_1 hP hD hS => ?_)
  have hP : va_P D vwCl [(h0, cfE co (nI n) pa wo ot le ri wk rg ta), (co, aiE cI 240 C), (wo, cubE (a.toInt64, b.toInt64, c.toInt64, d.toInt64))] H := hP
  have hD : va_D AA [(h0, cfE co (nI n) pa wo ot le ri wk rg ta), (co, aiE cI 240 C), (wo, cubE (a.toInt64, b.toInt64, c.toInt64, d.toInt64))] := hD
  refine lv_aload_n X.1 X.2.1 dX5_addForm_16 rfl (lv_at hl 0 rfl) ?_
  refine gf_X5_25 (v := .ref wo) X hP 0 rfl rfl dX5_addForm_17 ?_
  refine fin_i (wr := [(h0, cfE co (nI n) pa wo ot le ri wk rg ta), (co, aiE cI 240 C)]) (cv_X5_67 X (c_Cubic_fitsStore l D cI cJ wo (a.toInt64, b.toInt64, c.toInt64, d.toInt64)  _) rfl rfl dX5_addForm_20 hP hD 2 rfl [2] rfl rfl hl.1 rfl rfl (Nat.le_of_ble_eq_true rfl) ⟨Nat.le_of_ble_eq_true rfl, Nat.le_of_ble_eq_true rfl⟩ ⟨Nat.le_of_ble_eq_true rfl, Nat.le_of_ble_eq_true rfl⟩) hP hD hS hA [2] [0, 1] rfl rfl rfl (by decide) (fun r_6 u_5 H locs w_4 hP hD hS => ?_)
  have hP : va_P D vwCl [(h0, cfE co (nI n) pa wo ot le ri wk rg ta), (co, aiE cI 240 C), (wo, cubE (a.toInt64, b.toInt64, c.toInt64, d.toInt64))] H := hP
  have hD : va_D AA [(h0, cfE co (nI n) pa wo ot le ri wk rg ta), (co, aiE cI 240 C), (wo, cubE (a.toInt64, b.toInt64, c.toInt64, d.toInt64))] := hD
  subst w_4
  refine bb_ne (tgt := 30) X dX5_addForm_23 (by decide) (fun c_7 => ?_) (fun c_7 => ?_)
  · refine lv_aload_n X.1 X.2.1 dX5_addForm_30 rfl (lv_at hl 0 rfl) ?_
    refine lv_aload_n X.1 X.2.1 dX5_addForm_31 rfl (lv_at hl 0 rfl) ?_
    refine gf_X5_25 (v := .ref wo) X hP 0 rfl rfl dX5_addForm_32 ?_
    refine fin_i (wr := []) (cv_X5_71 X (c_CF_store l D cI cJ h0 co pa wo ot le ri wk rg ta n C wo (a.toInt64, b.toInt64, c.toInt64, d.toInt64) (by first | assumption | omega) _) rfl rfl dX5_addForm_35 hP hD 0 rfl [0, 1, 2] rfl rfl hl.1 rfl rfl (Nat.le_of_ble_eq_true rfl) ⟨Nat.le_of_ble_eq_true rfl, Nat.le_of_ble_eq_true rfl⟩ ⟨Nat.le_of_ble_eq_true rfl, Nat.le_of_ble_eq_true rfl⟩) hP hD hS hA [0, 1, 2] [] rfl rfl rfl (by decide) (fun r_10 u_9 H locs w_8 hP hD hS => ?_)
    have hP : va_P D vwCl [(h0, cfE co (nI (stS n C (a.toInt64, b.toInt64, c.toInt64, d.toInt64)).1) pa wo ot le ri wk rg ta), (co, aiE cI 240 ((stS n C (a.toInt64, b.toInt64, c.toInt64, d.toInt64)).2)), (wo, cubE (a.toInt64, b.toInt64, c.toInt64, d.toInt64))] H := hP
    have hD : va_D AA [(h0, cfE co (nI (stS n C (a.toInt64, b.toInt64, c.toInt64, d.toInt64)).1) pa wo ot le ri wk rg ta), (co, aiE cI 240 ((stS n C (a.toInt64, b.toInt64, c.toInt64, d.toInt64)).2)), (wo, cubE (a.toInt64, b.toInt64, c.toInt64, d.toInt64))] := hD
    subst w_8
    have e0 : sifS n C (a.toInt64, b.toInt64, c.toInt64, d.toInt64) = stS n C (a.toInt64, b.toInt64, c.toInt64, d.toInt64) := by rw [sifS, if_pos c_7]
    have hP : va_P D vwCl [(h0, cfE co (nI (sifS n C (a.toInt64, b.toInt64, c.toInt64, d.toInt64)).1) pa wo ot le ri wk rg ta), (co, aiE cI 240 ((sifS n C (a.toInt64, b.toInt64, c.toInt64, d.toInt64)).2)), (wo, cubE (a.toInt64, b.toInt64, c.toInt64, d.toInt64))] H := by rw [e0]; exact hP
    have hD : va_D AA [(h0, cfE co (nI (sifS n C (a.toInt64, b.toInt64, c.toInt64, d.toInt64)).1) pa wo ot le ri wk rg ta), (co, aiE cI 240 ((sifS n C (a.toInt64, b.toInt64, c.toInt64, d.toInt64)).2)), (wo, cubE (a.toInt64, b.toInt64, c.toInt64, d.toInt64))] := by rw [e0]; exact hD
    exact hret (stR n) (a.toInt64, b.toInt64, c.toInt64, d.toInt64) _ _ _ _ (by rw [if_pos c_7]) rfl (hP.sub [0, 1, 2] rfl) (hD.sub [0, 1, 2] rfl rfl) hS dX5_addForm_38
  · have e0 : sifS n C (a.toInt64, b.toInt64, c.toInt64, d.toInt64) = (n, C) := by rw [sifS, if_neg (by rw [c_7]; decide)]
    have hP : va_P D vwCl [(h0, cfE co (nI (sifS n C (a.toInt64, b.toInt64, c.toInt64, d.toInt64)).1) pa wo ot le ri wk rg ta), (co, aiE cI 240 ((sifS n C (a.toInt64, b.toInt64, c.toInt64, d.toInt64)).2)), (wo, cubE (a.toInt64, b.toInt64, c.toInt64, d.toInt64))] H := by rw [e0]; exact hP
    have hD : va_D AA [(h0, cfE co (nI (sifS n C (a.toInt64, b.toInt64, c.toInt64, d.toInt64)).1) pa wo ot le ri wk rg ta), (co, aiE cI 240 ((sifS n C (a.toInt64, b.toInt64, c.toInt64, d.toInt64)).2)), (wo, cubE (a.toInt64, b.toInt64, c.toInt64, d.toInt64))] := by rw [e0]; exact hD
    refine lv_sipush (v := (-10003)) X.1 X.2.1 dX5_addForm_26 (by decide) ?_
    exact hret (-10003) (a.toInt64, b.toInt64, c.toInt64, d.toInt64) _ _ _ _ (by rw [if_neg (by rw [c_7]; decide)]) rfl (hP.sub [0, 1, 2] rfl) (hD.sub [0, 1, 2] rfl rfl) hS dX5_addForm_29
set_option maxHeartbeats 4000000 in
set_option maxRecDepth 100000 in
theorem c_CF_clearForms (l : Launch) (D : va_G) (cI cJ : ClassId) (h0 : Nat) (co : Nat) (pa : Nat) (wo : Nat) (ot : Nat) (le : Nat) (ri : Nat) (wk : Nat) (rg : Nat) (ta : Nat) (n : Nat)  : CtI l yX5_clearForms cX5_clearForms 2 .int (rmk 0 0) D cI cJ [.ref h0] [(h0, cfE co (nI n) pa wo ot le ri wk rg ta)] (fun (_ : Unit) => [(h0, cfE co (nI 0) pa wo ot le ri wk rg ta)]) (fun (r : Int32) (_ : Unit) => r = nI n) := by
  refine CtI.of (own := RX5) (by decide +kernel) (Nat.le_of_ble_eq_true rfl) rfl ?_
  intro pr_ en_ sg_ me_ ar_ be_ mt_ co_ AA ls QQ X hA hP hD hS hl hret
  have hl : lv_has ls 2 [(0, .ref h0)] := hl
  refine lv_aload_n X.1 X.2.1 dX5_clearForms_0 rfl (lv_at hl 0 rfl) ?_
  refine gf_X5_15 (v := .int (nI n)) X hP 0 rfl rfl dX5_clearForms_1 ?_
  refine lv_istore_n (lv' := [(1, .int (nI n)), (0, .ref h0)]) X.1 X.2.1 dX5_clearForms_4 rfl hl (by decide) rfl (fun ls hl => ?_)
  refine lv_aload_n X.1 X.2.1 dX5_clearForms_5 rfl (lv_at hl 1 rfl) ?_
  refine lv_iconst (v := 0) X.1 X.2.1 dX5_clearForms_6 (by decide) ?_
  refine pf_X5_15 X hP hD hS 0 rfl rfl rfl (Nat.le_of_ble_eq_true rfl) dX5_clearForms_7 (fun H locs hP hD hS => ?_)
  have hP : va_P D vwCl [(h0, cfE co 0 pa wo ot le ri wk rg ta)] H := hP
  have hD : va_D AA [(h0, cfE co 0 pa wo ot le ri wk rg ta)] := hD
  refine lv_iload_n X.1 X.2.1 dX5_clearForms_10 rfl (lv_at hl 0 rfl) ?_
  exact hret (nI n) () _ _ _ _ (rfl) rfl (hP.sub [0] rfl) (hD.sub [0] rfl rfl) hS dX5_clearForms_11
set_option maxHeartbeats 4000000 in
set_option maxRecDepth 100000 in
theorem c_CF_coefficient (l : Launch) (D : va_G) (cI cJ : ClassId) (h0 : Nat) (co : Nat) (pa : Nat) (wo : Nat) (ot : Nat) (le : Nat) (ri : Nat) (wk : Nat) (rg : Nat) (ta : Nat) (n : Nat) (C : Nat → Int32) (x : Int32) (y : Int32) (hn : n ≤ 60) : CtI l yX5_coefficient cX5_coefficient 3 .int (rmk 1 21) D cI cJ [.ref h0, .int x, .int y] [(h0, cfE co (nI n) pa wo ot le ri wk rg ta), (co, aiE cI 240 C)] (fun (_ : Unit) => [(h0, cfE co (nI n) pa wo ot le ri wk rg ta), (co, aiE cI 240 C)]) (fun (r : Int32) (_ : Unit) => r = if isFormB n x then (if y < 0 then (-10003) else if y < 4 then C (4 * x.toNatClampNeg + y.toNatClampNeg) else (-10003)) else (-10001)) := by
  refine CtI.of (own := RX5) (by decide +kernel) (Nat.le_of_ble_eq_true rfl) rfl ?_
  intro pr_ en_ sg_ me_ ar_ be_ mt_ co_ AA ls QQ X hA hP hD hS hl hret
  have hl : lv_has ls 3 [(0, .ref h0), (1, .int x), (2, .int y)] := hl
  refine lv_aload_n X.1 X.2.1 dX5_coefficient_0 rfl (lv_at hl 0 rfl) ?_
  refine lv_iload_n X.1 X.2.1 dX5_coefficient_1 rfl (lv_at hl 1 rfl) ?_
  refine fin_i (wr := [(co, aiE cI 240 C)]) (cv_X5_75 X (c_CF_isForm l D cI cJ h0 co pa wo ot le ri wk rg ta n x  _) rfl rfl dX5_coefficient_2 hP hD 0 rfl [0] rfl rfl hl.1 rfl rfl (Nat.le_of_ble_eq_true rfl) ⟨Nat.le_of_ble_eq_true rfl, Nat.le_of_ble_eq_true rfl⟩ ⟨Nat.le_of_ble_eq_true rfl, Nat.le_of_ble_eq_true rfl⟩) hP hD hS hA [0] [1] rfl rfl rfl (by decide) (fun r_3 u_2 H locs w_1 hP hD hS => ?_)
  have hP : va_P D vwCl [(co, aiE cI 240 C), (h0, cfE co (nI n) pa wo ot le ri wk rg ta)] H := hP
  have hD : va_D AA [(co, aiE cI 240 C), (h0, cfE co (nI n) pa wo ot le ri wk rg ta)] := hD
  subst w_1
  refine bb_ne (tgt := 12) X dX5_coefficient_5 (by decide) (fun c_4 => ?_) (fun c_4 => ?_)
  · refine lv_iload_n X.1 X.2.1 dX5_coefficient_12 rfl (lv_at hl 2 rfl) ?_
    refine bz_lt (tgt := 21) X dX5_coefficient_13 (by decide) (fun c_5 => ?_) (fun c_5 => ?_)
    · refine lv_sipush (v := (-10003)) X.1 X.2.1 dX5_coefficient_21 (by decide) ?_
      exact hret (-10003) () _ _ _ _ (by rw [if_pos c_4, if_pos c_5]) rfl (hP.sub [1, 0] rfl) (hD.sub [1, 0] rfl rfl) hS dX5_coefficient_24
    · refine lv_iload_n X.1 X.2.1 dX5_coefficient_16 rfl (lv_at hl 2 rfl) ?_
      refine lv_iconst (v := 4) X.1 X.2.1 dX5_coefficient_17 (by decide) ?_
      refine bi_lt (tgt := 25) X dX5_coefficient_18 (by decide) (fun c_6 => ?_) (fun c_6 => ?_)
      · obtain ⟨k, hk, hx⟩ := isFormB_out hn c_4
        obtain ⟨j, hj, hy⟩ := nI_of c_5
        have hj4 : j < 4 := (nI_ltI (b := 4) hj (by decide)).mp (hy ▸ c_6)
        refine lv_aload_n X.1 X.2.1 dX5_coefficient_25 rfl (lv_at hl 0 rfl) ?_
        refine gf_X5_11 (v := .ref co) X hP 1 rfl rfl dX5_coefficient_26 ?_
        refine lv_iload_n X.1 X.2.1 dX5_coefficient_29 rfl (lv_at hl 1 rfl) ?_
        refine lv_iconst (v := 4) X.1 X.2.1 dX5_coefficient_30 (by decide) ?_
        refine lv_imul X.1 X.2.1 dX5_coefficient_31 ?_
        refine lv_iload_n X.1 X.2.1 dX5_coefficient_32 rfl (lv_at hl 2 rfl) ?_
        refine lv_iadd X.1 X.2.1 dX5_coefficient_33 ?_
        rw [hx, hy, nI_4, nI_add]
        refine va_iald X.1 X.2.1 X.k hP 0 0 rfl rfl (vp_in_nI (by omega) (by omega)) dX5_coefficient_34 ?_
        exact hret (C ((nI (4 * k + j)).toNatClampNeg)) () _ _ _ _ (by rw [if_pos c_4, if_neg c_5, if_pos c_6]; rw [hx, hy, nI_clamp (show k < 2 ^ 31 by omega), nI_clamp hj, nI_clamp (by omega)]) rfl (hP.sub [1, 0] rfl) (hD.sub [1, 0] rfl rfl) hS dX5_coefficient_35
      · refine lv_sipush (v := (-10003)) X.1 X.2.1 dX5_coefficient_21 (by decide) ?_
        exact hret (-10003) () _ _ _ _ (by rw [if_pos c_4, if_neg c_5, if_neg c_6]) rfl (hP.sub [1, 0] rfl) (hD.sub [1, 0] rfl rfl) hS dX5_coefficient_24
  · refine lv_sipush (v := (-10001)) X.1 X.2.1 dX5_coefficient_8 (by decide) ?_
    exact hret (-10001) () _ _ _ _ (by rw [if_neg (by rw [c_4]; decide)]) rfl (hP.sub [1, 0] rfl) (hD.sub [1, 0] rfl rfl) hS dX5_coefficient_11
set_option maxHeartbeats 4000000 in
set_option maxRecDepth 100000 in
theorem c_CF_discriminant (l : Launch) (D : va_G) (cI cJ : ClassId) (h0 : Nat) (co : Nat) (pa : Nat) (wo : Nat) (ot : Nat) (le : Nat) (ri : Nat) (wk : Nat) (rg : Nat) (ta : Nat) (n : Nat) (C : Nat → Int32) (f : Fm) (x : Int32) (hn : n ≤ 60) : CtL l yX5_discriminant cX5_discriminant 2 (rmk 2 51) D cI cJ [.ref h0, .int x] [(h0, cfE co (nI n) pa wo ot le ri wk rg ta), (co, aiE cI 240 C), (wo, cubE f)] (fun (u : Fm) => [(h0, cfE co (nI n) pa wo ot le ri wk rg ta), (co, aiE cI 240 C), (wo, cubE u)]) (fun (r : Int64) (u : Fm) => r = if isFormB n x then discF (ldF C x.toNatClampNeg) else (-9223372036854775808)) := by
  refine CtL.of (own := RX5) (by decide +kernel) (Nat.le_of_ble_eq_true rfl) rfl ?_
  intro pr_ en_ sg_ me_ ar_ be_ mt_ co_ AA ls QQ X hA hP hD hS hl hret
  have hl : lv_has ls 2 [(0, .ref h0), (1, .int x)] := hl
  refine lv_aload_n X.1 X.2.1 dX5_discriminant_0 rfl (lv_at hl 0 rfl) ?_
  refine lv_iload_n X.1 X.2.1 dX5_discriminant_1 rfl (lv_at hl 1 rfl) ?_
  refine lv_aload_n X.1 X.2.1 dX5_discriminant_2 rfl (lv_at hl 0 rfl) ?_
  refine gf_X5_25 (v := .ref wo) X hP 0 rfl rfl dX5_discriminant_3 ?_
  refine fin_i (wr := []) (cv_X5_79 X (c_CF_load l D cI cJ h0 co pa wo ot le ri wk rg ta n C wo f x (by first | assumption | omega) _) rfl rfl dX5_discriminant_6 hP hD 0 rfl [0, 1, 2] rfl rfl hl.1 rfl rfl (Nat.le_of_ble_eq_true rfl) ⟨Nat.le_of_ble_eq_true rfl, Nat.le_of_ble_eq_true rfl⟩ ⟨Nat.le_of_ble_eq_true rfl, Nat.le_of_ble_eq_true rfl⟩) hP hD hS hA [0, 1, 2] [] rfl rfl rfl (by decide) (fun r_3 u_2 H locs w_1 hP hD hS => ?_)
  have hP : va_P D vwCl [(h0, cfE co (nI n) pa wo ot le ri wk rg ta), (co, aiE cI 240 C), (wo, cubE (if isFormB n x then ldF C x.toNatClampNeg else f))] H := hP
  have hD : va_D AA [(h0, cfE co (nI n) pa wo ot le ri wk rg ta), (co, aiE cI 240 C), (wo, cubE (if isFormB n x then ldF C x.toNatClampNeg else f))] := hD
  subst w_1
  refine bb_eq (tgt := 22) X dX5_discriminant_9 (by decide) (fun c_4 => ?_) (fun c_4 => ?_)
  · refine lc_X5_87 X dX5_discriminant_22 ?_
    exact hret (-9223372036854775808) (if isFormB n x then ldF C x.toNatClampNeg else f) _ _ _ _ (by rw [if_neg (by rw [c_4]; decide)]) (hP.sub [0, 1, 2] rfl) (hD.sub [0, 1, 2] rfl rfl) hS dX5_discriminant_25
  · rw [if_pos c_4] at hP hD
    refine lv_aload_n X.1 X.2.1 dX5_discriminant_12 rfl (lv_at hl 0 rfl) ?_
    refine gf_X5_25 (v := .ref wo) X hP 0 rfl rfl dX5_discriminant_13 ?_
    refine fin_l (wr := [(h0, cfE co (nI n) pa wo ot le ri wk rg ta), (co, aiE cI 240 C)]) (cv_X5_83 X (c_Cubic_disc l D cI cJ wo (ldF C x.toNatClampNeg)  _) rfl rfl dX5_discriminant_16 hP hD 2 rfl [2] rfl rfl hl.1 rfl rfl (Nat.le_of_ble_eq_true rfl) ⟨Nat.le_of_ble_eq_true rfl, Nat.le_of_ble_eq_true rfl⟩ ⟨Nat.le_of_ble_eq_true rfl, Nat.le_of_ble_eq_true rfl⟩) hP hD hS hA [2] [0, 1] rfl rfl rfl (by decide) (fun r_7 u_6 H locs w_5 hP hD hS => ?_)
    have hP : va_P D vwCl [(h0, cfE co (nI n) pa wo ot le ri wk rg ta), (co, aiE cI 240 C), (wo, cubE (ldF C x.toNatClampNeg))] H := hP
    have hD : va_D AA [(h0, cfE co (nI n) pa wo ot le ri wk rg ta), (co, aiE cI 240 C), (wo, cubE (ldF C x.toNatClampNeg))] := hD
    subst w_5
    refine lv_goto (tgt := 25) X.1 X.2.1 dX5_discriminant_19 (by decide) ?_
    exact hret (discF (ldF C x.toNatClampNeg)) (ldF C x.toNatClampNeg) _ _ _ _ (by rw [if_pos c_4]) (hP.sub [0, 1, 2] rfl) (hD.sub [0, 1, 2] rfl rfl) hS dX5_discriminant_25
