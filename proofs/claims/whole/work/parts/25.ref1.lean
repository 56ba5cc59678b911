set_option maxHeartbeats 4000000 in
set_option maxRecDepth 100000 in
theorem m_isBetween (l : Launch) (D : va_G) (cI cJ : ClassId) (v : Int64) (lo : Int64) (hi : Int64)  : CtI l yX6_isBetween cX6_isBetween 6 .boolean (rmk 0 0) D cI cJ [.long v, .long lo, .long hi] [] (fun (_ : Unit) => []) (fun (r : Int32) (_ : Unit) => r = bI (btw v lo hi)) := by
  refine CtI.of (own := RX6) (by decide +kernel) (Nat.le_of_ble_eq_true rfl) rfl ?_
  intro pr_ en_ sg_ me_ ar_ be_ mt_ co_ AA ls QQ X hA hP hD hS hl hret
  have hl : lv_has ls 6 [(0, .long v), (2, .long lo), (4, .long hi)] := hl
  refine lv_lload_n X.1 X.2.1 dX6_isBetween_0 rfl (lv_at hl 0 rfl) ?_
  refine lv_lload_n X.1 X.2.1 dX6_isBetween_1 rfl (lv_at hl 1 rfl) ?_
  refine bl_lt (tgt := 17) X dX6_isBetween_2 dX6_isBetween_3 (by decide) (fun c_1 => ?_) (fun c_1 => ?_)
  · refine lv_iconst (v := 0) X.1 X.2.1 dX6_isBetween_17 (by decide) ?_
    exact hret 0 () _ _ _ _ (by simp [btw, bI, c_1]) rfl (hP.sub [] rfl) (hD.sub [] rfl rfl) hS dX6_isBetween_18
  · refine lv_lload_n X.1 X.2.1 dX6_isBetween_6 rfl (lv_at hl 0 rfl) ?_
    refine lv_lload X.1 X.2.1 dX6_isBetween_7 (lv_at hl 2 rfl) ?_
    refine bl_gt (tgt := 17) X dX6_isBetween_9 dX6_isBetween_10 (by decide) (fun c_2 => ?_) (fun c_2 => ?_)
    · refine lv_iconst (v := 0) X.1 X.2.1 dX6_isBetween_17 (by decide) ?_
      exact hret 0 () _ _ _ _ (by simp [btw, bI, c_1, c_2]) rfl (hP.sub [] rfl) (hD.sub [] rfl rfl) hS dX6_isBetween_18
    · refine lv_iconst (v := 1) X.1 X.2.1 dX6_isBetween_13 (by decide) ?_
      refine lv_goto (tgt := 18) X.1 X.2.1 dX6_isBetween_14 (by decide) ?_
      exact hret 1 () _ _ _ _ (by simp [btw, bI, c_1, c_2]) rfl (hP.sub [] rfl) (hD.sub [] rfl rfl) hS dX6_isBetween_18
set_option maxHeartbeats 4000000 in
set_option maxRecDepth 100000 in
theorem m_size (l : Launch) (D : va_G) (cI cJ : ClassId) (v : Int64)  : CtL l yX6_size cX6_size 2 (rmk 0 0) D cI cJ [.long v] [] (fun (_ : Unit) => []) (fun (r : Int64) (_ : Unit) => r = sizeL v) := by
  refine CtL.of (own := RX6) (by decide +kernel) (Nat.le_of_ble_eq_true rfl) rfl ?_
  intro pr_ en_ sg_ me_ ar_ be_ mt_ co_ AA ls QQ X hA hP hD hS hl hret
  have hl : lv_has ls 2 [(0, .long v)] := hl
  refine lv_lload_n X.1 X.2.1 dX6_size_0 rfl (lv_at hl 0 rfl) ?_
  refine lv_lconst (v := 0) X.1 X.2.1 dX6_size_1 (by decide) ?_
  refine bl_ge (tgt := 11) X dX6_size_2 dX6_size_3 (by decide) (fun c_1 => ?_) (fun c_1 => ?_)
  · refine lv_lload_n X.1 X.2.1 dX6_size_11 rfl (lv_at hl 0 rfl) ?_
    exact hret v () _ _ _ _ (by simp [sizeL, c_1]) (hP.sub [] rfl) (hD.sub [] rfl rfl) hS dX6_size_12
  · refine lv_lload_n X.1 X.2.1 dX6_size_6 rfl (lv_at hl 0 rfl) ?_
    refine lv_lneg X.1 X.2.1 dX6_size_7 ?_
    refine lv_goto (tgt := 12) X.1 X.2.1 dX6_size_8 (by decide) ?_
    exact hret (-v) () _ _ _ _ (by simp [sizeL, c_1]) (hP.sub [] rfl) (hD.sub [] rfl rfl) hS dX6_size_12
set_option maxHeartbeats 4000000 in
set_option maxRecDepth 100000 in
theorem m_isForm (l : Launch) (D : va_G) (cI cJ : ClassId) (h0 : Nat) (st : Nat) (he : Nat) (ma : Nat) (tr : Nat) (fo : Nat) (gi : Nat) (n : Nat) (f : Fm) (k : Fm) (p : Em) (t : Fm) (tb : Int32) (x : Int32) (hn : n ≤ 60) : CtI l yX6_isForm cX6_isForm 2 .boolean (rmk 1 25) D cI cJ [.ref h0, .int x] [(h0, moE (nI n) st f k he p ma tr t tb fo gi)] (fun (_ : Unit) => [(h0, moE (nI n) st f k he p ma tr t tb fo gi)]) (fun (r : Int32) (_ : Unit) => r = bI (isFormB n x)) := by
  refine CtI.of (own := RX6) (by decide +kernel) (Nat.le_of_ble_eq_true rfl) rfl ?_
  intro pr_ en_ sg_ me_ ar_ be_ mt_ co_ AA ls QQ X hA hP hD hS hl hret
  have hl : lv_has ls 2 [(0, .ref h0), (1, .int x)] := hl
  refine lv_iload_n X.1 X.2.1 dX6_isForm_0 rfl (lv_at hl 1 rfl) ?_
  refine lv_i2l X.1 X.2.1 dX6_isForm_1 rfl ?_
  refine lv_lconst (v := 0) X.1 X.2.1 dX6_isForm_2 (by decide) ?_
  refine lv_aload_n X.1 X.2.1 dX6_isForm_3 rfl (lv_at hl 0 rfl) ?_
  refine gf_X6_29 (v := .int (nI n)) X hP 0 rfl rfl dX6_isForm_4 ?_
  refine lv_iconst (v := 1) X.1 X.2.1 dX6_isForm_7 (by decide) ?_
  refine lv_isub X.1 X.2.1 dX6_isForm_8 ?_
  refine lv_i2l X.1 X.2.1 dX6_isForm_9 rfl ?_
  refine fin_i (wr := [(h0, moE (nI n) st f k he p ma tr t tb fo gi)]) (cv_X6_33 X (m_isBetween l D cI cJ x.toInt64 0 (((nI n) - 1).toInt64)  _) rfl rfl dX6_isForm_10 hP hD [] rfl rfl hl.1 rfl rfl (Nat.le_of_ble_eq_true rfl) ⟨Nat.le_of_ble_eq_true rfl, Nat.le_of_ble_eq_true rfl⟩ ⟨Nat.le_of_ble_eq_true rfl, Nat.le_of_ble_eq_true rfl⟩) hP hD hS hA [] [0] rfl rfl rfl (by decide) (fun r_3 u_2 H locs w_1 hP hD hS => ?_)
  have hP : va_P D vwCl [(h0, moE (nI n) st f k he p ma tr t tb fo gi)] H := hP
  have hD : va_D AA [(h0, moE (nI n) st f k he p ma tr t tb fo gi)] := hD
  subst w_1
  exact hret (bI (btw x.toInt64 0 (((nI n) - 1).toInt64))) () _ _ _ _ (by rw [isFormB_btw hn]) (bI_nar _) (hP.sub [0] rfl) (hD.sub [0] rfl rfl) hS dX6_isForm_13
set_option maxHeartbeats 4000000 in
set_option maxRecDepth 100000 in
theorem m_isCoefficient (l : Launch) (D : va_G) (cI cJ : ClassId) (v : Int64)  : CtI l yX6_isCoefficient cX6_isCoefficient 2 .boolean (rmk 1 25) D cI cJ [.long v] [] (fun (_ : Unit) => []) (fun (r : Int32) (_ : Unit) => r = bI (isW v 300)) := by
  refine CtI.of (own := RX6) (by decide +kernel) (Nat.le_of_ble_eq_true rfl) rfl ?_
  intro pr_ en_ sg_ me_ ar_ be_ mt_ co_ AA ls QQ X hA hP hD hS hl hret
  have hl : lv_has ls 2 [(0, .long v)] := hl
  refine lv_lload_n X.1 X.2.1 dX6_isCoefficient_0 rfl (lv_at hl 0 rfl) ?_
  refine lc_X6_37 X dX6_isCoefficient_1 ?_
  refine lc_X6_39 X dX6_isCoefficient_4 ?_
  refine fin_i (wr := []) (cv_X6_33 X (m_isBetween l D cI cJ v (-300) 300  _) rfl rfl dX6_isCoefficient_7 hP hD [] rfl rfl hl.1 rfl rfl (Nat.le_of_ble_eq_true rfl) ⟨Nat.le_of_ble_eq_true rfl, Nat.le_of_ble_eq_true rfl⟩ ⟨Nat.le_of_ble_eq_true rfl, Nat.le_of_ble_eq_true rfl⟩) hP hD hS hA [] [] rfl rfl rfl (by decide) (fun r_3 u_2 H locs w_1 hP hD hS => ?_)
  have hP : va_P D vwCl [] H := hP
  have hD : va_D AA [] := hD
  subst w_1
  exact hret (bI (btw v (-300) 300)) () _ _ _ _ (by rw [btw_isW]) (bI_nar _) (hP.sub [] rfl) (hD.sub [] rfl rfl) hS dX6_isCoefficient_10
set_option maxHeartbeats 4000000 in
set_option maxRecDepth 100000 in
theorem m_load (l : Launch) (D : va_G) (cI cJ : ClassId) (h0 : Nat) (st : Nat) (he : Nat) (ma : Nat) (tr : Nat) (fo : Nat) (gi : Nat) (n : Nat) (f : Fm) (k : Fm) (p : Em) (t : Fm) (tb : Int32) (C : Nat → Int32) (x : Int32) (hn : n ≤ 60) (hF : isFormB n x = true) : CtV l yX6_load cX6_load 2 (rmk 0 0) D cI cJ [.ref h0, .int x] [(h0, moE (nI n) st f k he p ma tr t tb fo gi), (st, aiE cI 240 C)] (fun (_ : Unit) => [(h0, moE (nI n) st (ldF C x.toNatClampNeg) k he p ma tr t tb fo gi), (st, aiE cI 240 C)]) (fun (_ : Unit) => True) 0 0 := by
  refine CtV.of (own := RX6) (by decide +kernel) (Nat.le_of_ble_eq_true rfl) rfl ?_
  intro pr_ en_ sg_ me_ ar_ be_ mt_ co_ AA ls QQ X hin hA hP hD hS hl hret
  have hl : lv_has ls 2 [(0, .ref h0), (1, .int x)] := hl
  obtain ⟨j, hj, hx⟩ := isFormB_out hn hF
  rw [hx] at hl
  refine lv_aload_n X.1 X.2.1 dX6_load_0 rfl (lv_at hl 0 rfl) ?_
  refine lv_aload_n X.1 X.2.1 dX6_load_1 rfl (lv_at hl 0 rfl) ?_
  refine gf_X6_7 (v := .ref st) X hP 0 rfl rfl dX6_load_2 ?_
  refine lv_iconst (v := 4) X.1 X.2.1 dX6_load_5 (by decide) ?_
  refine lv_iload_n X.1 X.2.1 dX6_load_6 rfl (lv_at hl 1 rfl) ?_
  refine lv_imul X.1 X.2.1 dX6_load_7 ?_
  rw [nI_4l]
  refine va_iald X.1 X.2.1 X.k hP 1 0 rfl rfl (vp_in_nI (by omega) (by omega)) dX6_load_8 ?_
  refine lv_i2l X.1 X.2.1 dX6_load_9 rfl ?_
  refine pf_X6_41 X hP hD hS 0 rfl rfl rfl (Nat.le_of_ble_eq_true rfl) dX6_load_10 (fun H locs hP hD hS => ?_)
  have hP : va_P D vwCl [(h0, moE (nI n) st ((C ((nI (4 * j)).toNatClampNeg)).toInt64, f.2.1, f.2.2.1, f.2.2.2) k he p ma tr t tb fo gi), (st, aiE cI 240 C)] H := hP
  have hD : va_D AA [(h0, moE (nI n) st ((C ((nI (4 * j)).toNatClampNeg)).toInt64, f.2.1, f.2.2.1, f.2.2.2) k he p ma tr t tb fo gi), (st, aiE cI 240 C)] := hD
  refine lv_aload_n X.1 X.2.1 dX6_load_13 rfl (lv_at hl 0 rfl) ?_
  refine lv_aload_n X.1 X.2.1 dX6_load_14 rfl (lv_at hl 0 rfl) ?_
  refine gf_X6_7 (v := .ref st) X hP 0 rfl rfl dX6_load_15 ?_
  refine lv_iconst (v := 4) X.1 X.2.1 dX6_load_18 (by decide) ?_
  refine lv_iload_n X.1 X.2.1 dX6_load_19 rfl (lv_at hl 1 rfl) ?_
  refine lv_imul X.1 X.2.1 dX6_load_20 ?_
  refine lv_iconst (v := 1) X.1 X.2.1 dX6_load_21 (by decide) ?_
  refine lv_iadd X.1 X.2.1 dX6_load_22 ?_
  rw [nI_4l, nI_1]
  refine va_iald X.1 X.2.1 X.k hP 1 0 rfl rfl (vp_in_nI (by omega) (by omega)) dX6_load_23 ?_
  refine lv_i2l X.1 X.2.1 dX6_load_24 rfl ?_
  refine pf_X6_45 X hP hD hS 0 rfl rfl rfl (Nat.le_of_ble_eq_true rfl) dX6_load_25 (fun H locs hP hD hS => ?_)
  have hP : va_P D vwCl [(h0, moE (nI n) st ((C ((nI (4 * j)).toNatClampNeg)).toInt64, (C ((nI (4 * j + 1)).toNatClampNeg)).toInt64, f.2.2.1, f.2.2.2) k he p ma tr t tb fo gi), (st, aiE cI 240 C)] H := hP
  have hD : va_D AA [(h0, moE (nI n) st ((C ((nI (4 * j)).toNatClampNeg)).toInt64, (C ((nI (4 * j + 1)).toNatClampNeg)).toInt64, f.2.2.1, f.2.2.2) k he p ma tr t tb fo gi), (st, aiE cI 240 C)] := hD
  refine lv_aload_n X.1 X.2.1 dX6_load_28 rfl (lv_at hl 0 rfl) ?_
  refine lv_aload_n X.1 X.2.1 dX6_load_29 rfl (lv_at hl 0 rfl) ?_
  refine gf_X6_7 (v := .ref st) X hP 0 rfl rfl dX6_load_30 ?_
  refine lv_iconst (v := 4) X.1 X.2.1 dX6_load_33 (by decide) ?_
  refine lv_iload_n X.1 X.2.1 dX6_load_34 rfl (lv_at hl 1 rfl) ?_
  refine lv_imul X.1 X.2.1 dX6_load_35 ?_
  refine lv_iconst (v := 2) X.1 X.2.1 dX6_load_36 (by decide) ?_
  refine lv_iadd X.1 X.2.1 dX6_load_37 ?_
  rw [nI_4l, nI_2]
  refine va_iald X.1 X.2.1 X.k hP 1 0 rfl rfl (vp_in_nI (by omega) (by omega)) dX6_load_38 ?_
  refine lv_i2l X.1 X.2.1 dX6_load_39 rfl ?_
  refine pf_X6_48 X hP hD hS 0 rfl rfl rfl (Nat.le_of_ble_eq_true rfl) dX6_load_40 (fun H locs hP hD hS => ?_)
  have hP : va_P D vwCl [(h0, moE (nI n) st ((C ((nI (4 * j)).toNatClampNeg)).toInt64, (C ((nI (4 * j + 1)).toNatClampNeg)).toInt64, (C ((nI (4 * j + 2)).toNatClampNeg)).toInt64, f.2.2.2) k he p ma tr t tb fo gi), (st, aiE cI 240 C)] H := hP
  have hD : va_D AA [(h0, moE (nI n) st ((C ((nI (4 * j)).toNatClampNeg)).toInt64, (C ((nI (4 * j + 1)).toNatClampNeg)).toInt64, (C ((nI (4 * j + 2)).toNatClampNeg)).toInt64, f.2.2.2) k he p ma tr t tb fo gi), (st, aiE cI 240 C)] := hD
  refine lv_aload_n X.1 X.2.1 dX6_load_43 rfl (lv_at hl 0 rfl) ?_
  refine lv_aload_n X.1 X.2.1 dX6_load_44 rfl (lv_at hl 0 rfl) ?_
  refine gf_X6_7 (v := .ref st) X hP 0 rfl rfl dX6_load_45 ?_
  refine lv_iconst (v := 4) X.1 X.2.1 dX6_load_48 (by decide) ?_
  refine lv_iload_n X.1 X.2.1 dX6_load_49 rfl (lv_at hl 1 rfl) ?_
  refine lv_imul X.1 X.2.1 dX6_load_50 ?_
  refine lv_iconst (v := 3) X.1 X.2.1 dX6_load_51 (by decide) ?_
  refine lv_iadd X.1 X.2.1 dX6_load_52 ?_
  rw [nI_4l, nI_3]
  refine va_iald X.1 X.2.1 X.k hP 1 0 rfl rfl (vp_in_nI (by omega) (by omega)) dX6_load_53 ?_
  refine lv_i2l X.1 X.2.1 dX6_load_54 rfl ?_
  refine pf_X6_51 X hP hD hS 0 rfl rfl rfl (Nat.le_of_ble_eq_true rfl) dX6_load_55 (fun H locs hP hD hS => ?_)
  have hP : va_P D vwCl [(h0, moE (nI n) st ((C ((nI (4 * j)).toNatClampNeg)).toInt64, (C ((nI (4 * j + 1)).toNatClampNeg)).toInt64, (C ((nI (4 * j + 2)).toNatClampNeg)).toInt64, (C ((nI (4 * j + 3)).toNatClampNeg)).toInt64) k he p ma tr t tb fo gi), (st, aiE cI 240 C)] H := hP
  have hD : va_D AA [(h0, moE (nI n) st ((C ((nI (4 * j)).toNatClampNeg)).toInt64, (C ((nI (4 * j + 1)).toNatClampNeg)).toInt64, (C ((nI (4 * j + 2)).toNatClampNeg)).toInt64, (C ((nI (4 * j + 3)).toNatClampNeg)).toInt64) k he p ma tr t tb fo gi), (st, aiE cI 240 C)] := hD
  rw [show ((C ((nI (4 * j)).toNatClampNeg)).toInt64, (C ((nI (4 * j + 1)).toNatClampNeg)).toInt64, (C ((nI (4 * j + 2)).toNatClampNeg)).toInt64, (C ((nI (4 * j + 3)).toNatClampNeg)).toInt64) = ldF C x.toNatClampNeg from by rw [hx, nI_clamp (show j < 2 ^ 31 by omega)]; simp only [ldF, nI_clamp (show 4 * j < 2 ^ 31 by omega), nI_clamp (show 4 * j + 1 < 2 ^ 31 by omega), nI_clamp (show 4 * j + 2 < 2 ^ 31 by omega), nI_clamp (show 4 * j + 3 < 2 ^ 31 by omega)]] at hP hD
  exact hret () _ _ _ _ (trivial) (hP.sub [0, 1] rfl) (hD.sub [0, 1] rfl rfl) hS dX6_load_58
set_option maxHeartbeats 4000000 in
set_option maxRecDepth 100000 in
theorem m_set (l : Launch) (D : va_G) (cI cJ : ClassId) (h0 : Nat) (st : Nat) (he : Nat) (ma : Nat) (tr : Nat) (fo : Nat) (gi : Nat) (n : Nat) (f : Fm) (k : Fm) (p : Em) (t : Fm) (tb : Int32) (a : Int64) (b : Int64) (c : Int64) (d : Int64)  : CtV l yX6_set cX6_set 9 (rmk 0 0) D cI cJ [.ref h0, .long a, .long b, .long c, .long d] [(h0, moE (nI n) st f k he p ma tr t tb fo gi)] (fun (_ : Unit) => [(h0, moE (nI n) st (a, b, c, d) k he p ma tr t tb fo gi)]) (fun (_ : Unit) => True) 0 0 := by
  refine CtV.of (own := RX6) (by decide +kernel) (Nat.le_of_ble_eq_true rfl) rfl ?_
  intro pr_ en_ sg_ me_ ar_ be_ mt_ co_ AA ls QQ X hin hA hP hD hS hl hret
  have hl : lv_has ls 9 [(0, .ref h0), (1, .long a), (3, .long b), (5, .long c), (7, .long d)] := hl
  refine lv_aload_n X.1 X.2.1 dX6_set_0 rfl (lv_at hl 0 rfl) ?_
  refine lv_lload_n X.1 X.2.1 dX6_set_1 rfl (lv_at hl 1 rfl) ?_
  refine pf_X6_41 X hP hD hS 0 rfl rfl rfl (Nat.le_of_ble_eq_true rfl) dX6_set_2 (fun H locs hP hD hS => ?_)
  have hP : va_P D vwCl [(h0, moE (nI n) st (a, f.2.1, f.2.2.1, f.2.2.2) k he p ma tr t tb fo gi)] H := hP
  have hD : va_D AA [(h0, moE (nI n) st (a, f.2.1, f.2.2.1, f.2.2.2) k he p ma tr t tb fo gi)] := hD
  refine lv_aload_n X.1 X.2.1 dX6_set_5 rfl (lv_at hl 0 rfl) ?_
  refine lv_lload_n X.1 X.2.1 dX6_set_6 rfl (lv_at hl 2 rfl) ?_
  refine pf_X6_45 X hP hD hS 0 rfl rfl rfl (Nat.le_of_ble_eq_true rfl) dX6_set_7 (fun H locs hP hD hS => ?_)
  have hP : va_P D vwCl [(h0, moE (nI n) st (a, b, f.2.2.1, f.2.2.2) k he p ma tr t tb fo gi)] H := hP
  have hD : va_D AA [(h0, moE (nI n) st (a, b, f.2.2.1, f.2.2.2) k he p ma tr t tb fo gi)] := hD
  refine lv_aload_n X.1 X.2.1 dX6_set_10 rfl (lv_at hl 0 rfl) ?_
  refine lv_lload X.1 X.2.1 dX6_set_11 (lv_at hl 3 rfl) ?_
  refine pf_X6_48 X hP hD hS 0 rfl rfl rfl (Nat.le_of_ble_eq_true rfl) dX6_set_13 (fun H locs hP hD hS => ?_)
  have hP : va_P D vwCl [(h0, moE (nI n) st (a, b, c, f.2.2.2) k he p ma tr t tb fo gi)] H := hP
  have hD : va_D AA [(h0, moE (nI n) st (a, b, c, f.2.2.2) k he p ma tr t tb fo gi)] := hD
  refine lv_aload_n X.1 X.2.1 dX6_set_16 rfl (lv_at hl 0 rfl) ?_
  refine lv_lload X.1 X.2.1 dX6_set_17 (lv_at hl 4 rfl) ?_
  refine pf_X6_51 X hP hD hS 0 rfl rfl rfl (Nat.le_of_ble_eq_true rfl) dX6_set_19 (fun H locs hP hD hS => ?_)
  have hP : va_P D vwCl [(h0, moE (nI n) st (a, b, c, d) k he p ma tr t tb fo gi)] H := hP
  have hD : va_D AA [(h0, moE (nI n) st (a, b, c, d) k he p ma tr t tb fo gi)] := hD
  exact hret () _ _ _ _ (trivial) (hP.sub [0] rfl) (hD.sub [0] rfl rfl) hS dX6_set_22
set_option maxHeartbeats 4000000 in
set_option maxRecDepth 100000 in
theorem m_store (l : Launch) (D : va_G) (cI cJ : ClassId) (h0 : Nat) (st : Nat) (he : Nat) (ma : Nat) (tr : Nat) (fo : Nat) (gi : Nat) (n : Nat) (f : Fm) (k : Fm) (p : Em) (t : Fm) (tb : Int32) (C : Nat → Int32) (hn : n ≤ 60) : CtI l yX6_store cX6_store 1 .int (rmk 2 46) D cI cJ [.ref h0] [(h0, moE (nI n) st f k he p ma tr t tb fo gi), (st, aiE cI 240 C)] (fun (_ : Unit) => [(h0, moE (nI (sifS n C f).1) st f k he p ma tr t tb fo gi), (st, aiE cI 240 ((sifS n C f).2))]) (fun (r : Int32) (_ : Unit) => r = sifR n f) := by
  refine CtI.of (own := RX6) (by decide +kernel) (Nat.le_of_ble_eq_true rfl) rfl ?_
  intro pr_ en_ sg_ me_ ar_ be_ mt_ co_ AA ls QQ X hA hP hD hS hl hret
  have hl : lv_has ls 1 [(0, .ref h0)] := hl
  refine lv_aload_n X.1 X.2.1 dX6_store_0 rfl (lv_at hl 0 rfl) ?_
  refine gf_X6_41 (v := .long f.1) X hP 0 rfl rfl dX6_store_1 ?_
  refine fin_i (wr := [(h0, moE (nI n) st f k he p ma tr t tb fo gi), (st, aiE cI 240 C)]) (cv_X6_54 X (m_isCoefficient l D cI cJ f.1  _) rfl rfl dX6_store_4 hP hD [] rfl rfl hl.1 rfl rfl (Nat.le_of_ble_eq_true rfl) ⟨Nat.le_of_ble_eq_true rfl, Nat.le_of_ble_eq_true rfl⟩ ⟨Nat.le_of_ble_eq_true rfl, Nat.le_of_ble_eq_true rfl⟩) hP hD hS hA [] [0, 1] rfl rfl rfl (by decide) (fun r_3 u_2 H locs w_1 hP hD hS => ?_)
  have hP : va_P D vwCl [(h0, moE (nI n) st f k he p ma tr t tb fo gi), (st, aiE cI 240 C)] H := hP
  have hD : va_D AA [(h0, moE (nI n) st f k he p ma tr t tb fo gi), (st, aiE cI 240 C)] := hD
  subst w_1
  refine bb_eq (tgt := 40) X dX6_store_7 (by decide) (fun c_4 => ?_) (fun c_4 => ?_)
  · have ef : fitsF f = false := by simp only [fitsF, c_4, Bool.and_true, Bool.true_and, Bool.and_false, Bool.false_and]
    have e0 : sifS n C f = (n, C) := by rw [sifS, if_neg (by rw [ef]; decide)]
    have hP : va_P D vwCl [(h0, moE (nI (sifS n C f).1) st f k he p ma tr t tb fo gi), (st, aiE cI 240 ((sifS n C f).2))] H := by rw [e0]; exact hP
    have hD : va_D AA [(h0, moE (nI (sifS n C f).1) st f k he p ma tr t tb fo gi), (st, aiE cI 240 ((sifS n C f).2))] := by rw [e0]; exact hD
    refine lv_sipush (v := (-10005)) X.1 X.2.1 dX6_store_40 (by decide) ?_
    exact hret (-10005) () _ _ _ _ (by rw [sifR, if_neg (by rw [ef]; decide)]) rfl (hP.sub [0, 1] rfl) (hD.sub [0, 1] rfl rfl) hS dX6_store_43
  · refine lv_aload_n X.1 X.2.1 dX6_store_10 rfl (lv_at hl 0 rfl) ?_
    refine gf_X6_45 (v := .long f.2.1) X hP 0 rfl rfl dX6_store_11 ?_
    refine fin_i (wr := [(h0, moE (nI n) st f k he p ma tr t tb fo gi), (st, aiE cI 240 C)]) (cv_X6_54 X (m_isCoefficient l D cI cJ f.2.1  _) rfl rfl dX6_store_14 hP hD [] rfl rfl hl.1 rfl rfl (Nat.le_of_ble_eq_true rfl) ⟨Nat.le_of_ble_eq_true rfl, Nat.le_of_ble_eq_true rfl⟩ ⟨Nat.le_of_ble_eq_true rfl, Nat.le_of_ble_eq_true rfl⟩) hP hD hS hA [] [0, 1] rfl rfl rfl (by decide) (fun r_7 u_6 H locs w_5 hP hD hS => ?_)
    have hP : va_P D vwCl [(h0, moE (nI n) st f k he p ma tr t tb fo gi), (st, aiE cI 240 C)] H := hP
    have hD : va_D AA [(h0, moE (nI n) st f k he p ma tr t tb fo gi), (st, aiE cI 240 C)] := hD
    subst w_5
    refine bb_eq (tgt := 40) X dX6_store_17 (by decide) (fun c_8 => ?_) (fun c_8 => ?_)
    · have ef : fitsF f = false := by simp only [fitsF, c_4, c_8, Bool.and_true, Bool.true_and, Bool.and_false, Bool.false_and]
      have e0 : sifS n C f = (n, C) := by rw [sifS, if_neg (by rw [ef]; decide)]
      have hP : va_P D vwCl [(h0, moE (nI (sifS n C f).1) st f k he p ma tr t tb fo gi), (st, aiE cI 240 ((sifS n C f).2))] H := by rw [e0]; exact hP
      have hD : va_D AA [(h0, moE (nI (sifS n C f).1) st f k he p ma tr t tb fo gi), (st, aiE cI 240 ((sifS n C f).2))] := by rw [e0]; exact hD
      refine lv_sipush (v := (-10005)) X.1 X.2.1 dX6_store_40 (by decide) ?_
      exact hret (-10005) () _ _ _ _ (by rw [sifR, if_neg (by rw [ef]; decide)]) rfl (hP.sub [0, 1] rfl) (hD.sub [0, 1] rfl rfl) hS dX6_store_43
    · refine lv_aload_n X.1 X.2.1 dX6_store_20 rfl (lv_at hl 0 rfl) ?_
      refine gf_X6_48 (v := .long f.2.2.1) X hP 0 rfl rfl dX6_store_21 ?_
      refine fin_i (wr := [(h0, moE (nI n) st f k he p ma tr t tb fo gi), (st, aiE cI 240 C)]) (cv_X6_54 X (m_isCoefficient l D cI cJ f.2.2.1  _) rfl rfl dX6_store_24 hP hD [] rfl rfl hl.1 rfl rfl (Nat.le_of_ble_eq_true rfl) ⟨Nat.le_of_ble_eq_true rfl, Nat.le_of_ble_eq_true rfl⟩ ⟨Nat.le_of_ble_eq_true rfl, Nat.le_of_ble_eq_true rfl⟩) hP hD hS hA [] [0, 1] rfl rfl rfl (by decide) (fun r_11 u_10 H locs w_9 hP hD hS => ?_)
      have hP : va_P D vwCl [(h0, moE (nI n) st f k he p ma tr t tb fo gi), (st, aiE cI 240 C)] H := hP
      have hD : va_D AA [(h0, moE (nI n) st f k he p ma tr t tb fo gi), (st, aiE cI 240 C)] := hD
      subst w_9
      refine bb_eq (tgt := 40) X dX6_store_27 (by decide) (fun c_12 => ?_) (fun c_12 => ?_)
      · have ef : fitsF f = false := by simp only [fitsF, c_4, c_8, c_12, Bool.and_true, Bool.true_and, Bool.and_false, Bool.false_and]
        have e0 : sifS n C f = (n, C) := by rw [sifS, if_neg (by rw [ef]; decide)]
        have hP : va_P D vwCl [(h0, moE (nI (sifS n C f).1) st f k he p ma tr t tb fo gi), (st, aiE cI 240 ((sifS n C f).2))] H := by rw [e0]; exact hP
        have hD : va_D AA [(h0, moE (nI (sifS n C f).1) st f k he p ma tr t tb fo gi), (st, aiE cI 240 ((sifS n C f).2))] := by rw [e0]; exact hD
        refine lv_sipush (v := (-10005)) X.1 X.2.1 dX6_store_40 (by decide) ?_
        exact hret (-10005) () _ _ _ _ (by rw [sifR, if_neg (by rw [ef]; decide)]) rfl (hP.sub [0, 1] rfl) (hD.sub [0, 1] rfl rfl) hS dX6_store_43
      · refine lv_aload_n X.1 X.2.1 dX6_store_30 rfl (lv_at hl 0 rfl) ?_
        refine gf_X6_51 (v := .long f.2.2.2) X hP 0 rfl rfl dX6_store_31 ?_
        refine fin_i (wr := [(h0, moE (nI n) st f k he p ma tr t tb fo gi), (st, aiE cI 240 C)]) (cv_X6_54 X (m_isCoefficient l D cI cJ f.2.2.2  _) rfl rfl dX6_store_34 hP hD [] rfl rfl hl.1 rfl rfl (Nat.le_of_ble_eq_true rfl) ⟨Nat.le_of_ble_eq_true rfl, Nat.le_of_ble_eq_true rfl⟩ ⟨Nat.le_of_ble_eq_true rfl, Nat.le_of_ble_eq_true rfl⟩) hP hD hS hA [] [0, 1] rfl rfl rfl (by decide) (fun r_15 u_14 H locs w_13 hP hD hS => ?_)
        have hP : va_P D vwCl [(h0, moE (nI n) st f k he p ma tr t tb fo gi), (st, aiE cI 240 C)] H := hP
        have hD : va_D AA [(h0, moE (nI n) st f k he p ma tr t tb fo gi), (st, aiE cI 240 C)] := hD
        subst w_13
        refine bb_ne (tgt := 44) X dX6_store_37 (by decide) (fun c_16 => ?_) (fun c_16 => ?_)
        · have ef : fitsF f = true := by simp only [fitsF, c_4, c_8, c_12, c_16, Bool.and_true]
          refine lv_aload_n X.1 X.2.1 dX6_store_44 rfl (lv_at hl 0 rfl) ?_
          refine gf_X6_29 (v := .int (nI n)) X hP 0 rfl rfl dX6_store_45 ?_
          refine lv_bipush (v := 60) X.1 X.2.1 dX6_store_48 (by decide) ?_
          refine bi_ne (tgt := 57) X dX6_store_50 (by decide) (fun c_17 => ?_) (fun c_17 => ?_)
          · have e6 : n < 60 := by
              have : ¬ n = 60 := fun q => c_17 ((nI_eq (b := 60) (by omega) (by decide)).mpr q)
              omega
            refine lv_aload_n X.1 X.2.1 dX6_store_57 rfl (lv_at hl 0 rfl) ?_
            refine gf_X6_7 (v := .ref st) X hP 0 rfl rfl dX6_store_58 ?_
            refine lv_iconst (v := 4) X.1 X.2.1 dX6_store_61 (by decide) ?_
            refine lv_aload_n X.1 X.2.1 dX6_store_62 rfl (lv_at hl 0 rfl) ?_
            refine gf_X6_29 (v := .int (nI n)) X hP 0 rfl rfl dX6_store_63 ?_
            refine lv_imul X.1 X.2.1 dX6_store_66 ?_
            rw [nI_4l]
            refine lv_aload_n X.1 X.2.1 dX6_store_67 rfl (lv_at hl 0 rfl) ?_
            refine gf_X6_41 (v := .long f.1) X hP 0 rfl rfl dX6_store_68 ?_
            refine lv_l2i X.1 X.2.1 dX6_store_71 rfl ?_
            refine va_iast X.1 X.2.1 X.k hP hD hS 1 0 rfl rfl (vp_in_nI (by omega) (by omega)) dX6_store_72 (fun H locs hP hD hS => ?_)
            have hP : va_P D vwCl [(h0, moE (nI n) st f k he p ma tr t tb fo gi), (st, aiE cI 240 (upd C ((nI (4 * n)).toNatClampNeg) f.1.toInt32))] H := hP
            have hD : va_D AA [(h0, moE (nI n) st f k he p ma tr t tb fo gi), (st, aiE cI 240 (upd C ((nI (4 * n)).toNatClampNeg) f.1.toInt32))] := hD
            refine lv_aload_n X.1 X.2.1 dX6_store_73 rfl (lv_at hl 0 rfl) ?_
            refine gf_X6_7 (v := .ref st) X hP 0 rfl rfl dX6_store_74 ?_
            refine lv_iconst (v := 4) X.1 X.2.1 dX6_store_77 (by decide) ?_
            refine lv_aload_n X.1 X.2.1 dX6_store_78 rfl (lv_at hl 0 rfl) ?_
            refine gf_X6_29 (v := .int (nI n)) X hP 0 rfl rfl dX6_store_79 ?_
            refine lv_imul X.1 X.2.1 dX6_store_82 ?_
            refine lv_iconst (v := 1) X.1 X.2.1 dX6_store_83 (by decide) ?_
            refine lv_iadd X.1 X.2.1 dX6_store_84 ?_
            rw [nI_4l, nI_1]
            refine lv_aload_n X.1 X.2.1 dX6_store_85 rfl (lv_at hl 0 rfl) ?_
            refine gf_X6_45 (v := .long f.2.1) X hP 0 rfl rfl dX6_store_86 ?_
            refine lv_l2i X.1 X.2.1 dX6_store_89 rfl ?_
            refine va_iast X.1 X.2.1 X.k hP hD hS 1 0 rfl rfl (vp_in_nI (by omega) (by omega)) dX6_store_90 (fun H locs hP hD hS => ?_)
            have hP : va_P D vwCl [(h0, moE (nI n) st f k he p ma tr t tb fo gi), (st, aiE cI 240 (upd (upd C ((nI (4 * n)).toNatClampNeg) f.1.toInt32) ((nI (4 * n + 1)).toNatClampNeg) f.2.1.toInt32))] H := hP
            have hD : va_D AA [(h0, moE (nI n) st f k he p ma tr t tb fo gi), (st, aiE cI 240 (upd (upd C ((nI (4 * n)).toNatClampNeg) f.1.toInt32) ((nI (4 * n + 1)).toNatClampNeg) f.2.1.toInt32))] := hD
            refine lv_aload_n X.1 X.2.1 dX6_store_91 rfl (lv_at hl 0 rfl) ?_
            refine gf_X6_7 (v := .ref st) X hP 0 rfl rfl dX6_store_92 ?_
            refine lv_iconst (v := 4) X.1 X.2.1 dX6_store_95 (by decide) ?_
            refine lv_aload_n X.1 X.2.1 dX6_store_96 rfl (lv_at hl 0 rfl) ?_
            refine gf_X6_29 (v := .int (nI n)) X hP 0 rfl rfl dX6_store_97 ?_
            refine lv_imul X.1 X.2.1 dX6_store_100 ?_
            refine lv_iconst (v := 2) X.1 X.2.1 dX6_store_101 (by decide) ?_
            refine lv_iadd X.1 X.2.1 dX6_store_102 ?_
            rw [nI_4l, nI_2]
            refine lv_aload_n X.1 X.2.1 dX6_store_103 rfl (lv_at hl 0 rfl) ?_
            refine gf_X6_48 (v := .long f.2.2.1) X hP 0 rfl rfl dX6_store_104 ?_
            refine lv_l2i X.1 X.2.1 dX6_store_107 rfl ?_
            refine va_iast X.1 X.2.1 X.k hP hD hS 1 0 rfl rfl (vp_in_nI (by omega) (by omega)) dX6_store_108 (fun H locs hP hD hS => ?_)
            have hP : va_P D vwCl [(h0, moE (nI n) st f k he p ma tr t tb fo gi), (st, aiE cI 240 (upd (upd (upd C ((nI (4 * n)).toNatClampNeg) f.1.toInt32) ((nI (4 * n + 1)).toNatClampNeg) f.2.1.toInt32) ((nI (4 * n + 2)).toNatClampNeg) f.2.2.1.toInt32))] H := hP
            have hD : va_D AA [(h0, moE (nI n) st f k he p ma tr t tb fo gi), (st, aiE cI 240 (upd (upd (upd C ((nI (4 * n)).toNatClampNeg) f.1.toInt32) ((nI (4 * n + 1)).toNatClampNeg) f.2.1.toInt32) ((nI (4 * n + 2)).toNatClampNeg) f.2.2.1.toInt32))] := hD
            refine lv_aload_n X.1 X.2.1 dX6_store_109 rfl (lv_at hl 0 rfl) ?_
            refine gf_X6_7 (v := .ref st) X hP 0 rfl rfl dX6_store_110 ?_
            refine lv_iconst (v := 4) X.1 X.2.1 dX6_store_113 (by decide) ?_
            refine lv_aload_n X.1 X.2.1 dX6_store_114 rfl (lv_at hl 0 rfl) ?_
            refine gf_X6_29 (v := .int (nI n)) X hP 0 rfl rfl dX6_store_115 ?_
            refine lv_imul X.1 X.2.1 dX6_store_118 ?_
            refine lv_iconst (v := 3) X.1 X.2.1 dX6_store_119 (by decide) ?_
            refine lv_iadd X.1 X.2.1 dX6_store_120 ?_
            rw [nI_4l, nI_3]
            refine lv_aload_n X.1 X.2.1 dX6_store_121 rfl (lv_at hl 0 rfl) ?_
            refine gf_X6_51 (v := .long f.2.2.2) X hP 0 rfl rfl dX6_store_122 ?_
            refine lv_l2i X.1 X.2.1 dX6_store_125 rfl ?_
            refine va_iast X.1 X.2.1 X.k hP hD hS 1 0 rfl rfl (vp_in_nI (by omega) (by omega)) dX6_store_126 (fun H locs hP hD hS => ?_)
            have hP : va_P D vwCl [(h0, moE (nI n) st f k he p ma tr t tb fo gi), (st, aiE cI 240 (upd (upd (upd (upd C ((nI (4 * n)).toNatClampNeg) f.1.toInt32) ((nI (4 * n + 1)).toNatClampNeg) f.2.1.toInt32) ((nI (4 * n + 2)).toNatClampNeg) f.2.2.1.toInt32) ((nI (4 * n + 3)).toNatClampNeg) f.2.2.2.toInt32))] H := hP
            have hD : va_D AA [(h0, moE (nI n) st f k he p ma tr t tb fo gi), (st, aiE cI 240 (upd (upd (upd (upd C ((nI (4 * n)).toNatClampNeg) f.1.toInt32) ((nI (4 * n + 1)).toNatClampNeg) f.2.1.toInt32) ((nI (4 * n + 2)).toNatClampNeg) f.2.2.1.toInt32) ((nI (4 * n + 3)).toNatClampNeg) f.2.2.2.toInt32))] := hD
            refine lv_aload_n X.1 X.2.1 dX6_store_127 rfl (lv_at hl 0 rfl) ?_
            refine lv_dup X.1 X.2.1 dX6_store_128 rfl ?_
            refine gf_X6_29 (v := .int (nI n)) X hP 0 rfl rfl dX6_store_129 ?_
            refine lv_iconst (v := 1) X.1 X.2.1 dX6_store_132 (by decide) ?_
            refine lv_iadd X.1 X.2.1 dX6_store_133 ?_
            rw [nI_1]
            refine pf_X6_29 X hP hD hS 0 rfl rfl rfl (Nat.le_of_ble_eq_true rfl) dX6_store_134 (fun H locs hP hD hS => ?_)
            have hP : va_P D vwCl [(h0, moE (nI (n + 1)) st f k he p ma tr t tb fo gi), (st, aiE cI 240 (upd (upd (upd (upd C ((nI (4 * n)).toNatClampNeg) f.1.toInt32) ((nI (4 * n + 1)).toNatClampNeg) f.2.1.toInt32) ((nI (4 * n + 2)).toNatClampNeg) f.2.2.1.toInt32) ((nI (4 * n + 3)).toNatClampNeg) f.2.2.2.toInt32))] H := hP
            have hD : va_D AA [(h0, moE (nI (n + 1)) st f k he p ma tr t tb fo gi), (st, aiE cI 240 (upd (upd (upd (upd C ((nI (4 * n)).toNatClampNeg) f.1.toInt32) ((nI (4 * n + 1)).toNatClampNeg) f.2.1.toInt32) ((nI (4 * n + 2)).toNatClampNeg) f.2.2.1.toInt32) ((nI (4 * n + 3)).toNatClampNeg) f.2.2.2.toInt32))] := hD
            refine lv_aload_n X.1 X.2.1 dX6_store_137 rfl (lv_at hl 0 rfl) ?_
            refine gf_X6_29 (v := .int (nI (n + 1))) X hP 0 rfl rfl dX6_store_138 ?_
            refine lv_iconst (v := 1) X.1 X.2.1 dX6_store_141 (by decide) ?_
            refine lv_isub X.1 X.2.1 dX6_store_142 ?_
            rw [nI_pred]
            rw [nI_clamp (show 4 * n < 2 ^ 31 by omega), nI_clamp (show 4 * n + 1 < 2 ^ 31 by omega), nI_clamp (show 4 * n + 2 < 2 ^ 31 by omega), nI_clamp (show 4 * n + 3 < 2 ^ 31 by omega)] at hP hD
            have e0 : sifS n C f = (n + 1, stA C n f) := by rw [sifS, if_pos ef, stS, if_pos e6]
            have hP : va_P D vwCl [(h0, moE (nI (sifS n C f).1) st f k he p ma tr t tb fo gi), (st, aiE cI 240 ((sifS n C f).2))] H := by rw [e0]; exact hP
            have hD : va_D AA [(h0, moE (nI (sifS n C f).1) st f k he p ma tr t tb fo gi), (st, aiE cI 240 ((sifS n C f).2))] := by rw [e0]; exact hD
            exact hret (nI n) () _ _ _ _ (by rw [sifR, if_pos ef, stR, if_pos e6]) rfl (hP.sub [0, 1] rfl) (hD.sub [0, 1] rfl rfl) hS dX6_store_143
          · have e6 : ¬ n < 60 := by have := (nI_eq (b := 60) (by omega) (by decide)).mp c_17; omega
            have e0 : sifS n C f = (n, C) := by rw [sifS, if_pos ef, stS, if_neg e6]
            have hP : va_P D vwCl [(h0, moE (nI (sifS n C f).1) st f k he p ma tr t tb fo gi), (st, aiE cI 240 ((sifS n C f).2))] H := by rw [e0]; exact hP
            have hD : va_D AA [(h0, moE (nI (sifS n C f).1) st f k he p ma tr t tb fo gi), (st, aiE cI 240 ((sifS n C f).2))] := by rw [e0]; exact hD
            refine lv_sipush (v := (-10004)) X.1 X.2.1 dX6_store_53 (by decide) ?_
            exact hret (-10004) () _ _ _ _ (by rw [sifR, if_pos ef, stR, if_neg e6]) rfl (hP.sub [0, 1] rfl) (hD.sub [0, 1] rfl rfl) hS dX6_store_56
        · have ef : fitsF f = false := by simp only [fitsF, c_4, c_8, c_12, c_16, Bool.and_true, Bool.true_and, Bool.and_false, Bool.false_and]
          have e0 : sifS n C f = (n, C) := by rw [sifS, if_neg (by rw [ef]; decide)]
          have hP : va_P D vwCl [(h0, moE (nI (sifS n C f).1) st f k he p ma tr t tb fo gi), (st, aiE cI 240 ((sifS n C f).2))] H := by rw [e0]; exact hP
          have hD : va_D AA [(h0, moE (nI (sifS n C f).1) st f k he p ma tr t tb fo gi), (st, aiE cI 240 ((sifS n C f).2))] := by rw [e0]; exact hD
          refine lv_sipush (v := (-10005)) X.1 X.2.1 dX6_store_40 (by decide) ?_
          exact hret (-10005) () _ _ _ _ (by rw [sifR, if_neg (by rw [ef]; decide)]) rfl (hP.sub [0, 1] rfl) (hD.sub [0, 1] rfl rfl) hS dX6_store_43
set_option maxHeartbeats 4000000 in
set_option maxRecDepth 100000 in
theorem m_addForm (l : Launch) (D : va_G) (cI cJ : ClassId) (h0 : Nat) (st : Nat) (he : Nat) (ma : Nat) (tr : Nat) (fo : Nat) (gi : Nat) (n : Nat) (f : Fm) (k : Fm) (p : Em) (t : Fm) (tb : Int32) (C : Nat → Int32) (a : Int32) (b : Int32) (c : Int32) (d : Int32) (hn : n ≤ 60) : CtI l yX6_addForm cX6_addForm 6 .int (rmk 3 66) D cI cJ [.ref h0, .int a, .int b, .int c, .int d] [(h0, moE (nI n) st f k he p ma tr t tb fo gi), (st, aiE cI 240 C)] (fun (_ : Unit) => [(h0, moE (nI (sifS n C (a.toInt64, b.toInt64, c.toInt64, d.toInt64)).1) st (a.toInt64, b.toInt64, c.toInt64, d.toInt64) k he p ma tr t tb fo gi), (st, aiE cI 240 ((sifS n C (a.toInt64, b.toInt64, c.toInt64, d.toInt64)).2))]) (fun (r : Int32) (_ : Unit) => r = if fitsF (a.toInt64, b.toInt64, c.toInt64, d.toInt64) then stR n else (-10003)) := by
  refine CtI.of (own := RX6) (by decide +kernel) (Nat.le_of_ble_eq_true rfl) rfl ?_
  intro pr_ en_ sg_ me_ ar_ be_ mt_ co_ AA ls QQ X hA hP hD hS hl hret
  have hl : lv_has ls 6 [(0, .ref h0), (1, .int a), (2, .int b), (3, .int c), (4, .int d)] := hl
  refine lv_aload_n X.1 X.2.1 dX6_addForm_0 rfl (lv_at hl 0 rfl) ?_
  refine lv_iload_n X.1 X.2.1 dX6_addForm_1 rfl (lv_at hl 1 rfl) ?_
  refine lv_i2l X.1 X.2.1 dX6_addForm_2 rfl ?_
  refine lv_iload_n X.1 X.2.1 dX6_addForm_3 rfl (lv_at hl 2 rfl) ?_
  refine lv_i2l X.1 X.2.1 dX6_addForm_4 rfl ?_
  refine lv_iload_n X.1 X.2.1 dX6_addForm_5 rfl (lv_at hl 3 rfl) ?_
  refine lv_i2l X.1 X.2.1 dX6_addForm_6 rfl ?_
  refine lv_iload X.1 X.2.1 dX6_addForm_7 (lv_at hl 4 rfl) ?_
  refine lv_i2l X.1 X.2.1 dX6_addForm_9 rfl ?_
  refine fin_v (wr := [(st, aiE cI 240 C)]) (cv_X6_58 X (m_set l D cI cJ h0 st he ma tr fo gi n f k p t tb a.toInt64 b.toInt64 c.toInt64 d.toInt64  _) rfl rfl dX6_addForm_10 hP hD 0 rfl [0] rfl rfl hl.1 rfl rfl (Nat.le_of_ble_eq_true rfl) ⟨Nat.le_of_ble_eq_true rfl, Nat.le_of_ble_eq_true rfl⟩ ⟨Nat.le_of_ble_eq_true rfl, Nat.le_of_ble_eq_true rfl⟩) hP hD hS hA [0] [1] rfl rfl rfl (by decide) (fun u_2 H locs w_1 hP hD hS => ?_)
  have hP : va_P D vwCl [(st, aiE cI 240 C), (h0, moE (nI n) st (a.toInt64, b.toInt64, c.toInt64, d.toInt64) k he p ma tr t tb fo gi)] H := hP
  have hD : va_D AA [(st, aiE cI 240 C), (h0, moE (nI n) st (a.toInt64, b.toInt64, c.toInt64, d.toInt64) k he p ma tr t tb fo gi)] := hD
  refine lv_aload_n X.1 X.2.1 dX6_addForm_13 rfl (lv_at hl 0 rfl) ?_
  refine fin_i (wr := []) (cv_X6_62 X (m_store l D cI cJ h0 st he ma tr fo gi n (a.toInt64, b.toInt64, c.toInt64, d.toInt64) k p t tb C (by first | assumption | omega) _) rfl rfl dX6_addForm_14 hP hD 1 rfl [1, 0] rfl rfl hl.1 rfl rfl (Nat.le_of_ble_eq_true rfl) ⟨Nat.le_of_ble_eq_true rfl, Nat.le_of_ble_eq_true rfl⟩ ⟨Nat.le_of_ble_eq_true rfl, Nat.le_of_ble_eq_true rfl⟩) hP hD hS hA [1, 0] [] rfl rfl rfl (by decide) (fun r_6 u_5 H locs w_4 hP hD hS => ?_)
  have hP : va_P D vwCl [(h0, moE (nI (sifS n C (a.toInt64, b.toInt64, c.toInt64, d.toInt64)).1) st (a.toInt64, b.toInt64, c.toInt64, d.toInt64) k he p ma tr t tb fo gi), (st, aiE cI 240 ((sifS n C (a.toInt64, b.toInt64, c.toInt64, d.toInt64)).2))] H := hP
  have hD : va_D AA [(h0, moE (nI (sifS n C (a.toInt64, b.toInt64, c.toInt64, d.toInt64)).1) st (a.toInt64, b.toInt64, c.toInt64, d.toInt64) k he p ma tr t tb fo gi), (st, aiE cI 240 ((sifS n C (a.toInt64, b.toInt64, c.toInt64, d.toInt64)).2))] := hD
  subst w_4
  refine lv_istore (lv' := [(5, .int (sifR n (a.toInt64, b.toInt64, c.toInt64, d.toInt64))), (0, .ref h0), (1, .int a), (2, .int b), (3, .int c), (4, .int d)]) X.1 X.2.1 dX6_addForm_17 hl (by decide) rfl (fun ls hl => ?_)
  refine lv_iload X.1 X.2.1 dX6_addForm_19 (lv_at hl 0 rfl) ?_
  refine lv_sipush (v := (-10005)) X.1 X.2.1 dX6_addForm_21 (by decide) ?_
  refine bi_ne (tgt := 33) X dX6_addForm_24 (by decide) (fun c_7 => ?_) (fun c_7 => ?_)
  · refine lv_iload X.1 X.2.1 dX6_addForm_33 (lv_at hl 0 rfl) ?_
    exact hret (sifR n (a.toInt64, b.toInt64, c.toInt64, d.toInt64)) () _ _ _ _ (addR_ne c_7) rfl (hP.sub [0, 1] rfl) (hD.sub [0, 1] rfl rfl) hS dX6_addForm_35
  · refine lv_sipush (v := (-10003)) X.1 X.2.1 dX6_addForm_27 (by decide) ?_
    refine lv_goto (tgt := 35) X.1 X.2.1 dX6_addForm_30 (by decide) ?_
    exact hret (-10003) () _ _ _ _ (addR_eq hn c_7) rfl (hP.sub [0, 1] rfl) (hD.sub [0, 1] rfl rfl) hS dX6_addForm_35
set_option maxHeartbeats 4000000 in
set_option maxRecDepth 100000 in
theorem m_clearForms (l : Launch) (D : va_G) (cI cJ : ClassId) (h0 : Nat) (st : Nat) (he : Nat) (ma : Nat) (tr : Nat) (fo : Nat) (gi : Nat) (n : Nat) (f : Fm) (k : Fm) (p : Em) (t : Fm) (tb : Int32)  : CtI l yX6_clearForms cX6_clearForms 2 .int (rmk 0 0) D cI cJ [.ref h0] [(h0, moE (nI n) st f k he p ma tr t tb fo gi)] (fun (_ : Unit) => [(h0, moE (nI 0) st f k he p ma tr t tb fo gi)]) (fun (r : Int32) (_ : Unit) => r = nI n) := by
  refine CtI.of (own := RX6) (by decide +kernel) (Nat.le_of_ble_eq_true rfl) rfl ?_
  intro pr_ en_ sg_ me_ ar_ be_ mt_ co_ AA ls QQ X hA hP hD hS hl hret
  have hl : lv_has ls 2 [(0, .ref h0)] := hl
  refine lv_aload_n X.1 X.2.1 dX6_clearForms_0 rfl (lv_at hl 0 rfl) ?_
  refine gf_X6_29 (v := .int (nI n)) X hP 0 rfl rfl dX6_clearForms_1 ?_
  refine lv_istore_n (lv' := [(1, .int (nI n)), (0, .ref h0)]) X.1 X.2.1 dX6_clearForms_4 rfl hl (by decide) rfl (fun ls hl => ?_)
  refine lv_aload_n X.1 X.2.1 dX6_clearForms_5 rfl (lv_at hl 1 rfl) ?_
  refine lv_iconst (v := 0) X.1 X.2.1 dX6_clearForms_6 (by decide) ?_
  refine pf_X6_29 X hP hD hS 0 rfl rfl rfl (Nat.le_of_ble_eq_true rfl) dX6_clearForms_7 (fun H locs hP hD hS => ?_)
  have hP : va_P D vwCl [(h0, moE 0 st f k he p ma tr t tb fo gi)] H := hP
  have hD : va_D AA [(h0, moE 0 st f k he p ma tr t tb fo gi)] := hD
  refine lv_iload_n X.1 X.2.1 dX6_clearForms_10 rfl (lv_at hl 0 rfl) ?_
  exact hret (nI n) () _ _ _ _ (rfl) rfl (hP.sub [0] rfl) (hD.sub [0] rfl rfl) hS dX6_clearForms_11
set_option maxHeartbeats 4000000 in
set_option maxRecDepth 100000 in
theorem m_coefficient (l : Launch) (D : va_G) (cI cJ : ClassId) (h0 : Nat) (st : Nat) (he : Nat) (ma : Nat) (tr : Nat) (fo : Nat) (gi : Nat) (n : Nat) (f : Fm) (k : Fm) (p : Em) (t : Fm) (tb : Int32) (C : Nat → Int32) (x : Int32) (y : Int32) (hn : n ≤ 60) : CtI l yX6_coefficient cX6_coefficient 3 .int (rmk 2 46) D cI cJ [.ref h0, .int x, .int y] [(h0, moE (nI n) st f k he p ma tr t tb fo gi), (st, aiE cI 240 C)] (fun (_ : Unit) => [(h0, moE (nI n) st f k he p ma tr t tb fo gi), (st, aiE cI 240 C)]) (fun (r : Int32) (_ : Unit) => r = if isFormB n x then (if y < 0 then (-10003) else if y < 4 then C (4 * x.toNatClampNeg + y.toNatClampNeg) else (-10003)) else (-10001)) := by
  refine CtI.of (own := RX6) (by decide +kernel) (Nat.le_of_ble_eq_true rfl) rfl ?_
  intro pr_ en_ sg_ me_ ar_ be_ mt_ co_ AA ls QQ X hA hP hD hS hl hret
  have hl : lv_has ls 3 [(0, .ref h0), (1, .int x), (2, .int y)] := hl
  refine lv_aload_n X.1 X.2.1 dX6_coefficient_0 rfl (lv_at hl 0 rfl) ?_
  refine lv_iload_n X.1 X.2.1 dX6_coefficient_1 rfl (lv_at hl 1 rfl) ?_
  refine fin_i (wr := [(st, aiE cI 240 C)]) (cv_X6_66 X (m_isForm l D cI cJ h0 st he ma tr fo gi n f k p t tb x (by first | assumption | omega) _) rfl rfl dX6_coefficient_2 hP hD 0 rfl [0] rfl rfl hl.1 rfl rfl (Nat.le_of_ble_eq_true rfl) ⟨Nat.le_of_ble_eq_true rfl, Nat.le_of_ble_eq_true rfl⟩ ⟨Nat.le_of_ble_eq_true rfl, Nat.le_of_ble_eq_true rfl⟩) hP hD hS hA [0] [1] rfl rfl rfl (by decide) (fun r_3 u_2 H locs w_1 hP hD hS => ?_)
  have hP : va_P D vwCl [(st, aiE cI 240 C), (h0, moE (nI n) st f k he p ma tr t tb fo gi)] H := hP
  have hD : va_D AA [(st, aiE cI 240 C), (h0, moE (nI n) st f k he p ma tr t tb fo gi)] := hD
  subst w_1
  refine bb_ne (tgt := 12) X dX6_coefficient_5 (by decide) (fun c_4 => ?_) (fun c_4 => ?_)
  · refine lv_iload_n X.1 X.2.1 dX6_coefficient_12 rfl (lv_at hl 2 rfl) ?_
    refine lv_i2l X.1 X.2.1 dX6_coefficient_13 rfl ?_
    refine lv_lconst (v := 0) X.1 X.2.1 dX6_coefficient_14 (by decide) ?_
    refine lc_X6_70 X dX6_coefficient_15 ?_
    refine fin_i (wr := [(st, aiE cI 240 C), (h0, moE (nI n) st f k he p ma tr t tb fo gi)]) (cv_X6_33 X (m_isBetween l D cI cJ y.toInt64 0 3  _) rfl rfl dX6_coefficient_18 hP hD [] rfl rfl hl.1 rfl rfl (Nat.le_of_ble_eq_true rfl) ⟨Nat.le_of_ble_eq_true rfl, Nat.le_of_ble_eq_true rfl⟩ ⟨Nat.le_of_ble_eq_true rfl, Nat.le_of_ble_eq_true rfl⟩) hP hD hS hA [] [0, 1] rfl rfl rfl (by decide) (fun r_7 u_6 H locs w_5 hP hD hS => ?_)
    have hP : va_P D vwCl [(st, aiE cI 240 C), (h0, moE (nI n) st f k he p ma tr t tb fo gi)] H := hP
    have hD : va_D AA [(st, aiE cI 240 C), (h0, moE (nI n) st f k he p ma tr t tb fo gi)] := hD
    subst w_5
    refine bb_eq (tgt := 37) X dX6_coefficient_21 (by decide) (fun c_8 => ?_) (fun c_8 => ?_)
    · refine lv_sipush (v := (-10003)) X.1 X.2.1 dX6_coefficient_37 (by decide) ?_
      exact hret (-10003) () _ _ _ _ (by rw [if_pos c_4]; exact btw3f c_8) rfl (hP.sub [1, 0] rfl) (hD.sub [1, 0] rfl rfl) hS dX6_coefficient_40
    · obtain ⟨j, hj, hx⟩ := isFormB_out hn c_4
      obtain ⟨i, hi, hy, hy1, hy2⟩ := btw3 c_8
      refine lv_aload_n X.1 X.2.1 dX6_coefficient_24 rfl (lv_at hl 0 rfl) ?_
      refine gf_X6_7 (v := .ref st) X hP 1 rfl rfl dX6_coefficient_25 ?_
      refine lv_iconst (v := 4) X.1 X.2.1 dX6_coefficient_28 (by decide) ?_
      refine lv_iload_n X.1 X.2.1 dX6_coefficient_29 rfl (lv_at hl 1 rfl) ?_
      refine lv_imul X.1 X.2.1 dX6_coefficient_30 ?_
      refine lv_iload_n X.1 X.2.1 dX6_coefficient_31 rfl (lv_at hl 2 rfl) ?_
      refine lv_iadd X.1 X.2.1 dX6_coefficient_32 ?_
      rw [hx, hy, nI_4l, nI_add]
      refine va_iald X.1 X.2.1 X.k hP 0 0 rfl rfl (vp_in_nI (by omega) (by omega)) dX6_coefficient_33 ?_
      refine lv_goto (tgt := 40) X.1 X.2.1 dX6_coefficient_34 (by decide) ?_
      exact hret (C ((nI (4 * j + i)).toNatClampNeg)) () _ _ _ _ (by rw [if_pos c_4, if_neg hy1, if_pos hy2, hx, hy, nI_clamp (show j < 2 ^ 31 by omega), nI_clamp (show i < 2 ^ 31 by omega), nI_clamp (by omega)]) rfl (hP.sub [1, 0] rfl) (hD.sub [1, 0] rfl rfl) hS dX6_coefficient_40
  · refine lv_sipush (v := (-10001)) X.1 X.2.1 dX6_coefficient_8 (by decide) ?_
    exact hret (-10001) () _ _ _ _ (by rw [if_neg (by rw [c_4]; decide)]) rfl (hP.sub [1, 0] rfl) (hD.sub [1, 0] rfl rfl) hS dX6_coefficient_11
set_option maxHeartbeats 4000000 in
set_option maxRecDepth 100000 in
theorem m_discriminantNow (l : Launch) (D : va_G) (cI cJ : ClassId) (h0 : Nat) (st : Nat) (he : Nat) (ma : Nat) (tr : Nat) (fo : Nat) (gi : Nat) (n : Nat) (f : Fm) (k : Fm) (p : Em) (t : Fm) (tb : Int32)  : CtL l yX6_discriminantNow cX6_discriminantNow 1 (rmk 0 0) D cI cJ [.ref h0] [(h0, moE (nI n) st f k he p ma tr t tb fo gi)] (fun (_ : Unit) => [(h0, moE (nI n) st f k he p ma tr t tb fo gi)]) (fun (r : Int64) (_ : Unit) => r = discF f) := by
  refine CtL.of (own := RX6) (by decide +kernel) (Nat.le_of_ble_eq_true rfl) rfl ?_
  intro pr_ en_ sg_ me_ ar_ be_ mt_ co_ AA ls QQ X hA hP hD hS hl hret
  have hl : lv_has ls 1 [(0, .ref h0)] := hl
  refine lv_aload_n X.1 X.2.1 dX6_discriminantNow_0 rfl (lv_at hl 0 rfl) ?_
  refine gf_X6_45 (v := .long f.2.1) X hP 0 rfl rfl dX6_discriminantNow_1 ?_
  refine lv_aload_n X.1 X.2.1 dX6_discriminantNow_4 rfl (lv_at hl 0 rfl) ?_
  refine gf_X6_45 (v := .long f.2.1) X hP 0 rfl rfl dX6_discriminantNow_5 ?_
  refine lv_lmul X.1 X.2.1 dX6_discriminantNow_8 ?_
  refine lv_aload_n X.1 X.2.1 dX6_discriminantNow_9 rfl (lv_at hl 0 rfl) ?_
  refine gf_X6_48 (v := .long f.2.2.1) X hP 0 rfl rfl dX6_discriminantNow_10 ?_
  refine lv_lmul X.1 X.2.1 dX6_discriminantNow_13 ?_
  refine lv_aload_n X.1 X.2.1 dX6_discriminantNow_14 rfl (lv_at hl 0 rfl) ?_
  refine gf_X6_48 (v := .long f.2.2.1) X hP 0 rfl rfl dX6_discriminantNow_15 ?_
  refine lv_lmul X.1 X.2.1 dX6_discriminantNow_18 ?_
  refine lc_X6_72 X dX6_discriminantNow_19 ?_
  refine lv_aload_n X.1 X.2.1 dX6_discriminantNow_22 rfl (lv_at hl 0 rfl) ?_
  refine gf_X6_41 (v := .long f.1) X hP 0 rfl rfl dX6_discriminantNow_23 ?_
  refine lv_lmul X.1 X.2.1 dX6_discriminantNow_26 ?_
  refine lv_aload_n X.1 X.2.1 dX6_discriminantNow_27 rfl (lv_at hl 0 rfl) ?_
  refine gf_X6_48 (v := .long f.2.2.1) X hP 0 rfl rfl dX6_discriminantNow_28 ?_
  refine lv_lmul X.1 X.2.1 dX6_discriminantNow_31 ?_
  refine lv_aload_n X.1 X.2.1 dX6_discriminantNow_32 rfl (lv_at hl 0 rfl) ?_
  refine gf_X6_48 (v := .long f.2.2.1) X hP 0 rfl rfl dX6_discriminantNow_33 ?_
  refine lv_lmul X.1 X.2.1 dX6_discriminantNow_36 ?_
  refine lv_aload_n X.1 X.2.1 dX6_discriminantNow_37 rfl (lv_at hl 0 rfl) ?_
  refine gf_X6_48 (v := .long f.2.2.1) X hP 0 rfl rfl dX6_discriminantNow_38 ?_
  refine lv_lmul X.1 X.2.1 dX6_discriminantNow_41 ?_
  refine lv_lsub X.1 X.2.1 dX6_discriminantNow_42 ?_
  refine lc_X6_72 X dX6_discriminantNow_43 ?_
  refine lv_aload_n X.1 X.2.1 dX6_discriminantNow_46 rfl (lv_at hl 0 rfl) ?_
  refine gf_X6_45 (v := .long f.2.1) X hP 0 rfl rfl dX6_discriminantNow_47 ?_
  refine lv_lmul X.1 X.2.1 dX6_discriminantNow_50 ?_
  refine lv_aload_n X.1 X.2.1 dX6_discriminantNow_51 rfl (lv_at hl 0 rfl) ?_
  refine gf_X6_45 (v := .long f.2.1) X hP 0 rfl rfl dX6_discriminantNow_52 ?_
  refine lv_lmul X.1 X.2.1 dX6_discriminantNow_55 ?_
  refine lv_aload_n X.1 X.2.1 dX6_discriminantNow_56 rfl (lv_at hl 0 rfl) ?_
  refine gf_X6_45 (v := .long f.2.1) X hP 0 rfl rfl dX6_discriminantNow_57 ?_
  refine lv_lmul X.1 X.2.1 dX6_discriminantNow_60 ?_
  refine lv_aload_n X.1 X.2.1 dX6_discriminantNow_61 rfl (lv_at hl 0 rfl) ?_
  refine gf_X6_51 (v := .long f.2.2.2) X hP 0 rfl rfl dX6_discriminantNow_62 ?_
  refine lv_lmul X.1 X.2.1 dX6_discriminantNow_65 ?_
  refine lv_lsub X.1 X.2.1 dX6_discriminantNow_66 ?_
  refine lc_X6_74 X dX6_discriminantNow_67 ?_
  refine lv_aload_n X.1 X.2.1 dX6_discriminantNow_70 rfl (lv_at hl 0 rfl) ?_
  refine gf_X6_41 (v := .long f.1) X hP 0 rfl rfl dX6_discriminantNow_71 ?_
  refine lv_lmul X.1 X.2.1 dX6_discriminantNow_74 ?_
  refine lv_aload_n X.1 X.2.1 dX6_discriminantNow_75 rfl (lv_at hl 0 rfl) ?_
  refine gf_X6_41 (v := .long f.1) X hP 0 rfl rfl dX6_discriminantNow_76 ?_
  refine lv_lmul X.1 X.2.1 dX6_discriminantNow_79 ?_
  refine lv_aload_n X.1 X.2.1 dX6_discriminantNow_80 rfl (lv_at hl 0 rfl) ?_
  refine gf_X6_51 (v := .long f.2.2.2) X hP 0 rfl rfl dX6_discriminantNow_81 ?_
  refine lv_lmul X.1 X.2.1 dX6_discriminantNow_84 ?_
  refine lv_aload_n X.1 X.2.1 dX6_discriminantNow_85 rfl (lv_at hl 0 rfl) ?_
  refine gf_X6_51 (v := .long f.2.2.2) X hP 0 rfl rfl dX6_discriminantNow_86 ?_
  refine lv_lmul X.1 X.2.1 dX6_discriminantNow_89 ?_
  refine lv_lsub X.1 X.2.1 dX6_discriminantNow_90 ?_
  refine lc_X6_76 X dX6_discriminantNow_91 ?_
  refine lv_aload_n X.1 X.2.1 dX6_discriminantNow_94 rfl (lv_at hl 0 rfl) ?_
  refine gf_X6_41 (v := .long f.1) X hP 0 rfl rfl dX6_discriminantNow_95 ?_
  refine lv_lmul X.1 X.2.1 dX6_discriminantNow_98 ?_
  refine lv_aload_n X.1 X.2.1 dX6_discriminantNow_99 rfl (lv_at hl 0 rfl) ?_
  refine gf_X6_45 (v := .long f.2.1) X hP 0 rfl rfl dX6_discriminantNow_100 ?_
  refine lv_lmul X.1 X.2.1 dX6_discriminantNow_103 ?_
  refine lv_aload_n X.1 X.2.1 dX6_discriminantNow_104 rfl (lv_at hl 0 rfl) ?_
  refine gf_X6_48 (v := .long f.2.2.1) X hP 0 rfl rfl dX6_discriminantNow_105 ?_
  refine lv_lmul X.1 X.2.1 dX6_discriminantNow_108 ?_
  refine lv_aload_n X.1 X.2.1 dX6_discriminantNow_109 rfl (lv_at hl 0 rfl) ?_
  refine gf_X6_51 (v := .long f.2.2.2) X hP 0 rfl rfl dX6_discriminantNow_110 ?_
  refine lv_lmul X.1 X.2.1 dX6_discriminantNow_113 ?_
  refine lv_ladd X.1 X.2.1 dX6_discriminantNow_114 ?_
  exact hret (((((((f.2.1 * f.2.1) * f.2.2.1) * f.2.2.1) - ((((4 * f.1) * f.2.2.1) * f.2.2.1) * f.2.2.1)) - ((((4 * f.2.1) * f.2.1) * f.2.1) * f.2.2.2)) - ((((27 * f.1) * f.1) * f.2.2.2) * f.2.2.2)) + ((((18 * f.1) * f.2.1) * f.2.2.1) * f.2.2.2)) () _ _ _ _ (rfl) (hP.sub [0] rfl) (hD.sub [0] rfl rfl) hS dX6_discriminantNow_115
set_option maxHeartbeats 4000000 in
set_option maxRecDepth 100000 in
theorem m_hessianP (l : Launch) (D : va_G) (cI cJ : ClassId) (h0 : Nat) (st : Nat) (he : Nat) (ma : Nat) (tr : Nat) (fo : Nat) (gi : Nat) (n : Nat) (f : Fm) (k : Fm) (p : Em) (t : Fm) (tb : Int32)  : CtL l yX6_hessianP cX6_hessianP 1 (rmk 0 0) D cI cJ [.ref h0] [(h0, moE (nI n) st f k he p ma tr t tb fo gi)] (fun (_ : Unit) => [(h0, moE (nI n) st f k he p ma tr t tb fo gi)]) (fun (r : Int64) (_ : Unit) => r = hpF f) := by
  refine CtL.of (own := RX6) (by decide +kernel) (Nat.le_of_ble_eq_true rfl) rfl ?_
  intro pr_ en_ sg_ me_ ar_ be_ mt_ co_ AA ls QQ X hA hP hD hS hl hret
  have hl : lv_has ls 1 [(0, .ref h0)] := hl
  refine lv_aload_n X.1 X.2.1 dX6_hessianP_0 rfl (lv_at hl 0 rfl) ?_
  refine gf_X6_45 (v := .long f.2.1) X hP 0 rfl rfl dX6_hessianP_1 ?_
  refine lv_aload_n X.1 X.2.1 dX6_hessianP_4 rfl (lv_at hl 0 rfl) ?_
  refine gf_X6_45 (v := .long f.2.1) X hP 0 rfl rfl dX6_hessianP_5 ?_
  refine lv_lmul X.1 X.2.1 dX6_hessianP_8 ?_
  refine lc_X6_70 X dX6_hessianP_9 ?_
  refine lv_aload_n X.1 X.2.1 dX6_hessianP_12 rfl (lv_at hl 0 rfl) ?_
  refine gf_X6_41 (v := .long f.1) X hP 0 rfl rfl dX6_hessianP_13 ?_
  refine lv_lmul X.1 X.2.1 dX6_hessianP_16 ?_
  refine lv_aload_n X.1 X.2.1 dX6_hessianP_17 rfl (lv_at hl 0 rfl) ?_
  refine gf_X6_48 (v := .long f.2.2.1) X hP 0 rfl rfl dX6_hessianP_18 ?_
  refine lv_lmul X.1 X.2.1 dX6_hessianP_21 ?_
  refine lv_lsub X.1 X.2.1 dX6_hessianP_22 ?_
  exact hret ((f.2.1 * f.2.1) - ((3 * f.1) * f.2.2.1)) () _ _ _ _ (rfl) (hP.sub [0] rfl) (hD.sub [0] rfl rfl) hS dX6_hessianP_23
set_option maxHeartbeats 4000000 in
set_option maxRecDepth 100000 in
theorem m_hessianQ (l : Launch) (D : va_G) (cI cJ : ClassId) (h0 : Nat) (st : Nat) (he : Nat) (ma : Nat) (tr : Nat) (fo : Nat) (gi : Nat) (n : Nat) (f : Fm) (k : Fm) (p : Em) (t : Fm) (tb : Int32)  : CtL l yX6_hessianQ cX6_hessianQ 1 (rmk 0 0) D cI cJ [.ref h0] [(h0, moE (nI n) st f k he p ma tr t tb fo gi)] (fun (_ : Unit) => [(h0, moE (nI n) st f k he p ma tr t tb fo gi)]) (fun (r : Int64) (_ : Unit) => r = hqF f) := by
  refine CtL.of (own := RX6) (by decide +kernel) (Nat.le_of_ble_eq_true rfl) rfl ?_
  intro pr_ en_ sg_ me_ ar_ be_ mt_ co_ AA ls QQ X hA hP hD hS hl hret
  have hl : lv_has ls 1 [(0, .ref h0)] := hl
  refine lv_aload_n X.1 X.2.1 dX6_hessianQ_0 rfl (lv_at hl 0 rfl) ?_
  refine gf_X6_45 (v := .long f.2.1) X hP 0 rfl rfl dX6_hessianQ_1 ?_
  refine lv_aload_n X.1 X.2.1 dX6_hessianQ_4 rfl (lv_at hl 0 rfl) ?_
  refine gf_X6_48 (v := .long f.2.2.1) X hP 0 rfl rfl dX6_hessianQ_5 ?_
  refine lv_lmul X.1 X.2.1 dX6_hessianQ_8 ?_
  refine lc_X6_78 X dX6_hessianQ_9 ?_
  refine lv_aload_n X.1 X.2.1 dX6_hessianQ_12 rfl (lv_at hl 0 rfl) ?_
  refine gf_X6_41 (v := .long f.1) X hP 0 rfl rfl dX6_hessianQ_13 ?_
  refine lv_lmul X.1 X.2.1 dX6_hessianQ_16 ?_
  refine lv_aload_n X.1 X.2.1 dX6_hessianQ_17 rfl (lv_at hl 0 rfl) ?_
  refine gf_X6_51 (v := .long f.2.2.2) X hP 0 rfl rfl dX6_hessianQ_18 ?_
  refine lv_lmul X.1 X.2.1 dX6_hessianQ_21 ?_
  refine lv_lsub X.1 X.2.1 dX6_hessianQ_22 ?_
  exact hret ((f.2.1 * f.2.2.1) - ((9 * f.1) * f.2.2.2)) () _ _ _ _ (rfl) (hP.sub [0] rfl) (hD.sub [0] rfl rfl) hS dX6_hessianQ_23
set_option maxHeartbeats 4000000 in
set_option maxRecDepth 100000 in
theorem m_hessianR (l : Launch) (D : va_G) (cI cJ : ClassId) (h0 : Nat) (st : Nat) (he : Nat) (ma : Nat) (tr : Nat) (fo : Nat) (gi : Nat) (n : Nat) (f : Fm) (k : Fm) (p : Em) (t : Fm) (tb : Int32)  : CtL l yX6_hessianR cX6_hessianR 1 (rmk 0 0) D cI cJ [.ref h0] [(h0, moE (nI n) st f k he p ma tr t tb fo gi)] (fun (_ : Unit) => [(h0, moE (nI n) st f k he p ma tr t tb fo gi)]) (fun (r : Int64) (_ : Unit) => r = hrF f) := by
  refine CtL.of (own := RX6) (by decide +kernel) (Nat.le_of_ble_eq_true rfl) rfl ?_
  intro pr_ en_ sg_ me_ ar_ be_ mt_ co_ AA ls QQ X hA hP hD hS hl hret
  have hl : lv_has ls 1 [(0, .ref h0)] := hl
  refine lv_aload_n X.1 X.2.1 dX6_hessianR_0 rfl (lv_at hl 0 rfl) ?_
  refine gf_X6_48 (v := .long f.2.2.1) X hP 0 rfl rfl dX6_hessianR_1 ?_
  refine lv_aload_n X.1 X.2.1 dX6_hessianR_4 rfl (lv_at hl 0 rfl) ?_
  refine gf_X6_48 (v := .long f.2.2.1) X hP 0 rfl rfl dX6_hessianR_5 ?_
  refine lv_lmul X.1 X.2.1 dX6_hessianR_8 ?_
  refine lc_X6_70 X dX6_hessianR_9 ?_
  refine lv_aload_n X.1 X.2.1 dX6_hessianR_12 rfl (lv_at hl 0 rfl) ?_
  refine gf_X6_45 (v := .long f.2.1) X hP 0 rfl rfl dX6_hessianR_13 ?_
  refine lv_lmul X.1 X.2.1 dX6_hessianR_16 ?_
  refine lv_aload_n X.1 X.2.1 dX6_hessianR_17 rfl (lv_at hl 0 rfl) ?_
  refine gf_X6_51 (v := .long f.2.2.2) X hP 0 rfl rfl dX6_hessianR_18 ?_
  refine lv_lmul X.1 X.2.1 dX6_hessianR_21 ?_
  refine lv_lsub X.1 X.2.1 dX6_hessianR_22 ?_
  exact hret ((f.2.2.1 * f.2.2.1) - ((3 * f.2.1) * f.2.2.2)) () _ _ _ _ (rfl) (hP.sub [0] rfl) (hD.sub [0] rfl rfl) hS dX6_hessianR_23
set_option maxHeartbeats 4000000 in
set_option maxRecDepth 100000 in
theorem m_discriminant (l : Launch) (D : va_G) (cI cJ : ClassId) (h0 : Nat) (st : Nat) (he : Nat) (ma : Nat) (tr : Nat) (fo : Nat) (gi : Nat) (n : Nat) (f : Fm) (k : Fm) (p : Em) (t : Fm) (tb : Int32) (C : Nat → Int32) (x : Int32) (hn : n ≤ 60) : CtL l yX6_discriminant cX6_discriminant 2 (rmk 2 46) D cI cJ [.ref h0, .int x] [(h0, moE (nI n) st f k he p ma tr t tb fo gi), (st, aiE cI 240 C)] (fun (u : Fm) => [(h0, moE (nI n) st u k he p ma tr t tb fo gi), (st, aiE cI 240 C)]) (fun (r : Int64) (u : Fm) => r = if isFormB n x then discF (ldF C x.toNatClampNeg) else (-9223372036854775808)) := by
  refine CtL.of (own := RX6) (by decide +kernel) (Nat.le_of_ble_eq_true rfl) rfl ?_
  intro pr_ en_ sg_ me_ ar_ be_ mt_ co_ AA ls QQ X hA hP hD hS hl hret
  have hl : lv_has ls 2 [(0, .ref h0), (1, .int x)] := hl
  refine lv_aload_n X.1 X.2.1 dX6_discriminant_0 rfl (lv_at hl 0 rfl) ?_
  refine lv_iload_n X.1 X.2.1 dX6_discriminant_1 rfl (lv_at hl 1 rfl) ?_
  refine fin_i (wr := [(st, aiE cI 240 C)]) (cv_X6_66 X (m_isForm l D cI cJ h0 st he ma tr fo gi n f k p t tb x (by first | assumption | omega) _) rfl rfl dX6_discriminant_2 hP hD 0 rfl [0] rfl rfl hl.1 rfl rfl (Nat.le_of_ble_eq_true rfl) ⟨Nat.le_of_ble_eq_true rfl, Nat.le_of_ble_eq_true rfl⟩ ⟨Nat.le_of_ble_eq_true rfl, Nat.le_of_ble_eq_true rfl⟩) hP hD hS hA [0] [1] rfl rfl rfl (by decide) (fun r_3 u_2 H locs w_1 hP hD hS => ?_)
  have hP : va_P D vwCl [(st, aiE cI 240 C), (h0, moE (nI n) st f k he p ma tr t tb fo gi)] H := hP
  have hD : va_D AA [(st, aiE cI 240 C), (h0, moE (nI n) st f k he p ma tr t tb fo gi)] := hD
  subst w_1
  refine bb_ne (tgt := 12) X dX6_discriminant_5 (by decide) (fun c_4 => ?_) (fun c_4 => ?_)
  · refine lv_aload_n X.1 X.2.1 dX6_discriminant_12 rfl (lv_at hl 0 rfl) ?_
    refine lv_iload_n X.1 X.2.1 dX6_discriminant_13 rfl (lv_at hl 1 rfl) ?_
    refine fin_v (wr := []) (cv_X6_82 X (m_load l D cI cJ h0 st he ma tr fo gi n f k p t tb C x hn c_4 _) rfl rfl dX6_discriminant_14 hP hD 1 rfl [1, 0] rfl rfl hl.1 rfl rfl (Nat.le_of_ble_eq_true rfl) ⟨Nat.le_of_ble_eq_true rfl, Nat.le_of_ble_eq_true rfl⟩ ⟨Nat.le_of_ble_eq_true rfl, Nat.le_of_ble_eq_true rfl⟩) hP hD hS hA [1, 0] [] rfl rfl rfl (by decide) (fun u_6 H locs w_5 hP hD hS => ?_)
    have hP : va_P D vwCl [(h0, moE (nI n) st (ldF C x.toNatClampNeg) k he p ma tr t tb fo gi), (st, aiE cI 240 C)] H := hP
    have hD : va_D AA [(h0, moE (nI n) st (ldF C x.toNatClampNeg) k he p ma tr t tb fo gi), (st, aiE cI 240 C)] := hD
    refine lv_aload_n X.1 X.2.1 dX6_discriminant_17 rfl (lv_at hl 0 rfl) ?_
    refine fin_l (wr := [(st, aiE cI 240 C)]) (cv_X6_86 X (m_discriminantNow l D cI cJ h0 st he ma tr fo gi n (ldF C x.toNatClampNeg) k p t tb  _) rfl rfl dX6_discriminant_18 hP hD 0 rfl [0] rfl rfl hl.1 rfl rfl (Nat.le_of_ble_eq_true rfl) ⟨Nat.le_of_ble_eq_true rfl, Nat.le_of_ble_eq_true rfl⟩ ⟨Nat.le_of_ble_eq_true rfl, Nat.le_of_ble_eq_true rfl⟩) hP hD hS hA [0] [1] rfl rfl rfl (by decide) (fun r_10 u_9 H locs w_8 hP hD hS => ?_)
    have hP : va_P D vwCl [(st, aiE cI 240 C), (h0, moE (nI n) st (ldF C x.toNatClampNeg) k he p ma tr t tb fo gi)] H := hP
    have hD : va_D AA [(st, aiE cI 240 C), (h0, moE (nI n) st (ldF C x.toNatClampNeg) k he p ma tr t tb fo gi)] := hD
    subst w_8
    exact hret (discF (ldF C x.toNatClampNeg)) (ldF C x.toNatClampNeg) _ _ _ _ (by rw [if_pos c_4]) (hP.sub [1, 0] rfl) (hD.sub [1, 0] rfl rfl) hS dX6_discriminant_21
  · refine lc_X6_80 X dX6_discriminant_8 ?_
    exact hret (-9223372036854775808) f _ _ _ _ (by rw [if_neg (by rw [c_4]; decide)]) (hP.sub [1, 0] rfl) (hD.sub [1, 0] rfl rfl) hS dX6_discriminant_11
set_option maxHeartbeats 4000000 in
set_option maxRecDepth 100000 in
theorem m_hessian (l : Launch) (D : va_G) (cI cJ : ClassId) (h0 : Nat) (st : Nat) (he : Nat) (ma : Nat) (tr : Nat) (fo : Nat) (gi : Nat) (n : Nat) (f : Fm) (k : Fm) (p : Em) (t : Fm) (tb : Int32) (C : Nat → Int32) (x : Int32) (y : Int32) (hn : n ≤ 60) : CtL l yX6_hessian cX6_hessian 3 (rmk 2 46) D cI cJ [.ref h0, .int x, .int y] [(h0, moE (nI n) st f k he p ma tr t tb fo gi), (st, aiE cI 240 C)] (fun (u : Fm) => [(h0, moE (nI n) st u k he p ma tr t tb fo gi), (st, aiE cI 240 C)]) (fun (r : Int64) (u : Fm) => r = if isFormB n x then hesR (ldF C x.toNatClampNeg) y else (-9223372036854775808)) := by
  refine CtL.of (own := RX6) (by decide +kernel) (Nat.le_of_ble_eq_true rfl) rfl ?_
  intro pr_ en_ sg_ me_ ar_ be_ mt_ co_ AA ls QQ X hA hP hD hS hl hret
  have hl : lv_has ls 3 [(0, .ref h0), (1, .int x), (2, .int y)] := hl
  refine lv_aload_n X.1 X.2.1 dX6_hessian_0 rfl (lv_at hl 0 rfl) ?_
  refine lv_iload_n X.1 X.2.1 dX6_hessian_1 rfl (lv_at hl 1 rfl) ?_
  refine fin_i (wr := [(st, aiE cI 240 C)]) (cv_X6_66 X (m_isForm l D cI cJ h0 st he ma tr fo gi n f k p t tb x (by first | assumption | omega) _) rfl rfl dX6_hessian_2 hP hD 0 rfl [0] rfl rfl hl.1 rfl rfl (Nat.le_of_ble_eq_true rfl) ⟨Nat.le_of_ble_eq_true rfl, Nat.le_of_ble_eq_true rfl⟩ ⟨Nat.le_of_ble_eq_true rfl, Nat.le_of_ble_eq_true rfl⟩) hP hD hS hA [0] [1] rfl rfl rfl (by decide) (fun r_3 u_2 H locs w_1 hP hD hS => ?_)
  have hP : va_P D vwCl [(st, aiE cI 240 C), (h0, moE (nI n) st f k he p ma tr t tb fo gi)] H := hP
  have hD : va_D AA [(st, aiE cI 240 C), (h0, moE (nI n) st f k he p ma tr t tb fo gi)] := hD
  subst w_1
  refine bb_eq (tgt := 20) X dX6_hessian_5 (by decide) (fun c_4 => ?_) (fun c_4 => ?_)
  · refine lc_X6_80 X dX6_hessian_20 ?_
    exact hret (-9223372036854775808) f _ _ _ _ (by rw [if_neg (by rw [c_4]; decide)]) (hP.sub [1, 0] rfl) (hD.sub [1, 0] rfl rfl) hS dX6_hessian_23
  · refine lv_iload_n X.1 X.2.1 dX6_hessian_8 rfl (lv_at hl 2 rfl) ?_
    refine lv_i2l X.1 X.2.1 dX6_hessian_9 rfl ?_
    refine lv_lconst (v := 0) X.1 X.2.1 dX6_hessian_10 (by decide) ?_
    refine lc_X6_90 X dX6_hessian_11 ?_
    refine fin_i (wr := [(st, aiE cI 240 C), (h0, moE (nI n) st f k he p ma tr t tb fo gi)]) (cv_X6_33 X (m_isBetween l D cI cJ y.toInt64 0 2  _) rfl rfl dX6_hessian_14 hP hD [] rfl rfl hl.1 rfl rfl (Nat.le_of_ble_eq_true rfl) ⟨Nat.le_of_ble_eq_true rfl, Nat.le_of_ble_eq_true rfl⟩ ⟨Nat.le_of_ble_eq_true rfl, Nat.le_of_ble_eq_true rfl⟩) hP hD hS hA [] [0, 1] rfl rfl rfl (by decide) (fun r_7 u_6 H locs w_5 hP hD hS => ?_)
    have hP : va_P D vwCl [(st, aiE cI 240 C), (h0, moE (nI n) st f k he p ma tr t tb fo gi)] H := hP
    have hD : va_D AA [(st, aiE cI 240 C), (h0, moE (nI n) st f k he p ma tr t tb fo gi)] := hD
    subst w_5
    refine bb_ne (tgt := 24) X dX6_hessian_17 (by decide) (fun c_8 => ?_) (fun c_8 => ?_)
    · refine lv_aload_n X.1 X.2.1 dX6_hessian_24 rfl (lv_at hl 0 rfl) ?_
      refine lv_iload_n X.1 X.2.1 dX6_hessian_25 rfl (lv_at hl 1 rfl) ?_
      refine fin_v (wr := []) (cv_X6_82 X (m_load l D cI cJ h0 st he ma tr fo gi n f k p t tb C x hn c_4 _) rfl rfl dX6_hessian_26 hP hD 1 rfl [1, 0] rfl rfl hl.1 rfl rfl (Nat.le_of_ble_eq_true rfl) ⟨Nat.le_of_ble_eq_true rfl, Nat.le_of_ble_eq_true rfl⟩ ⟨Nat.le_of_ble_eq_true rfl, Nat.le_of_ble_eq_true rfl⟩) hP hD hS hA [1, 0] [] rfl rfl rfl (by decide) (fun u_10 H locs w_9 hP hD hS => ?_)
      have hP : va_P D vwCl [(h0, moE (nI n) st (ldF C x.toNatClampNeg) k he p ma tr t tb fo gi), (st, aiE cI 240 C)] H := hP
      have hD : va_D AA [(h0, moE (nI n) st (ldF C x.toNatClampNeg) k he p ma tr t tb fo gi), (st, aiE cI 240 C)] := hD
      refine lv_iload_n X.1 X.2.1 dX6_hessian_29 rfl (lv_at hl 2 rfl) ?_
      refine bz_ne (tgt := 40) X dX6_hessian_30 (by decide) (fun c_12 => ?_) (fun c_12 => ?_)
      · refine lv_iload_n X.1 X.2.1 dX6_hessian_40 rfl (lv_at hl 2 rfl) ?_
        refine lv_iconst (v := 1) X.1 X.2.1 dX6_hessian_41 (by decide) ?_
        refine bi_ne (tgt := 52) X dX6_hessian_42 (by decide) (fun c_13 => ?_) (fun c_13 => ?_)
        · refine lv_aload_n X.1 X.2.1 dX6_hessian_52 rfl (lv_at hl 0 rfl) ?_
          refine fin_l (wr := [(st, aiE cI 240 C)]) (cv_X6_98 X (m_hessianR l D cI cJ h0 st he ma tr fo gi n (ldF C x.toNatClampNeg) k p t tb  _) rfl rfl dX6_hessian_53 hP hD 0 rfl [0] rfl rfl hl.1 rfl rfl (Nat.le_of_ble_eq_true rfl) ⟨Nat.le_of_ble_eq_true rfl, Nat.le_of_ble_eq_true rfl⟩ ⟨Nat.le_of_ble_eq_true rfl, Nat.le_of_ble_eq_true rfl⟩) hP hD hS hA [0] [1] rfl rfl rfl (by decide) (fun r_16 u_15 H locs w_14 hP hD hS => ?_)
          have hP : va_P D vwCl [(st, aiE cI 240 C), (h0, moE (nI n) st (ldF C x.toNatClampNeg) k he p ma tr t tb fo gi)] H := hP
          have hD : va_D AA [(st, aiE cI 240 C), (h0, moE (nI n) st (ldF C x.toNatClampNeg) k he p ma tr t tb fo gi)] := hD
          subst w_14
          exact hret (hrF (ldF C x.toNatClampNeg)) (ldF C x.toNatClampNeg) _ _ _ _ (by rw [if_pos c_4]; exact hesR_5 c_8 c_12 c_13) (hP.sub [1, 0] rfl) (hD.sub [1, 0] rfl rfl) hS dX6_hessian_56
        · refine lv_aload_n X.1 X.2.1 dX6_hessian_45 rfl (lv_at hl 0 rfl) ?_
          refine fin_l (wr := [(st, aiE cI 240 C)]) (cv_X6_95 X (m_hessianQ l D cI cJ h0 st he ma tr fo gi n (ldF C x.toNatClampNeg) k p t tb  _) rfl rfl dX6_hessian_46 hP hD 0 rfl [0] rfl rfl hl.1 rfl rfl (Nat.le_of_ble_eq_true rfl) ⟨Nat.le_of_ble_eq_true rfl, Nat.le_of_ble_eq_true rfl⟩ ⟨Nat.le_of_ble_eq_true rfl, Nat.le_of_ble_eq_true rfl⟩) hP hD hS hA [0] [1] rfl rfl rfl (by decide) (fun r_19 u_18 H locs w_17 hP hD hS => ?_)
          have hP : va_P D vwCl [(st, aiE cI 240 C), (h0, moE (nI n) st (ldF C x.toNatClampNeg) k he p ma tr t tb fo gi)] H := hP
          have hD : va_D AA [(st, aiE cI 240 C), (h0, moE (nI n) st (ldF C x.toNatClampNeg) k he p ma tr t tb fo gi)] := hD
          subst w_17
          refine lv_goto (tgt := 56) X.1 X.2.1 dX6_hessian_49 (by decide) ?_
          exact hret (hqF (ldF C x.toNatClampNeg)) (ldF C x.toNatClampNeg) _ _ _ _ (by rw [if_pos c_4]; exact hesR_4 c_8 c_12 c_13) (hP.sub [1, 0] rfl) (hD.sub [1, 0] rfl rfl) hS dX6_hessian_56
      · refine lv_aload_n X.1 X.2.1 dX6_hessian_33 rfl (lv_at hl 0 rfl) ?_
        refine fin_l (wr := [(st, aiE cI 240 C)]) (cv_X6_92 X (m_hessianP l D cI cJ h0 st he ma tr fo gi n (ldF C x.toNatClampNeg) k p t tb  _) rfl rfl dX6_hessian_34 hP hD 0 rfl [0] rfl rfl hl.1 rfl rfl (Nat.le_of_ble_eq_true rfl) ⟨Nat.le_of_ble_eq_true rfl, Nat.le_of_ble_eq_true rfl⟩ ⟨Nat.le_of_ble_eq_true rfl, Nat.le_of_ble_eq_true rfl⟩) hP hD hS hA [0] [1] rfl rfl rfl (by decide) (fun r_22 u_21 H locs w_20 hP hD hS => ?_)
        have hP : va_P D vwCl [(st, aiE cI 240 C), (h0, moE (nI n) st (ldF C x.toNatClampNeg) k he p ma tr t tb fo gi)] H := hP
        have hD : va_D AA [(st, aiE cI 240 C), (h0, moE (nI n) st (ldF C x.toNatClampNeg) k he p ma tr t tb fo gi)] := hD
        subst w_20
        refine lv_goto (tgt := 56) X.1 X.2.1 dX6_hessian_37 (by decide) ?_
        exact hret (hpF (ldF C x.toNatClampNeg)) (ldF C x.toNatClampNeg) _ _ _ _ (by rw [if_pos c_4]; exact hesR_3 c_8 c_12) (hP.sub [1, 0] rfl) (hD.sub [1, 0] rfl rfl) hS dX6_hessian_56
    · refine lc_X6_80 X dX6_hessian_20 ?_
      exact hret (-9223372036854775808) f _ _ _ _ (by rw [if_pos c_4, hesR_b c_8]) (hP.sub [1, 0] rfl) (hD.sub [1, 0] rfl rfl) hS dX6_hessian_23
