set_option maxHeartbeats 4000000 in
set_option maxRecDepth 100000 in
theorem m_valueNow (l : Launch) (D : va_G) (cI cJ : ClassId) (h0 : Nat) (st : Nat) (he : Nat) (ma : Nat) (tr : Nat) (fo : Nat) (gi : Nat) (n : Nat) (f : Fm) (k : Fm) (p : Em) (t : Fm) (tb : Int32) (x : Int64) (y : Int64)  : CtL l yX6_valueNow cX6_valueNow 5 (rmk 0 0) D cI cJ [.ref h0, .long x, .long y] [(h0, moE (nI n) st f k he p ma tr t tb fo gi)] (fun (_ : Unit) => [(h0, moE (nI n) st f k he p ma tr t tb fo gi)]) (fun (r : Int64) (_ : Unit) => r = valF f x y) := by
  refine CtL.of (own := RX6) (by decide +kernel) (Nat.le_of_ble_eq_true rfl) rfl ?_
  intro pr_ en_ sg_ me_ ar_ be_ mt_ co_ AA ls QQ X hA hP hD hS hl hret
  have hl : lv_has ls 5 [(0, .ref h0), (1, .long x), (3, .long y)] := hl
  refine lv_aload_n X.1 X.2.1 dX6_valueNow_0 rfl (lv_at hl 0 rfl) ?_
  refine gf_X6_41 (v := .long f.1) X hP 0 rfl rfl dX6_valueNow_1 ?_
  refine lv_lload_n X.1 X.2.1 dX6_valueNow_4 rfl (lv_at hl 1 rfl) ?_
  refine lv_lmul X.1 X.2.1 dX6_valueNow_5 ?_
  refine lv_lload_n X.1 X.2.1 dX6_valueNow_6 rfl (lv_at hl 1 rfl) ?_
  refine lv_lmul X.1 X.2.1 dX6_valueNow_7 ?_
  refine lv_lload_n X.1 X.2.1 dX6_valueNow_8 rfl (lv_at hl 1 rfl) ?_
  refine lv_lmul X.1 X.2.1 dX6_valueNow_9 ?_
  refine lv_aload_n X.1 X.2.1 dX6_valueNow_10 rfl (lv_at hl 0 rfl) ?_
  refine gf_X6_45 (v := .long f.2.1) X hP 0 rfl rfl dX6_valueNow_11 ?_
  refine lv_lload_n X.1 X.2.1 dX6_valueNow_14 rfl (lv_at hl 1 rfl) ?_
  refine lv_lmul X.1 X.2.1 dX6_valueNow_15 ?_
  refine lv_lload_n X.1 X.2.1 dX6_valueNow_16 rfl (lv_at hl 1 rfl) ?_
  refine lv_lmul X.1 X.2.1 dX6_valueNow_17 ?_
  refine lv_lload_n X.1 X.2.1 dX6_valueNow_18 rfl (lv_at hl 2 rfl) ?_
  refine lv_lmul X.1 X.2.1 dX6_valueNow_19 ?_
  refine lv_ladd X.1 X.2.1 dX6_valueNow_20 ?_
  refine lv_aload_n X.1 X.2.1 dX6_valueNow_21 rfl (lv_at hl 0 rfl) ?_
  refine gf_X6_48 (v := .long f.2.2.1) X hP 0 rfl rfl dX6_valueNow_22 ?_
  refine lv_lload_n X.1 X.2.1 dX6_valueNow_25 rfl (lv_at hl 1 rfl) ?_
  refine lv_lmul X.1 X.2.1 dX6_valueNow_26 ?_
  refine lv_lload_n X.1 X.2.1 dX6_valueNow_27 rfl (lv_at hl 2 rfl) ?_
  refine lv_lmul X.1 X.2.1 dX6_valueNow_28 ?_
  refine lv_lload_n X.1 X.2.1 dX6_valueNow_29 rfl (lv_at hl 2 rfl) ?_
  refine lv_lmul X.1 X.2.1 dX6_valueNow_30 ?_
  refine lv_ladd X.1 X.2.1 dX6_valueNow_31 ?_
  refine lv_aload_n X.1 X.2.1 dX6_valueNow_32 rfl (lv_at hl 0 rfl) ?_
  refine gf_X6_51 (v := .long f.2.2.2) X hP 0 rfl rfl dX6_valueNow_33 ?_
  refine lv_lload_n X.1 X.2.1 dX6_valueNow_36 rfl (lv_at hl 2 rfl) ?_
  refine lv_lmul X.1 X.2.1 dX6_valueNow_37 ?_
  refine lv_lload_n X.1 X.2.1 dX6_valueNow_38 rfl (lv_at hl 2 rfl) ?_
  refine lv_lmul X.1 X.2.1 dX6_valueNow_39 ?_
  refine lv_lload_n X.1 X.2.1 dX6_valueNow_40 rfl (lv_at hl 2 rfl) ?_
  refine lv_lmul X.1 X.2.1 dX6_valueNow_41 ?_
  refine lv_ladd X.1 X.2.1 dX6_valueNow_42 ?_
  exact hret ((((((f.1 * x) * x) * x) + (((f.2.1 * x) * x) * y)) + (((f.2.2.1 * x) * y) * y)) + (((f.2.2.2 * y) * y) * y)) () _ _ _ _ (by rw [valM]) (hP.sub [0] rfl) (hD.sub [0] rfl rfl) hS dX6_valueNow_43
set_option maxHeartbeats 4000000 in
set_option maxRecDepth 100000 in
theorem m_value (l : Launch) (D : va_G) (cI cJ : ClassId) (h0 : Nat) (st : Nat) (he : Nat) (ma : Nat) (tr : Nat) (fo : Nat) (gi : Nat) (n : Nat) (f : Fm) (k : Fm) (p : Em) (t : Fm) (tb : Int32) (C : Nat → Int32) (x : Int32) (y : Int32) (z : Int32) (hn : n ≤ 60) : CtL l yX6_value cX6_value 4 (rmk 2 46) D cI cJ [.ref h0, .int x, .int y, .int z] [(h0, moE (nI n) st f k he p ma tr t tb fo gi), (st, aiE cI 240 C)] (fun (u : Fm) => [(h0, moE (nI n) st u k he p ma tr t tb fo gi), (st, aiE cI 240 C)]) (fun (r : Int64) (u : Fm) => r = if isFormB n x then (if isW y.toInt64 1000 then (if isW z.toInt64 1000 then valF (ldF C x.toNatClampNeg) y.toInt64 z.toInt64 else (-9223372036854775808)) else (-9223372036854775808)) else (-9223372036854775808)) := by
  refine CtL.of (own := RX6) (by decide +kernel) (Nat.le_of_ble_eq_true rfl) rfl ?_
  intro pr_ en_ sg_ me_ ar_ be_ mt_ co_ AA ls QQ X hA hP hD hS hl hret
  have hl : lv_has ls 4 [(0, .ref h0), (1, .int x), (2, .int y), (3, .int z)] := hl
  refine lv_aload_n X.1 X.2.1 dX6_value_0 rfl (lv_at hl 0 rfl) ?_
  refine lv_iload_n X.1 X.2.1 dX6_value_1 rfl (lv_at hl 1 rfl) ?_
  refine fin_i (wr := [(st, aiE cI 240 C)]) (cv_X6_66 X (m_isForm l D cI cJ h0 st he ma tr fo gi n f k p t tb x (by first | assumption | omega) _) rfl rfl dX6_value_2 hP hD 0 rfl [0] rfl rfl hl.1 rfl rfl (Nat.le_of_ble_eq_true rfl) ⟨Nat.le_of_ble_eq_true rfl, Nat.le_of_ble_eq_true rfl⟩ ⟨Nat.le_of_ble_eq_true rfl, Nat.le_of_ble_eq_true rfl⟩) hP hD hS hA [0] [1] rfl rfl rfl (by decide) (fun r_3 u_2 H locs w_1 hP hD hS => ?_)
  have hP : va_P D vwCl [(st, aiE cI 240 C), (h0, moE (nI n) st f k he p ma tr t tb fo gi)] H := hP
  have hD : va_D AA [(st, aiE cI 240 C), (h0, moE (nI n) st f k he p ma tr t tb fo gi)] := hD
  subst w_1
  refine bb_eq (tgt := 36) X dX6_value_5 (by decide) (fun c_4 => ?_) (fun c_4 => ?_)
  · refine lc_X6_80 X dX6_value_36 ?_
    exact hret (-9223372036854775808) f _ _ _ _ (by rw [if_neg (by rw [c_4]; decide)]) (hP.sub [1, 0] rfl) (hD.sub [1, 0] rfl rfl) hS dX6_value_39
  · refine lv_iload_n X.1 X.2.1 dX6_value_8 rfl (lv_at hl 2 rfl) ?_
    refine lv_i2l X.1 X.2.1 dX6_value_9 rfl ?_
    refine lc_X6_101 X dX6_value_10 ?_
    refine lc_X6_103 X dX6_value_13 ?_
    refine fin_i (wr := [(st, aiE cI 240 C), (h0, moE (nI n) st f k he p ma tr t tb fo gi)]) (cv_X6_33 X (m_isBetween l D cI cJ y.toInt64 (-1000) 1000  _) rfl rfl dX6_value_16 hP hD [] rfl rfl hl.1 rfl rfl (Nat.le_of_ble_eq_true rfl) ⟨Nat.le_of_ble_eq_true rfl, Nat.le_of_ble_eq_true rfl⟩ ⟨Nat.le_of_ble_eq_true rfl, Nat.le_of_ble_eq_true rfl⟩) hP hD hS hA [] [0, 1] rfl rfl rfl (by decide) (fun r_7 u_6 H locs w_5 hP hD hS => ?_)
    have hP : va_P D vwCl [(st, aiE cI 240 C), (h0, moE (nI n) st f k he p ma tr t tb fo gi)] H := hP
    have hD : va_D AA [(st, aiE cI 240 C), (h0, moE (nI n) st f k he p ma tr t tb fo gi)] := hD
    subst w_5
    refine bb_eq (tgt := 36) X dX6_value_19 (by decide) (fun c_8 => ?_) (fun c_8 => ?_)
    · refine lc_X6_80 X dX6_value_36 ?_
      exact hret (-9223372036854775808) f _ _ _ _ (by rw [if_pos c_4, if_neg (by rw [show isW _ _ = false from c_8]; decide)]) (hP.sub [1, 0] rfl) (hD.sub [1, 0] rfl rfl) hS dX6_value_39
    · refine lv_iload_n X.1 X.2.1 dX6_value_22 rfl (lv_at hl 3 rfl) ?_
      refine lv_i2l X.1 X.2.1 dX6_value_23 rfl ?_
      refine lc_X6_101 X dX6_value_24 ?_
      refine lc_X6_103 X dX6_value_27 ?_
      refine fin_i (wr := [(st, aiE cI 240 C), (h0, moE (nI n) st f k he p ma tr t tb fo gi)]) (cv_X6_33 X (m_isBetween l D cI cJ z.toInt64 (-1000) 1000  _) rfl rfl dX6_value_30 hP hD [] rfl rfl hl.1 rfl rfl (Nat.le_of_ble_eq_true rfl) ⟨Nat.le_of_ble_eq_true rfl, Nat.le_of_ble_eq_true rfl⟩ ⟨Nat.le_of_ble_eq_true rfl, Nat.le_of_ble_eq_true rfl⟩) hP hD hS hA [] [0, 1] rfl rfl rfl (by decide) (fun r_11 u_10 H locs w_9 hP hD hS => ?_)
      have hP : va_P D vwCl [(st, aiE cI 240 C), (h0, moE (nI n) st f k he p ma tr t tb fo gi)] H := hP
      have hD : va_D AA [(st, aiE cI 240 C), (h0, moE (nI n) st f k he p ma tr t tb fo gi)] := hD
      subst w_9
      refine bb_ne (tgt := 40) X dX6_value_33 (by decide) (fun c_12 => ?_) (fun c_12 => ?_)
      · refine lv_aload_n X.1 X.2.1 dX6_value_40 rfl (lv_at hl 0 rfl) ?_
        refine lv_iload_n X.1 X.2.1 dX6_value_41 rfl (lv_at hl 1 rfl) ?_
        refine fin_v (wr := []) (cv_X6_82 X (m_load l D cI cJ h0 st he ma tr fo gi n f k p t tb C x hn c_4 _) rfl rfl dX6_value_42 hP hD 1 rfl [1, 0] rfl rfl hl.1 rfl rfl (Nat.le_of_ble_eq_true rfl) ⟨Nat.le_of_ble_eq_true rfl, Nat.le_of_ble_eq_true rfl⟩ ⟨Nat.le_of_ble_eq_true rfl, Nat.le_of_ble_eq_true rfl⟩) hP hD hS hA [1, 0] [] rfl rfl rfl (by decide) (fun u_14 H locs w_13 hP hD hS => ?_)
        have hP : va_P D vwCl [(h0, moE (nI n) st (ldF C x.toNatClampNeg) k he p ma tr t tb fo gi), (st, aiE cI 240 C)] H := hP
        have hD : va_D AA [(h0, moE (nI n) st (ldF C x.toNatClampNeg) k he p ma tr t tb fo gi), (st, aiE cI 240 C)] := hD
        refine lv_aload_n X.1 X.2.1 dX6_value_45 rfl (lv_at hl 0 rfl) ?_
        refine lv_iload_n X.1 X.2.1 dX6_value_46 rfl (lv_at hl 2 rfl) ?_
        refine lv_i2l X.1 X.2.1 dX6_value_47 rfl ?_
        refine lv_iload_n X.1 X.2.1 dX6_value_48 rfl (lv_at hl 3 rfl) ?_
        refine lv_i2l X.1 X.2.1 dX6_value_49 rfl ?_
        refine fin_l (wr := [(st, aiE cI 240 C)]) (cv_X6_105 X (m_valueNow l D cI cJ h0 st he ma tr fo gi n (ldF C x.toNatClampNeg) k p t tb y.toInt64 z.toInt64  _) rfl rfl dX6_value_50 hP hD 0 rfl [0] rfl rfl hl.1 rfl rfl (Nat.le_of_ble_eq_true rfl) ⟨Nat.le_of_ble_eq_true rfl, Nat.le_of_ble_eq_true rfl⟩ ⟨Nat.le_of_ble_eq_true rfl, Nat.le_of_ble_eq_true rfl⟩) hP hD hS hA [0] [1] rfl rfl rfl (by decide) (fun r_18 u_17 H locs w_16 hP hD hS => ?_)
        have hP : va_P D vwCl [(st, aiE cI 240 C), (h0, moE (nI n) st (ldF C x.toNatClampNeg) k he p ma tr t tb fo gi)] H := hP
        have hD : va_D AA [(st, aiE cI 240 C), (h0, moE (nI n) st (ldF C x.toNatClampNeg) k he p ma tr t tb fo gi)] := hD
        subst w_16
        exact hret (valF (ldF C x.toNatClampNeg) y.toInt64 z.toInt64) (ldF C x.toNatClampNeg) _ _ _ _ (by rw [if_pos c_4, if_pos (show isW _ _ = true from c_8), if_pos (show isW _ _ = true from c_12)]) (hP.sub [1, 0] rfl) (hD.sub [1, 0] rfl rfl) hS dX6_value_53
      · refine lc_X6_80 X dX6_value_36 ?_
        exact hret (-9223372036854775808) f _ _ _ _ (by rw [if_pos c_4, if_pos (show isW _ _ = true from c_8), if_neg (by rw [show isW _ _ = false from c_12]; decide)]) (hP.sub [1, 0] rfl) (hD.sub [1, 0] rfl rfl) hS dX6_value_39
set_option maxHeartbeats 4000000 in
set_option maxRecDepth 100000 in
theorem m_apply (l : Launch) (D : va_G) (cI cJ : ClassId) (h0 : Nat) (st : Nat) (he : Nat) (ma : Nat) (tr : Nat) (fo : Nat) (gi : Nat) (n : Nat) (f : Fm) (k : Fm) (p : Em) (t : Fm) (tb : Int32) (p1 : Int64) (q1 : Int64) (r1 : Int64) (s1 : Int64)  : CtV l yX6_apply cX6_apply 17 (rmk 1 28) D cI cJ [.ref h0, .long p1, .long q1, .long r1, .long s1] [(h0, moE (nI n) st f k he p ma tr t tb fo gi)] (fun (_ : Unit) => [(h0, moE (nI n) st (subF f p1 q1 r1 s1) k he p ma tr t tb fo gi)]) (fun (_ : Unit) => True) 0 0 := by
  refine CtV.of (own := RX6) (by decide +kernel) (Nat.le_of_ble_eq_true rfl) rfl ?_
  intro pr_ en_ sg_ me_ ar_ be_ mt_ co_ AA ls QQ X hin hA hP hD hS hl hret
  have hl : lv_has ls 17 [(0, .ref h0), (1, .long p1), (3, .long q1), (5, .long r1), (7, .long s1)] := hl
  refine lv_aload_n X.1 X.2.1 dX6_apply_0 rfl (lv_at hl 0 rfl) ?_
  refine lv_lload_n X.1 X.2.1 dX6_apply_1 rfl (lv_at hl 1 rfl) ?_
  refine lv_lload X.1 X.2.1 dX6_apply_2 (lv_at hl 3 rfl) ?_
  refine fin_l (wr := []) (cv_X6_105 X (m_valueNow l D cI cJ h0 st he ma tr fo gi n f k p t tb p1 r1  _) rfl rfl dX6_apply_4 hP hD 0 rfl [0] rfl rfl hl.1 rfl rfl (Nat.le_of_ble_eq_true rfl) ⟨Nat.le_of_ble_eq_true rfl, Nat.le_of_ble_eq_true rfl⟩ ⟨Nat.le_of_ble_eq_true rfl, Nat.le_of_ble_eq_true rfl⟩) hP hD hS hA [0] [] rfl rfl rfl (by decide) (fun r_3 u_2 H locs w_1 hP hD hS => ?_)
  have hP : va_P D vwCl [(h0, moE (nI n) st f k he p ma tr t tb fo gi)] H := hP
  have hD : va_D AA [(h0, moE (nI n) st f k he p ma tr t tb fo gi)] := hD
  subst w_1
  refine lv_lstore (lv' := [(9, .long (valF f p1 r1)), (0, .ref h0), (1, .long p1), (3, .long q1), (5, .long r1), (7, .long s1)]) X.1 X.2.1 dX6_apply_7 hl (by decide) rfl (fun ls hl => ?_)
  refine lc_X6_70 X dX6_apply_9 ?_
  refine lv_aload_n X.1 X.2.1 dX6_apply_12 rfl (lv_at hl 1 rfl) ?_
  refine gf_X6_41 (v := .long f.1) X hP 0 rfl rfl dX6_apply_13 ?_
  refine lv_lmul X.1 X.2.1 dX6_apply_16 ?_
  refine lv_lload_n X.1 X.2.1 dX6_apply_17 rfl (lv_at hl 2 rfl) ?_
  refine lv_lmul X.1 X.2.1 dX6_apply_18 ?_
  refine lv_lload_n X.1 X.2.1 dX6_apply_19 rfl (lv_at hl 2 rfl) ?_
  refine lv_lmul X.1 X.2.1 dX6_apply_20 ?_
  refine lv_lload_n X.1 X.2.1 dX6_apply_21 rfl (lv_at hl 3 rfl) ?_
  refine lv_lmul X.1 X.2.1 dX6_apply_22 ?_
  refine lv_aload_n X.1 X.2.1 dX6_apply_23 rfl (lv_at hl 1 rfl) ?_
  refine gf_X6_45 (v := .long f.2.1) X hP 0 rfl rfl dX6_apply_24 ?_
  refine lv_lload_n X.1 X.2.1 dX6_apply_27 rfl (lv_at hl 2 rfl) ?_
  refine lv_lload_n X.1 X.2.1 dX6_apply_28 rfl (lv_at hl 2 rfl) ?_
  refine lv_lmul X.1 X.2.1 dX6_apply_29 ?_
  refine lv_lload X.1 X.2.1 dX6_apply_30 (lv_at hl 5 rfl) ?_
  refine lv_lmul X.1 X.2.1 dX6_apply_32 ?_
  refine lc_X6_90 X dX6_apply_33 ?_
  refine lv_lload_n X.1 X.2.1 dX6_apply_36 rfl (lv_at hl 2 rfl) ?_
  refine lv_lmul X.1 X.2.1 dX6_apply_37 ?_
  refine lv_lload_n X.1 X.2.1 dX6_apply_38 rfl (lv_at hl 3 rfl) ?_
  refine lv_lmul X.1 X.2.1 dX6_apply_39 ?_
  refine lv_lload X.1 X.2.1 dX6_apply_40 (lv_at hl 4 rfl) ?_
  refine lv_lmul X.1 X.2.1 dX6_apply_42 ?_
  refine lv_ladd X.1 X.2.1 dX6_apply_43 ?_
  refine lv_lmul X.1 X.2.1 dX6_apply_44 ?_
  refine lv_ladd X.1 X.2.1 dX6_apply_45 ?_
  refine lv_aload_n X.1 X.2.1 dX6_apply_46 rfl (lv_at hl 1 rfl) ?_
  refine gf_X6_48 (v := .long f.2.2.1) X hP 0 rfl rfl dX6_apply_47 ?_
  refine lc_X6_90 X dX6_apply_50 ?_
  refine lv_lload_n X.1 X.2.1 dX6_apply_53 rfl (lv_at hl 2 rfl) ?_
  refine lv_lmul X.1 X.2.1 dX6_apply_54 ?_
  refine lv_lload X.1 X.2.1 dX6_apply_55 (lv_at hl 4 rfl) ?_
  refine lv_lmul X.1 X.2.1 dX6_apply_57 ?_
  refine lv_lload X.1 X.2.1 dX6_apply_58 (lv_at hl 5 rfl) ?_
  refine lv_lmul X.1 X.2.1 dX6_apply_60 ?_
  refine lv_lload_n X.1 X.2.1 dX6_apply_61 rfl (lv_at hl 3 rfl) ?_
  refine lv_lload X.1 X.2.1 dX6_apply_62 (lv_at hl 4 rfl) ?_
  refine lv_lmul X.1 X.2.1 dX6_apply_64 ?_
  refine lv_lload X.1 X.2.1 dX6_apply_65 (lv_at hl 4 rfl) ?_
  refine lv_lmul X.1 X.2.1 dX6_apply_67 ?_
  refine lv_ladd X.1 X.2.1 dX6_apply_68 ?_
  refine lv_lmul X.1 X.2.1 dX6_apply_69 ?_
  refine lv_ladd X.1 X.2.1 dX6_apply_70 ?_
  refine lc_X6_70 X dX6_apply_71 ?_
  refine lv_aload_n X.1 X.2.1 dX6_apply_74 rfl (lv_at hl 1 rfl) ?_
  refine gf_X6_51 (v := .long f.2.2.2) X hP 0 rfl rfl dX6_apply_75 ?_
  refine lv_lmul X.1 X.2.1 dX6_apply_78 ?_
  refine lv_lload X.1 X.2.1 dX6_apply_79 (lv_at hl 4 rfl) ?_
  refine lv_lmul X.1 X.2.1 dX6_apply_81 ?_
  refine lv_lload X.1 X.2.1 dX6_apply_82 (lv_at hl 4 rfl) ?_
  refine lv_lmul X.1 X.2.1 dX6_apply_84 ?_
  refine lv_lload X.1 X.2.1 dX6_apply_85 (lv_at hl 5 rfl) ?_
  refine lv_lmul X.1 X.2.1 dX6_apply_87 ?_
  refine lv_ladd X.1 X.2.1 dX6_apply_88 ?_
  refine lv_lstore (lv' := [(11, .long (((((((3 * f.1) * p1) * p1) * q1) + (f.2.1 * (((p1 * p1) * s1) + (((2 * p1) * q1) * r1)))) + (f.2.2.1 * ((((2 * p1) * r1) * s1) + ((q1 * r1) * r1)))) + ((((3 * f.2.2.2) * r1) * r1) * s1))), (9, .long (valF f p1 r1)), (0, .ref h0), (1, .long p1), (3, .long q1), (5, .long r1), (7, .long s1)]) X.1 X.2.1 dX6_apply_89 hl (by decide) rfl (fun ls hl => ?_)
  refine lc_X6_70 X dX6_apply_91 ?_
  refine lv_aload_n X.1 X.2.1 dX6_apply_94 rfl (lv_at hl 2 rfl) ?_
  refine gf_X6_41 (v := .long f.1) X hP 0 rfl rfl dX6_apply_95 ?_
  refine lv_lmul X.1 X.2.1 dX6_apply_98 ?_
  refine lv_lload_n X.1 X.2.1 dX6_apply_99 rfl (lv_at hl 3 rfl) ?_
  refine lv_lmul X.1 X.2.1 dX6_apply_100 ?_
  refine lv_lload_n X.1 X.2.1 dX6_apply_101 rfl (lv_at hl 4 rfl) ?_
  refine lv_lmul X.1 X.2.1 dX6_apply_102 ?_
  refine lv_lload_n X.1 X.2.1 dX6_apply_103 rfl (lv_at hl 4 rfl) ?_
  refine lv_lmul X.1 X.2.1 dX6_apply_104 ?_
  refine lv_aload_n X.1 X.2.1 dX6_apply_105 rfl (lv_at hl 2 rfl) ?_
  refine gf_X6_45 (v := .long f.2.1) X hP 0 rfl rfl dX6_apply_106 ?_
  refine lc_X6_90 X dX6_apply_109 ?_
  refine lv_lload_n X.1 X.2.1 dX6_apply_112 rfl (lv_at hl 3 rfl) ?_
  refine lv_lmul X.1 X.2.1 dX6_apply_113 ?_
  refine lv_lload_n X.1 X.2.1 dX6_apply_114 rfl (lv_at hl 4 rfl) ?_
  refine lv_lmul X.1 X.2.1 dX6_apply_115 ?_
  refine lv_lload X.1 X.2.1 dX6_apply_116 (lv_at hl 6 rfl) ?_
  refine lv_lmul X.1 X.2.1 dX6_apply_118 ?_
  refine lv_lload_n X.1 X.2.1 dX6_apply_119 rfl (lv_at hl 4 rfl) ?_
  refine lv_lload_n X.1 X.2.1 dX6_apply_120 rfl (lv_at hl 4 rfl) ?_
  refine lv_lmul X.1 X.2.1 dX6_apply_121 ?_
  refine lv_lload X.1 X.2.1 dX6_apply_122 (lv_at hl 5 rfl) ?_
  refine lv_lmul X.1 X.2.1 dX6_apply_124 ?_
  refine lv_ladd X.1 X.2.1 dX6_apply_125 ?_
  refine lv_lmul X.1 X.2.1 dX6_apply_126 ?_
  refine lv_ladd X.1 X.2.1 dX6_apply_127 ?_
  refine lv_aload_n X.1 X.2.1 dX6_apply_128 rfl (lv_at hl 2 rfl) ?_
  refine gf_X6_48 (v := .long f.2.2.1) X hP 0 rfl rfl dX6_apply_129 ?_
  refine lv_lload_n X.1 X.2.1 dX6_apply_132 rfl (lv_at hl 3 rfl) ?_
  refine lv_lload X.1 X.2.1 dX6_apply_133 (lv_at hl 6 rfl) ?_
  refine lv_lmul X.1 X.2.1 dX6_apply_135 ?_
  refine lv_lload X.1 X.2.1 dX6_apply_136 (lv_at hl 6 rfl) ?_
  refine lv_lmul X.1 X.2.1 dX6_apply_138 ?_
  refine lc_X6_90 X dX6_apply_139 ?_
  refine lv_lload_n X.1 X.2.1 dX6_apply_142 rfl (lv_at hl 4 rfl) ?_
  refine lv_lmul X.1 X.2.1 dX6_apply_143 ?_
  refine lv_lload X.1 X.2.1 dX6_apply_144 (lv_at hl 5 rfl) ?_
  refine lv_lmul X.1 X.2.1 dX6_apply_146 ?_
  refine lv_lload X.1 X.2.1 dX6_apply_147 (lv_at hl 6 rfl) ?_
  refine lv_lmul X.1 X.2.1 dX6_apply_149 ?_
  refine lv_ladd X.1 X.2.1 dX6_apply_150 ?_
  refine lv_lmul X.1 X.2.1 dX6_apply_151 ?_
  refine lv_ladd X.1 X.2.1 dX6_apply_152 ?_
  refine lc_X6_70 X dX6_apply_153 ?_
  refine lv_aload_n X.1 X.2.1 dX6_apply_156 rfl (lv_at hl 2 rfl) ?_
  refine gf_X6_51 (v := .long f.2.2.2) X hP 0 rfl rfl dX6_apply_157 ?_
  refine lv_lmul X.1 X.2.1 dX6_apply_160 ?_
  refine lv_lload X.1 X.2.1 dX6_apply_161 (lv_at hl 5 rfl) ?_
  refine lv_lmul X.1 X.2.1 dX6_apply_163 ?_
  refine lv_lload X.1 X.2.1 dX6_apply_164 (lv_at hl 6 rfl) ?_
  refine lv_lmul X.1 X.2.1 dX6_apply_166 ?_
  refine lv_lload X.1 X.2.1 dX6_apply_167 (lv_at hl 6 rfl) ?_
  refine lv_lmul X.1 X.2.1 dX6_apply_169 ?_
  refine lv_ladd X.1 X.2.1 dX6_apply_170 ?_
  refine lv_lstore (lv' := [(13, .long (((((((3 * f.1) * p1) * q1) * q1) + (f.2.1 * ((((2 * p1) * q1) * s1) + ((q1 * q1) * r1)))) + (f.2.2.1 * (((p1 * s1) * s1) + (((2 * q1) * r1) * s1)))) + ((((3 * f.2.2.2) * r1) * s1) * s1))), (11, .long (((((((3 * f.1) * p1) * p1) * q1) + (f.2.1 * (((p1 * p1) * s1) + (((2 * p1) * q1) * r1)))) + (f.2.2.1 * ((((2 * p1) * r1) * s1) + ((q1 * r1) * r1)))) + ((((3 * f.2.2.2) * r1) * r1) * s1))), (9, .long (valF f p1 r1)), (0, .ref h0), (1, .long p1), (3, .long q1), (5, .long r1), (7, .long s1)]) X.1 X.2.1 dX6_apply_171 hl (by decide) rfl (fun ls hl => ?_)
  refine lv_aload_n X.1 X.2.1 dX6_apply_173 rfl (lv_at hl 3 rfl) ?_
  refine lv_lload_n X.1 X.2.1 dX6_apply_174 rfl (lv_at hl 5 rfl) ?_
  refine lv_lload X.1 X.2.1 dX6_apply_175 (lv_at hl 7 rfl) ?_
  refine fin_l (wr := []) (cv_X6_105 X (m_valueNow l D cI cJ h0 st he ma tr fo gi n f k p t tb q1 s1  _) rfl rfl dX6_apply_177 hP hD 0 rfl [0] rfl rfl hl.1 rfl rfl (Nat.le_of_ble_eq_true rfl) ⟨Nat.le_of_ble_eq_true rfl, Nat.le_of_ble_eq_true rfl⟩ ⟨Nat.le_of_ble_eq_true rfl, Nat.le_of_ble_eq_true rfl⟩) hP hD hS hA [0] [] rfl rfl rfl (by decide) (fun r_6 u_5 H locs w_4 hP hD hS => ?_)
  have hP : va_P D vwCl [(h0, moE (nI n) st f k he p ma tr t tb fo gi)] H := hP
  have hD : va_D AA [(h0, moE (nI n) st f k he p ma tr t tb fo gi)] := hD
  subst w_4
  refine lv_lstore (lv' := [(15, .long (valF f q1 s1)), (13, .long (((((((3 * f.1) * p1) * q1) * q1) + (f.2.1 * ((((2 * p1) * q1) * s1) + ((q1 * q1) * r1)))) + (f.2.2.1 * (((p1 * s1) * s1) + (((2 * q1) * r1) * s1)))) + ((((3 * f.2.2.2) * r1) * s1) * s1))), (11, .long (((((((3 * f.1) * p1) * p1) * q1) + (f.2.1 * (((p1 * p1) * s1) + (((2 * p1) * q1) * r1)))) + (f.2.2.1 * ((((2 * p1) * r1) * s1) + ((q1 * r1) * r1)))) + ((((3 * f.2.2.2) * r1) * r1) * s1))), (9, .long (valF f p1 r1)), (0, .ref h0), (1, .long p1), (3, .long q1), (5, .long r1), (7, .long s1)]) X.1 X.2.1 dX6_apply_180 hl (by decide) rfl (fun ls hl => ?_)
  refine lv_aload_n X.1 X.2.1 dX6_apply_182 rfl (lv_at hl 4 rfl) ?_
  refine lv_lload X.1 X.2.1 dX6_apply_183 (lv_at hl 3 rfl) ?_
  refine lv_lload X.1 X.2.1 dX6_apply_185 (lv_at hl 2 rfl) ?_
  refine lv_lload X.1 X.2.1 dX6_apply_187 (lv_at hl 1 rfl) ?_
  refine lv_lload X.1 X.2.1 dX6_apply_189 (lv_at hl 0 rfl) ?_
  refine fin_v (wr := []) (cv_X6_58 X (m_set l D cI cJ h0 st he ma tr fo gi n f k p t tb (valF f p1 r1) (((((((3 * f.1) * p1) * p1) * q1) + (f.2.1 * (((p1 * p1) * s1) + (((2 * p1) * q1) * r1)))) + (f.2.2.1 * ((((2 * p1) * r1) * s1) + ((q1 * r1) * r1)))) + ((((3 * f.2.2.2) * r1) * r1) * s1)) (((((((3 * f.1) * p1) * q1) * q1) + (f.2.1 * ((((2 * p1) * q1) * s1) + ((q1 * q1) * r1)))) + (f.2.2.1 * (((p1 * s1) * s1) + (((2 * q1) * r1) * s1)))) + ((((3 * f.2.2.2) * r1) * s1) * s1)) (valF f q1 s1)  _) rfl rfl dX6_apply_191 hP hD 0 rfl [0] rfl rfl hl.1 rfl rfl (Nat.le_of_ble_eq_true rfl) ⟨Nat.le_of_ble_eq_true rfl, Nat.le_of_ble_eq_true rfl⟩ ⟨Nat.le_of_ble_eq_true rfl, Nat.le_of_ble_eq_true rfl⟩) hP hD hS hA [0] [] rfl rfl rfl (by decide) (fun u_8 H locs w_7 hP hD hS => ?_)
  have hP : va_P D vwCl [(h0, moE (nI n) st ((valF f p1 r1), (((((((3 * f.1) * p1) * p1) * q1) + (f.2.1 * (((p1 * p1) * s1) + (((2 * p1) * q1) * r1)))) + (f.2.2.1 * ((((2 * p1) * r1) * s1) + ((q1 * r1) * r1)))) + ((((3 * f.2.2.2) * r1) * r1) * s1)), (((((((3 * f.1) * p1) * q1) * q1) + (f.2.1 * ((((2 * p1) * q1) * s1) + ((q1 * q1) * r1)))) + (f.2.2.1 * (((p1 * s1) * s1) + (((2 * q1) * r1) * s1)))) + ((((3 * f.2.2.2) * r1) * s1) * s1)), (valF f q1 s1)) k he p ma tr t tb fo gi)] H := hP
  have hD : va_D AA [(h0, moE (nI n) st ((valF f p1 r1), (((((((3 * f.1) * p1) * p1) * q1) + (f.2.1 * (((p1 * p1) * s1) + (((2 * p1) * q1) * r1)))) + (f.2.2.1 * ((((2 * p1) * r1) * s1) + ((q1 * r1) * r1)))) + ((((3 * f.2.2.2) * r1) * r1) * s1)), (((((((3 * f.1) * p1) * q1) * q1) + (f.2.1 * ((((2 * p1) * q1) * s1) + ((q1 * q1) * r1)))) + (f.2.2.1 * (((p1 * s1) * s1) + (((2 * q1) * r1) * s1)))) + ((((3 * f.2.2.2) * r1) * s1) * s1)), (valF f q1 s1)) k he p ma tr t tb fo gi)] := hD
  rw [show ((valF f p1 r1), (((((((3 * f.1) * p1) * p1) * q1) + (f.2.1 * (((p1 * p1) * s1) + (((2 * p1) * q1) * r1)))) + (f.2.2.1 * ((((2 * p1) * r1) * s1) + ((q1 * r1) * r1)))) + ((((3 * f.2.2.2) * r1) * r1) * s1)), (((((((3 * f.1) * p1) * q1) * q1) + (f.2.1 * ((((2 * p1) * q1) * s1) + ((q1 * q1) * r1)))) + (f.2.2.1 * (((p1 * s1) * s1) + (((2 * q1) * r1) * s1)))) + ((((3 * f.2.2.2) * r1) * s1) * s1)), (valF f q1 s1)) = subF f p1 q1 r1 s1 from subM f p1 q1 r1 s1] at hP hD
  exact hret () _ _ _ _ (trivial) (hP.sub [0] rfl) (hD.sub [0] rfl rfl) hS dX6_apply_194
set_option maxHeartbeats 4000000 in
set_option maxRecDepth 100000 in
theorem m_isUnit (l : Launch) (D : va_G) (cI cJ : ClassId) (p1 : Int32) (q1 : Int32) (r1 : Int32) (s1 : Int32)  : CtI l yX6_isUnit cX6_isUnit 4 .boolean (rmk 1 21) D cI cJ [.int p1, .int q1, .int r1, .int s1] [] (fun (_ : Unit) => []) (fun (r : Int32) (_ : Unit) => r = bI (decide (absI (p1 * s1 - q1 * r1) = 1))) := by
  refine CtI.of (own := RX6) (by decide +kernel) (Nat.le_of_ble_eq_true rfl) rfl ?_
  intro pr_ en_ sg_ me_ ar_ be_ mt_ co_ AA ls QQ X hA hP hD hS hl hret
  have hl : lv_has ls 4 [(0, .int p1), (1, .int q1), (2, .int r1), (3, .int s1)] := hl
  refine lv_iload_n X.1 X.2.1 dX6_isUnit_0 rfl (lv_at hl 0 rfl) ?_
  refine lv_iload_n X.1 X.2.1 dX6_isUnit_1 rfl (lv_at hl 3 rfl) ?_
  refine lv_imul X.1 X.2.1 dX6_isUnit_2 ?_
  refine lv_iload_n X.1 X.2.1 dX6_isUnit_3 rfl (lv_at hl 1 rfl) ?_
  refine lv_iload_n X.1 X.2.1 dX6_isUnit_4 rfl (lv_at hl 2 rfl) ?_
  refine lv_imul X.1 X.2.1 dX6_isUnit_5 ?_
  refine lv_isub X.1 X.2.1 dX6_isUnit_6 ?_
  refine lv_i2l X.1 X.2.1 dX6_isUnit_7 rfl ?_
  refine fin_l (wr := []) (cv_X6_109 X (m_size l D cI cJ (((p1 * s1) - (q1 * r1)).toInt64)  _) rfl rfl dX6_isUnit_8 hP hD [] rfl rfl hl.1 rfl rfl (Nat.le_of_ble_eq_true rfl) ⟨Nat.le_of_ble_eq_true rfl, Nat.le_of_ble_eq_true rfl⟩ ⟨Nat.le_of_ble_eq_true rfl, Nat.le_of_ble_eq_true rfl⟩) hP hD hS hA [] [] rfl rfl rfl (by decide) (fun r_3 u_2 H locs w_1 hP hD hS => ?_)
  have hP : va_P D vwCl [] H := hP
  have hD : va_D AA [] := hD
  subst w_1
  refine lv_lconst (v := 1) X.1 X.2.1 dX6_isUnit_11 (by decide) ?_
  refine bl_ne (tgt := 20) X dX6_isUnit_12 dX6_isUnit_13 (by decide) (fun c_4 => ?_) (fun c_4 => ?_)
  · refine lv_iconst (v := 0) X.1 X.2.1 dX6_isUnit_20 (by decide) ?_
    exact hret 0 () _ _ _ _ (by rw [← unit_eq]; simp only [bI, c_4, decide_true, decide_false, if_true, if_false, Bool.false_eq_true]) rfl (hP.sub [] rfl) (hD.sub [] rfl rfl) hS dX6_isUnit_21
  · refine lv_iconst (v := 1) X.1 X.2.1 dX6_isUnit_16 (by decide) ?_
    refine lv_goto (tgt := 21) X.1 X.2.1 dX6_isUnit_17 (by decide) ?_
    exact hret 1 () _ _ _ _ (by rw [← unit_eq]; simp only [bI, c_4, decide_true, decide_false, if_true, if_false, Bool.false_eq_true]) rfl (hP.sub [] rfl) (hD.sub [] rfl rfl) hS dX6_isUnit_21
set_option maxHeartbeats 4000000 in
set_option maxRecDepth 100000 in
theorem m_isEntry (l : Launch) (D : va_G) (cI cJ : ClassId) (x : Int32)  : CtI l yX6_isEntry cX6_isEntry 1 .boolean (rmk 1 25) D cI cJ [.int x] [] (fun (_ : Unit) => []) (fun (r : Int32) (_ : Unit) => r = bI (isW x.toInt64 100)) := by
  refine CtI.of (own := RX6) (by decide +kernel) (Nat.le_of_ble_eq_true rfl) rfl ?_
  intro pr_ en_ sg_ me_ ar_ be_ mt_ co_ AA ls QQ X hA hP hD hS hl hret
  have hl : lv_has ls 1 [(0, .int x)] := hl
  refine lv_iload_n X.1 X.2.1 dX6_isEntry_0 rfl (lv_at hl 0 rfl) ?_
  refine lv_i2l X.1 X.2.1 dX6_isEntry_1 rfl ?_
  refine lc_X6_113 X dX6_isEntry_2 ?_
  refine lc_X6_115 X dX6_isEntry_5 ?_
  refine fin_i (wr := []) (cv_X6_33 X (m_isBetween l D cI cJ x.toInt64 (-100) 100  _) rfl rfl dX6_isEntry_8 hP hD [] rfl rfl hl.1 rfl rfl (Nat.le_of_ble_eq_true rfl) ⟨Nat.le_of_ble_eq_true rfl, Nat.le_of_ble_eq_true rfl⟩ ⟨Nat.le_of_ble_eq_true rfl, Nat.le_of_ble_eq_true rfl⟩) hP hD hS hA [] [] rfl rfl rfl (by decide) (fun r_3 u_2 H locs w_1 hP hD hS => ?_)
  have hP : va_P D vwCl [] H := hP
  have hD : va_D AA [] := hD
  subst w_1
  exact hret (bI (btw x.toInt64 (-100) 100)) () _ _ _ _ (by rw [btw_isW1]) (bI_nar _) (hP.sub [] rfl) (hD.sub [] rfl rfl) hS dX6_isEntry_11
set_option maxHeartbeats 4000000 in
set_option maxRecDepth 100000 in
theorem m_substitute (l : Launch) (D : va_G) (cI cJ : ClassId) (h0 : Nat) (st : Nat) (he : Nat) (ma : Nat) (tr : Nat) (fo : Nat) (gi : Nat) (n : Nat) (f : Fm) (k : Fm) (p : Em) (t : Fm) (tb : Int32) (C : Nat → Int32) (x : Int32) (a : Int32) (b : Int32) (c : Int32) (d : Int32) (hn : n ≤ 60) : CtI l yX6_substitute cX6_substitute 6 .int (rmk 3 66) D cI cJ [.ref h0, .int x, .int a, .int b, .int c, .int d] [(h0, moE (nI n) st f k he p ma tr t tb fo gi), (st, aiE cI 240 C)] (fun (u : Fm) => [(h0, moE (nI (outS n C (subO n C x a b c d)).1) st u k he p ma tr t tb fo gi), (st, aiE cI 240 ((outS n C (subO n C x a b c d)).2))]) (fun (r : Int32) (u : Fm) => r = outR n (subO n C x a b c d)) := by
  refine CtI.of (own := RX6) (by decide +kernel) (Nat.le_of_ble_eq_true rfl) rfl ?_
  intro pr_ en_ sg_ me_ ar_ be_ mt_ co_ AA ls QQ X hA hP hD hS hl hret
  have hl : lv_has ls 6 [(0, .ref h0), (1, .int x), (2, .int a), (3, .int b), (4, .int c), (5, .int d)] := hl
  refine lv_aload_n X.1 X.2.1 dX6_substitute_0 rfl (lv_at hl 0 rfl) ?_
  refine lv_iload_n X.1 X.2.1 dX6_substitute_1 rfl (lv_at hl 1 rfl) ?_
  refine fin_i (wr := [(st, aiE cI 240 C)]) (cv_X6_66 X (m_isForm l D cI cJ h0 st he ma tr fo gi n f k p t tb x (by first | assumption | omega) _) rfl rfl dX6_substitute_2 hP hD 0 rfl [0] rfl rfl hl.1 rfl rfl (Nat.le_of_ble_eq_true rfl) ⟨Nat.le_of_ble_eq_true rfl, Nat.le_of_ble_eq_true rfl⟩ ⟨Nat.le_of_ble_eq_true rfl, Nat.le_of_ble_eq_true rfl⟩) hP hD hS hA [0] [1] rfl rfl rfl (by decide) (fun r_3 u_2 H locs w_1 hP hD hS => ?_)
  have hP : va_P D vwCl [(st, aiE cI 240 C), (h0, moE (nI n) st f k he p ma tr t tb fo gi)] H := hP
  have hD : va_D AA [(st, aiE cI 240 C), (h0, moE (nI n) st f k he p ma tr t tb fo gi)] := hD
  subst w_1
  refine bb_ne (tgt := 12) X dX6_substitute_5 (by decide) (fun c_4 => ?_) (fun c_4 => ?_)
  · refine lv_iload_n X.1 X.2.1 dX6_substitute_12 rfl (lv_at hl 2 rfl) ?_
    refine fin_i (wr := [(st, aiE cI 240 C), (h0, moE (nI n) st f k he p ma tr t tb fo gi)]) (cv_X6_117 X (m_isEntry l D cI cJ a  _) rfl rfl dX6_substitute_13 hP hD [] rfl rfl hl.1 rfl rfl (Nat.le_of_ble_eq_true rfl) ⟨Nat.le_of_ble_eq_true rfl, Nat.le_of_ble_eq_true rfl⟩ ⟨Nat.le_of_ble_eq_true rfl, Nat.le_of_ble_eq_true rfl⟩) hP hD hS hA [] [0, 1] rfl rfl rfl (by decide) (fun r_7 u_6 H locs w_5 hP hD hS => ?_)
    have hP : va_P D vwCl [(st, aiE cI 240 C), (h0, moE (nI n) st f k he p ma tr t tb fo gi)] H := hP
    have hD : va_D AA [(st, aiE cI 240 C), (h0, moE (nI n) st f k he p ma tr t tb fo gi)] := hD
    subst w_5
    refine bb_eq (tgt := 54) X dX6_substitute_16 (by decide) (fun c_8 => ?_) (fun c_8 => ?_)
    · have es : isSubB a b c d = false := by simp only [isSubB, c_8, Bool.and_true, Bool.true_and, Bool.and_false, Bool.false_and]
      have eo : subO n C x a b c d = .inl (-10003) := by rw [subO, if_pos c_4, if_neg (by rw [es]; decide)]
      have hP : va_P D vwCl [(st, aiE cI 240 ((outS n C (subO n C x a b c d)).2)), (h0, moE (nI (outS n C (subO n C x a b c d)).1) st f k he p ma tr t tb fo gi)] H := by rw [eo]; exact hP
      have hD : va_D AA [(st, aiE cI 240 ((outS n C (subO n C x a b c d)).2)), (h0, moE (nI (outS n C (subO n C x a b c d)).1) st f k he p ma tr t tb fo gi)] := by rw [eo]; exact hD
      refine lv_sipush (v := (-10003)) X.1 X.2.1 dX6_substitute_54 (by decide) ?_
      exact hret (-10003) f _ _ _ _ (by rw [eo]; rfl) rfl (hP.sub [1, 0] rfl) (hD.sub [1, 0] rfl rfl) hS dX6_substitute_57
    · refine lv_iload_n X.1 X.2.1 dX6_substitute_19 rfl (lv_at hl 3 rfl) ?_
      refine fin_i (wr := [(st, aiE cI 240 C), (h0, moE (nI n) st f k he p ma tr t tb fo gi)]) (cv_X6_117 X (m_isEntry l D cI cJ b  _) rfl rfl dX6_substitute_20 hP hD [] rfl rfl hl.1 rfl rfl (Nat.le_of_ble_eq_true rfl) ⟨Nat.le_of_ble_eq_true rfl, Nat.le_of_ble_eq_true rfl⟩ ⟨Nat.le_of_ble_eq_true rfl, Nat.le_of_ble_eq_true rfl⟩) hP hD hS hA [] [0, 1] rfl rfl rfl (by decide) (fun r_11 u_10 H locs w_9 hP hD hS => ?_)
      have hP : va_P D vwCl [(st, aiE cI 240 C), (h0, moE (nI n) st f k he p ma tr t tb fo gi)] H := hP
      have hD : va_D AA [(st, aiE cI 240 C), (h0, moE (nI n) st f k he p ma tr t tb fo gi)] := hD
      subst w_9
      refine bb_eq (tgt := 54) X dX6_substitute_23 (by decide) (fun c_12 => ?_) (fun c_12 => ?_)
      · have es : isSubB a b c d = false := by simp only [isSubB, c_8, c_12, Bool.and_true, Bool.true_and, Bool.and_false, Bool.false_and]
        have eo : subO n C x a b c d = .inl (-10003) := by rw [subO, if_pos c_4, if_neg (by rw [es]; decide)]
        have hP : va_P D vwCl [(st, aiE cI 240 ((outS n C (subO n C x a b c d)).2)), (h0, moE (nI (outS n C (subO n C x a b c d)).1) st f k he p ma tr t tb fo gi)] H := by rw [eo]; exact hP
        have hD : va_D AA [(st, aiE cI 240 ((outS n C (subO n C x a b c d)).2)), (h0, moE (nI (outS n C (subO n C x a b c d)).1) st f k he p ma tr t tb fo gi)] := by rw [eo]; exact hD
        refine lv_sipush (v := (-10003)) X.1 X.2.1 dX6_substitute_54 (by decide) ?_
        exact hret (-10003) f _ _ _ _ (by rw [eo]; rfl) rfl (hP.sub [1, 0] rfl) (hD.sub [1, 0] rfl rfl) hS dX6_substitute_57
      · refine lv_iload X.1 X.2.1 dX6_substitute_26 (lv_at hl 4 rfl) ?_
        refine fin_i (wr := [(st, aiE cI 240 C), (h0, moE (nI n) st f k he p ma tr t tb fo gi)]) (cv_X6_117 X (m_isEntry l D cI cJ c  _) rfl rfl dX6_substitute_28 hP hD [] rfl rfl hl.1 rfl rfl (Nat.le_of_ble_eq_true rfl) ⟨Nat.le_of_ble_eq_true rfl, Nat.le_of_ble_eq_true rfl⟩ ⟨Nat.le_of_ble_eq_true rfl, Nat.le_of_ble_eq_true rfl⟩) hP hD hS hA [] [0, 1] rfl rfl rfl (by decide) (fun r_15 u_14 H locs w_13 hP hD hS => ?_)
        have hP : va_P D vwCl [(st, aiE cI 240 C), (h0, moE (nI n) st f k he p ma tr t tb fo gi)] H := hP
        have hD : va_D AA [(st, aiE cI 240 C), (h0, moE (nI n) st f k he p ma tr t tb fo gi)] := hD
        subst w_13
        refine bb_eq (tgt := 54) X dX6_substitute_31 (by decide) (fun c_16 => ?_) (fun c_16 => ?_)
        · have es : isSubB a b c d = false := by simp only [isSubB, c_8, c_12, c_16, Bool.and_true, Bool.true_and, Bool.and_false, Bool.false_and]
          have eo : subO n C x a b c d = .inl (-10003) := by rw [subO, if_pos c_4, if_neg (by rw [es]; decide)]
          have hP : va_P D vwCl [(st, aiE cI 240 ((outS n C (subO n C x a b c d)).2)), (h0, moE (nI (outS n C (subO n C x a b c d)).1) st f k he p ma tr t tb fo gi)] H := by rw [eo]; exact hP
          have hD : va_D AA [(st, aiE cI 240 ((outS n C (subO n C x a b c d)).2)), (h0, moE (nI (outS n C (subO n C x a b c d)).1) st f k he p ma tr t tb fo gi)] := by rw [eo]; exact hD
          refine lv_sipush (v := (-10003)) X.1 X.2.1 dX6_substitute_54 (by decide) ?_
          exact hret (-10003) f _ _ _ _ (by rw [eo]; rfl) rfl (hP.sub [1, 0] rfl) (hD.sub [1, 0] rfl rfl) hS dX6_substitute_57
        · refine lv_iload X.1 X.2.1 dX6_substitute_34 (lv_at hl 5 rfl) ?_
          refine fin_i (wr := [(st, aiE cI 240 C), (h0, moE (nI n) st f k he p ma tr t tb fo gi)]) (cv_X6_117 X (m_isEntry l D cI cJ d  _) rfl rfl dX6_substitute_36 hP hD [] rfl rfl hl.1 rfl rfl (Nat.le_of_ble_eq_true rfl) ⟨Nat.le_of_ble_eq_true rfl, Nat.le_of_ble_eq_true rfl⟩ ⟨Nat.le_of_ble_eq_true rfl, Nat.le_of_ble_eq_true rfl⟩) hP hD hS hA [] [0, 1] rfl rfl rfl (by decide) (fun r_19 u_18 H locs w_17 hP hD hS => ?_)
          have hP : va_P D vwCl [(st, aiE cI 240 C), (h0, moE (nI n) st f k he p ma tr t tb fo gi)] H := hP
          have hD : va_D AA [(st, aiE cI 240 C), (h0, moE (nI n) st f k he p ma tr t tb fo gi)] := hD
          subst w_17
          refine bb_eq (tgt := 54) X dX6_substitute_39 (by decide) (fun c_20 => ?_) (fun c_20 => ?_)
          · have es : isSubB a b c d = false := by simp only [isSubB, c_8, c_12, c_16, c_20, Bool.and_true, Bool.true_and, Bool.and_false, Bool.false_and]
            have eo : subO n C x a b c d = .inl (-10003) := by rw [subO, if_pos c_4, if_neg (by rw [es]; decide)]
            have hP : va_P D vwCl [(st, aiE cI 240 ((outS n C (subO n C x a b c d)).2)), (h0, moE (nI (outS n C (subO n C x a b c d)).1) st f k he p ma tr t tb fo gi)] H := by rw [eo]; exact hP
            have hD : va_D AA [(st, aiE cI 240 ((outS n C (subO n C x a b c d)).2)), (h0, moE (nI (outS n C (subO n C x a b c d)).1) st f k he p ma tr t tb fo gi)] := by rw [eo]; exact hD
            refine lv_sipush (v := (-10003)) X.1 X.2.1 dX6_substitute_54 (by decide) ?_
            exact hret (-10003) f _ _ _ _ (by rw [eo]; rfl) rfl (hP.sub [1, 0] rfl) (hD.sub [1, 0] rfl rfl) hS dX6_substitute_57
          · refine lv_iload_n X.1 X.2.1 dX6_substitute_42 rfl (lv_at hl 2 rfl) ?_
            refine lv_iload_n X.1 X.2.1 dX6_substitute_43 rfl (lv_at hl 3 rfl) ?_
            refine lv_iload X.1 X.2.1 dX6_substitute_44 (lv_at hl 4 rfl) ?_
            refine lv_iload X.1 X.2.1 dX6_substitute_46 (lv_at hl 5 rfl) ?_
            refine fin_i (wr := [(st, aiE cI 240 C), (h0, moE (nI n) st f k he p ma tr t tb fo gi)]) (cv_X6_120 X (m_isUnit l D cI cJ a b c d  _) rfl rfl dX6_substitute_48 hP hD [] rfl rfl hl.1 rfl rfl (Nat.le_of_ble_eq_true rfl) ⟨Nat.le_of_ble_eq_true rfl, Nat.le_of_ble_eq_true rfl⟩ ⟨Nat.le_of_ble_eq_true rfl, Nat.le_of_ble_eq_true rfl⟩) hP hD hS hA [] [0, 1] rfl rfl rfl (by decide) (fun r_23 u_22 H locs w_21 hP hD hS => ?_)
            have hP : va_P D vwCl [(st, aiE cI 240 C), (h0, moE (nI n) st f k he p ma tr t tb fo gi)] H := hP
            have hD : va_D AA [(st, aiE cI 240 C), (h0, moE (nI n) st f k he p ma tr t tb fo gi)] := hD
            subst w_21
            refine bb_ne (tgt := 58) X dX6_substitute_51 (by decide) (fun c_24 => ?_) (fun c_24 => ?_)
            · refine lv_aload_n X.1 X.2.1 dX6_substitute_58 rfl (lv_at hl 0 rfl) ?_
              refine lv_iload_n X.1 X.2.1 dX6_substitute_59 rfl (lv_at hl 1 rfl) ?_
              refine fin_v (wr := []) (cv_X6_82 X (m_load l D cI cJ h0 st he ma tr fo gi n f k p t tb C x hn c_4 _) rfl rfl dX6_substitute_60 hP hD 1 rfl [1, 0] rfl rfl hl.1 rfl rfl (Nat.le_of_ble_eq_true rfl) ⟨Nat.le_of_ble_eq_true rfl, Nat.le_of_ble_eq_true rfl⟩ ⟨Nat.le_of_ble_eq_true rfl, Nat.le_of_ble_eq_true rfl⟩) hP hD hS hA [1, 0] [] rfl rfl rfl (by decide) (fun u_26 H locs w_25 hP hD hS => ?_)
              have hP : va_P D vwCl [(h0, moE (nI n) st (ldF C x.toNatClampNeg) k he p ma tr t tb fo gi), (st, aiE cI 240 C)] H := hP
              have hD : va_D AA [(h0, moE (nI n) st (ldF C x.toNatClampNeg) k he p ma tr t tb fo gi), (st, aiE cI 240 C)] := hD
              refine lv_aload_n X.1 X.2.1 dX6_substitute_63 rfl (lv_at hl 0 rfl) ?_
              refine lv_iload_n X.1 X.2.1 dX6_substitute_64 rfl (lv_at hl 2 rfl) ?_
              refine lv_i2l X.1 X.2.1 dX6_substitute_65 rfl ?_
              refine lv_iload_n X.1 X.2.1 dX6_substitute_66 rfl (lv_at hl 3 rfl) ?_
              refine lv_i2l X.1 X.2.1 dX6_substitute_67 rfl ?_
              refine lv_iload X.1 X.2.1 dX6_substitute_68 (lv_at hl 4 rfl) ?_
              refine lv_i2l X.1 X.2.1 dX6_substitute_70 rfl ?_
              refine lv_iload X.1 X.2.1 dX6_substitute_71 (lv_at hl 5 rfl) ?_
              refine lv_i2l X.1 X.2.1 dX6_substitute_73 rfl ?_
              refine fin_v (wr := [(st, aiE cI 240 C)]) (cv_X6_124 X (m_apply l D cI cJ h0 st he ma tr fo gi n (ldF C x.toNatClampNeg) k p t tb a.toInt64 b.toInt64 c.toInt64 d.toInt64  _) rfl rfl dX6_substitute_74 hP hD 0 rfl [0] rfl rfl hl.1 rfl rfl (Nat.le_of_ble_eq_true rfl) ⟨Nat.le_of_ble_eq_true rfl, Nat.le_of_ble_eq_true rfl⟩ ⟨Nat.le_of_ble_eq_true rfl, Nat.le_of_ble_eq_true rfl⟩) hP hD hS hA [0] [1] rfl rfl rfl (by decide) (fun u_29 H locs w_28 hP hD hS => ?_)
              have hP : va_P D vwCl [(st, aiE cI 240 C), (h0, moE (nI n) st (subF (ldF C x.toNatClampNeg) a.toInt64 b.toInt64 c.toInt64 d.toInt64) k he p ma tr t tb fo gi)] H := hP
              have hD : va_D AA [(st, aiE cI 240 C), (h0, moE (nI n) st (subF (ldF C x.toNatClampNeg) a.toInt64 b.toInt64 c.toInt64 d.toInt64) k he p ma tr t tb fo gi)] := hD
              refine lv_aload_n X.1 X.2.1 dX6_substitute_77 rfl (lv_at hl 0 rfl) ?_
              refine fin_i (wr := []) (cv_X6_62 X (m_store l D cI cJ h0 st he ma tr fo gi n (subF (ldF C x.toNatClampNeg) a.toInt64 b.toInt64 c.toInt64 d.toInt64) k p t tb C (by first | assumption | omega) _) rfl rfl dX6_substitute_78 hP hD 1 rfl [1, 0] rfl rfl hl.1 rfl rfl (Nat.le_of_ble_eq_true rfl) ⟨Nat.le_of_ble_eq_true rfl, Nat.le_of_ble_eq_true rfl⟩ ⟨Nat.le_of_ble_eq_true rfl, Nat.le_of_ble_eq_true rfl⟩) hP hD hS hA [1, 0] [] rfl rfl rfl (by decide) (fun r_33 u_32 H locs w_31 hP hD hS => ?_)
              have hP : va_P D vwCl [(h0, moE (nI (sifS n C (subF (ldF C x.toNatClampNeg) a.toInt64 b.toInt64 c.toInt64 d.toInt64)).1) st (subF (ldF C x.toNatClampNeg) a.toInt64 b.toInt64 c.toInt64 d.toInt64) k he p ma tr t tb fo gi), (st, aiE cI 240 ((sifS n C (subF (ldF C x.toNatClampNeg) a.toInt64 b.toInt64 c.toInt64 d.toInt64)).2))] H := hP
              have hD : va_D AA [(h0, moE (nI (sifS n C (subF (ldF C x.toNatClampNeg) a.toInt64 b.toInt64 c.toInt64 d.toInt64)).1) st (subF (ldF C x.toNatClampNeg) a.toInt64 b.toInt64 c.toInt64 d.toInt64) k he p ma tr t tb fo gi), (st, aiE cI 240 ((sifS n C (subF (ldF C x.toNatClampNeg) a.toInt64 b.toInt64 c.toInt64 d.toInt64)).2))] := hD
              subst w_31
              have es : isSubB a b c d = true := by simp only [isSubB, c_8, c_12, c_16, c_20, c_24, Bool.and_true, Bool.true_and, Bool.and_false, Bool.false_and]
              have eo : subO n C x a b c d = .inr (subF (ldF C x.toNatClampNeg) a.toInt64 b.toInt64 c.toInt64 d.toInt64) := by rw [subO, if_pos c_4, if_pos es]
              have hP : va_P D vwCl [(h0, moE (nI (outS n C (subO n C x a b c d)).1) st (subF (ldF C x.toNatClampNeg) a.toInt64 b.toInt64 c.toInt64 d.toInt64) k he p ma tr t tb fo gi), (st, aiE cI 240 ((outS n C (subO n C x a b c d)).2))] H := by rw [eo]; exact hP
              have hD : va_D AA [(h0, moE (nI (outS n C (subO n C x a b c d)).1) st (subF (ldF C x.toNatClampNeg) a.toInt64 b.toInt64 c.toInt64 d.toInt64) k he p ma tr t tb fo gi), (st, aiE cI 240 ((outS n C (subO n C x a b c d)).2))] := by rw [eo]; exact hD
              exact hret (sifR n (subF (ldF C x.toNatClampNeg) a.toInt64 b.toInt64 c.toInt64 d.toInt64)) (subF (ldF C x.toNatClampNeg) a.toInt64 b.toInt64 c.toInt64 d.toInt64) _ _ _ _ (by rw [eo]; rfl) rfl (hP.sub [0, 1] rfl) (hD.sub [0, 1] rfl rfl) hS dX6_substitute_81
            · have es : isSubB a b c d = false := by simp only [isSubB, c_8, c_12, c_16, c_20, c_24, Bool.and_true, Bool.true_and, Bool.and_false, Bool.false_and]
              have eo : subO n C x a b c d = .inl (-10003) := by rw [subO, if_pos c_4, if_neg (by rw [es]; decide)]
              have hP : va_P D vwCl [(st, aiE cI 240 ((outS n C (subO n C x a b c d)).2)), (h0, moE (nI (outS n C (subO n C x a b c d)).1) st f k he p ma tr t tb fo gi)] H := by rw [eo]; exact hP
              have hD : va_D AA [(st, aiE cI 240 ((outS n C (subO n C x a b c d)).2)), (h0, moE (nI (outS n C (subO n C x a b c d)).1) st f k he p ma tr t tb fo gi)] := by rw [eo]; exact hD
              refine lv_sipush (v := (-10003)) X.1 X.2.1 dX6_substitute_54 (by decide) ?_
              exact hret (-10003) f _ _ _ _ (by rw [eo]; rfl) rfl (hP.sub [1, 0] rfl) (hD.sub [1, 0] rfl rfl) hS dX6_substitute_57
  · have eo : subO n C x a b c d = .inl (-10001) := by rw [subO, if_neg (by rw [c_4]; decide)]
    have hP : va_P D vwCl [(st, aiE cI 240 ((outS n C (subO n C x a b c d)).2)), (h0, moE (nI (outS n C (subO n C x a b c d)).1) st f k he p ma tr t tb fo gi)] H := by rw [eo]; exact hP
    have hD : va_D AA [(st, aiE cI 240 ((outS n C (subO n C x a b c d)).2)), (h0, moE (nI (outS n C (subO n C x a b c d)).1) st f k he p ma tr t tb fo gi)] := by rw [eo]; exact hD
    refine lv_sipush (v := (-10001)) X.1 X.2.1 dX6_substitute_8 (by decide) ?_
    exact hret (-10001) f _ _ _ _ (by rw [eo]; rfl) rfl (hP.sub [1, 0] rfl) (hD.sub [1, 0] rfl rfl) hS dX6_substitute_11
set_option maxHeartbeats 4000000 in
set_option maxRecDepth 100000 in
theorem m_isReducedNow (l : Launch) (D : va_G) (cI cJ : ClassId) (h0 : Nat) (st : Nat) (he : Nat) (ma : Nat) (tr : Nat) (fo : Nat) (gi : Nat) (n : Nat) (f : Fm) (k : Fm) (p : Em) (t : Fm) (tb : Int32)  : CtI l yX6_isReducedNow cX6_isReducedNow 1 .boolean (rmk 1 21) D cI cJ [.ref h0] [(h0, moE (nI n) st f k he p ma tr t tb fo gi)] (fun (_ : Unit) => [(h0, moE (nI n) st f k he p ma tr t tb fo gi)]) (fun (r : Int32) (_ : Unit) => r = bI (reduM f)) := by
  refine CtI.of (own := RX6) (by decide +kernel) (Nat.le_of_ble_eq_true rfl) rfl ?_
  intro pr_ en_ sg_ me_ ar_ be_ mt_ co_ AA ls QQ X hA hP hD hS hl hret
  have hl : lv_has ls 1 [(0, .ref h0)] := hl
  refine lv_aload_n X.1 X.2.1 dX6_isReducedNow_0 rfl (lv_at hl 0 rfl) ?_
  refine fin_l (wr := []) (cv_X6_95 X (m_hessianQ l D cI cJ h0 st he ma tr fo gi n f k p t tb  _) rfl rfl dX6_isReducedNow_1 hP hD 0 rfl [0] rfl rfl hl.1 rfl rfl (Nat.le_of_ble_eq_true rfl) ⟨Nat.le_of_ble_eq_true rfl, Nat.le_of_ble_eq_true rfl⟩ ⟨Nat.le_of_ble_eq_true rfl, Nat.le_of_ble_eq_true rfl⟩) hP hD hS hA [0] [] rfl rfl rfl (by decide) (fun r_3 u_2 H locs w_1 hP hD hS => ?_)
  have hP : va_P D vwCl [(h0, moE (nI n) st f k he p ma tr t tb fo gi)] H := hP
  have hD : va_D AA [(h0, moE (nI n) st f k he p ma tr t tb fo gi)] := hD
  subst w_1
  refine fin_l (wr := [(h0, moE (nI n) st f k he p ma tr t tb fo gi)]) (cv_X6_109 X (m_size l D cI cJ (hqF f)  _) rfl rfl dX6_isReducedNow_4 hP hD [] rfl rfl hl.1 rfl rfl (Nat.le_of_ble_eq_true rfl) ⟨Nat.le_of_ble_eq_true rfl, Nat.le_of_ble_eq_true rfl⟩ ⟨Nat.le_of_ble_eq_true rfl, Nat.le_of_ble_eq_true rfl⟩) hP hD hS hA [] [0] rfl rfl rfl (by decide) (fun r_6 u_5 H locs w_4 hP hD hS => ?_)
  have hP : va_P D vwCl [(h0, moE (nI n) st f k he p ma tr t tb fo gi)] H := hP
  have hD : va_D AA [(h0, moE (nI n) st f k he p ma tr t tb fo gi)] := hD
  subst w_4
  refine lv_aload_n X.1 X.2.1 dX6_isReducedNow_7 rfl (lv_at hl 0 rfl) ?_
  refine fin_l (wr := []) (cv_X6_92 X (m_hessianP l D cI cJ h0 st he ma tr fo gi n f k p t tb  _) rfl rfl dX6_isReducedNow_8 hP hD 0 rfl [0] rfl rfl hl.1 rfl rfl (Nat.le_of_ble_eq_true rfl) ⟨Nat.le_of_ble_eq_true rfl, Nat.le_of_ble_eq_true rfl⟩ ⟨Nat.le_of_ble_eq_true rfl, Nat.le_of_ble_eq_true rfl⟩) hP hD hS hA [0] [] rfl rfl rfl (by decide) (fun r_9 u_8 H locs w_7 hP hD hS => ?_)
  have hP : va_P D vwCl [(h0, moE (nI n) st f k he p ma tr t tb fo gi)] H := hP
  have hD : va_D AA [(h0, moE (nI n) st f k he p ma tr t tb fo gi)] := hD
  subst w_7
  refine bl_gt (tgt := 31) X dX6_isReducedNow_11 dX6_isReducedNow_12 (by decide) (fun c_10 => ?_) (fun c_10 => ?_)
  · refine lv_iconst (v := 0) X.1 X.2.1 dX6_isReducedNow_31 (by decide) ?_
    exact hret 0 () _ _ _ _ (by simp only [reduM, bI, c_10, not_true_eq_false, not_false_eq_true, decide_true, decide_false, Bool.and_true, Bool.true_and, Bool.and_false, Bool.false_and, if_true, if_false, Bool.false_eq_true]) rfl (hP.sub [0] rfl) (hD.sub [0] rfl rfl) hS dX6_isReducedNow_32
  · refine lv_aload_n X.1 X.2.1 dX6_isReducedNow_15 rfl (lv_at hl 0 rfl) ?_
    refine fin_l (wr := []) (cv_X6_92 X (m_hessianP l D cI cJ h0 st he ma tr fo gi n f k p t tb  _) rfl rfl dX6_isReducedNow_16 hP hD 0 rfl [0] rfl rfl hl.1 rfl rfl (Nat.le_of_ble_eq_true rfl) ⟨Nat.le_of_ble_eq_true rfl, Nat.le_of_ble_eq_true rfl⟩ ⟨Nat.le_of_ble_eq_true rfl, Nat.le_of_ble_eq_true rfl⟩) hP hD hS hA [0] [] rfl rfl rfl (by decide) (fun r_13 u_12 H locs w_11 hP hD hS => ?_)
    have hP : va_P D vwCl [(h0, moE (nI n) st f k he p ma tr t tb fo gi)] H := hP
    have hD : va_D AA [(h0, moE (nI n) st f k he p ma tr t tb fo gi)] := hD
    subst w_11
    refine lv_aload_n X.1 X.2.1 dX6_isReducedNow_19 rfl (lv_at hl 0 rfl) ?_
    refine fin_l (wr := []) (cv_X6_98 X (m_hessianR l D cI cJ h0 st he ma tr fo gi n f k p t tb  _) rfl rfl dX6_isReducedNow_20 hP hD 0 rfl [0] rfl rfl hl.1 rfl rfl (Nat.le_of_ble_eq_true rfl) ⟨Nat.le_of_ble_eq_true rfl, Nat.le_of_ble_eq_true rfl⟩ ⟨Nat.le_of_ble_eq_true rfl, Nat.le_of_ble_eq_true rfl⟩) hP hD hS hA [0] [] rfl rfl rfl (by decide) (fun r_16 u_15 H locs w_14 hP hD hS => ?_)
    have hP : va_P D vwCl [(h0, moE (nI n) st f k he p ma tr t tb fo gi)] H := hP
    have hD : va_D AA [(h0, moE (nI n) st f k he p ma tr t tb fo gi)] := hD
    subst w_14
    refine bl_gt (tgt := 31) X dX6_isReducedNow_23 dX6_isReducedNow_24 (by decide) (fun c_17 => ?_) (fun c_17 => ?_)
    · refine lv_iconst (v := 0) X.1 X.2.1 dX6_isReducedNow_31 (by decide) ?_
      exact hret 0 () _ _ _ _ (by simp only [reduM, bI, c_10, c_17, not_true_eq_false, not_false_eq_true, decide_true, decide_false, Bool.and_true, Bool.true_and, Bool.and_false, Bool.false_and, if_true, if_false, Bool.false_eq_true]) rfl (hP.sub [0] rfl) (hD.sub [0] rfl rfl) hS dX6_isReducedNow_32
    · refine lv_iconst (v := 1) X.1 X.2.1 dX6_isReducedNow_27 (by decide) ?_
      refine lv_goto (tgt := 32) X.1 X.2.1 dX6_isReducedNow_28 (by decide) ?_
      exact hret 1 () _ _ _ _ (by simp only [reduM, bI, c_10, c_17, not_true_eq_false, not_false_eq_true, decide_true, decide_false, Bool.and_true, Bool.true_and, Bool.and_false, Bool.false_and, if_true, if_false, Bool.false_eq_true]) rfl (hP.sub [0] rfl) (hD.sub [0] rfl rfl) hS dX6_isReducedNow_32
set_option maxHeartbeats 4000000 in
set_option maxRecDepth 100000 in
theorem m_floor (l : Launch) (D : va_G) (cI cJ : ClassId) (v : Int64) (m : Int64) (hm : ¬ m = 0) : CtL l yX6_floor cX6_floor 6 (rmk 0 0) D cI cJ [.long v, .long m] [] (fun (_ : Unit) => []) (fun (r : Int64) (_ : Unit) => r = flM v m) := by
  refine CtL.of (own := RX6) (by decide +kernel) (Nat.le_of_ble_eq_true rfl) rfl ?_
  intro pr_ en_ sg_ me_ ar_ be_ mt_ co_ AA ls QQ X hA hP hD hS hl hret
  have hl : lv_has ls 6 [(0, .long v), (2, .long m)] := hl
  refine lv_lload_n X.1 X.2.1 dX6_floor_0 rfl (lv_at hl 0 rfl) ?_
  refine lv_lload_n X.1 X.2.1 dX6_floor_1 rfl (lv_at hl 1 rfl) ?_
  refine lv_ldiv X.1 X.2.1 dX6_floor_2 (hm) ?_
  refine lv_lstore (lv' := [(4, .long (v / m)), (0, .long v), (2, .long m)]) X.1 X.2.1 dX6_floor_3 hl (by decide) rfl (fun ls hl => ?_)
  refine lv_lload X.1 X.2.1 dX6_floor_5 (lv_at hl 0 rfl) ?_
  refine lv_lload_n X.1 X.2.1 dX6_floor_7 rfl (lv_at hl 2 rfl) ?_
  refine lv_lmul X.1 X.2.1 dX6_floor_8 ?_
  refine lv_lload_n X.1 X.2.1 dX6_floor_9 rfl (lv_at hl 1 rfl) ?_
  refine bl_le (tgt := 21) X dX6_floor_10 dX6_floor_11 (by decide) (fun c_1 => ?_) (fun c_1 => ?_)
  · refine lv_lload X.1 X.2.1 dX6_floor_21 (lv_at hl 0 rfl) ?_
    exact hret (v / m) () _ _ _ _ (by simp only [flM, c_1, if_true, if_false]) (hP.sub [] rfl) (hD.sub [] rfl rfl) hS dX6_floor_23
  · refine lv_lload X.1 X.2.1 dX6_floor_14 (lv_at hl 0 rfl) ?_
    refine lv_lconst (v := 1) X.1 X.2.1 dX6_floor_16 (by decide) ?_
    refine lv_lsub X.1 X.2.1 dX6_floor_17 ?_
    refine lv_goto (tgt := 23) X.1 X.2.1 dX6_floor_18 (by decide) ?_
    exact hret ((v / m) - 1) () _ _ _ _ (by simp only [flM, c_1, if_true, if_false]) (hP.sub [] rfl) (hD.sub [] rfl rfl) hS dX6_floor_23
set_option maxHeartbeats 4000000 in
set_option maxRecDepth 100000 in
theorem m_reduce (l : Launch) (D : va_G) (cI cJ : ClassId) (h0 : Nat) (st : Nat) (he : Nat) (ma : Nat) (tr : Nat) (fo : Nat) (gi : Nat) (n : Nat) (f : Fm) (k : Fm) (p : Em) (t : Fm) (tb : Int32) (N : Nat) (g : Fm) (hr : redM N f = some g) : CtV l yX6_reduce cX6_reduce 1 (rmk 2 64) D cI cJ [.ref h0] [(h0, moE (nI n) st f k he p ma tr t tb fo gi)] (fun (_ : Unit) => [(h0, moE (nI n) st g k he p ma tr t tb fo gi)]) (fun (_ : Unit) => True) 0 0 := by
  refine CtV.of (own := RX6) (by decide +kernel) (Nat.le_of_ble_eq_true rfl) rfl ?_
  intro pr_ en_ sg_ me_ ar_ be_ mt_ co_ AA ls QQ X hin hA hP hD hS hl hret
  have hl : lv_has ls 1 [(0, .ref h0)] := hl
  have loop0 : ∀ (n9 : Nat) (y : Fm) (K : Nat), (redM K y = some g) → (K < n9) → ∀ (H : Heap) (locs : List Loc) (ls : Array Slot), va_P D vwCl [(h0, moE (nI n) st y k he p ma tr t tb fo gi)] H → va_D AA [(h0, moE (nI n) st y k he p ma tr t tb fo gi)] → va_S AA sg_.heap H locs → lv_has ls 1 [(0, .ref h0)] → W pr_ l en_ (rmk 2 64) sg_ me_ ar_ be_ mt_ co_ H locs 0 0 QQ (F0 me_ 0 ls []) := by
    intro n9
    induction n9 with
    | zero =>
      intro y K hK hn9
      omega
    | succ n0 ih0 =>
      intro y K hK hn9 H locs ls hP hD hS hl
      refine lv_aload_n X.1 X.2.1 dX6_reduce_0 rfl (lv_at hl 0 rfl) ?_
      refine fin_i (wr := []) (cv_X6_131 X (m_isReducedNow l D cI cJ h0 st he ma tr fo gi n y k p t tb  _) rfl rfl dX6_reduce_1 hP hD 0 rfl [0] rfl rfl hl.1 rfl rfl (Nat.le_of_ble_eq_true rfl) ⟨Nat.le_of_ble_eq_true rfl, Nat.le_of_ble_eq_true rfl⟩ ⟨Nat.le_of_ble_eq_true rfl, Nat.le_of_ble_eq_true rfl⟩) hP hD hS hA [0] [] rfl rfl rfl (by decide) (fun r_3 u_2 H locs w_1 hP hD hS => ?_)
      have hP : va_P D vwCl [(h0, moE (nI n) st y k he p ma tr t tb fo gi)] H := hP
      have hD : va_D AA [(h0, moE (nI n) st y k he p ma tr t tb fo gi)] := hD
      subst w_1
      refine bb_ne (tgt := 63) X dX6_reduce_4 (by decide) (fun c_4 => ?_) (fun c_4 => ?_)
      · have e : y = g := by
          rcases K with _ | K
          · cases hK
          · rw [redM, if_pos c_4] at hK; exact Option.some.inj hK
        rw [e] at hP hD
        exact hret () _ _ _ _ (trivial) (hP.sub [0] rfl) (hD.sub [0] rfl rfl) hS dX6_reduce_63
      · obtain ⟨K, rfl⟩ : ∃ z, K = z + 1 := ⟨K - 1, by rcases K with _ | K; (cases hK); omega⟩
        refine lv_aload_n X.1 X.2.1 dX6_reduce_7 rfl (lv_at hl 0 rfl) ?_
        refine fin_l (wr := []) (cv_X6_95 X (m_hessianQ l D cI cJ h0 st he ma tr fo gi n y k p t tb  _) rfl rfl dX6_reduce_8 hP hD 0 rfl [0] rfl rfl hl.1 rfl rfl (Nat.le_of_ble_eq_true rfl) ⟨Nat.le_of_ble_eq_true rfl, Nat.le_of_ble_eq_true rfl⟩ ⟨Nat.le_of_ble_eq_true rfl, Nat.le_of_ble_eq_true rfl⟩) hP hD hS hA [0] [] rfl rfl rfl (by decide) (fun r_7 u_6 H locs w_5 hP hD hS => ?_)
        have hP : va_P D vwCl [(h0, moE (nI n) st y k he p ma tr t tb fo gi)] H := hP
        have hD : va_D AA [(h0, moE (nI n) st y k he p ma tr t tb fo gi)] := hD
        subst w_5
        refine fin_l (wr := [(h0, moE (nI n) st y k he p ma tr t tb fo gi)]) (cv_X6_109 X (m_size l D cI cJ (hqF y)  _) rfl rfl dX6_reduce_11 hP hD [] rfl rfl hl.1 rfl rfl (Nat.le_of_ble_eq_true rfl) ⟨Nat.le_of_ble_eq_true rfl, Nat.le_of_ble_eq_true rfl⟩ ⟨Nat.le_of_ble_eq_true rfl, Nat.le_of_ble_eq_true rfl⟩) hP hD hS hA [] [0] rfl rfl rfl (by decide) (fun r_10 u_9 H locs w_8 hP hD hS => ?_)
        have hP : va_P D vwCl [(h0, moE (nI n) st y k he p ma tr t tb fo gi)] H := hP
        have hD : va_D AA [(h0, moE (nI n) st y k he p ma tr t tb fo gi)] := hD
        subst w_8
        refine lv_aload_n X.1 X.2.1 dX6_reduce_14 rfl (lv_at hl 0 rfl) ?_
        refine fin_l (wr := []) (cv_X6_92 X (m_hessianP l D cI cJ h0 st he ma tr fo gi n y k p t tb  _) rfl rfl dX6_reduce_15 hP hD 0 rfl [0] rfl rfl hl.1 rfl rfl (Nat.le_of_ble_eq_true rfl) ⟨Nat.le_of_ble_eq_true rfl, Nat.le_of_ble_eq_true rfl⟩ ⟨Nat.le_of_ble_eq_true rfl, Nat.le_of_ble_eq_true rfl⟩) hP hD hS hA [0] [] rfl rfl rfl (by decide) (fun r_13 u_12 H locs w_11 hP hD hS => ?_)
        have hP : va_P D vwCl [(h0, moE (nI n) st y k he p ma tr t tb fo gi)] H := hP
        have hD : va_D AA [(h0, moE (nI n) st y k he p ma tr t tb fo gi)] := hD
        subst w_11
        refine bl_le (tgt := 52) X dX6_reduce_18 dX6_reduce_19 (by decide) (fun c_14 => ?_) (fun c_14 => ?_)
        · refine lv_aload_n X.1 X.2.1 dX6_reduce_52 rfl (lv_at hl 0 rfl) ?_
          refine lv_lconst (v := 0) X.1 X.2.1 dX6_reduce_53 (by decide) ?_
          refine lv_lconst (v := 1) X.1 X.2.1 dX6_reduce_54 (by decide) ?_
          refine lv_lconst (v := 1) X.1 X.2.1 dX6_reduce_55 (by decide) ?_
          refine lv_lconst (v := 0) X.1 X.2.1 dX6_reduce_56 (by decide) ?_
          refine fin_v (wr := []) (cv_X6_124 X (m_apply l D cI cJ h0 st he ma tr fo gi n y k p t tb 0 1 1 0  _) rfl rfl dX6_reduce_57 hP hD 0 rfl [0] rfl rfl hl.1 rfl rfl (Nat.le_of_ble_eq_true rfl) ⟨Nat.le_of_ble_eq_true rfl, Nat.le_of_ble_eq_true rfl⟩ ⟨Nat.le_of_ble_eq_true rfl, Nat.le_of_ble_eq_true rfl⟩) hP hD hS hA [0] [] rfl rfl rfl (by decide) (fun u_16 H locs w_15 hP hD hS => ?_)
          have hP : va_P D vwCl [(h0, moE (nI n) st (subF y 0 1 1 0) k he p ma tr t tb fo gi)] H := hP
          have hD : va_D AA [(h0, moE (nI n) st (subF y 0 1 1 0) k he p ma tr t tb fo gi)] := hD
          refine lv_goto (tgt := 0) X.1 X.2.1 dX6_reduce_60 (by decide) ?_
          exact ih0  (subF y 0 1 1 0) K (by rw [← hK, redM, if_neg (by rw [c_4]; decide), if_neg c_14]) (by omega) _ _ _ (hP.sub [0] rfl) (hD.sub [0] rfl rfl) hS (lv_sub hl [0] rfl)
        · have hz : ¬ 2 * hpF y = 0 := fun q => by rw [redM, if_neg (by rw [c_4]; decide), if_pos c_14, if_pos q] at hK; cases hK
          refine lv_aload_n X.1 X.2.1 dX6_reduce_22 rfl (lv_at hl 0 rfl) ?_
          refine lv_lconst (v := 1) X.1 X.2.1 dX6_reduce_23 (by decide) ?_
          refine lv_aload_n X.1 X.2.1 dX6_reduce_24 rfl (lv_at hl 0 rfl) ?_
          refine fin_l (wr := []) (cv_X6_92 X (m_hessianP l D cI cJ h0 st he ma tr fo gi n y k p t tb  _) rfl rfl dX6_reduce_25 hP hD 0 rfl [0] rfl rfl hl.1 rfl rfl (Nat.le_of_ble_eq_true rfl) ⟨Nat.le_of_ble_eq_true rfl, Nat.le_of_ble_eq_true rfl⟩ ⟨Nat.le_of_ble_eq_true rfl, Nat.le_of_ble_eq_true rfl⟩) hP hD hS hA [0] [] rfl rfl rfl (by decide) (fun r_20 u_19 H locs w_18 hP hD hS => ?_)
          have hP : va_P D vwCl [(h0, moE (nI n) st y k he p ma tr t tb fo gi)] H := hP
          have hD : va_D AA [(h0, moE (nI n) st y k he p ma tr t tb fo gi)] := hD
          subst w_18
          refine lv_aload_n X.1 X.2.1 dX6_reduce_28 rfl (lv_at hl 0 rfl) ?_
          refine fin_l (wr := []) (cv_X6_95 X (m_hessianQ l D cI cJ h0 st he ma tr fo gi n y k p t tb  _) rfl rfl dX6_reduce_29 hP hD 0 rfl [0] rfl rfl hl.1 rfl rfl (Nat.le_of_ble_eq_true rfl) ⟨Nat.le_of_ble_eq_true rfl, Nat.le_of_ble_eq_true rfl⟩ ⟨Nat.le_of_ble_eq_true rfl, Nat.le_of_ble_eq_true rfl⟩) hP hD hS hA [0] [] rfl rfl rfl (by decide) (fun r_23 u_22 H locs w_21 hP hD hS => ?_)
          have hP : va_P D vwCl [(h0, moE (nI n) st y k he p ma tr t tb fo gi)] H := hP
          have hD : va_D AA [(h0, moE (nI n) st y k he p ma tr t tb fo gi)] := hD
          subst w_21
          refine lv_lsub X.1 X.2.1 dX6_reduce_32 ?_
          refine lc_X6_90 X dX6_reduce_33 ?_
          refine lv_aload_n X.1 X.2.1 dX6_reduce_36 rfl (lv_at hl 0 rfl) ?_
          refine fin_l (wr := []) (cv_X6_92 X (m_hessianP l D cI cJ h0 st he ma tr fo gi n y k p t tb  _) rfl rfl dX6_reduce_37 hP hD 0 rfl [0] rfl rfl hl.1 rfl rfl (Nat.le_of_ble_eq_true rfl) ⟨Nat.le_of_ble_eq_true rfl, Nat.le_of_ble_eq_true rfl⟩ ⟨Nat.le_of_ble_eq_true rfl, Nat.le_of_ble_eq_true rfl⟩) hP hD hS hA [0] [] rfl rfl rfl (by decide) (fun r_26 u_25 H locs w_24 hP hD hS => ?_)
          have hP : va_P D vwCl [(h0, moE (nI n) st y k he p ma tr t tb fo gi)] H := hP
          have hD : va_D AA [(h0, moE (nI n) st y k he p ma tr t tb fo gi)] := hD
          subst w_24
          refine lv_lmul X.1 X.2.1 dX6_reduce_40 ?_
          refine fin_l (wr := [(h0, moE (nI n) st y k he p ma tr t tb fo gi)]) (cv_X6_134 X (m_floor l D cI cJ ((hpF y) - (hqF y)) (2 * (hpF y)) hz _) rfl rfl dX6_reduce_41 hP hD [] rfl rfl hl.1 rfl rfl (Nat.le_of_ble_eq_true rfl) ⟨Nat.le_of_ble_eq_true rfl, Nat.le_of_ble_eq_true rfl⟩ ⟨Nat.le_of_ble_eq_true rfl, Nat.le_of_ble_eq_true rfl⟩) hP hD hS hA [] [0] rfl rfl rfl (by decide) (fun r_29 u_28 H locs w_27 hP hD hS => ?_)
          have hP : va_P D vwCl [(h0, moE (nI n) st y k he p ma tr t tb fo gi)] H := hP
          have hD : va_D AA [(h0, moE (nI n) st y k he p ma tr t tb fo gi)] := hD
          subst w_27
          refine lv_lconst (v := 0) X.1 X.2.1 dX6_reduce_44 (by decide) ?_
          refine lv_lconst (v := 1) X.1 X.2.1 dX6_reduce_45 (by decide) ?_
          refine fin_v (wr := []) (cv_X6_124 X (m_apply l D cI cJ h0 st he ma tr fo gi n y k p t tb 1 (flM ((hpF y) - (hqF y)) (2 * (hpF y))) 0 1  _) rfl rfl dX6_reduce_46 hP hD 0 rfl [0] rfl rfl hl.1 rfl rfl (Nat.le_of_ble_eq_true rfl) ⟨Nat.le_of_ble_eq_true rfl, Nat.le_of_ble_eq_true rfl⟩ ⟨Nat.le_of_ble_eq_true rfl, Nat.le_of_ble_eq_true rfl⟩) hP hD hS hA [0] [] rfl rfl rfl (by decide) (fun u_31 H locs w_30 hP hD hS => ?_)
          have hP : va_P D vwCl [(h0, moE (nI n) st (subF y 1 (flM ((hpF y) - (hqF y)) (2 * (hpF y))) 0 1) k he p ma tr t tb fo gi)] H := hP
          have hD : va_D AA [(h0, moE (nI n) st (subF y 1 (flM ((hpF y) - (hqF y)) (2 * (hpF y))) 0 1) k he p ma tr t tb fo gi)] := hD
          refine lv_goto (tgt := 0) X.1 X.2.1 dX6_reduce_49 (by decide) ?_
          exact ih0  (subF y 1 (flM ((hpF y) - (hqF y)) (2 * (hpF y))) 0 1) K (by rw [← hK, redM, if_neg (by rw [c_4]; decide), if_pos c_14, if_neg hz]) (by omega) _ _ _ (hP.sub [0] rfl) (hD.sub [0] rfl rfl) hS (lv_sub hl [0] rfl)
  exact loop0 (N + 1) f N hr (by omega) _ _ _ (hP.sub [0] rfl) (hD.sub [0] rfl rfl) hS (lv_sub hl [0] rfl)
set_option maxHeartbeats 4000000 in
set_option maxRecDepth 100000 in
theorem m_keep (l : Launch) (D : va_G) (cI cJ : ClassId) (h0 : Nat) (st : Nat) (he : Nat) (ma : Nat) (tr : Nat) (fo : Nat) (gi : Nat) (n : Nat) (f : Fm) (k : Fm) (p : Em) (t : Fm) (tb : Int32)  : CtV l yX6_keep cX6_keep 1 (rmk 0 0) D cI cJ [.ref h0] [(h0, moE (nI n) st f k he p ma tr t tb fo gi)] (fun (_ : Unit) => [(h0, moE (nI n) st f f he p ma tr t tb fo gi)]) (fun (_ : Unit) => True) 0 0 := by
  refine CtV.of (own := RX6) (by decide +kernel) (Nat.le_of_ble_eq_true rfl) rfl ?_
  intro pr_ en_ sg_ me_ ar_ be_ mt_ co_ AA ls QQ X hin hA hP hD hS hl hret
  have hl : lv_has ls 1 [(0, .ref h0)] := hl
  refine lv_aload_n X.1 X.2.1 dX6_keep_0 rfl (lv_at hl 0 rfl) ?_
  refine lv_aload_n X.1 X.2.1 dX6_keep_1 rfl (lv_at hl 0 rfl) ?_
  refine gf_X6_41 (v := .long f.1) X hP 0 rfl rfl dX6_keep_2 ?_
  refine pf_X6_137 X hP hD hS 0 rfl rfl rfl (Nat.le_of_ble_eq_true rfl) dX6_keep_5 (fun H locs hP hD hS => ?_)
  have hP : va_P D vwCl [(h0, moE (nI n) st f (f.1, k.2.1, k.2.2.1, k.2.2.2) he p ma tr t tb fo gi)] H := hP
  have hD : va_D AA [(h0, moE (nI n) st f (f.1, k.2.1, k.2.2.1, k.2.2.2) he p ma tr t tb fo gi)] := hD
  refine lv_aload_n X.1 X.2.1 dX6_keep_8 rfl (lv_at hl 0 rfl) ?_
  refine lv_aload_n X.1 X.2.1 dX6_keep_9 rfl (lv_at hl 0 rfl) ?_
  refine gf_X6_45 (v := .long f.2.1) X hP 0 rfl rfl dX6_keep_10 ?_
  refine pf_X6_140 X hP hD hS 0 rfl rfl rfl (Nat.le_of_ble_eq_true rfl) dX6_keep_13 (fun H locs hP hD hS => ?_)
  have hP : va_P D vwCl [(h0, moE (nI n) st f (f.1, f.2.1, k.2.2.1, k.2.2.2) he p ma tr t tb fo gi)] H := hP
  have hD : va_D AA [(h0, moE (nI n) st f (f.1, f.2.1, k.2.2.1, k.2.2.2) he p ma tr t tb fo gi)] := hD
  refine lv_aload_n X.1 X.2.1 dX6_keep_16 rfl (lv_at hl 0 rfl) ?_
  refine lv_aload_n X.1 X.2.1 dX6_keep_17 rfl (lv_at hl 0 rfl) ?_
  refine gf_X6_48 (v := .long f.2.2.1) X hP 0 rfl rfl dX6_keep_18 ?_
  refine pf_X6_143 X hP hD hS 0 rfl rfl rfl (Nat.le_of_ble_eq_true rfl) dX6_keep_21 (fun H locs hP hD hS => ?_)
  have hP : va_P D vwCl [(h0, moE (nI n) st f (f.1, f.2.1, f.2.2.1, k.2.2.2) he p ma tr t tb fo gi)] H := hP
  have hD : va_D AA [(h0, moE (nI n) st f (f.1, f.2.1, f.2.2.1, k.2.2.2) he p ma tr t tb fo gi)] := hD
  refine lv_aload_n X.1 X.2.1 dX6_keep_24 rfl (lv_at hl 0 rfl) ?_
  refine lv_aload_n X.1 X.2.1 dX6_keep_25 rfl (lv_at hl 0 rfl) ?_
  refine gf_X6_51 (v := .long f.2.2.2) X hP 0 rfl rfl dX6_keep_26 ?_
  refine pf_X6_146 X hP hD hS 0 rfl rfl rfl (Nat.le_of_ble_eq_true rfl) dX6_keep_29 (fun H locs hP hD hS => ?_)
  have hP : va_P D vwCl [(h0, moE (nI n) st f f he p ma tr t tb fo gi)] H := hP
  have hD : va_D AA [(h0, moE (nI n) st f f he p ma tr t tb fo gi)] := hD
  exact hret () _ _ _ _ (trivial) (hP.sub [0] rfl) (hD.sub [0] rfl rfl) hS dX6_keep_32
set_option maxHeartbeats 4000000 in
set_option maxRecDepth 100000 in
theorem m_isKept (l : Launch) (D : va_G) (cI cJ : ClassId) (h0 : Nat) (st : Nat) (he : Nat) (ma : Nat) (tr : Nat) (fo : Nat) (gi : Nat) (n : Nat) (f : Fm) (k : Fm) (p : Em) (t : Fm) (tb : Int32)  : CtI l yX6_isKept cX6_isKept 1 .boolean (rmk 0 0) D cI cJ [.ref h0] [(h0, moE (nI n) st f k he p ma tr t tb fo gi)] (fun (_ : Unit) => [(h0, moE (nI n) st f k he p ma tr t tb fo gi)]) (fun (r : Int32) (_ : Unit) => r = bI (sameF f k)) := by
  refine CtI.of (own := RX6) (by decide +kernel) (Nat.le_of_ble_eq_true rfl) rfl ?_
  intro pr_ en_ sg_ me_ ar_ be_ mt_ co_ AA ls QQ X hA hP hD hS hl hret
  have hl : lv_has ls 1 [(0, .ref h0)] := hl
  refine lv_aload_n X.1 X.2.1 dX6_isKept_0 rfl (lv_at hl 0 rfl) ?_
  refine gf_X6_41 (v := .long f.1) X hP 0 rfl rfl dX6_isKept_1 ?_
  refine lv_aload_n X.1 X.2.1 dX6_isKept_4 rfl (lv_at hl 0 rfl) ?_
  refine gf_X6_137 (v := .long k.1) X hP 0 rfl rfl dX6_isKept_5 ?_
  refine bl_ne (tgt := 52) X dX6_isKept_8 dX6_isKept_9 (by decide) (fun c_1 => ?_) (fun c_1 => ?_)
  · refine lv_iconst (v := 0) X.1 X.2.1 dX6_isKept_52 (by decide) ?_
    exact hret 0 () _ _ _ _ (by simp [sameF, bI, c_1]) rfl (hP.sub [0] rfl) (hD.sub [0] rfl rfl) hS dX6_isKept_53
  · refine lv_aload_n X.1 X.2.1 dX6_isKept_12 rfl (lv_at hl 0 rfl) ?_
    refine gf_X6_45 (v := .long f.2.1) X hP 0 rfl rfl dX6_isKept_13 ?_
    refine lv_aload_n X.1 X.2.1 dX6_isKept_16 rfl (lv_at hl 0 rfl) ?_
    refine gf_X6_140 (v := .long k.2.1) X hP 0 rfl rfl dX6_isKept_17 ?_
    refine bl_ne (tgt := 52) X dX6_isKept_20 dX6_isKept_21 (by decide) (fun c_2 => ?_) (fun c_2 => ?_)
    · refine lv_iconst (v := 0) X.1 X.2.1 dX6_isKept_52 (by decide) ?_
      exact hret 0 () _ _ _ _ (by simp [sameF, bI, c_1, c_2]) rfl (hP.sub [0] rfl) (hD.sub [0] rfl rfl) hS dX6_isKept_53
    · refine lv_aload_n X.1 X.2.1 dX6_isKept_24 rfl (lv_at hl 0 rfl) ?_
      refine gf_X6_48 (v := .long f.2.2.1) X hP 0 rfl rfl dX6_isKept_25 ?_
      refine lv_aload_n X.1 X.2.1 dX6_isKept_28 rfl (lv_at hl 0 rfl) ?_
      refine gf_X6_143 (v := .long k.2.2.1) X hP 0 rfl rfl dX6_isKept_29 ?_
      refine bl_ne (tgt := 52) X dX6_isKept_32 dX6_isKept_33 (by decide) (fun c_3 => ?_) (fun c_3 => ?_)
      · refine lv_iconst (v := 0) X.1 X.2.1 dX6_isKept_52 (by decide) ?_
        exact hret 0 () _ _ _ _ (by simp [sameF, bI, c_1, c_2, c_3]) rfl (hP.sub [0] rfl) (hD.sub [0] rfl rfl) hS dX6_isKept_53
      · refine lv_aload_n X.1 X.2.1 dX6_isKept_36 rfl (lv_at hl 0 rfl) ?_
        refine gf_X6_51 (v := .long f.2.2.2) X hP 0 rfl rfl dX6_isKept_37 ?_
        refine lv_aload_n X.1 X.2.1 dX6_isKept_40 rfl (lv_at hl 0 rfl) ?_
        refine gf_X6_146 (v := .long k.2.2.2) X hP 0 rfl rfl dX6_isKept_41 ?_
        refine bl_ne (tgt := 52) X dX6_isKept_44 dX6_isKept_45 (by decide) (fun c_4 => ?_) (fun c_4 => ?_)
        · refine lv_iconst (v := 0) X.1 X.2.1 dX6_isKept_52 (by decide) ?_
          exact hret 0 () _ _ _ _ (by simp [sameF, bI, c_1, c_2, c_3, c_4]) rfl (hP.sub [0] rfl) (hD.sub [0] rfl rfl) hS dX6_isKept_53
        · refine lv_iconst (v := 1) X.1 X.2.1 dX6_isKept_48 (by decide) ?_
          refine lv_goto (tgt := 53) X.1 X.2.1 dX6_isKept_49 (by decide) ?_
          exact hret 1 () _ _ _ _ (by simp [sameF, bI, c_1, c_2, c_3, c_4]) rfl (hP.sub [0] rfl) (hD.sub [0] rfl rfl) hS dX6_isKept_53
set_option maxHeartbeats 4000000 in
set_option maxRecDepth 100000 in
theorem m_isLess (l : Launch) (D : va_G) (cI cJ : ClassId) (h0 : Nat) (st : Nat) (he : Nat) (ma : Nat) (tr : Nat) (fo : Nat) (gi : Nat) (n : Nat) (f : Fm) (k : Fm) (p : Em) (t : Fm) (tb : Int32) (a : Int64) (b : Int64) (c : Int64) (d : Int64)  : CtI l yX6_isLess cX6_isLess 9 .boolean (rmk 0 0) D cI cJ [.ref h0, .long a, .long b, .long c, .long d] [(h0, moE (nI n) st f k he p ma tr t tb fo gi)] (fun (_ : Unit) => [(h0, moE (nI n) st f k he p ma tr t tb fo gi)]) (fun (r : Int32) (_ : Unit) => r = bI (befF f (a, b, c, d))) := by
  refine CtI.of (own := RX6) (by decide +kernel) (Nat.le_of_ble_eq_true rfl) rfl ?_
  intro pr_ en_ sg_ me_ ar_ be_ mt_ co_ AA ls QQ X hA hP hD hS hl hret
  have hl : lv_has ls 9 [(0, .ref h0), (1, .long a), (3, .long b), (5, .long c), (7, .long d)] := hl
  refine lv_aload_n X.1 X.2.1 dX6_isLess_0 rfl (lv_at hl 0 rfl) ?_
  refine gf_X6_41 (v := .long f.1) X hP 0 rfl rfl dX6_isLess_1 ?_
  refine lv_lload_n X.1 X.2.1 dX6_isLess_4 rfl (lv_at hl 1 rfl) ?_
  refine bl_eq (tgt := 26) X dX6_isLess_5 dX6_isLess_6 (by decide) (fun c_1 => ?_) (fun c_1 => ?_)
  · refine lv_aload_n X.1 X.2.1 dX6_isLess_26 rfl (lv_at hl 0 rfl) ?_
    refine gf_X6_45 (v := .long f.2.1) X hP 0 rfl rfl dX6_isLess_27 ?_
    refine lv_lload_n X.1 X.2.1 dX6_isLess_30 rfl (lv_at hl 2 rfl) ?_
    refine bl_eq (tgt := 52) X dX6_isLess_31 dX6_isLess_32 (by decide) (fun c_2 => ?_) (fun c_2 => ?_)
    · refine lv_aload_n X.1 X.2.1 dX6_isLess_52 rfl (lv_at hl 0 rfl) ?_
      refine gf_X6_48 (v := .long f.2.2.1) X hP 0 rfl rfl dX6_isLess_53 ?_
      refine lv_lload X.1 X.2.1 dX6_isLess_56 (lv_at hl 3 rfl) ?_
      refine bl_eq (tgt := 80) X dX6_isLess_58 dX6_isLess_59 (by decide) (fun c_3 => ?_) (fun c_3 => ?_)
      · refine lv_aload_n X.1 X.2.1 dX6_isLess_80 rfl (lv_at hl 0 rfl) ?_
        refine gf_X6_51 (v := .long f.2.2.2) X hP 0 rfl rfl dX6_isLess_81 ?_
        refine lv_lload X.1 X.2.1 dX6_isLess_84 (lv_at hl 4 rfl) ?_
        refine bl_ge (tgt := 94) X dX6_isLess_86 dX6_isLess_87 (by decide) (fun c_4 => ?_) (fun c_4 => ?_)
        · refine lv_iconst (v := 0) X.1 X.2.1 dX6_isLess_94 (by decide) ?_
          exact hret 0 () _ _ _ _ (by simp [befF, bI, c_1, c_2, c_3, c_4]) rfl (hP.sub [0] rfl) (hD.sub [0] rfl rfl) hS dX6_isLess_95
        · refine lv_iconst (v := 1) X.1 X.2.1 dX6_isLess_90 (by decide) ?_
          refine lv_goto (tgt := 95) X.1 X.2.1 dX6_isLess_91 (by decide) ?_
          exact hret 1 () _ _ _ _ (by simp [befF, bI, c_1, c_2, c_3, c_4]) rfl (hP.sub [0] rfl) (hD.sub [0] rfl rfl) hS dX6_isLess_95
      · refine lv_aload_n X.1 X.2.1 dX6_isLess_62 rfl (lv_at hl 0 rfl) ?_
        refine gf_X6_48 (v := .long f.2.2.1) X hP 0 rfl rfl dX6_isLess_63 ?_
        refine lv_lload X.1 X.2.1 dX6_isLess_66 (lv_at hl 3 rfl) ?_
        refine bl_ge (tgt := 76) X dX6_isLess_68 dX6_isLess_69 (by decide) (fun c_5 => ?_) (fun c_5 => ?_)
        · refine lv_iconst (v := 0) X.1 X.2.1 dX6_isLess_76 (by decide) ?_
          refine lv_goto (tgt := 95) X.1 X.2.1 dX6_isLess_77 (by decide) ?_
          exact hret 0 () _ _ _ _ (by simp [befF, bI, c_1, c_2, c_3, c_5]) rfl (hP.sub [0] rfl) (hD.sub [0] rfl rfl) hS dX6_isLess_95
        · refine lv_iconst (v := 1) X.1 X.2.1 dX6_isLess_72 (by decide) ?_
          refine lv_goto (tgt := 95) X.1 X.2.1 dX6_isLess_73 (by decide) ?_
          exact hret 1 () _ _ _ _ (by simp [befF, bI, c_1, c_2, c_3, c_5]) rfl (hP.sub [0] rfl) (hD.sub [0] rfl rfl) hS dX6_isLess_95
    · refine lv_aload_n X.1 X.2.1 dX6_isLess_35 rfl (lv_at hl 0 rfl) ?_
      refine gf_X6_45 (v := .long f.2.1) X hP 0 rfl rfl dX6_isLess_36 ?_
      refine lv_lload_n X.1 X.2.1 dX6_isLess_39 rfl (lv_at hl 2 rfl) ?_
      refine bl_ge (tgt := 48) X dX6_isLess_40 dX6_isLess_41 (by decide) (fun c_6 => ?_) (fun c_6 => ?_)
      · refine lv_iconst (v := 0) X.1 X.2.1 dX6_isLess_48 (by decide) ?_
        refine lv_goto (tgt := 95) X.1 X.2.1 dX6_isLess_49 (by decide) ?_
        exact hret 0 () _ _ _ _ (by simp [befF, bI, c_1, c_2, c_6]) rfl (hP.sub [0] rfl) (hD.sub [0] rfl rfl) hS dX6_isLess_95
      · refine lv_iconst (v := 1) X.1 X.2.1 dX6_isLess_44 (by decide) ?_
        refine lv_goto (tgt := 95) X.1 X.2.1 dX6_isLess_45 (by decide) ?_
        exact hret 1 () _ _ _ _ (by simp [befF, bI, c_1, c_2, c_6]) rfl (hP.sub [0] rfl) (hD.sub [0] rfl rfl) hS dX6_isLess_95
  · refine lv_aload_n X.1 X.2.1 dX6_isLess_9 rfl (lv_at hl 0 rfl) ?_
    refine gf_X6_41 (v := .long f.1) X hP 0 rfl rfl dX6_isLess_10 ?_
    refine lv_lload_n X.1 X.2.1 dX6_isLess_13 rfl (lv_at hl 1 rfl) ?_
    refine bl_ge (tgt := 22) X dX6_isLess_14 dX6_isLess_15 (by decide) (fun c_7 => ?_) (fun c_7 => ?_)
    · refine lv_iconst (v := 0) X.1 X.2.1 dX6_isLess_22 (by decide) ?_
      refine lv_goto (tgt := 95) X.1 X.2.1 dX6_isLess_23 (by decide) ?_
      exact hret 0 () _ _ _ _ (by simp [befF, bI, c_1, c_7]) rfl (hP.sub [0] rfl) (hD.sub [0] rfl rfl) hS dX6_isLess_95
    · refine lv_iconst (v := 1) X.1 X.2.1 dX6_isLess_18 (by decide) ?_
      refine lv_goto (tgt := 95) X.1 X.2.1 dX6_isLess_19 (by decide) ?_
      exact hret 1 () _ _ _ _ (by simp [befF, bI, c_1, c_7]) rfl (hP.sub [0] rfl) (hD.sub [0] rfl rfl) hS dX6_isLess_95
set_option maxHeartbeats 4000000 in
set_option maxRecDepth 100000 in
theorem m_canonise (l : Launch) (D : va_G) (cI cJ : ClassId) (h0 : Nat) (st : Nat) (he : Nat) (ma : Nat) (tr : Nat) (fo : Nat) (gi : Nat) (n : Nat) (f : Fm) (k : Fm) (p : Em) (t : Fm) (tb : Int32) (hc : canOK f) : CtV l yX6_canonise cX6_canonise 14 (rmk 3 84) D cI cJ [.ref h0] [(h0, moE (nI n) st f k he p ma tr t tb fo gi)] (fun (u : Fm) => [(h0, moE (nI n) st (sealC 0 f) u he p ma tr t tb fo gi)]) (fun (u : Fm) => True) 0 0 := by
  refine CtV.of (own := RX6) (by decide +kernel) (Nat.le_of_ble_eq_true rfl) rfl ?_
  intro pr_ en_ sg_ me_ ar_ be_ mt_ co_ AA ls QQ X hin hA hP hD hS hl hret
  have hl : lv_has ls 14 [(0, .ref h0)] := hl
  obtain ⟨N, g, hr, hcg⟩ := hc
  refine lv_aload_n X.1 X.2.1 dX6_canonise_0 rfl (lv_at hl 0 rfl) ?_
  refine fin_v (wr := []) (cv_X6_149 X (m_reduce l D cI cJ h0 st he ma tr fo gi n f k p t tb N g hr _) rfl rfl dX6_canonise_1 hP hD 0 rfl [0] rfl rfl hl.1 rfl rfl (Nat.le_of_ble_eq_true rfl) ⟨Nat.le_of_ble_eq_true rfl, Nat.le_of_ble_eq_true rfl⟩ ⟨Nat.le_of_ble_eq_true rfl, Nat.le_of_ble_eq_true rfl⟩) hP hD hS hA [0] [] rfl rfl rfl (by decide) (fun u_2 H locs w_1 hP hD hS => ?_)
  have hP : va_P D vwCl [(h0, moE (nI n) st g k he p ma tr t tb fo gi)] H := hP
  have hD : va_D AA [(h0, moE (nI n) st g k he p ma tr t tb fo gi)] := hD
  refine lv_aload_n X.1 X.2.1 dX6_canonise_4 rfl (lv_at hl 0 rfl) ?_
  refine fin_v (wr := []) (cv_X6_152 X (m_keep l D cI cJ h0 st he ma tr fo gi n g k p t tb  _) rfl rfl dX6_canonise_5 hP hD 0 rfl [0] rfl rfl hl.1 rfl rfl (Nat.le_of_ble_eq_true rfl) ⟨Nat.le_of_ble_eq_true rfl, Nat.le_of_ble_eq_true rfl⟩ ⟨Nat.le_of_ble_eq_true rfl, Nat.le_of_ble_eq_true rfl⟩) hP hD hS hA [0] [] rfl rfl rfl (by decide) (fun u_5 H locs w_4 hP hD hS => ?_)
  have hP : va_P D vwCl [(h0, moE (nI n) st g g he p ma tr t tb fo gi)] H := hP
  have hD : va_D AA [(h0, moE (nI n) st g g he p ma tr t tb fo gi)] := hD
  refine lv_aload_n X.1 X.2.1 dX6_canonise_8 rfl (lv_at hl 0 rfl) ?_
  refine gf_X6_41 (v := .long g.1) X hP 0 rfl rfl dX6_canonise_9 ?_
  refine lv_lstore_n (lv' := [(1, .long g.1), (0, .ref h0)]) X.1 X.2.1 dX6_canonise_12 rfl hl (by decide) rfl (fun ls hl => ?_)
  refine lv_aload_n X.1 X.2.1 dX6_canonise_13 rfl (lv_at hl 1 rfl) ?_
  refine gf_X6_45 (v := .long g.2.1) X hP 0 rfl rfl dX6_canonise_14 ?_
  refine lv_lstore_n (lv' := [(3, .long g.2.1), (1, .long g.1), (0, .ref h0)]) X.1 X.2.1 dX6_canonise_17 rfl hl (by decide) rfl (fun ls hl => ?_)
  refine lv_aload_n X.1 X.2.1 dX6_canonise_18 rfl (lv_at hl 2 rfl) ?_
  refine gf_X6_48 (v := .long g.2.2.1) X hP 0 rfl rfl dX6_canonise_19 ?_
  refine lv_lstore (lv' := [(5, .long g.2.2.1), (3, .long g.2.1), (1, .long g.1), (0, .ref h0)]) X.1 X.2.1 dX6_canonise_22 hl (by decide) rfl (fun ls hl => ?_)
  refine lv_aload_n X.1 X.2.1 dX6_canonise_24 rfl (lv_at hl 3 rfl) ?_
  refine gf_X6_51 (v := .long g.2.2.2) X hP 0 rfl rfl dX6_canonise_25 ?_
  refine lv_lstore (lv' := [(7, .long g.2.2.2), (5, .long g.2.2.1), (3, .long g.2.1), (1, .long g.1), (0, .ref h0)]) X.1 X.2.1 dX6_canonise_28 hl (by decide) rfl (fun ls hl => ?_)
  refine lv_iconst (v := 0) X.1 X.2.1 dX6_canonise_30 (by decide) ?_
  refine lv_istore (lv' := [(9, .int 0), (7, .long g.2.2.2), (5, .long g.2.2.1), (3, .long g.2.1), (1, .long g.1), (0, .ref h0)]) X.1 X.2.1 dX6_canonise_31 hl (by decide) rfl (fun ls hl => ?_)
  have loop33 : ∀ (n9 : Nat) (j : Nat) (K : Nat) (y : Fm) (z : Fm), (j + K = 81) → (canGoM g K j y = sealC 0 f) → (K < n9) → ∀ (H : Heap) (locs : List Loc) (ls : Array Slot), va_P D vwCl [(h0, moE (nI n) st z g he p ma tr t tb fo gi)] H → va_D AA [(h0, moE (nI n) st z g he p ma tr t tb fo gi)] → va_S AA sg_.heap H locs → lv_has ls 14 [(0, .ref h0), (1, .long y.1), (3, .long y.2.1), (5, .long y.2.2.1), (7, .long y.2.2.2), (9, .int (nI j))] → W pr_ l en_ (rmk 3 84) sg_ me_ ar_ be_ mt_ co_ H locs 0 0 QQ (F0 me_ 33 ls []) := by
    intro n9
    induction n9 with
    | zero =>
      intro j K y z hk hG hn9
      omega
    | succ n33 ih33 =>
      intro j K y z hk hG hn9 H locs ls hP hD hS hl
      refine lv_iload X.1 X.2.1 dX6_canonise_33 (lv_at hl 5 rfl) ?_
      refine lv_bipush (v := 81) X.1 X.2.1 dX6_canonise_35 (by decide) ?_
      refine bi_ge (tgt := 176) X dX6_canonise_37 (by decide) (fun c_7 => ?_) (fun c_7 => ?_)
      · have hj : ¬ j < 81 := fun q => c_7 ((nI_ltn (by omega) (by decide) rfl).mpr q)
        obtain rfl : K = 0 := by omega
        refine lv_aload_n X.1 X.2.1 dX6_canonise_176 rfl (lv_at hl 0 rfl) ?_
        refine lv_lload_n X.1 X.2.1 dX6_canonise_177 rfl (lv_at hl 1 rfl) ?_
        refine lv_lload_n X.1 X.2.1 dX6_canonise_178 rfl (lv_at hl 2 rfl) ?_
        refine lv_lload X.1 X.2.1 dX6_canonise_179 (lv_at hl 3 rfl) ?_
        refine lv_lload X.1 X.2.1 dX6_canonise_181 (lv_at hl 4 rfl) ?_
        refine fin_v (wr := []) (cv_X6_58 X (m_set l D cI cJ h0 st he ma tr fo gi n z g p t tb y.1 y.2.1 y.2.2.1 y.2.2.2  _) rfl rfl dX6_canonise_183 hP hD 0 rfl [0] rfl rfl hl.1 rfl rfl (Nat.le_of_ble_eq_true rfl) ⟨Nat.le_of_ble_eq_true rfl, Nat.le_of_ble_eq_true rfl⟩ ⟨Nat.le_of_ble_eq_true rfl, Nat.le_of_ble_eq_true rfl⟩) hP hD hS hA [0] [] rfl rfl rfl (by decide) (fun u_9 H locs w_8 hP hD hS => ?_)
        have hP : va_P D vwCl [(h0, moE (nI n) st y g he p ma tr t tb fo gi)] H := hP
        have hD : va_D AA [(h0, moE (nI n) st y g he p ma tr t tb fo gi)] := hD
        have e : y = sealC 0 f := hG
        have hP : va_P D vwCl [(h0, moE (nI n) st y g he p ma tr t tb fo gi)] H := hP
        have hD : va_D AA [(h0, moE (nI n) st y g he p ma tr t tb fo gi)] := hD
        rw [e] at hP hD
        exact hret g _ _ _ _ (trivial) (hP.sub [0] rfl) (hD.sub [0] rfl rfl) hS dX6_canonise_186
      · have hj : j < 81 := (nI_ltn (by omega) (by decide) rfl).mp c_7
        obtain ⟨K, rfl⟩ : ∃ z, K = z + 1 := ⟨K - 1, by omega⟩
        refine lv_iload X.1 X.2.1 dX6_canonise_40 (lv_at hl 5 rfl) ?_
        refine lv_bipush (v := 27) X.1 X.2.1 dX6_canonise_42 (by decide) ?_
        refine lv_idiv X.1 X.2.1 dX6_canonise_44 (by decide) ?_
        refine lv_iconst (v := 1) X.1 X.2.1 dX6_canonise_45 (by decide) ?_
        refine lv_isub X.1 X.2.1 dX6_canonise_46 ?_
        rw [dg_p1 hj]
        refine lv_istore (lv' := [(10, .int (mp j)), (0, .ref h0), (1, .long y.1), (3, .long y.2.1), (5, .long y.2.2.1), (7, .long y.2.2.2), (9, .int (nI j))]) X.1 X.2.1 dX6_canonise_47 hl (by decide) rfl (fun ls hl => ?_)
        refine lv_iload X.1 X.2.1 dX6_canonise_49 (lv_at hl 6 rfl) ?_
        refine lv_bipush (v := 9) X.1 X.2.1 dX6_canonise_51 (by decide) ?_
        refine lv_idiv X.1 X.2.1 dX6_canonise_53 (by decide) ?_
        refine lv_iconst (v := 3) X.1 X.2.1 dX6_canonise_54 (by decide) ?_
        refine lv_irem X.1 X.2.1 dX6_canonise_55 (by decide) ?_
        refine lv_iconst (v := 1) X.1 X.2.1 dX6_canonise_56 (by decide) ?_
        refine lv_isub X.1 X.2.1 dX6_canonise_57 ?_
        rw [dg_q hj]
        refine lv_istore (lv' := [(11, .int (mq j)), (10, .int (mp j)), (0, .ref h0), (1, .long y.1), (3, .long y.2.1), (5, .long y.2.2.1), (7, .long y.2.2.2), (9, .int (nI j))]) X.1 X.2.1 dX6_canonise_58 hl (by decide) rfl (fun ls hl => ?_)
        refine lv_iload X.1 X.2.1 dX6_canonise_60 (lv_at hl 7 rfl) ?_
        refine lv_iconst (v := 3) X.1 X.2.1 dX6_canonise_62 (by decide) ?_
        refine lv_idiv X.1 X.2.1 dX6_canonise_63 (by decide) ?_
        refine lv_iconst (v := 3) X.1 X.2.1 dX6_canonise_64 (by decide) ?_
        refine lv_irem X.1 X.2.1 dX6_canonise_65 (by decide) ?_
        refine lv_iconst (v := 1) X.1 X.2.1 dX6_canonise_66 (by decide) ?_
        refine lv_isub X.1 X.2.1 dX6_canonise_67 ?_
        rw [dg_r hj]
        refine lv_istore (lv' := [(12, .int (mr j)), (11, .int (mq j)), (10, .int (mp j)), (0, .ref h0), (1, .long y.1), (3, .long y.2.1), (5, .long y.2.2.1), (7, .long y.2.2.2), (9, .int (nI j))]) X.1 X.2.1 dX6_canonise_68 hl (by decide) rfl (fun ls hl => ?_)
        refine lv_iload X.1 X.2.1 dX6_canonise_70 (lv_at hl 8 rfl) ?_
        refine lv_iconst (v := 3) X.1 X.2.1 dX6_canonise_72 (by decide) ?_
        refine lv_irem X.1 X.2.1 dX6_canonise_73 (by decide) ?_
        refine lv_iconst (v := 1) X.1 X.2.1 dX6_canonise_74 (by decide) ?_
        refine lv_isub X.1 X.2.1 dX6_canonise_75 ?_
        rw [dg_s hj]
        refine lv_istore (lv' := [(13, .int (mz j)), (12, .int (mr j)), (11, .int (mq j)), (10, .int (mp j)), (0, .ref h0), (1, .long y.1), (3, .long y.2.1), (5, .long y.2.2.1), (7, .long y.2.2.2), (9, .int (nI j))]) X.1 X.2.1 dX6_canonise_76 hl (by decide) rfl (fun ls hl => ?_)
        refine lv_aload_n X.1 X.2.1 dX6_canonise_78 rfl (lv_at hl 4 rfl) ?_
        refine lv_aload_n X.1 X.2.1 dX6_canonise_79 rfl (lv_at hl 4 rfl) ?_
        refine gf_X6_137 (v := .long g.1) X hP 0 rfl rfl dX6_canonise_80 ?_
        refine lv_aload_n X.1 X.2.1 dX6_canonise_83 rfl (lv_at hl 4 rfl) ?_
        refine gf_X6_140 (v := .long g.2.1) X hP 0 rfl rfl dX6_canonise_84 ?_
        refine lv_aload_n X.1 X.2.1 dX6_canonise_87 rfl (lv_at hl 4 rfl) ?_
        refine gf_X6_143 (v := .long g.2.2.1) X hP 0 rfl rfl dX6_canonise_88 ?_
        refine lv_aload_n X.1 X.2.1 dX6_canonise_91 rfl (lv_at hl 4 rfl) ?_
        refine gf_X6_146 (v := .long g.2.2.2) X hP 0 rfl rfl dX6_canonise_92 ?_
        refine fin_v (wr := []) (cv_X6_58 X (m_set l D cI cJ h0 st he ma tr fo gi n z g p t tb g.1 g.2.1 g.2.2.1 g.2.2.2  _) rfl rfl dX6_canonise_95 hP hD 0 rfl [0] rfl rfl hl.1 rfl rfl (Nat.le_of_ble_eq_true rfl) ⟨Nat.le_of_ble_eq_true rfl, Nat.le_of_ble_eq_true rfl⟩ ⟨Nat.le_of_ble_eq_true rfl, Nat.le_of_ble_eq_true rfl⟩) hP hD hS hA [0] [] rfl rfl rfl (by decide) (fun u_12 H locs w_11 hP hD hS => ?_)
        have hP : va_P D vwCl [(h0, moE (nI n) st g g he p ma tr t tb fo gi)] H := hP
        have hD : va_D AA [(h0, moE (nI n) st g g he p ma tr t tb fo gi)] := hD
        refine lv_iload X.1 X.2.1 dX6_canonise_98 (lv_at hl 3 rfl) ?_
        refine lv_iload X.1 X.2.1 dX6_canonise_100 (lv_at hl 2 rfl) ?_
        refine lv_iload X.1 X.2.1 dX6_canonise_102 (lv_at hl 1 rfl) ?_
        refine lv_iload X.1 X.2.1 dX6_canonise_104 (lv_at hl 0 rfl) ?_
        refine fin_i (wr := [(h0, moE (nI n) st g g he p ma tr t tb fo gi)]) (cv_X6_120 X (m_isUnit l D cI cJ (mp j) (mq j) (mr j) (mz j)  _) rfl rfl dX6_canonise_106 hP hD [] rfl rfl hl.1 rfl rfl (Nat.le_of_ble_eq_true rfl) ⟨Nat.le_of_ble_eq_true rfl, Nat.le_of_ble_eq_true rfl⟩ ⟨Nat.le_of_ble_eq_true rfl, Nat.le_of_ble_eq_true rfl⟩) hP hD hS hA [] [0] rfl rfl rfl (by decide) (fun r_16 u_15 H locs w_14 hP hD hS => ?_)
        have hP : va_P D vwCl [(h0, moE (nI n) st g g he p ma tr t tb fo gi)] H := hP
        have hD : va_D AA [(h0, moE (nI n) st g g he p ma tr t tb fo gi)] := hD
        subst w_14
        refine bb_eq (tgt := 170) X dX6_canonise_109 (by decide) (fun c_17 => ?_) (fun c_17 => ?_)
        · refine lv_iinc (v := nI (j + 1)) (lv' := [(9, .int (nI (j + 1))), (13, .int (mz j)), (12, .int (mr j)), (11, .int (mq j)), (10, .int (mp j)), (0, .ref h0), (1, .long y.1), (3, .long y.2.1), (5, .long y.2.2.1), (7, .long y.2.2.2)]) X.1 X.2.1 dX6_canonise_170 hl (k := 9) rfl (nI_1 j) (by decide) rfl (fun ls hl => ?_)
          refine lv_goto (tgt := 33) X.1 X.2.1 dX6_canonise_173 (by decide) ?_
          exact ih33  (j + 1) K y g (by omega) (by rw [← hG, canGoM]; simp only [show unitB j = false from c_17, Bool.and_true, Bool.true_and, Bool.and_false, Bool.false_and, if_true, if_false, Bool.false_eq_true]) (by omega) _ _ _ (hP.sub [0] rfl) (hD.sub [0] rfl rfl) hS (lv_sub hl [5, 6, 7, 8, 9, 0] rfl)
        · refine lv_aload_n X.1 X.2.1 dX6_canonise_112 rfl (lv_at hl 4 rfl) ?_
          refine lv_iload X.1 X.2.1 dX6_canonise_113 (lv_at hl 3 rfl) ?_
          refine lv_i2l X.1 X.2.1 dX6_canonise_115 rfl ?_
          refine lv_iload X.1 X.2.1 dX6_canonise_116 (lv_at hl 2 rfl) ?_
          refine lv_i2l X.1 X.2.1 dX6_canonise_118 rfl ?_
          refine lv_iload X.1 X.2.1 dX6_canonise_119 (lv_at hl 1 rfl) ?_
          refine lv_i2l X.1 X.2.1 dX6_canonise_121 rfl ?_
          refine lv_iload X.1 X.2.1 dX6_canonise_122 (lv_at hl 0 rfl) ?_
          refine lv_i2l X.1 X.2.1 dX6_canonise_124 rfl ?_
          refine fin_v (wr := []) (cv_X6_124 X (m_apply l D cI cJ h0 st he ma tr fo gi n g g p t tb ((mp j).toInt64) ((mq j).toInt64) ((mr j).toInt64) ((mz j).toInt64)  _) rfl rfl dX6_canonise_125 hP hD 0 rfl [0] rfl rfl hl.1 rfl rfl (Nat.le_of_ble_eq_true rfl) ⟨Nat.le_of_ble_eq_true rfl, Nat.le_of_ble_eq_true rfl⟩ ⟨Nat.le_of_ble_eq_true rfl, Nat.le_of_ble_eq_true rfl⟩) hP hD hS hA [0] [] rfl rfl rfl (by decide) (fun u_19 H locs w_18 hP hD hS => ?_)
          have hP : va_P D vwCl [(h0, moE (nI n) st (subF g ((mp j).toInt64) ((mq j).toInt64) ((mr j).toInt64) ((mz j).toInt64)) g he p ma tr t tb fo gi)] H := hP
          have hD : va_D AA [(h0, moE (nI n) st (subF g ((mp j).toInt64) ((mq j).toInt64) ((mr j).toInt64) ((mz j).toInt64)) g he p ma tr t tb fo gi)] := hD
          have hP : va_P D vwCl [(h0, moE (nI n) st (candF g j) g he p ma tr t tb fo gi)] H := hP
          have hD : va_D AA [(h0, moE (nI n) st (candF g j) g he p ma tr t tb fo gi)] := hD
          refine lv_aload_n X.1 X.2.1 dX6_canonise_128 rfl (lv_at hl 4 rfl) ?_
          refine fin_i (wr := []) (cv_X6_131 X (m_isReducedNow l D cI cJ h0 st he ma tr fo gi n (candF g j) g p t tb  _) rfl rfl dX6_canonise_129 hP hD 0 rfl [0] rfl rfl hl.1 rfl rfl (Nat.le_of_ble_eq_true rfl) ⟨Nat.le_of_ble_eq_true rfl, Nat.le_of_ble_eq_true rfl⟩ ⟨Nat.le_of_ble_eq_true rfl, Nat.le_of_ble_eq_true rfl⟩) hP hD hS hA [0] [] rfl rfl rfl (by decide) (fun r_23 u_22 H locs w_21 hP hD hS => ?_)
          have hP : va_P D vwCl [(h0, moE (nI n) st (candF g j) g he p ma tr t tb fo gi)] H := hP
          have hD : va_D AA [(h0, moE (nI n) st (candF g j) g he p ma tr t tb fo gi)] := hD
          subst w_21
          refine bb_eq (tgt := 170) X dX6_canonise_132 (by decide) (fun c_24 => ?_) (fun c_24 => ?_)
          · refine lv_iinc (v := nI (j + 1)) (lv' := [(9, .int (nI (j + 1))), (13, .int (mz j)), (12, .int (mr j)), (11, .int (mq j)), (10, .int (mp j)), (0, .ref h0), (1, .long y.1), (3, .long y.2.1), (5, .long y.2.2.1), (7, .long y.2.2.2)]) X.1 X.2.1 dX6_canonise_170 hl (k := 9) rfl (nI_1 j) (by decide) rfl (fun ls hl => ?_)
            refine lv_goto (tgt := 33) X.1 X.2.1 dX6_canonise_173 (by decide) ?_
            exact ih33  (j + 1) K y (candF g j) (by omega) (by rw [← hG, canGoM]; simp only [show unitB j = true from c_17, c_24, Bool.and_true, Bool.true_and, Bool.and_false, Bool.false_and, if_true, if_false, Bool.false_eq_true]) (by omega) _ _ _ (hP.sub [0] rfl) (hD.sub [0] rfl rfl) hS (lv_sub hl [5, 6, 7, 8, 9, 0] rfl)
          · refine lv_aload_n X.1 X.2.1 dX6_canonise_135 rfl (lv_at hl 4 rfl) ?_
            refine lv_lload_n X.1 X.2.1 dX6_canonise_136 rfl (lv_at hl 5 rfl) ?_
            refine lv_lload_n X.1 X.2.1 dX6_canonise_137 rfl (lv_at hl 6 rfl) ?_
            refine lv_lload X.1 X.2.1 dX6_canonise_138 (lv_at hl 7 rfl) ?_
            refine lv_lload X.1 X.2.1 dX6_canonise_140 (lv_at hl 8 rfl) ?_
            refine fin_i (wr := []) (cv_X6_155 X (m_isLess l D cI cJ h0 st he ma tr fo gi n (candF g j) g p t tb y.1 y.2.1 y.2.2.1 y.2.2.2  _) rfl rfl dX6_canonise_142 hP hD 0 rfl [0] rfl rfl hl.1 rfl rfl (Nat.le_of_ble_eq_true rfl) ⟨Nat.le_of_ble_eq_true rfl, Nat.le_of_ble_eq_true rfl⟩ ⟨Nat.le_of_ble_eq_true rfl, Nat.le_of_ble_eq_true rfl⟩) hP hD hS hA [0] [] rfl rfl rfl (by decide) (fun r_27 u_26 H locs w_25 hP hD hS => ?_)
            have hP : va_P D vwCl [(h0, moE (nI n) st (candF g j) g he p ma tr t tb fo gi)] H := hP
            have hD : va_D AA [(h0, moE (nI n) st (candF g j) g he p ma tr t tb fo gi)] := hD
            subst w_25
            refine bb_eq (tgt := 170) X dX6_canonise_145 (by decide) (fun c_28 => ?_) (fun c_28 => ?_)
            · refine lv_iinc (v := nI (j + 1)) (lv' := [(9, .int (nI (j + 1))), (13, .int (mz j)), (12, .int (mr j)), (11, .int (mq j)), (10, .int (mp j)), (0, .ref h0), (1, .long y.1), (3, .long y.2.1), (5, .long y.2.2.1), (7, .long y.2.2.2)]) X.1 X.2.1 dX6_canonise_170 hl (k := 9) rfl (nI_1 j) (by decide) rfl (fun ls hl => ?_)
              refine lv_goto (tgt := 33) X.1 X.2.1 dX6_canonise_173 (by decide) ?_
              exact ih33  (j + 1) K y (candF g j) (by omega) (by rw [← hG, canGoM]; simp only [show unitB j = true from c_17, c_24, c_28, Bool.and_true, Bool.true_and, Bool.and_false, Bool.false_and, if_true, if_false, Bool.false_eq_true]) (by omega) _ _ _ (hP.sub [0] rfl) (hD.sub [0] rfl rfl) hS (lv_sub hl [5, 6, 7, 8, 9, 0] rfl)
            · refine lv_aload_n X.1 X.2.1 dX6_canonise_148 rfl (lv_at hl 4 rfl) ?_
              refine gf_X6_41 (v := .long ((candF g j).1)) X hP 0 rfl rfl dX6_canonise_149 ?_
              refine lv_lstore_n (lv' := [(1, .long ((candF g j).1)), (13, .int (mz j)), (12, .int (mr j)), (11, .int (mq j)), (10, .int (mp j)), (0, .ref h0), (3, .long y.2.1), (5, .long y.2.2.1), (7, .long y.2.2.2), (9, .int (nI j))]) X.1 X.2.1 dX6_canonise_152 rfl hl (by decide) rfl (fun ls hl => ?_)
              refine lv_aload_n X.1 X.2.1 dX6_canonise_153 rfl (lv_at hl 5 rfl) ?_
              refine gf_X6_45 (v := .long ((candF g j).2.1)) X hP 0 rfl rfl dX6_canonise_154 ?_
              refine lv_lstore_n (lv' := [(3, .long ((candF g j).2.1)), (1, .long ((candF g j).1)), (13, .int (mz j)), (12, .int (mr j)), (11, .int (mq j)), (10, .int (mp j)), (0, .ref h0), (5, .long y.2.2.1), (7, .long y.2.2.2), (9, .int (nI j))]) X.1 X.2.1 dX6_canonise_157 rfl hl (by decide) rfl (fun ls hl => ?_)
              refine lv_aload_n X.1 X.2.1 dX6_canonise_158 rfl (lv_at hl 6 rfl) ?_
              refine gf_X6_48 (v := .long ((candF g j).2.2.1)) X hP 0 rfl rfl dX6_canonise_159 ?_
              refine lv_lstore (lv' := [(5, .long ((candF g j).2.2.1)), (3, .long ((candF g j).2.1)), (1, .long ((candF g j).1)), (13, .int (mz j)), (12, .int (mr j)), (11, .int (mq j)), (10, .int (mp j)), (0, .ref h0), (7, .long y.2.2.2), (9, .int (nI j))]) X.1 X.2.1 dX6_canonise_162 hl (by decide) rfl (fun ls hl => ?_)
              refine lv_aload_n X.1 X.2.1 dX6_canonise_164 rfl (lv_at hl 7 rfl) ?_
              refine gf_X6_51 (v := .long ((candF g j).2.2.2)) X hP 0 rfl rfl dX6_canonise_165 ?_
              refine lv_lstore (lv' := [(7, .long ((candF g j).2.2.2)), (5, .long ((candF g j).2.2.1)), (3, .long ((candF g j).2.1)), (1, .long ((candF g j).1)), (13, .int (mz j)), (12, .int (mr j)), (11, .int (mq j)), (10, .int (mp j)), (0, .ref h0), (9, .int (nI j))]) X.1 X.2.1 dX6_canonise_168 hl (by decide) rfl (fun ls hl => ?_)
              refine lv_iinc (v := nI (j + 1)) (lv' := [(9, .int (nI (j + 1))), (7, .long ((candF g j).2.2.2)), (5, .long ((candF g j).2.2.1)), (3, .long ((candF g j).2.1)), (1, .long ((candF g j).1)), (13, .int (mz j)), (12, .int (mr j)), (11, .int (mq j)), (10, .int (mp j)), (0, .ref h0)]) X.1 X.2.1 dX6_canonise_170 hl (k := 9) rfl (nI_1 j) (by decide) rfl (fun ls hl => ?_)
              refine lv_goto (tgt := 33) X.1 X.2.1 dX6_canonise_173 (by decide) ?_
              exact ih33  (j + 1) K (candF g j) (candF g j) (by omega) (by rw [← hG, canGoM]; simp only [show unitB j = true from c_17, c_24, c_28, Bool.and_true, Bool.true_and, Bool.and_false, Bool.false_and, if_true, if_false, Bool.false_eq_true]) (by omega) _ _ _ (hP.sub [0] rfl) (hD.sub [0] rfl rfl) hS (lv_sub hl [9, 4, 3, 2, 1, 0] rfl)
  exact loop33 82 0 81 g g rfl hcg (by decide) _ _ _ (hP.sub [0] rfl) (hD.sub [0] rfl rfl) hS (lv_sub hl [5, 4, 3, 2, 1, 0] rfl)
set_option maxHeartbeats 4000000 in
set_option maxRecDepth 100000 in
theorem m_isPositive (l : Launch) (D : va_G) (cI cJ : ClassId) (h0 : Nat) (st : Nat) (he : Nat) (ma : Nat) (tr : Nat) (fo : Nat) (gi : Nat) (n : Nat) (f : Fm) (k : Fm) (p : Em) (t : Fm) (tb : Int32) (C : Nat → Int32) (x : Int32) (hn : n ≤ 60) (hF : isFormB n x = true) : CtI l yX6_isPositive cX6_isPositive 2 .boolean (rmk 1 21) D cI cJ [.ref h0, .int x] [(h0, moE (nI n) st f k he p ma tr t tb fo gi), (st, aiE cI 240 C)] (fun (_ : Unit) => [(h0, moE (nI n) st (ldF C x.toNatClampNeg) k he p ma tr t tb fo gi), (st, aiE cI 240 C)]) (fun (r : Int32) (_ : Unit) => r = bI (decide (0 < discF (ldF C x.toNatClampNeg)))) := by
  refine CtI.of (own := RX6) (by decide +kernel) (Nat.le_of_ble_eq_true rfl) rfl ?_
  intro pr_ en_ sg_ me_ ar_ be_ mt_ co_ AA ls QQ X hA hP hD hS hl hret
  have hl : lv_has ls 2 [(0, .ref h0), (1, .int x)] := hl
  refine lv_aload_n X.1 X.2.1 dX6_isPositive_0 rfl (lv_at hl 0 rfl) ?_
  refine lv_iload_n X.1 X.2.1 dX6_isPositive_1 rfl (lv_at hl 1 rfl) ?_
  refine fin_v (wr := []) (cv_X6_82 X (m_load l D cI cJ h0 st he ma tr fo gi n f k p t tb C x hn hF _) rfl rfl dX6_isPositive_2 hP hD 0 rfl [0, 1] rfl rfl hl.1 rfl rfl (Nat.le_of_ble_eq_true rfl) ⟨Nat.le_of_ble_eq_true rfl, Nat.le_of_ble_eq_true rfl⟩ ⟨Nat.le_of_ble_eq_true rfl, Nat.le_of_ble_eq_true rfl⟩) hP hD hS hA [0, 1] [] rfl rfl rfl (by decide) (fun u_2 H locs w_1 hP hD hS => ?_)
  have hP : va_P D vwCl [(h0, moE (nI n) st (ldF C x.toNatClampNeg) k he p ma tr t tb fo gi), (st, aiE cI 240 C)] H := hP
  have hD : va_D AA [(h0, moE (nI n) st (ldF C x.toNatClampNeg) k he p ma tr t tb fo gi), (st, aiE cI 240 C)] := hD
  refine lv_aload_n X.1 X.2.1 dX6_isPositive_5 rfl (lv_at hl 0 rfl) ?_
  refine fin_l (wr := [(st, aiE cI 240 C)]) (cv_X6_86 X (m_discriminantNow l D cI cJ h0 st he ma tr fo gi n (ldF C x.toNatClampNeg) k p t tb  _) rfl rfl dX6_isPositive_6 hP hD 0 rfl [0] rfl rfl hl.1 rfl rfl (Nat.le_of_ble_eq_true rfl) ⟨Nat.le_of_ble_eq_true rfl, Nat.le_of_ble_eq_true rfl⟩ ⟨Nat.le_of_ble_eq_true rfl, Nat.le_of_ble_eq_true rfl⟩) hP hD hS hA [0] [1] rfl rfl rfl (by decide) (fun r_6 u_5 H locs w_4 hP hD hS => ?_)
  have hP : va_P D vwCl [(st, aiE cI 240 C), (h0, moE (nI n) st (ldF C x.toNatClampNeg) k he p ma tr t tb fo gi)] H := hP
  have hD : va_D AA [(st, aiE cI 240 C), (h0, moE (nI n) st (ldF C x.toNatClampNeg) k he p ma tr t tb fo gi)] := hD
  subst w_4
  refine lv_lconst (v := 0) X.1 X.2.1 dX6_isPositive_9 (by decide) ?_
  refine bl_le (tgt := 18) X dX6_isPositive_10 dX6_isPositive_11 (by decide) (fun c_7 => ?_) (fun c_7 => ?_)
  · refine lv_iconst (v := 0) X.1 X.2.1 dX6_isPositive_18 (by decide) ?_
    exact hret 0 () _ _ _ _ (by simp only [bI, c_7, decide_true, decide_false, if_true, if_false, Bool.false_eq_true]) rfl (hP.sub [1, 0] rfl) (hD.sub [1, 0] rfl rfl) hS dX6_isPositive_19
  · refine lv_iconst (v := 1) X.1 X.2.1 dX6_isPositive_14 (by decide) ?_
    refine lv_goto (tgt := 19) X.1 X.2.1 dX6_isPositive_15 (by decide) ?_
    exact hret 1 () _ _ _ _ (by simp only [bI, c_7, decide_true, decide_false, if_true, if_false, Bool.false_eq_true]) rfl (hP.sub [1, 0] rfl) (hD.sub [1, 0] rfl rfl) hS dX6_isPositive_19
set_option maxHeartbeats 4000000 in
set_option maxRecDepth 100000 in
theorem m_canonical (l : Launch) (D : va_G) (cI cJ : ClassId) (h0 : Nat) (st : Nat) (he : Nat) (ma : Nat) (tr : Nat) (fo : Nat) (gi : Nat) (n : Nat) (f : Fm) (k : Fm) (p : Em) (t : Fm) (tb : Int32) (C : Nat → Int32) (x : Int32) (hn : n ≤ 60) (hc : isFormB n x = true → 0 < discF (ldF C x.toNatClampNeg) → canOK (ldF C x.toNatClampNeg)) : CtI l yX6_canonical cX6_canonical 2 .int (rmk 4 117) D cI cJ [.ref h0, .int x] [(h0, moE (nI n) st f k he p ma tr t tb fo gi), (st, aiE cI 240 C)] (fun (u : Fm × Fm) => [(h0, moE (nI (outS n C (canO n C x)).1) st u.1 u.2 he p ma tr t tb fo gi), (st, aiE cI 240 ((outS n C (canO n C x)).2))]) (fun (r : Int32) (u : Fm × Fm) => r = outR n (canO n C x)) := by
  refine CtI.of (own := RX6) (by decide +kernel) (Nat.le_of_ble_eq_true rfl) rfl ?_
  intro pr_ en_ sg_ me_ ar_ be_ mt_ co_ AA ls QQ X hA hP hD hS hl hret
  have hl : lv_has ls 2 [(0, .ref h0), (1, .int x)] := hl
  refine lv_aload_n X.1 X.2.1 dX6_canonical_0 rfl (lv_at hl 0 rfl) ?_
  refine lv_iload_n X.1 X.2.1 dX6_canonical_1 rfl (lv_at hl 1 rfl) ?_
  refine fin_i (wr := [(st, aiE cI 240 C)]) (cv_X6_66 X (m_isForm l D cI cJ h0 st he ma tr fo gi n f k p t tb x (by first | assumption | omega) _) rfl rfl dX6_canonical_2 hP hD 0 rfl [0] rfl rfl hl.1 rfl rfl (Nat.le_of_ble_eq_true rfl) ⟨Nat.le_of_ble_eq_true rfl, Nat.le_of_ble_eq_true rfl⟩ ⟨Nat.le_of_ble_eq_true rfl, Nat.le_of_ble_eq_true rfl⟩) hP hD hS hA [0] [1] rfl rfl rfl (by decide) (fun r_3 u_2 H locs w_1 hP hD hS => ?_)
  have hP : va_P D vwCl [(st, aiE cI 240 C), (h0, moE (nI n) st f k he p ma tr t tb fo gi)] H := hP
  have hD : va_D AA [(st, aiE cI 240 C), (h0, moE (nI n) st f k he p ma tr t tb fo gi)] := hD
  subst w_1
  refine bb_ne (tgt := 12) X dX6_canonical_5 (by decide) (fun c_4 => ?_) (fun c_4 => ?_)
  · refine lv_aload_n X.1 X.2.1 dX6_canonical_12 rfl (lv_at hl 0 rfl) ?_
    refine lv_iload_n X.1 X.2.1 dX6_canonical_13 rfl (lv_at hl 1 rfl) ?_
    refine fin_i (wr := []) (cv_X6_159 X (m_isPositive l D cI cJ h0 st he ma tr fo gi n f k p t tb C x hn c_4 _) rfl rfl dX6_canonical_14 hP hD 1 rfl [1, 0] rfl rfl hl.1 rfl rfl (Nat.le_of_ble_eq_true rfl) ⟨Nat.le_of_ble_eq_true rfl, Nat.le_of_ble_eq_true rfl⟩ ⟨Nat.le_of_ble_eq_true rfl, Nat.le_of_ble_eq_true rfl⟩) hP hD hS hA [1, 0] [] rfl rfl rfl (by decide) (fun r_7 u_6 H locs w_5 hP hD hS => ?_)
    have hP : va_P D vwCl [(h0, moE (nI n) st (ldF C x.toNatClampNeg) k he p ma tr t tb fo gi), (st, aiE cI 240 C)] H := hP
    have hD : va_D AA [(h0, moE (nI n) st (ldF C x.toNatClampNeg) k he p ma tr t tb fo gi), (st, aiE cI 240 C)] := hD
    subst w_5
    refine bb_ne (tgt := 24) X dX6_canonical_17 (by decide) (fun c_8 => ?_) (fun c_8 => ?_)
    · refine lv_aload_n X.1 X.2.1 dX6_canonical_24 rfl (lv_at hl 0 rfl) ?_
      refine fin_v (wr := [(st, aiE cI 240 C)]) (cv_X6_162 X (m_canonise l D cI cJ h0 st he ma tr fo gi n (ldF C x.toNatClampNeg) k p t tb (hc c_4 (of_decide_eq_true c_8)) _) rfl rfl dX6_canonical_25 hP hD 0 rfl [0] rfl rfl hl.1 rfl rfl (Nat.le_of_ble_eq_true rfl) ⟨Nat.le_of_ble_eq_true rfl, Nat.le_of_ble_eq_true rfl⟩ ⟨Nat.le_of_ble_eq_true rfl, Nat.le_of_ble_eq_true rfl⟩) hP hD hS hA [0] [1] rfl rfl rfl (by decide) (fun u_10 H locs w_9 hP hD hS => ?_)
      have hP : va_P D vwCl [(st, aiE cI 240 C), (h0, moE (nI n) st (sealC 0 (ldF C x.toNatClampNeg)) u_10 he p ma tr t tb fo gi)] H := hP
      have hD : va_D AA [(st, aiE cI 240 C), (h0, moE (nI n) st (sealC 0 (ldF C x.toNatClampNeg)) u_10 he p ma tr t tb fo gi)] := hD
      refine lv_aload_n X.1 X.2.1 dX6_canonical_28 rfl (lv_at hl 0 rfl) ?_
      refine fin_i (wr := []) (cv_X6_62 X (m_store l D cI cJ h0 st he ma tr fo gi n (sealC 0 (ldF C x.toNatClampNeg)) u_10 p t tb C (by first | assumption | omega) _) rfl rfl dX6_canonical_29 hP hD 1 rfl [1, 0] rfl rfl hl.1 rfl rfl (Nat.le_of_ble_eq_true rfl) ⟨Nat.le_of_ble_eq_true rfl, Nat.le_of_ble_eq_true rfl⟩ ⟨Nat.le_of_ble_eq_true rfl, Nat.le_of_ble_eq_true rfl⟩) hP hD hS hA [1, 0] [] rfl rfl rfl (by decide) (fun r_14 u_13 H locs w_12 hP hD hS => ?_)
      have hP : va_P D vwCl [(h0, moE (nI (sifS n C (sealC 0 (ldF C x.toNatClampNeg))).1) st (sealC 0 (ldF C x.toNatClampNeg)) u_10 he p ma tr t tb fo gi), (st, aiE cI 240 ((sifS n C (sealC 0 (ldF C x.toNatClampNeg))).2))] H := hP
      have hD : va_D AA [(h0, moE (nI (sifS n C (sealC 0 (ldF C x.toNatClampNeg))).1) st (sealC 0 (ldF C x.toNatClampNeg)) u_10 he p ma tr t tb fo gi), (st, aiE cI 240 ((sifS n C (sealC 0 (ldF C x.toNatClampNeg))).2))] := hD
      subst w_12
      have eo : canO n C x = .inr (sealC 0 (ldF C x.toNatClampNeg)) := by rw [canO, if_pos c_4, if_pos (of_decide_eq_true c_8)]
      have hP : va_P D vwCl [(h0, moE (nI (outS n C (canO n C x)).1) st (sealC 0 (ldF C x.toNatClampNeg)) u_10 he p ma tr t tb fo gi), (st, aiE cI 240 ((outS n C (canO n C x)).2))] H := by rw [eo]; exact hP
      have hD : va_D AA [(h0, moE (nI (outS n C (canO n C x)).1) st (sealC 0 (ldF C x.toNatClampNeg)) u_10 he p ma tr t tb fo gi), (st, aiE cI 240 ((outS n C (canO n C x)).2))] := by rw [eo]; exact hD
      exact hret (sifR n (sealC 0 (ldF C x.toNatClampNeg))) (sealC 0 (ldF C x.toNatClampNeg), u_10) _ _ _ _ (by rw [eo]; rfl) rfl (hP.sub [0, 1] rfl) (hD.sub [0, 1] rfl rfl) hS dX6_canonical_32
    · have eo : canO n C x = .inl (-10006) := by rw [canO, if_pos c_4, if_neg (of_decide_eq_false c_8)]
      have hP : va_P D vwCl [(h0, moE (nI (outS n C (canO n C x)).1) st (ldF C x.toNatClampNeg) k he p ma tr t tb fo gi), (st, aiE cI 240 ((outS n C (canO n C x)).2))] H := by rw [eo]; exact hP
      have hD : va_D AA [(h0, moE (nI (outS n C (canO n C x)).1) st (ldF C x.toNatClampNeg) k he p ma tr t tb fo gi), (st, aiE cI 240 ((outS n C (canO n C x)).2))] := by rw [eo]; exact hD
      refine lv_sipush (v := (-10006)) X.1 X.2.1 dX6_canonical_20 (by decide) ?_
      exact hret (-10006) (ldF C x.toNatClampNeg, k) _ _ _ _ (by rw [eo]; rfl) rfl (hP.sub [0, 1] rfl) (hD.sub [0, 1] rfl rfl) hS dX6_canonical_23
  · have eo : canO n C x = .inl (-10001) := by rw [canO, if_neg (by rw [c_4]; decide)]
    have hP : va_P D vwCl [(st, aiE cI 240 ((outS n C (canO n C x)).2)), (h0, moE (nI (outS n C (canO n C x)).1) st f k he p ma tr t tb fo gi)] H := by rw [eo]; exact hP
    have hD : va_D AA [(st, aiE cI 240 ((outS n C (canO n C x)).2)), (h0, moE (nI (outS n C (canO n C x)).1) st f k he p ma tr t tb fo gi)] := by rw [eo]; exact hD
    refine lv_sipush (v := (-10001)) X.1 X.2.1 dX6_canonical_8 (by decide) ?_
    exact hret (-10001) (f, k) _ _ _ _ (by rw [eo]; rfl) rfl (hP.sub [1, 0] rfl) (hD.sub [1, 0] rfl rfl) hS dX6_canonical_11
set_option maxHeartbeats 4000000 in
set_option maxRecDepth 100000 in
theorem m_areEquivalent (l : Launch) (D : va_G) (cI cJ : ClassId) (h0 : Nat) (st : Nat) (he : Nat) (ma : Nat) (tr : Nat) (fo : Nat) (gi : Nat) (n : Nat) (f : Fm) (k : Fm) (p : Em) (t : Fm) (tb : Int32) (C : Nat → Int32) (x : Int32) (y : Int32) (hn : n ≤ 60) (hc : 0 < discF (ldF C x.toNatClampNeg) → isFormB n x = true → canOK (ldF C x.toNatClampNeg)) (hc2 : 0 < discF (ldF C y.toNatClampNeg) → isFormB n y = true → canOK (ldF C y.toNatClampNeg)) : CtI l yX6_areEquivalent cX6_areEquivalent 11 .int (rmk 4 117) D cI cJ [.ref h0, .int x, .int y] [(h0, moE (nI n) st f k he p ma tr t tb fo gi), (st, aiE cI 240 C)] (fun (u : Fm × Fm) => [(h0, moE (nI n) st u.1 u.2 he p ma tr t tb fo gi), (st, aiE cI 240 C)]) (fun (r : Int32) (u : Fm × Fm) => r = eqvR n C x y) := by
  refine CtI.of (own := RX6) (by decide +kernel) (Nat.le_of_ble_eq_true rfl) rfl ?_
  intro pr_ en_ sg_ me_ ar_ be_ mt_ co_ AA ls QQ X hA hP hD hS hl hret
  have hl : lv_has ls 11 [(0, .ref h0), (1, .int x), (2, .int y)] := hl
  refine lv_aload_n X.1 X.2.1 dX6_areEquivalent_0 rfl (lv_at hl 0 rfl) ?_
  refine lv_iload_n X.1 X.2.1 dX6_areEquivalent_1 rfl (lv_at hl 1 rfl) ?_
  refine fin_i (wr := [(st, aiE cI 240 C)]) (cv_X6_66 X (m_isForm l D cI cJ h0 st he ma tr fo gi n f k p t tb x (by first | assumption | omega) _) rfl rfl dX6_areEquivalent_2 hP hD 0 rfl [0] rfl rfl hl.1 rfl rfl (Nat.le_of_ble_eq_true rfl) ⟨Nat.le_of_ble_eq_true rfl, Nat.le_of_ble_eq_true rfl⟩ ⟨Nat.le_of_ble_eq_true rfl, Nat.le_of_ble_eq_true rfl⟩) hP hD hS hA [0] [1] rfl rfl rfl (by decide) (fun r_3 u_2 H locs w_1 hP hD hS => ?_)
  have hP : va_P D vwCl [(st, aiE cI 240 C), (h0, moE (nI n) st f k he p ma tr t tb fo gi)] H := hP
  have hD : va_D AA [(st, aiE cI 240 C), (h0, moE (nI n) st f k he p ma tr t tb fo gi)] := hD
  subst w_1
  refine bb_eq (tgt := 16) X dX6_areEquivalent_5 (by decide) (fun c_4 => ?_) (fun c_4 => ?_)
  · refine lv_sipush (v := (-10001)) X.1 X.2.1 dX6_areEquivalent_16 (by decide) ?_
    exact hret (-10001) (f, k) _ _ _ _ (by rw [eqvR, if_neg (by rw [c_4]; decide)]) rfl (hP.sub [1, 0] rfl) (hD.sub [1, 0] rfl rfl) hS dX6_areEquivalent_19
  · refine lv_aload_n X.1 X.2.1 dX6_areEquivalent_8 rfl (lv_at hl 0 rfl) ?_
    refine lv_iload_n X.1 X.2.1 dX6_areEquivalent_9 rfl (lv_at hl 2 rfl) ?_
    refine fin_i (wr := [(st, aiE cI 240 C)]) (cv_X6_66 X (m_isForm l D cI cJ h0 st he ma tr fo gi n f k p t tb y (by first | assumption | omega) _) rfl rfl dX6_areEquivalent_10 hP hD 1 rfl [1] rfl rfl hl.1 rfl rfl (Nat.le_of_ble_eq_true rfl) ⟨Nat.le_of_ble_eq_true rfl, Nat.le_of_ble_eq_true rfl⟩ ⟨Nat.le_of_ble_eq_true rfl, Nat.le_of_ble_eq_true rfl⟩) hP hD hS hA [1] [0] rfl rfl rfl (by decide) (fun r_7 u_6 H locs w_5 hP hD hS => ?_)
    have hP : va_P D vwCl [(st, aiE cI 240 C), (h0, moE (nI n) st f k he p ma tr t tb fo gi)] H := hP
    have hD : va_D AA [(st, aiE cI 240 C), (h0, moE (nI n) st f k he p ma tr t tb fo gi)] := hD
    subst w_5
    refine bb_ne (tgt := 20) X dX6_areEquivalent_13 (by decide) (fun c_8 => ?_) (fun c_8 => ?_)
    · refine lv_aload_n X.1 X.2.1 dX6_areEquivalent_20 rfl (lv_at hl 0 rfl) ?_
      refine lv_iload_n X.1 X.2.1 dX6_areEquivalent_21 rfl (lv_at hl 1 rfl) ?_
      refine fin_i (wr := []) (cv_X6_159 X (m_isPositive l D cI cJ h0 st he ma tr fo gi n f k p t tb C x hn c_4 _) rfl rfl dX6_areEquivalent_22 hP hD 1 rfl [1, 0] rfl rfl hl.1 rfl rfl (Nat.le_of_ble_eq_true rfl) ⟨Nat.le_of_ble_eq_true rfl, Nat.le_of_ble_eq_true rfl⟩ ⟨Nat.le_of_ble_eq_true rfl, Nat.le_of_ble_eq_true rfl⟩) hP hD hS hA [1, 0] [] rfl rfl rfl (by decide) (fun r_11 u_10 H locs w_9 hP hD hS => ?_)
      have hP : va_P D vwCl [(h0, moE (nI n) st (ldF C x.toNatClampNeg) k he p ma tr t tb fo gi), (st, aiE cI 240 C)] H := hP
      have hD : va_D AA [(h0, moE (nI n) st (ldF C x.toNatClampNeg) k he p ma tr t tb fo gi), (st, aiE cI 240 C)] := hD
      subst w_9
      refine bb_eq (tgt := 36) X dX6_areEquivalent_25 (by decide) (fun c_12 => ?_) (fun c_12 => ?_)
      · refine lv_sipush (v := (-10006)) X.1 X.2.1 dX6_areEquivalent_36 (by decide) ?_
        exact hret (-10006) (ldF C x.toNatClampNeg, k) _ _ _ _ (by rw [eqvR, if_pos c_4, if_pos c_8, if_neg (of_decide_eq_false c_12)]) rfl (hP.sub [0, 1] rfl) (hD.sub [0, 1] rfl rfl) hS dX6_areEquivalent_39
      · refine lv_aload_n X.1 X.2.1 dX6_areEquivalent_28 rfl (lv_at hl 0 rfl) ?_
        refine lv_iload_n X.1 X.2.1 dX6_areEquivalent_29 rfl (lv_at hl 2 rfl) ?_
        refine fin_i (wr := []) (cv_X6_159 X (m_isPositive l D cI cJ h0 st he ma tr fo gi n (ldF C x.toNatClampNeg) k p t tb C y hn c_8 _) rfl rfl dX6_areEquivalent_30 hP hD 0 rfl [0, 1] rfl rfl hl.1 rfl rfl (Nat.le_of_ble_eq_true rfl) ⟨Nat.le_of_ble_eq_true rfl, Nat.le_of_ble_eq_true rfl⟩ ⟨Nat.le_of_ble_eq_true rfl, Nat.le_of_ble_eq_true rfl⟩) hP hD hS hA [0, 1] [] rfl rfl rfl (by decide) (fun r_15 u_14 H locs w_13 hP hD hS => ?_)
        have hP : va_P D vwCl [(h0, moE (nI n) st (ldF C y.toNatClampNeg) k he p ma tr t tb fo gi), (st, aiE cI 240 C)] H := hP
        have hD : va_D AA [(h0, moE (nI n) st (ldF C y.toNatClampNeg) k he p ma tr t tb fo gi), (st, aiE cI 240 C)] := hD
        subst w_13
        refine bb_ne (tgt := 40) X dX6_areEquivalent_33 (by decide) (fun c_16 => ?_) (fun c_16 => ?_)
        · refine lv_aload_n X.1 X.2.1 dX6_areEquivalent_40 rfl (lv_at hl 0 rfl) ?_
          refine lv_iload_n X.1 X.2.1 dX6_areEquivalent_41 rfl (lv_at hl 1 rfl) ?_
          refine fin_v (wr := []) (cv_X6_82 X (m_load l D cI cJ h0 st he ma tr fo gi n (ldF C y.toNatClampNeg) k p t tb C x hn c_4 _) rfl rfl dX6_areEquivalent_42 hP hD 0 rfl [0, 1] rfl rfl hl.1 rfl rfl (Nat.le_of_ble_eq_true rfl) ⟨Nat.le_of_ble_eq_true rfl, Nat.le_of_ble_eq_true rfl⟩ ⟨Nat.le_of_ble_eq_true rfl, Nat.le_of_ble_eq_true rfl⟩) hP hD hS hA [0, 1] [] rfl rfl rfl (by decide) (fun u_18 H locs w_17 hP hD hS => ?_)
          have hP : va_P D vwCl [(h0, moE (nI n) st (ldF C x.toNatClampNeg) k he p ma tr t tb fo gi), (st, aiE cI 240 C)] H := hP
          have hD : va_D AA [(h0, moE (nI n) st (ldF C x.toNatClampNeg) k he p ma tr t tb fo gi), (st, aiE cI 240 C)] := hD
          refine lv_aload_n X.1 X.2.1 dX6_areEquivalent_45 rfl (lv_at hl 0 rfl) ?_
          refine fin_v (wr := [(st, aiE cI 240 C)]) (cv_X6_162 X (m_canonise l D cI cJ h0 st he ma tr fo gi n (ldF C x.toNatClampNeg) k p t tb (hc (of_decide_eq_true c_12) c_4) _) rfl rfl dX6_areEquivalent_46 hP hD 0 rfl [0] rfl rfl hl.1 rfl rfl (Nat.le_of_ble_eq_true rfl) ⟨Nat.le_of_ble_eq_true rfl, Nat.le_of_ble_eq_true rfl⟩ ⟨Nat.le_of_ble_eq_true rfl, Nat.le_of_ble_eq_true rfl⟩) hP hD hS hA [0] [1] rfl rfl rfl (by decide) (fun u_21 H locs w_20 hP hD hS => ?_)
          have hP : va_P D vwCl [(st, aiE cI 240 C), (h0, moE (nI n) st (sealC 0 (ldF C x.toNatClampNeg)) u_21 he p ma tr t tb fo gi)] H := hP
          have hD : va_D AA [(st, aiE cI 240 C), (h0, moE (nI n) st (sealC 0 (ldF C x.toNatClampNeg)) u_21 he p ma tr t tb fo gi)] := hD
          refine lv_aload_n X.1 X.2.1 dX6_areEquivalent_49 rfl (lv_at hl 0 rfl) ?_
          refine gf_X6_41 (v := .long ((sealC 0 (ldF C x.toNatClampNeg)).1)) X hP 1 rfl rfl dX6_areEquivalent_50 ?_
          refine lv_lstore_n (lv' := [(3, .long ((sealC 0 (ldF C x.toNatClampNeg)).1)), (0, .ref h0), (1, .int x), (2, .int y)]) X.1 X.2.1 dX6_areEquivalent_53 rfl hl (by decide) rfl (fun ls hl => ?_)
          refine lv_aload_n X.1 X.2.1 dX6_areEquivalent_54 rfl (lv_at hl 1 rfl) ?_
          refine gf_X6_45 (v := .long ((sealC 0 (ldF C x.toNatClampNeg)).2.1)) X hP 1 rfl rfl dX6_areEquivalent_55 ?_
          refine lv_lstore (lv' := [(5, .long ((sealC 0 (ldF C x.toNatClampNeg)).2.1)), (3, .long ((sealC 0 (ldF C x.toNatClampNeg)).1)), (0, .ref h0), (1, .int x), (2, .int y)]) X.1 X.2.1 dX6_areEquivalent_58 hl (by decide) rfl (fun ls hl => ?_)
          refine lv_aload_n X.1 X.2.1 dX6_areEquivalent_60 rfl (lv_at hl 2 rfl) ?_
          refine gf_X6_48 (v := .long ((sealC 0 (ldF C x.toNatClampNeg)).2.2.1)) X hP 1 rfl rfl dX6_areEquivalent_61 ?_
          refine lv_lstore (lv' := [(7, .long ((sealC 0 (ldF C x.toNatClampNeg)).2.2.1)), (5, .long ((sealC 0 (ldF C x.toNatClampNeg)).2.1)), (3, .long ((sealC 0 (ldF C x.toNatClampNeg)).1)), (0, .ref h0), (1, .int x), (2, .int y)]) X.1 X.2.1 dX6_areEquivalent_64 hl (by decide) rfl (fun ls hl => ?_)
          refine lv_aload_n X.1 X.2.1 dX6_areEquivalent_66 rfl (lv_at hl 3 rfl) ?_
          refine gf_X6_51 (v := .long ((sealC 0 (ldF C x.toNatClampNeg)).2.2.2)) X hP 1 rfl rfl dX6_areEquivalent_67 ?_
          refine lv_lstore (lv' := [(9, .long ((sealC 0 (ldF C x.toNatClampNeg)).2.2.2)), (7, .long ((sealC 0 (ldF C x.toNatClampNeg)).2.2.1)), (5, .long ((sealC 0 (ldF C x.toNatClampNeg)).2.1)), (3, .long ((sealC 0 (ldF C x.toNatClampNeg)).1)), (0, .ref h0), (1, .int x), (2, .int y)]) X.1 X.2.1 dX6_areEquivalent_70 hl (by decide) rfl (fun ls hl => ?_)
          refine lv_aload_n X.1 X.2.1 dX6_areEquivalent_72 rfl (lv_at hl 4 rfl) ?_
          refine lv_iload_n X.1 X.2.1 dX6_areEquivalent_73 rfl (lv_at hl 6 rfl) ?_
          refine fin_v (wr := []) (cv_X6_82 X (m_load l D cI cJ h0 st he ma tr fo gi n (sealC 0 (ldF C x.toNatClampNeg)) u_21 p t tb C y hn c_8 _) rfl rfl dX6_areEquivalent_74 hP hD 1 rfl [1, 0] rfl rfl hl.1 rfl rfl (Nat.le_of_ble_eq_true rfl) ⟨Nat.le_of_ble_eq_true rfl, Nat.le_of_ble_eq_true rfl⟩ ⟨Nat.le_of_ble_eq_true rfl, Nat.le_of_ble_eq_true rfl⟩) hP hD hS hA [1, 0] [] rfl rfl rfl (by decide) (fun u_24 H locs w_23 hP hD hS => ?_)
          have hP : va_P D vwCl [(h0, moE (nI n) st (ldF C y.toNatClampNeg) u_21 he p ma tr t tb fo gi), (st, aiE cI 240 C)] H := hP
          have hD : va_D AA [(h0, moE (nI n) st (ldF C y.toNatClampNeg) u_21 he p ma tr t tb fo gi), (st, aiE cI 240 C)] := hD
          refine lv_aload_n X.1 X.2.1 dX6_areEquivalent_77 rfl (lv_at hl 4 rfl) ?_
          refine fin_v (wr := [(st, aiE cI 240 C)]) (cv_X6_162 X (m_canonise l D cI cJ h0 st he ma tr fo gi n (ldF C y.toNatClampNeg) u_21 p t tb (hc2 (of_decide_eq_true c_16) c_8) _) rfl rfl dX6_areEquivalent_78 hP hD 0 rfl [0] rfl rfl hl.1 rfl rfl (Nat.le_of_ble_eq_true rfl) ⟨Nat.le_of_ble_eq_true rfl, Nat.le_of_ble_eq_true rfl⟩ ⟨Nat.le_of_ble_eq_true rfl, Nat.le_of_ble_eq_true rfl⟩) hP hD hS hA [0] [1] rfl rfl rfl (by decide) (fun u_27 H locs w_26 hP hD hS => ?_)
          have hP : va_P D vwCl [(st, aiE cI 240 C), (h0, moE (nI n) st (sealC 0 (ldF C y.toNatClampNeg)) u_27 he p ma tr t tb fo gi)] H := hP
          have hD : va_D AA [(st, aiE cI 240 C), (h0, moE (nI n) st (sealC 0 (ldF C y.toNatClampNeg)) u_27 he p ma tr t tb fo gi)] := hD
          refine lv_aload_n X.1 X.2.1 dX6_areEquivalent_81 rfl (lv_at hl 4 rfl) ?_
          refine gf_X6_41 (v := .long ((sealC 0 (ldF C y.toNatClampNeg)).1)) X hP 1 rfl rfl dX6_areEquivalent_82 ?_
          refine lv_lload_n X.1 X.2.1 dX6_areEquivalent_85 rfl (lv_at hl 3 rfl) ?_
          refine bl_ne (tgt := 124) X dX6_areEquivalent_86 dX6_areEquivalent_87 (by decide) (fun c_29 => ?_) (fun c_29 => ?_)
          · refine lv_iconst (v := 0) X.1 X.2.1 dX6_areEquivalent_124 (by decide) ?_
            exact hret 0 (sealC 0 (ldF C y.toNatClampNeg), u_27) _ _ _ _ (by rw [eqvR, if_pos c_4, if_pos c_8, if_pos (of_decide_eq_true c_12), if_pos (of_decide_eq_true c_16), sameF_comm, if_neg (by rw [show sameF _ _ = false from by simp only [sameF, c_29, decide_true, decide_false, Bool.and_true, Bool.true_and, Bool.and_false, Bool.false_and]]; decide)]) rfl (hP.sub [1, 0] rfl) (hD.sub [1, 0] rfl rfl) hS dX6_areEquivalent_125
          · refine lv_aload_n X.1 X.2.1 dX6_areEquivalent_90 rfl (lv_at hl 4 rfl) ?_
            refine gf_X6_45 (v := .long ((sealC 0 (ldF C y.toNatClampNeg)).2.1)) X hP 1 rfl rfl dX6_areEquivalent_91 ?_
            refine lv_lload X.1 X.2.1 dX6_areEquivalent_94 (lv_at hl 2 rfl) ?_
            refine bl_ne (tgt := 124) X dX6_areEquivalent_96 dX6_areEquivalent_97 (by decide) (fun c_30 => ?_) (fun c_30 => ?_)
            · refine lv_iconst (v := 0) X.1 X.2.1 dX6_areEquivalent_124 (by decide) ?_
              exact hret 0 (sealC 0 (ldF C y.toNatClampNeg), u_27) _ _ _ _ (by rw [eqvR, if_pos c_4, if_pos c_8, if_pos (of_decide_eq_true c_12), if_pos (of_decide_eq_true c_16), sameF_comm, if_neg (by rw [show sameF _ _ = false from by simp only [sameF, c_29, c_30, decide_true, decide_false, Bool.and_true, Bool.true_and, Bool.and_false, Bool.false_and]]; decide)]) rfl (hP.sub [1, 0] rfl) (hD.sub [1, 0] rfl rfl) hS dX6_areEquivalent_125
            · refine lv_aload_n X.1 X.2.1 dX6_areEquivalent_100 rfl (lv_at hl 4 rfl) ?_
              refine gf_X6_48 (v := .long ((sealC 0 (ldF C y.toNatClampNeg)).2.2.1)) X hP 1 rfl rfl dX6_areEquivalent_101 ?_
              refine lv_lload X.1 X.2.1 dX6_areEquivalent_104 (lv_at hl 1 rfl) ?_
              refine bl_ne (tgt := 124) X dX6_areEquivalent_106 dX6_areEquivalent_107 (by decide) (fun c_31 => ?_) (fun c_31 => ?_)
              · refine lv_iconst (v := 0) X.1 X.2.1 dX6_areEquivalent_124 (by decide) ?_
                exact hret 0 (sealC 0 (ldF C y.toNatClampNeg), u_27) _ _ _ _ (by rw [eqvR, if_pos c_4, if_pos c_8, if_pos (of_decide_eq_true c_12), if_pos (of_decide_eq_true c_16), sameF_comm, if_neg (by rw [show sameF _ _ = false from by simp only [sameF, c_29, c_30, c_31, decide_true, decide_false, Bool.and_true, Bool.true_and, Bool.and_false, Bool.false_and]]; decide)]) rfl (hP.sub [1, 0] rfl) (hD.sub [1, 0] rfl rfl) hS dX6_areEquivalent_125
              · refine lv_aload_n X.1 X.2.1 dX6_areEquivalent_110 rfl (lv_at hl 4 rfl) ?_
                refine gf_X6_51 (v := .long ((sealC 0 (ldF C y.toNatClampNeg)).2.2.2)) X hP 1 rfl rfl dX6_areEquivalent_111 ?_
                refine lv_lload X.1 X.2.1 dX6_areEquivalent_114 (lv_at hl 0 rfl) ?_
                refine bl_ne (tgt := 124) X dX6_areEquivalent_116 dX6_areEquivalent_117 (by decide) (fun c_32 => ?_) (fun c_32 => ?_)
                · refine lv_iconst (v := 0) X.1 X.2.1 dX6_areEquivalent_124 (by decide) ?_
                  exact hret 0 (sealC 0 (ldF C y.toNatClampNeg), u_27) _ _ _ _ (by rw [eqvR, if_pos c_4, if_pos c_8, if_pos (of_decide_eq_true c_12), if_pos (of_decide_eq_true c_16), sameF_comm, if_neg (by rw [show sameF _ _ = false from by simp only [sameF, c_29, c_30, c_31, c_32, decide_true, decide_false, Bool.and_true, Bool.true_and, Bool.and_false, Bool.false_and]]; decide)]) rfl (hP.sub [1, 0] rfl) (hD.sub [1, 0] rfl rfl) hS dX6_areEquivalent_125
                · refine lv_iconst (v := 1) X.1 X.2.1 dX6_areEquivalent_120 (by decide) ?_
                  refine lv_goto (tgt := 125) X.1 X.2.1 dX6_areEquivalent_121 (by decide) ?_
                  exact hret 1 (sealC 0 (ldF C y.toNatClampNeg), u_27) _ _ _ _ (by rw [eqvR, if_pos c_4, if_pos c_8, if_pos (of_decide_eq_true c_12), if_pos (of_decide_eq_true c_16), sameF_comm, if_pos (by simp only [sameF, c_29, c_30, c_31, c_32, decide_true, decide_false, Bool.and_true, Bool.true_and, Bool.and_false, Bool.false_and])]) rfl (hP.sub [1, 0] rfl) (hD.sub [1, 0] rfl rfl) hS dX6_areEquivalent_125
        · refine lv_sipush (v := (-10006)) X.1 X.2.1 dX6_areEquivalent_36 (by decide) ?_
          exact hret (-10006) (ldF C y.toNatClampNeg, k) _ _ _ _ (by rw [eqvR, if_pos c_4, if_pos c_8, if_pos (of_decide_eq_true c_12), if_neg (of_decide_eq_false c_16)]) rfl (hP.sub [0, 1] rfl) (hD.sub [0, 1] rfl rfl) hS dX6_areEquivalent_39
    · refine lv_sipush (v := (-10001)) X.1 X.2.1 dX6_areEquivalent_16 (by decide) ?_
      exact hret (-10001) (f, k) _ _ _ _ (by rw [eqvR, if_pos c_4, if_neg (by rw [c_8]; decide)]) rfl (hP.sub [1, 0] rfl) (hD.sub [1, 0] rfl rfl) hS dX6_areEquivalent_19
set_option maxHeartbeats 4000000 in
set_option maxRecDepth 100000 in
theorem m_automorphismCount (l : Launch) (D : va_G) (cI cJ : ClassId) (h0 : Nat) (st : Nat) (he : Nat) (ma : Nat) (tr : Nat) (fo : Nat) (gi : Nat) (n : Nat) (f : Fm) (k : Fm) (p : Em) (t : Fm) (tb : Int32) (C : Nat → Int32) (x : Int32) (hn : n ≤ 60) (hc : isFormB n x = true → 0 < discF (ldF C x.toNatClampNeg) → autOK (ldF C x.toNatClampNeg)) : CtI l yX6_automorphismCount cX6_automorphismCount 8 .int (rmk 3 84) D cI cJ [.ref h0, .int x] [(h0, moE (nI n) st f k he p ma tr t tb fo gi), (st, aiE cI 240 C)] (fun (u : Fm × Fm) => [(h0, moE (nI n) st u.1 u.2 he p ma tr t tb fo gi), (st, aiE cI 240 C)]) (fun (r : Int32) (u : Fm × Fm) => r = autR n C x) := by
  refine CtI.of (own := RX6) (by decide +kernel) (Nat.le_of_ble_eq_true rfl) rfl ?_
  intro pr_ en_ sg_ me_ ar_ be_ mt_ co_ AA ls QQ X hA hP hD hS hl hret
  have hl : lv_has ls 8 [(0, .ref h0), (1, .int x)] := hl
  refine lv_aload_n X.1 X.2.1 dX6_automorphismCount_0 rfl (lv_at hl 0 rfl) ?_
  refine lv_iload_n X.1 X.2.1 dX6_automorphismCount_1 rfl (lv_at hl 1 rfl) ?_
  refine fin_i (wr := [(st, aiE cI 240 C)]) (cv_X6_66 X (m_isForm l D cI cJ h0 st he ma tr fo gi n f k p t tb x (by first | assumption | omega) _) rfl rfl dX6_automorphismCount_2 hP hD 0 rfl [0] rfl rfl hl.1 rfl rfl (Nat.le_of_ble_eq_true rfl) ⟨Nat.le_of_ble_eq_true rfl, Nat.le_of_ble_eq_true rfl⟩ ⟨Nat.le_of_ble_eq_true rfl, Nat.le_of_ble_eq_true rfl⟩) hP hD hS hA [0] [1] rfl rfl rfl (by decide) (fun r_3 u_2 H locs w_1 hP hD hS => ?_)
  have hP : va_P D vwCl [(st, aiE cI 240 C), (h0, moE (nI n) st f k he p ma tr t tb fo gi)] H := hP
  have hD : va_D AA [(st, aiE cI 240 C), (h0, moE (nI n) st f k he p ma tr t tb fo gi)] := hD
  subst w_1
  refine bb_ne (tgt := 12) X dX6_automorphismCount_5 (by decide) (fun c_4 => ?_) (fun c_4 => ?_)
  · refine lv_aload_n X.1 X.2.1 dX6_automorphismCount_12 rfl (lv_at hl 0 rfl) ?_
    refine lv_iload_n X.1 X.2.1 dX6_automorphismCount_13 rfl (lv_at hl 1 rfl) ?_
    refine fin_i (wr := []) (cv_X6_159 X (m_isPositive l D cI cJ h0 st he ma tr fo gi n f k p t tb C x hn c_4 _) rfl rfl dX6_automorphismCount_14 hP hD 1 rfl [1, 0] rfl rfl hl.1 rfl rfl (Nat.le_of_ble_eq_true rfl) ⟨Nat.le_of_ble_eq_true rfl, Nat.le_of_ble_eq_true rfl⟩ ⟨Nat.le_of_ble_eq_true rfl, Nat.le_of_ble_eq_true rfl⟩) hP hD hS hA [1, 0] [] rfl rfl rfl (by decide) (fun r_7 u_6 H locs w_5 hP hD hS => ?_)
    have hP : va_P D vwCl [(h0, moE (nI n) st (ldF C x.toNatClampNeg) k he p ma tr t tb fo gi), (st, aiE cI 240 C)] H := hP
    have hD : va_D AA [(h0, moE (nI n) st (ldF C x.toNatClampNeg) k he p ma tr t tb fo gi), (st, aiE cI 240 C)] := hD
    subst w_5
    refine bb_ne (tgt := 24) X dX6_automorphismCount_17 (by decide) (fun c_8 => ?_) (fun c_8 => ?_)
    · obtain ⟨N, g, hr, hcg⟩ := hc c_4 (of_decide_eq_true c_8)
      have eaR : autR n C x = nI (sealA 0 (ldF C x.toNatClampNeg)) := by rw [autR, if_pos c_4, if_pos (of_decide_eq_true c_8)]
      refine lv_aload_n X.1 X.2.1 dX6_automorphismCount_24 rfl (lv_at hl 0 rfl) ?_
      refine fin_v (wr := [(st, aiE cI 240 C)]) (cv_X6_149 X (m_reduce l D cI cJ h0 st he ma tr fo gi n (ldF C x.toNatClampNeg) k p t tb N g hr _) rfl rfl dX6_automorphismCount_25 hP hD 0 rfl [0] rfl rfl hl.1 rfl rfl (Nat.le_of_ble_eq_true rfl) ⟨Nat.le_of_ble_eq_true rfl, Nat.le_of_ble_eq_true rfl⟩ ⟨Nat.le_of_ble_eq_true rfl, Nat.le_of_ble_eq_true rfl⟩) hP hD hS hA [0] [1] rfl rfl rfl (by decide) (fun u_10 H locs w_9 hP hD hS => ?_)
      have hP : va_P D vwCl [(st, aiE cI 240 C), (h0, moE (nI n) st g k he p ma tr t tb fo gi)] H := hP
      have hD : va_D AA [(st, aiE cI 240 C), (h0, moE (nI n) st g k he p ma tr t tb fo gi)] := hD
      refine lv_aload_n X.1 X.2.1 dX6_automorphismCount_28 rfl (lv_at hl 0 rfl) ?_
      refine fin_v (wr := [(st, aiE cI 240 C)]) (cv_X6_152 X (m_keep l D cI cJ h0 st he ma tr fo gi n g k p t tb  _) rfl rfl dX6_automorphismCount_29 hP hD 1 rfl [1] rfl rfl hl.1 rfl rfl (Nat.le_of_ble_eq_true rfl) ⟨Nat.le_of_ble_eq_true rfl, Nat.le_of_ble_eq_true rfl⟩ ⟨Nat.le_of_ble_eq_true rfl, Nat.le_of_ble_eq_true rfl⟩) hP hD hS hA [1] [0] rfl rfl rfl (by decide) (fun u_13 H locs w_12 hP hD hS => ?_)
      have hP : va_P D vwCl [(st, aiE cI 240 C), (h0, moE (nI n) st g g he p ma tr t tb fo gi)] H := hP
      have hD : va_D AA [(st, aiE cI 240 C), (h0, moE (nI n) st g g he p ma tr t tb fo gi)] := hD
      refine lv_iconst (v := 0) X.1 X.2.1 dX6_automorphismCount_32 (by decide) ?_
      refine lv_istore_n (lv' := [(2, .int 0), (0, .ref h0), (1, .int x)]) X.1 X.2.1 dX6_automorphismCount_33 rfl hl (by decide) rfl (fun ls hl => ?_)
      refine lv_iconst (v := 0) X.1 X.2.1 dX6_automorphismCount_34 (by decide) ?_
      refine lv_istore_n (lv' := [(3, .int 0), (2, .int 0), (0, .ref h0), (1, .int x)]) X.1 X.2.1 dX6_automorphismCount_35 rfl hl (by decide) rfl (fun ls hl => ?_)
      have loop36 : ∀ (n9 : Nat) (j : Nat) (K : Nat) (a9 : Nat) (z : Fm), (j + K = 81) → (autGo g K j a9 = sealA 0 (ldF C x.toNatClampNeg)) → (K < n9) → ∀ (H : Heap) (locs : List Loc) (ls : Array Slot), va_P D vwCl [(h0, moE (nI n) st z g he p ma tr t tb fo gi), (st, aiE cI 240 C)] H → va_D AA [(h0, moE (nI n) st z g he p ma tr t tb fo gi), (st, aiE cI 240 C)] → va_S AA sg_.heap H locs → lv_has ls 8 [(0, .ref h0), (1, .int x), (2, .int (nI a9)), (3, .int (nI j))] → W pr_ l en_ (rmk 3 84) sg_ me_ ar_ be_ mt_ co_ H locs 0 0 QQ (F0 me_ 36 ls []) := by
        intro n9
        induction n9 with
        | zero =>
          intro j K a9 z hk hG hn9
          omega
        | succ n36 ih36 =>
          intro j K a9 z hk hG hn9 H locs ls hP hD hS hl
          refine lv_iload_n X.1 X.2.1 dX6_automorphismCount_36 rfl (lv_at hl 3 rfl) ?_
          refine lv_bipush (v := 81) X.1 X.2.1 dX6_automorphismCount_37 (by decide) ?_
          refine bi_ge (tgt := 147) X dX6_automorphismCount_39 (by decide) (fun c_15 => ?_) (fun c_15 => ?_)
          · have hj : ¬ j < 81 := fun q => c_15 ((nI_ltn (by omega) (by decide) rfl).mpr q)
            obtain rfl : K = 0 := by omega
            refine lv_iload_n X.1 X.2.1 dX6_automorphismCount_147 rfl (lv_at hl 2 rfl) ?_
            exact hret (nI a9) (z, g) _ _ _ _ (by rw [eaR, ← hG]; rfl) rfl (hP.sub [0, 1] rfl) (hD.sub [0, 1] rfl rfl) hS dX6_automorphismCount_148
          · have hj : j < 81 := (nI_ltn (by omega) (by decide) rfl).mp c_15
            obtain ⟨K, rfl⟩ : ∃ z, K = z + 1 := ⟨K - 1, by omega⟩
            refine lv_iload_n X.1 X.2.1 dX6_automorphismCount_42 rfl (lv_at hl 3 rfl) ?_
            refine lv_bipush (v := 27) X.1 X.2.1 dX6_automorphismCount_43 (by decide) ?_
            refine lv_idiv X.1 X.2.1 dX6_automorphismCount_45 (by decide) ?_
            refine lv_iconst (v := 1) X.1 X.2.1 dX6_automorphismCount_46 (by decide) ?_
            refine lv_isub X.1 X.2.1 dX6_automorphismCount_47 ?_
            rw [dg_p1 hj]
            refine lv_istore (lv' := [(4, .int (mp j)), (0, .ref h0), (1, .int x), (2, .int (nI a9)), (3, .int (nI j))]) X.1 X.2.1 dX6_automorphismCount_48 hl (by decide) rfl (fun ls hl => ?_)
            refine lv_iload_n X.1 X.2.1 dX6_automorphismCount_50 rfl (lv_at hl 4 rfl) ?_
            refine lv_bipush (v := 9) X.1 X.2.1 dX6_automorphismCount_51 (by decide) ?_
            refine lv_idiv X.1 X.2.1 dX6_automorphismCount_53 (by decide) ?_
            refine lv_iconst (v := 3) X.1 X.2.1 dX6_automorphismCount_54 (by decide) ?_
            refine lv_irem X.1 X.2.1 dX6_automorphismCount_55 (by decide) ?_
            refine lv_iconst (v := 1) X.1 X.2.1 dX6_automorphismCount_56 (by decide) ?_
            refine lv_isub X.1 X.2.1 dX6_automorphismCount_57 ?_
            rw [dg_q hj]
            refine lv_istore (lv' := [(5, .int (mq j)), (4, .int (mp j)), (0, .ref h0), (1, .int x), (2, .int (nI a9)), (3, .int (nI j))]) X.1 X.2.1 dX6_automorphismCount_58 hl (by decide) rfl (fun ls hl => ?_)
            refine lv_iload_n X.1 X.2.1 dX6_automorphismCount_60 rfl (lv_at hl 5 rfl) ?_
            refine lv_iconst (v := 3) X.1 X.2.1 dX6_automorphismCount_61 (by decide) ?_
            refine lv_idiv X.1 X.2.1 dX6_automorphismCount_62 (by decide) ?_
            refine lv_iconst (v := 3) X.1 X.2.1 dX6_automorphismCount_63 (by decide) ?_
            refine lv_irem X.1 X.2.1 dX6_automorphismCount_64 (by decide) ?_
            refine lv_iconst (v := 1) X.1 X.2.1 dX6_automorphismCount_65 (by decide) ?_
            refine lv_isub X.1 X.2.1 dX6_automorphismCount_66 ?_
            rw [dg_r hj]
            refine lv_istore (lv' := [(6, .int (mr j)), (5, .int (mq j)), (4, .int (mp j)), (0, .ref h0), (1, .int x), (2, .int (nI a9)), (3, .int (nI j))]) X.1 X.2.1 dX6_automorphismCount_67 hl (by decide) rfl (fun ls hl => ?_)
            refine lv_iload_n X.1 X.2.1 dX6_automorphismCount_69 rfl (lv_at hl 6 rfl) ?_
            refine lv_iconst (v := 3) X.1 X.2.1 dX6_automorphismCount_70 (by decide) ?_
            refine lv_irem X.1 X.2.1 dX6_automorphismCount_71 (by decide) ?_
            refine lv_iconst (v := 1) X.1 X.2.1 dX6_automorphismCount_72 (by decide) ?_
            refine lv_isub X.1 X.2.1 dX6_automorphismCount_73 ?_
            rw [dg_s hj]
            refine lv_istore (lv' := [(7, .int (mz j)), (6, .int (mr j)), (5, .int (mq j)), (4, .int (mp j)), (0, .ref h0), (1, .int x), (2, .int (nI a9)), (3, .int (nI j))]) X.1 X.2.1 dX6_automorphismCount_74 hl (by decide) rfl (fun ls hl => ?_)
            refine lv_aload_n X.1 X.2.1 dX6_automorphismCount_76 rfl (lv_at hl 4 rfl) ?_
            refine lv_aload_n X.1 X.2.1 dX6_automorphismCount_77 rfl (lv_at hl 4 rfl) ?_
            refine gf_X6_137 (v := .long g.1) X hP 0 rfl rfl dX6_automorphismCount_78 ?_
            refine lv_aload_n X.1 X.2.1 dX6_automorphismCount_81 rfl (lv_at hl 4 rfl) ?_
            refine gf_X6_140 (v := .long g.2.1) X hP 0 rfl rfl dX6_automorphismCount_82 ?_
            refine lv_aload_n X.1 X.2.1 dX6_automorphismCount_85 rfl (lv_at hl 4 rfl) ?_
            refine gf_X6_143 (v := .long g.2.2.1) X hP 0 rfl rfl dX6_automorphismCount_86 ?_
            refine lv_aload_n X.1 X.2.1 dX6_automorphismCount_89 rfl (lv_at hl 4 rfl) ?_
            refine gf_X6_146 (v := .long g.2.2.2) X hP 0 rfl rfl dX6_automorphismCount_90 ?_
            refine fin_v (wr := [(st, aiE cI 240 C)]) (cv_X6_58 X (m_set l D cI cJ h0 st he ma tr fo gi n z g p t tb g.1 g.2.1 g.2.2.1 g.2.2.2  _) rfl rfl dX6_automorphismCount_93 hP hD 0 rfl [0] rfl rfl hl.1 rfl rfl (Nat.le_of_ble_eq_true rfl) ⟨Nat.le_of_ble_eq_true rfl, Nat.le_of_ble_eq_true rfl⟩ ⟨Nat.le_of_ble_eq_true rfl, Nat.le_of_ble_eq_true rfl⟩) hP hD hS hA [0] [1] rfl rfl rfl (by decide) (fun u_17 H locs w_16 hP hD hS => ?_)
            have hP : va_P D vwCl [(st, aiE cI 240 C), (h0, moE (nI n) st g g he p ma tr t tb fo gi)] H := hP
            have hD : va_D AA [(st, aiE cI 240 C), (h0, moE (nI n) st g g he p ma tr t tb fo gi)] := hD
            refine lv_iload X.1 X.2.1 dX6_automorphismCount_96 (lv_at hl 3 rfl) ?_
            refine lv_iload X.1 X.2.1 dX6_automorphismCount_98 (lv_at hl 2 rfl) ?_
            refine lv_iload X.1 X.2.1 dX6_automorphismCount_100 (lv_at hl 1 rfl) ?_
            refine lv_iload X.1 X.2.1 dX6_automorphismCount_102 (lv_at hl 0 rfl) ?_
            refine fin_i (wr := [(st, aiE cI 240 C), (h0, moE (nI n) st g g he p ma tr t tb fo gi)]) (cv_X6_120 X (m_isUnit l D cI cJ (mp j) (mq j) (mr j) (mz j)  _) rfl rfl dX6_automorphismCount_104 hP hD [] rfl rfl hl.1 rfl rfl (Nat.le_of_ble_eq_true rfl) ⟨Nat.le_of_ble_eq_true rfl, Nat.le_of_ble_eq_true rfl⟩ ⟨Nat.le_of_ble_eq_true rfl, Nat.le_of_ble_eq_true rfl⟩) hP hD hS hA [] [0, 1] rfl rfl rfl (by decide) (fun r_21 u_20 H locs w_19 hP hD hS => ?_)
            have hP : va_P D vwCl [(st, aiE cI 240 C), (h0, moE (nI n) st g g he p ma tr t tb fo gi)] H := hP
            have hD : va_D AA [(st, aiE cI 240 C), (h0, moE (nI n) st g g he p ma tr t tb fo gi)] := hD
            subst w_19
            refine bb_eq (tgt := 141) X dX6_automorphismCount_107 (by decide) (fun c_22 => ?_) (fun c_22 => ?_)
            · refine lv_iinc (v := nI (j + 1)) (lv' := [(3, .int (nI (j + 1))), (7, .int (mz j)), (6, .int (mr j)), (5, .int (mq j)), (4, .int (mp j)), (0, .ref h0), (1, .int x), (2, .int (nI a9))]) X.1 X.2.1 dX6_automorphismCount_141 hl (k := 7) rfl (nI_1 j) (by decide) rfl (fun ls hl => ?_)
              refine lv_goto (tgt := 36) X.1 X.2.1 dX6_automorphismCount_144 (by decide) ?_
              exact ih36  (j + 1) K a9 g (by omega) (by rw [← hG, autGo]; simp only [show unitB j = false from c_22, Bool.and_true, Bool.true_and, Bool.and_false, Bool.false_and, if_true, if_false, Bool.false_eq_true]) (by omega) _ _ _ (hP.sub [1, 0] rfl) (hD.sub [1, 0] rfl rfl) hS (lv_sub hl [5, 6, 7, 0] rfl)
            · refine lv_aload_n X.1 X.2.1 dX6_automorphismCount_110 rfl (lv_at hl 4 rfl) ?_
              refine lv_iload X.1 X.2.1 dX6_automorphismCount_111 (lv_at hl 3 rfl) ?_
              refine lv_i2l X.1 X.2.1 dX6_automorphismCount_113 rfl ?_
              refine lv_iload X.1 X.2.1 dX6_automorphismCount_114 (lv_at hl 2 rfl) ?_
              refine lv_i2l X.1 X.2.1 dX6_automorphismCount_116 rfl ?_
              refine lv_iload X.1 X.2.1 dX6_automorphismCount_117 (lv_at hl 1 rfl) ?_
              refine lv_i2l X.1 X.2.1 dX6_automorphismCount_119 rfl ?_
              refine lv_iload X.1 X.2.1 dX6_automorphismCount_120 (lv_at hl 0 rfl) ?_
              refine lv_i2l X.1 X.2.1 dX6_automorphismCount_122 rfl ?_
              refine fin_v (wr := [(st, aiE cI 240 C)]) (cv_X6_124 X (m_apply l D cI cJ h0 st he ma tr fo gi n g g p t tb ((mp j).toInt64) ((mq j).toInt64) ((mr j).toInt64) ((mz j).toInt64)  _) rfl rfl dX6_automorphismCount_123 hP hD 1 rfl [1] rfl rfl hl.1 rfl rfl (Nat.le_of_ble_eq_true rfl) ⟨Nat.le_of_ble_eq_true rfl, Nat.le_of_ble_eq_true rfl⟩ ⟨Nat.le_of_ble_eq_true rfl, Nat.le_of_ble_eq_true rfl⟩) hP hD hS hA [1] [0] rfl rfl rfl (by decide) (fun u_24 H locs w_23 hP hD hS => ?_)
              have hP : va_P D vwCl [(st, aiE cI 240 C), (h0, moE (nI n) st (subF g ((mp j).toInt64) ((mq j).toInt64) ((mr j).toInt64) ((mz j).toInt64)) g he p ma tr t tb fo gi)] H := hP
              have hD : va_D AA [(st, aiE cI 240 C), (h0, moE (nI n) st (subF g ((mp j).toInt64) ((mq j).toInt64) ((mr j).toInt64) ((mz j).toInt64)) g he p ma tr t tb fo gi)] := hD
              have hP : va_P D vwCl [(st, aiE cI 240 C), (h0, moE (nI n) st (candF g j) g he p ma tr t tb fo gi)] H := hP
              have hD : va_D AA [(st, aiE cI 240 C), (h0, moE (nI n) st (candF g j) g he p ma tr t tb fo gi)] := hD
              refine lv_iload_n X.1 X.2.1 dX6_automorphismCount_126 rfl (lv_at hl 6 rfl) ?_
              refine lv_aload_n X.1 X.2.1 dX6_automorphismCount_127 rfl (lv_at hl 4 rfl) ?_
              refine fin_i (wr := [(st, aiE cI 240 C)]) (cv_X6_165 X (m_isKept l D cI cJ h0 st he ma tr fo gi n (candF g j) g p t tb  _) rfl rfl dX6_automorphismCount_128 hP hD 1 rfl [1] rfl rfl hl.1 rfl rfl (Nat.le_of_ble_eq_true rfl) ⟨Nat.le_of_ble_eq_true rfl, Nat.le_of_ble_eq_true rfl⟩ ⟨Nat.le_of_ble_eq_true rfl, Nat.le_of_ble_eq_true rfl⟩) hP hD hS hA [1] [0] rfl rfl rfl (by decide) (fun r_28 u_27 H locs w_26 hP hD hS => ?_)
              have hP : va_P D vwCl [(st, aiE cI 240 C), (h0, moE (nI n) st (candF g j) g he p ma tr t tb fo gi)] H := hP
              have hD : va_D AA [(st, aiE cI 240 C), (h0, moE (nI n) st (candF g j) g he p ma tr t tb fo gi)] := hD
              subst w_26
              refine bb_eq (tgt := 138) X dX6_automorphismCount_131 (by decide) (fun c_29 => ?_) (fun c_29 => ?_)
              · refine lv_iconst (v := 0) X.1 X.2.1 dX6_automorphismCount_138 (by decide) ?_
                refine lv_iadd X.1 X.2.1 dX6_automorphismCount_139 ?_
                rw [show nI a9 + 0 = nI a9 from nI_add a9 0]
                refine lv_istore_n (lv' := [(2, .int (nI a9)), (7, .int (mz j)), (6, .int (mr j)), (5, .int (mq j)), (4, .int (mp j)), (0, .ref h0), (1, .int x), (3, .int (nI j))]) X.1 X.2.1 dX6_automorphismCount_140 rfl hl (by decide) rfl (fun ls hl => ?_)
                refine lv_iinc (v := nI (j + 1)) (lv' := [(3, .int (nI (j + 1))), (2, .int (nI a9)), (7, .int (mz j)), (6, .int (mr j)), (5, .int (mq j)), (4, .int (mp j)), (0, .ref h0), (1, .int x)]) X.1 X.2.1 dX6_automorphismCount_141 hl (k := 7) rfl (nI_1 j) (by decide) rfl (fun ls hl => ?_)
                refine lv_goto (tgt := 36) X.1 X.2.1 dX6_automorphismCount_144 (by decide) ?_
                exact ih36  (j + 1) K a9 (candF g j) (by omega) (by rw [← hG, autGo]; simp only [show unitB j = true from c_22, c_29, Bool.and_true, Bool.true_and, Bool.and_false, Bool.false_and, if_true, if_false, Bool.false_eq_true]) (by omega) _ _ _ (hP.sub [1, 0] rfl) (hD.sub [1, 0] rfl rfl) hS (lv_sub hl [6, 7, 1, 0] rfl)
              · refine lv_iconst (v := 1) X.1 X.2.1 dX6_automorphismCount_134 (by decide) ?_
                refine lv_goto (tgt := 139) X.1 X.2.1 dX6_automorphismCount_135 (by decide) ?_
                refine lv_iadd X.1 X.2.1 dX6_automorphismCount_139 ?_
                rw [nI_1]
                refine lv_istore_n (lv' := [(2, .int (nI (a9 + 1))), (7, .int (mz j)), (6, .int (mr j)), (5, .int (mq j)), (4, .int (mp j)), (0, .ref h0), (1, .int x), (3, .int (nI j))]) X.1 X.2.1 dX6_automorphismCount_140 rfl hl (by decide) rfl (fun ls hl => ?_)
                refine lv_iinc (v := nI (j + 1)) (lv' := [(3, .int (nI (j + 1))), (2, .int (nI (a9 + 1))), (7, .int (mz j)), (6, .int (mr j)), (5, .int (mq j)), (4, .int (mp j)), (0, .ref h0), (1, .int x)]) X.1 X.2.1 dX6_automorphismCount_141 hl (k := 7) rfl (nI_1 j) (by decide) rfl (fun ls hl => ?_)
                refine lv_goto (tgt := 36) X.1 X.2.1 dX6_automorphismCount_144 (by decide) ?_
                exact ih36  (j + 1) K (a9 + 1) (candF g j) (by omega) (by rw [← hG, autGo]; simp only [show unitB j = true from c_22, c_29, Bool.and_true, Bool.true_and, Bool.and_false, Bool.false_and, if_true, if_false, Bool.false_eq_true]) (by omega) _ _ _ (hP.sub [1, 0] rfl) (hD.sub [1, 0] rfl rfl) hS (lv_sub hl [6, 7, 1, 0] rfl)
      exact loop36 82 0 81 0 g rfl hcg (by decide) _ _ _ (hP.sub [1, 0] rfl) (hD.sub [1, 0] rfl rfl) hS (lv_sub hl [2, 3, 1, 0] rfl)
    · refine lv_sipush (v := (-10006)) X.1 X.2.1 dX6_automorphismCount_20 (by decide) ?_
      exact hret (-10006) (ldF C x.toNatClampNeg, k) _ _ _ _ (by rw [autR, if_pos c_4, if_neg (of_decide_eq_false c_8)]) rfl (hP.sub [0, 1] rfl) (hD.sub [0, 1] rfl rfl) hS dX6_automorphismCount_23
  · refine lv_sipush (v := (-10001)) X.1 X.2.1 dX6_automorphismCount_8 (by decide) ?_
    exact hret (-10001) (f, k) _ _ _ _ (by rw [autR, if_neg (by rw [c_4]; decide)]) rfl (hP.sub [1, 0] rfl) (hD.sub [1, 0] rfl rfl) hS dX6_automorphismCount_11
