set_option maxHeartbeats 4000000 in
set_option maxRecDepth 100000 in
theorem m_isRegister (l : Launch) (D : va_G) (cI cJ : ClassId) (x : Int32)  : CtI l yX6_isRegister cX6_isRegister 1 .boolean (rmk 1 25) D cI cJ [.int x] [] (fun (_ : Unit) => []) (fun (r : Int32) (_ : Unit) => r = bI (isRegB x)) := by
  refine CtI.of (own := RX6) (by decide +kernel) (Nat.le_of_ble_eq_true rfl) rfl ?_
  intro pr_ en_ sg_ me_ ar_ be_ mt_ co_ AA ls QQ X hA hP hD hS hl hret
  have hl : lv_has ls 1 [(0, .int x)] := hl
  refine lv_iload_n X.1 X.2.1 dX6_isRegister_0 rfl (lv_at hl 0 rfl) ?_
  refine lv_i2l X.1 X.2.1 dX6_isRegister_1 rfl ?_
  refine lv_lconst (v := 0) X.1 X.2.1 dX6_isRegister_2 (by decide) ?_
  refine lc_X6_168 X dX6_isRegister_3 ?_
  refine fin_i (wr := []) (cv_X6_33 X (m_isBetween l D cI cJ x.toInt64 0 5  _) rfl rfl dX6_isRegister_6 hP hD [] rfl rfl hl.1 rfl rfl (Nat.le_of_ble_eq_true rfl) ⟨Nat.le_of_ble_eq_true rfl, Nat.le_of_ble_eq_true rfl⟩ ⟨Nat.le_of_ble_eq_true rfl, Nat.le_of_ble_eq_true rfl⟩) hP hD hS hA [] [] rfl rfl rfl (by decide) (fun r_3 u_2 H locs w_1 hP hD hS => ?_)
  have hP : va_P D vwCl [] H := hP
  have hD : va_D AA [] := hD
  subst w_1
  exact hret (bI (btw x.toInt64 0 5)) () _ _ _ _ (by rw [isReg_btw]) (bI_nar _) (hP.sub [] rfl) (hD.sub [] rfl rfl) hS dX6_isRegister_9
set_option maxHeartbeats 4000000 in
set_option maxRecDepth 100000 in
theorem m_product (l : Launch) (D : va_G) (cI cJ : ClassId) (h0 : Nat) (st : Nat) (he : Nat) (ma : Nat) (tr : Nat) (fo : Nat) (gi : Nat) (n : Nat) (f : Fm) (k : Fm) (p : Em) (t : Fm) (tb : Int32) (a : Int64) (b : Int64) (c : Int64) (d : Int64) (e1 : Int64) (e2 : Int64)  : CtV l yX6_product cX6_product 13 (rmk 0 0) D cI cJ [.ref h0, .long a, .long b, .long c, .long d, .long e1, .long e2] [(h0, moE (nI n) st f k he p ma tr t tb fo gi)] (fun (_ : Unit) => [(h0, moE (nI n) st f k he (prodE f (a, b, c) (d, e1, e2)) ma tr t tb fo gi)]) (fun (_ : Unit) => True) 0 0 := by
  refine CtV.of (own := RX6) (by decide +kernel) (Nat.le_of_ble_eq_true rfl) rfl ?_
  intro pr_ en_ sg_ me_ ar_ be_ mt_ co_ AA ls QQ X hin hA hP hD hS hl hret
  have hl : lv_has ls 13 [(0, .ref h0), (1, .long a), (3, .long b), (5, .long c), (7, .long d), (9, .long e1), (11, .long e2)] := hl
  refine lv_aload_n X.1 X.2.1 dX6_product_0 rfl (lv_at hl 0 rfl) ?_
  refine lv_lload_n X.1 X.2.1 dX6_product_1 rfl (lv_at hl 1 rfl) ?_
  refine lv_lload X.1 X.2.1 dX6_product_2 (lv_at hl 4 rfl) ?_
  refine lv_lmul X.1 X.2.1 dX6_product_4 ?_
  refine lv_aload_n X.1 X.2.1 dX6_product_5 rfl (lv_at hl 0 rfl) ?_
  refine gf_X6_41 (v := .long f.1) X hP 0 rfl rfl dX6_product_6 ?_
  refine lv_aload_n X.1 X.2.1 dX6_product_9 rfl (lv_at hl 0 rfl) ?_
  refine gf_X6_48 (v := .long f.2.2.1) X hP 0 rfl rfl dX6_product_10 ?_
  refine lv_lmul X.1 X.2.1 dX6_product_13 ?_
  refine lv_lload_n X.1 X.2.1 dX6_product_14 rfl (lv_at hl 2 rfl) ?_
  refine lv_lmul X.1 X.2.1 dX6_product_15 ?_
  refine lv_lload X.1 X.2.1 dX6_product_16 (lv_at hl 5 rfl) ?_
  refine lv_lmul X.1 X.2.1 dX6_product_18 ?_
  refine lv_lsub X.1 X.2.1 dX6_product_19 ?_
  refine lv_aload_n X.1 X.2.1 dX6_product_20 rfl (lv_at hl 0 rfl) ?_
  refine gf_X6_45 (v := .long f.2.1) X hP 0 rfl rfl dX6_product_21 ?_
  refine lv_aload_n X.1 X.2.1 dX6_product_24 rfl (lv_at hl 0 rfl) ?_
  refine gf_X6_51 (v := .long f.2.2.2) X hP 0 rfl rfl dX6_product_25 ?_
  refine lv_lmul X.1 X.2.1 dX6_product_28 ?_
  refine lv_lload X.1 X.2.1 dX6_product_29 (lv_at hl 3 rfl) ?_
  refine lv_lmul X.1 X.2.1 dX6_product_31 ?_
  refine lv_lload X.1 X.2.1 dX6_product_32 (lv_at hl 6 rfl) ?_
  refine lv_lmul X.1 X.2.1 dX6_product_34 ?_
  refine lv_lsub X.1 X.2.1 dX6_product_35 ?_
  refine lv_aload_n X.1 X.2.1 dX6_product_36 rfl (lv_at hl 0 rfl) ?_
  refine gf_X6_41 (v := .long f.1) X hP 0 rfl rfl dX6_product_37 ?_
  refine lv_aload_n X.1 X.2.1 dX6_product_40 rfl (lv_at hl 0 rfl) ?_
  refine gf_X6_51 (v := .long f.2.2.2) X hP 0 rfl rfl dX6_product_41 ?_
  refine lv_lmul X.1 X.2.1 dX6_product_44 ?_
  refine lv_lload_n X.1 X.2.1 dX6_product_45 rfl (lv_at hl 2 rfl) ?_
  refine lv_lload X.1 X.2.1 dX6_product_46 (lv_at hl 6 rfl) ?_
  refine lv_lmul X.1 X.2.1 dX6_product_48 ?_
  refine lv_lload X.1 X.2.1 dX6_product_49 (lv_at hl 3 rfl) ?_
  refine lv_lload X.1 X.2.1 dX6_product_51 (lv_at hl 5 rfl) ?_
  refine lv_lmul X.1 X.2.1 dX6_product_53 ?_
  refine lv_ladd X.1 X.2.1 dX6_product_54 ?_
  refine lv_lmul X.1 X.2.1 dX6_product_55 ?_
  refine lv_lsub X.1 X.2.1 dX6_product_56 ?_
  refine pf_X6_173 X hP hD hS 0 rfl rfl rfl (Nat.le_of_ble_eq_true rfl) dX6_product_57 (fun H locs hP hD hS => ?_)
  have hP : va_P D vwCl [(h0, moE (nI n) st f k he ((((a * d) - (((f.1 * f.2.2.1) * b) * e1)) - (((f.2.1 * f.2.2.2) * c) * e2)) - ((f.1 * f.2.2.2) * ((b * e2) + (c * e1))), p.2.1, p.2.2) ma tr t tb fo gi)] H := hP
  have hD : va_D AA [(h0, moE (nI n) st f k he ((((a * d) - (((f.1 * f.2.2.1) * b) * e1)) - (((f.2.1 * f.2.2.2) * c) * e2)) - ((f.1 * f.2.2.2) * ((b * e2) + (c * e1))), p.2.1, p.2.2) ma tr t tb fo gi)] := hD
  refine lv_aload_n X.1 X.2.1 dX6_product_60 rfl (lv_at hl 0 rfl) ?_
  refine lv_lload_n X.1 X.2.1 dX6_product_61 rfl (lv_at hl 1 rfl) ?_
  refine lv_lload X.1 X.2.1 dX6_product_62 (lv_at hl 5 rfl) ?_
  refine lv_lmul X.1 X.2.1 dX6_product_64 ?_
  refine lv_lload_n X.1 X.2.1 dX6_product_65 rfl (lv_at hl 2 rfl) ?_
  refine lv_lload X.1 X.2.1 dX6_product_66 (lv_at hl 4 rfl) ?_
  refine lv_lmul X.1 X.2.1 dX6_product_68 ?_
  refine lv_ladd X.1 X.2.1 dX6_product_69 ?_
  refine lv_aload_n X.1 X.2.1 dX6_product_70 rfl (lv_at hl 0 rfl) ?_
  refine gf_X6_45 (v := .long f.2.1) X hP 0 rfl rfl dX6_product_71 ?_
  refine lv_lload_n X.1 X.2.1 dX6_product_74 rfl (lv_at hl 2 rfl) ?_
  refine lv_lmul X.1 X.2.1 dX6_product_75 ?_
  refine lv_lload X.1 X.2.1 dX6_product_76 (lv_at hl 5 rfl) ?_
  refine lv_lmul X.1 X.2.1 dX6_product_78 ?_
  refine lv_ladd X.1 X.2.1 dX6_product_79 ?_
  refine lv_aload_n X.1 X.2.1 dX6_product_80 rfl (lv_at hl 0 rfl) ?_
  refine gf_X6_51 (v := .long f.2.2.2) X hP 0 rfl rfl dX6_product_81 ?_
  refine lv_lload X.1 X.2.1 dX6_product_84 (lv_at hl 3 rfl) ?_
  refine lv_lmul X.1 X.2.1 dX6_product_86 ?_
  refine lv_lload X.1 X.2.1 dX6_product_87 (lv_at hl 6 rfl) ?_
  refine lv_lmul X.1 X.2.1 dX6_product_89 ?_
  refine lv_ladd X.1 X.2.1 dX6_product_90 ?_
  refine pf_X6_176 X hP hD hS 0 rfl rfl rfl (Nat.le_of_ble_eq_true rfl) dX6_product_91 (fun H locs hP hD hS => ?_)
  have hP : va_P D vwCl [(h0, moE (nI n) st f k he ((((a * d) - (((f.1 * f.2.2.1) * b) * e1)) - (((f.2.1 * f.2.2.2) * c) * e2)) - ((f.1 * f.2.2.2) * ((b * e2) + (c * e1))), (((a * e1) + (b * d)) + ((f.2.1 * b) * e1)) + ((f.2.2.2 * c) * e2), p.2.2) ma tr t tb fo gi)] H := hP
  have hD : va_D AA [(h0, moE (nI n) st f k he ((((a * d) - (((f.1 * f.2.2.1) * b) * e1)) - (((f.2.1 * f.2.2.2) * c) * e2)) - ((f.1 * f.2.2.2) * ((b * e2) + (c * e1))), (((a * e1) + (b * d)) + ((f.2.1 * b) * e1)) + ((f.2.2.2 * c) * e2), p.2.2) ma tr t tb fo gi)] := hD
  refine lv_aload_n X.1 X.2.1 dX6_product_94 rfl (lv_at hl 0 rfl) ?_
  refine lv_lload_n X.1 X.2.1 dX6_product_95 rfl (lv_at hl 1 rfl) ?_
  refine lv_lload X.1 X.2.1 dX6_product_96 (lv_at hl 6 rfl) ?_
  refine lv_lmul X.1 X.2.1 dX6_product_98 ?_
  refine lv_lload X.1 X.2.1 dX6_product_99 (lv_at hl 3 rfl) ?_
  refine lv_lload X.1 X.2.1 dX6_product_101 (lv_at hl 4 rfl) ?_
  refine lv_lmul X.1 X.2.1 dX6_product_103 ?_
  refine lv_ladd X.1 X.2.1 dX6_product_104 ?_
  refine lv_aload_n X.1 X.2.1 dX6_product_105 rfl (lv_at hl 0 rfl) ?_
  refine gf_X6_41 (v := .long f.1) X hP 0 rfl rfl dX6_product_106 ?_
  refine lv_lload_n X.1 X.2.1 dX6_product_109 rfl (lv_at hl 2 rfl) ?_
  refine lv_lmul X.1 X.2.1 dX6_product_110 ?_
  refine lv_lload X.1 X.2.1 dX6_product_111 (lv_at hl 5 rfl) ?_
  refine lv_lmul X.1 X.2.1 dX6_product_113 ?_
  refine lv_lsub X.1 X.2.1 dX6_product_114 ?_
  refine lv_aload_n X.1 X.2.1 dX6_product_115 rfl (lv_at hl 0 rfl) ?_
  refine gf_X6_48 (v := .long f.2.2.1) X hP 0 rfl rfl dX6_product_116 ?_
  refine lv_lload X.1 X.2.1 dX6_product_119 (lv_at hl 3 rfl) ?_
  refine lv_lmul X.1 X.2.1 dX6_product_121 ?_
  refine lv_lload X.1 X.2.1 dX6_product_122 (lv_at hl 6 rfl) ?_
  refine lv_lmul X.1 X.2.1 dX6_product_124 ?_
  refine lv_lsub X.1 X.2.1 dX6_product_125 ?_
  refine pf_X6_179 X hP hD hS 0 rfl rfl rfl (Nat.le_of_ble_eq_true rfl) dX6_product_126 (fun H locs hP hD hS => ?_)
  have hP : va_P D vwCl [(h0, moE (nI n) st f k he ((((a * d) - (((f.1 * f.2.2.1) * b) * e1)) - (((f.2.1 * f.2.2.2) * c) * e2)) - ((f.1 * f.2.2.2) * ((b * e2) + (c * e1))), (((a * e1) + (b * d)) + ((f.2.1 * b) * e1)) + ((f.2.2.2 * c) * e2), (((a * e2) + (c * d)) - ((f.1 * b) * e1)) - ((f.2.2.1 * c) * e2)) ma tr t tb fo gi)] H := hP
  have hD : va_D AA [(h0, moE (nI n) st f k he ((((a * d) - (((f.1 * f.2.2.1) * b) * e1)) - (((f.2.1 * f.2.2.2) * c) * e2)) - ((f.1 * f.2.2.2) * ((b * e2) + (c * e1))), (((a * e1) + (b * d)) + ((f.2.1 * b) * e1)) + ((f.2.2.2 * c) * e2), (((a * e2) + (c * d)) - ((f.1 * b) * e1)) - ((f.2.2.1 * c) * e2)) ma tr t tb fo gi)] := hD
  rw [show ((((a * d) - (((f.1 * f.2.2.1) * b) * e1)) - (((f.2.1 * f.2.2.2) * c) * e2)) - ((f.1 * f.2.2.2) * ((b * e2) + (c * e1))), (((a * e1) + (b * d)) + ((f.2.1 * b) * e1)) + ((f.2.2.2 * c) * e2), (((a * e2) + (c * d)) - ((f.1 * b) * e1)) - ((f.2.2.1 * c) * e2)) = prodE f (a, b, c) (d, e1, e2) from prodM f a b c d e1 e2] at hP hD
  exact hret () _ _ _ _ (trivial) (hP.sub [0] rfl) (hD.sub [0] rfl rfl) hS dX6_product_129
set_option maxHeartbeats 4000000 in
set_option maxRecDepth 100000 in
theorem m_traceNow (l : Launch) (D : va_G) (cI cJ : ClassId) (h0 : Nat) (st : Nat) (he : Nat) (ma : Nat) (tr : Nat) (fo : Nat) (gi : Nat) (n : Nat) (f : Fm) (k : Fm) (p : Em) (t : Fm) (tb : Int32) (M : Nat → Int64)  : CtL l yX6_traceNow cX6_traceNow 1 (rmk 0 0) D cI cJ [.ref h0] [(h0, moE (nI n) st f k he p ma tr t tb fo gi), (ma, alE cJ 9 M)] (fun (_ : Unit) => [(h0, moE (nI n) st f k he p ma tr t tb fo gi), (ma, alE cJ 9 M)]) (fun (r : Int64) (_ : Unit) => r = trM M) := by
  refine CtL.of (own := RX6) (by decide +kernel) (Nat.le_of_ble_eq_true rfl) rfl ?_
  intro pr_ en_ sg_ me_ ar_ be_ mt_ co_ AA ls QQ X hA hP hD hS hl hret
  have hl : lv_has ls 1 [(0, .ref h0)] := hl
  refine lv_aload_n X.1 X.2.1 dX6_traceNow_0 rfl (lv_at hl 0 rfl) ?_
  refine gf_X6_16 (v := .ref ma) X hP 0 rfl rfl dX6_traceNow_1 ?_
  refine lv_iconst (v := 0) X.1 X.2.1 dX6_traceNow_4 (by decide) ?_
  refine va_lald X.1 X.2.1 X.k hP 1 1 rfl rfl (by unfold vp_in; decide) dX6_traceNow_5 ?_
  refine lv_topw (y := M 0) rfl ?_
  refine lv_aload_n X.1 X.2.1 dX6_traceNow_6 rfl (lv_at hl 0 rfl) ?_
  refine gf_X6_16 (v := .ref ma) X hP 0 rfl rfl dX6_traceNow_7 ?_
  refine lv_iconst (v := 4) X.1 X.2.1 dX6_traceNow_10 (by decide) ?_
  refine va_lald X.1 X.2.1 X.k hP 1 1 rfl rfl (by unfold vp_in; decide) dX6_traceNow_11 ?_
  refine lv_topw (y := M 4) rfl ?_
  refine lv_ladd X.1 X.2.1 dX6_traceNow_12 ?_
  refine lv_aload_n X.1 X.2.1 dX6_traceNow_13 rfl (lv_at hl 0 rfl) ?_
  refine gf_X6_16 (v := .ref ma) X hP 0 rfl rfl dX6_traceNow_14 ?_
  refine lv_bipush (v := 8) X.1 X.2.1 dX6_traceNow_17 (by decide) ?_
  refine va_lald X.1 X.2.1 X.k hP 1 1 rfl rfl (by unfold vp_in; decide) dX6_traceNow_19 ?_
  refine lv_topw (y := M 8) rfl ?_
  refine lv_ladd X.1 X.2.1 dX6_traceNow_20 ?_
  exact hret (((M 0) + (M 4)) + (M 8)) () _ _ _ _ (rfl) (hP.sub [0, 1] rfl) (hD.sub [0, 1] rfl rfl) hS dX6_traceNow_21
set_option maxHeartbeats 4000000 in
set_option maxRecDepth 100000 in
theorem m_determinant (l : Launch) (D : va_G) (cI cJ : ClassId) (h0 : Nat) (st : Nat) (he : Nat) (ma : Nat) (tr : Nat) (fo : Nat) (gi : Nat) (n : Nat) (f : Fm) (k : Fm) (p : Em) (t : Fm) (tb : Int32) (M : Nat → Int64)  : CtL l yX6_determinant cX6_determinant 1 (rmk 0 0) D cI cJ [.ref h0] [(h0, moE (nI n) st f k he p ma tr t tb fo gi), (ma, alE cJ 9 M)] (fun (_ : Unit) => [(h0, moE (nI n) st f k he p ma tr t tb fo gi), (ma, alE cJ 9 M)]) (fun (r : Int64) (_ : Unit) => r = detM M) := by
  refine CtL.of (own := RX6) (by decide +kernel) (Nat.le_of_ble_eq_true rfl) rfl ?_
  intro pr_ en_ sg_ me_ ar_ be_ mt_ co_ AA ls QQ X hA hP hD hS hl hret
  have hl : lv_has ls 1 [(0, .ref h0)] := hl
  refine lv_aload_n X.1 X.2.1 dX6_determinant_0 rfl (lv_at hl 0 rfl) ?_
  refine gf_X6_16 (v := .ref ma) X hP 0 rfl rfl dX6_determinant_1 ?_
  refine lv_iconst (v := 0) X.1 X.2.1 dX6_determinant_4 (by decide) ?_
  refine va_lald X.1 X.2.1 X.k hP 1 1 rfl rfl (by unfold vp_in; decide) dX6_determinant_5 ?_
  refine lv_topw (y := M 0) rfl ?_
  refine lv_aload_n X.1 X.2.1 dX6_determinant_6 rfl (lv_at hl 0 rfl) ?_
  refine gf_X6_16 (v := .ref ma) X hP 0 rfl rfl dX6_determinant_7 ?_
  refine lv_iconst (v := 4) X.1 X.2.1 dX6_determinant_10 (by decide) ?_
  refine va_lald X.1 X.2.1 X.k hP 1 1 rfl rfl (by unfold vp_in; decide) dX6_determinant_11 ?_
  refine lv_topw (y := M 4) rfl ?_
  refine lv_aload_n X.1 X.2.1 dX6_determinant_12 rfl (lv_at hl 0 rfl) ?_
  refine gf_X6_16 (v := .ref ma) X hP 0 rfl rfl dX6_determinant_13 ?_
  refine lv_bipush (v := 8) X.1 X.2.1 dX6_determinant_16 (by decide) ?_
  refine va_lald X.1 X.2.1 X.k hP 1 1 rfl rfl (by unfold vp_in; decide) dX6_determinant_18 ?_
  refine lv_topw (y := M 8) rfl ?_
  refine lv_lmul X.1 X.2.1 dX6_determinant_19 ?_
  refine lv_aload_n X.1 X.2.1 dX6_determinant_20 rfl (lv_at hl 0 rfl) ?_
  refine gf_X6_16 (v := .ref ma) X hP 0 rfl rfl dX6_determinant_21 ?_
  refine lv_iconst (v := 5) X.1 X.2.1 dX6_determinant_24 (by decide) ?_
  refine va_lald X.1 X.2.1 X.k hP 1 1 rfl rfl (by unfold vp_in; decide) dX6_determinant_25 ?_
  refine lv_topw (y := M 5) rfl ?_
  refine lv_aload_n X.1 X.2.1 dX6_determinant_26 rfl (lv_at hl 0 rfl) ?_
  refine gf_X6_16 (v := .ref ma) X hP 0 rfl rfl dX6_determinant_27 ?_
  refine lv_bipush (v := 7) X.1 X.2.1 dX6_determinant_30 (by decide) ?_
  refine va_lald X.1 X.2.1 X.k hP 1 1 rfl rfl (by unfold vp_in; decide) dX6_determinant_32 ?_
  refine lv_topw (y := M 7) rfl ?_
  refine lv_lmul X.1 X.2.1 dX6_determinant_33 ?_
  refine lv_lsub X.1 X.2.1 dX6_determinant_34 ?_
  refine lv_lmul X.1 X.2.1 dX6_determinant_35 ?_
  refine lv_aload_n X.1 X.2.1 dX6_determinant_36 rfl (lv_at hl 0 rfl) ?_
  refine gf_X6_16 (v := .ref ma) X hP 0 rfl rfl dX6_determinant_37 ?_
  refine lv_iconst (v := 1) X.1 X.2.1 dX6_determinant_40 (by decide) ?_
  refine va_lald X.1 X.2.1 X.k hP 1 1 rfl rfl (by unfold vp_in; decide) dX6_determinant_41 ?_
  refine lv_topw (y := M 1) rfl ?_
  refine lv_aload_n X.1 X.2.1 dX6_determinant_42 rfl (lv_at hl 0 rfl) ?_
  refine gf_X6_16 (v := .ref ma) X hP 0 rfl rfl dX6_determinant_43 ?_
  refine lv_iconst (v := 3) X.1 X.2.1 dX6_determinant_46 (by decide) ?_
  refine va_lald X.1 X.2.1 X.k hP 1 1 rfl rfl (by unfold vp_in; decide) dX6_determinant_47 ?_
  refine lv_topw (y := M 3) rfl ?_
  refine lv_aload_n X.1 X.2.1 dX6_determinant_48 rfl (lv_at hl 0 rfl) ?_
  refine gf_X6_16 (v := .ref ma) X hP 0 rfl rfl dX6_determinant_49 ?_
  refine lv_bipush (v := 8) X.1 X.2.1 dX6_determinant_52 (by decide) ?_
  refine va_lald X.1 X.2.1 X.k hP 1 1 rfl rfl (by unfold vp_in; decide) dX6_determinant_54 ?_
  refine lv_topw (y := M 8) rfl ?_
  refine lv_lmul X.1 X.2.1 dX6_determinant_55 ?_
  refine lv_aload_n X.1 X.2.1 dX6_determinant_56 rfl (lv_at hl 0 rfl) ?_
  refine gf_X6_16 (v := .ref ma) X hP 0 rfl rfl dX6_determinant_57 ?_
  refine lv_iconst (v := 5) X.1 X.2.1 dX6_determinant_60 (by decide) ?_
  refine va_lald X.1 X.2.1 X.k hP 1 1 rfl rfl (by unfold vp_in; decide) dX6_determinant_61 ?_
  refine lv_topw (y := M 5) rfl ?_
  refine lv_aload_n X.1 X.2.1 dX6_determinant_62 rfl (lv_at hl 0 rfl) ?_
  refine gf_X6_16 (v := .ref ma) X hP 0 rfl rfl dX6_determinant_63 ?_
  refine lv_bipush (v := 6) X.1 X.2.1 dX6_determinant_66 (by decide) ?_
  refine va_lald X.1 X.2.1 X.k hP 1 1 rfl rfl (by unfold vp_in; decide) dX6_determinant_68 ?_
  refine lv_topw (y := M 6) rfl ?_
  refine lv_lmul X.1 X.2.1 dX6_determinant_69 ?_
  refine lv_lsub X.1 X.2.1 dX6_determinant_70 ?_
  refine lv_lmul X.1 X.2.1 dX6_determinant_71 ?_
  refine lv_lsub X.1 X.2.1 dX6_determinant_72 ?_
  refine lv_aload_n X.1 X.2.1 dX6_determinant_73 rfl (lv_at hl 0 rfl) ?_
  refine gf_X6_16 (v := .ref ma) X hP 0 rfl rfl dX6_determinant_74 ?_
  refine lv_iconst (v := 2) X.1 X.2.1 dX6_determinant_77 (by decide) ?_
  refine va_lald X.1 X.2.1 X.k hP 1 1 rfl rfl (by unfold vp_in; decide) dX6_determinant_78 ?_
  refine lv_topw (y := M 2) rfl ?_
  refine lv_aload_n X.1 X.2.1 dX6_determinant_79 rfl (lv_at hl 0 rfl) ?_
  refine gf_X6_16 (v := .ref ma) X hP 0 rfl rfl dX6_determinant_80 ?_
  refine lv_iconst (v := 3) X.1 X.2.1 dX6_determinant_83 (by decide) ?_
  refine va_lald X.1 X.2.1 X.k hP 1 1 rfl rfl (by unfold vp_in; decide) dX6_determinant_84 ?_
  refine lv_topw (y := M 3) rfl ?_
  refine lv_aload_n X.1 X.2.1 dX6_determinant_85 rfl (lv_at hl 0 rfl) ?_
  refine gf_X6_16 (v := .ref ma) X hP 0 rfl rfl dX6_determinant_86 ?_
  refine lv_bipush (v := 7) X.1 X.2.1 dX6_determinant_89 (by decide) ?_
  refine va_lald X.1 X.2.1 X.k hP 1 1 rfl rfl (by unfold vp_in; decide) dX6_determinant_91 ?_
  refine lv_topw (y := M 7) rfl ?_
  refine lv_lmul X.1 X.2.1 dX6_determinant_92 ?_
  refine lv_aload_n X.1 X.2.1 dX6_determinant_93 rfl (lv_at hl 0 rfl) ?_
  refine gf_X6_16 (v := .ref ma) X hP 0 rfl rfl dX6_determinant_94 ?_
  refine lv_iconst (v := 4) X.1 X.2.1 dX6_determinant_97 (by decide) ?_
  refine va_lald X.1 X.2.1 X.k hP 1 1 rfl rfl (by unfold vp_in; decide) dX6_determinant_98 ?_
  refine lv_topw (y := M 4) rfl ?_
  refine lv_aload_n X.1 X.2.1 dX6_determinant_99 rfl (lv_at hl 0 rfl) ?_
  refine gf_X6_16 (v := .ref ma) X hP 0 rfl rfl dX6_determinant_100 ?_
  refine lv_bipush (v := 6) X.1 X.2.1 dX6_determinant_103 (by decide) ?_
  refine va_lald X.1 X.2.1 X.k hP 1 1 rfl rfl (by unfold vp_in; decide) dX6_determinant_105 ?_
  refine lv_topw (y := M 6) rfl ?_
  refine lv_lmul X.1 X.2.1 dX6_determinant_106 ?_
  refine lv_lsub X.1 X.2.1 dX6_determinant_107 ?_
  refine lv_lmul X.1 X.2.1 dX6_determinant_108 ?_
  refine lv_ladd X.1 X.2.1 dX6_determinant_109 ?_
  exact hret ((((M 0) * (((M 4) * (M 8)) - ((M 5) * (M 7)))) - ((M 1) * (((M 3) * (M 8)) - ((M 5) * (M 6))))) + ((M 2) * (((M 3) * (M 7)) - ((M 4) * (M 6))))) () _ _ _ _ (rfl) (hP.sub [0, 1] rfl) (hD.sub [0, 1] rfl rfl) hS dX6_determinant_110
set_option maxHeartbeats 4000000 in
set_option maxRecDepth 100000 in
theorem m_layMatrix (l : Launch) (D : va_G) (cI cJ : ClassId) (h0 : Nat) (st : Nat) (he : Nat) (ma : Nat) (tr : Nat) (fo : Nat) (gi : Nat) (n : Nat) (f : Fm) (k : Fm) (p : Em) (t : Fm) (tb : Int32) (M : Nat → Int64) (a : Int64) (b : Int64) (c : Int64)  : CtV l yX6_layMatrix cX6_layMatrix 8 (rmk 1 32) D cI cJ [.ref h0, .long a, .long b, .long c] [(h0, moE (nI n) st f k he p ma tr t tb fo gi), (ma, alE cJ 9 M)] (fun (u : Em) => [(h0, moE (nI n) st f k he u ma tr t tb fo gi), (ma, alE cJ 9 (layF f (a, b, c) M))]) (fun (u : Em) => True) 0 0 := by
  refine CtV.of (own := RX6) (by decide +kernel) (Nat.le_of_ble_eq_true rfl) rfl ?_
  intro pr_ en_ sg_ me_ ar_ be_ mt_ co_ AA ls QQ X hin hA hP hD hS hl hret
  have hl : lv_has ls 8 [(0, .ref h0), (1, .long a), (3, .long b), (5, .long c)] := hl
  refine lv_iconst (v := 0) X.1 X.2.1 dX6_layMatrix_0 (by decide) ?_
  refine lv_istore (lv' := [(7, .int 0), (0, .ref h0), (1, .long a), (3, .long b), (5, .long c)]) X.1 X.2.1 dX6_layMatrix_1 hl (by decide) rfl (fun ls hl => ?_)
  refine lv_iload X.1 X.2.1 dX6_layMatrix_3 (lv_at hl 0 rfl) ?_
  refine lv_iconst (v := 3) X.1 X.2.1 dX6_layMatrix_5 (by decide) ?_
  refine bi_ge (tgt := 98) X dX6_layMatrix_6 (by decide) (fun c_1 => absurd c_1 (by decide)) (fun c_1 => ?_)
  refine lv_aload_n X.1 X.2.1 dX6_layMatrix_9 rfl (lv_at hl 1 rfl) ?_
  refine lv_lload_n X.1 X.2.1 dX6_layMatrix_10 rfl (lv_at hl 2 rfl) ?_
  refine lv_lload_n X.1 X.2.1 dX6_layMatrix_11 rfl (lv_at hl 3 rfl) ?_
  refine lv_lload X.1 X.2.1 dX6_layMatrix_12 (lv_at hl 4 rfl) ?_
  refine lv_iload X.1 X.2.1 dX6_layMatrix_14 (lv_at hl 0 rfl) ?_
  refine bz_ne (tgt := 23) X dX6_layMatrix_16 (by decide) (fun c_2 => absurd c_2 (by decide)) (fun c_2 => ?_)
  refine lv_lconst (v := 1) X.1 X.2.1 dX6_layMatrix_19 (by decide) ?_
  refine lv_goto (tgt := 24) X.1 X.2.1 dX6_layMatrix_20 (by decide) ?_
  refine lv_iload X.1 X.2.1 dX6_layMatrix_24 (lv_at hl 0 rfl) ?_
  refine lv_iconst (v := 1) X.1 X.2.1 dX6_layMatrix_26 (by decide) ?_
  refine bi_ne (tgt := 34) X dX6_layMatrix_27 (by decide) (fun c_3 => ?_) (fun c_3 => absurd c_3 (by decide))
  refine lv_lconst (v := 0) X.1 X.2.1 dX6_layMatrix_34 (by decide) ?_
  refine lv_iload X.1 X.2.1 dX6_layMatrix_35 (lv_at hl 0 rfl) ?_
  refine lv_iconst (v := 2) X.1 X.2.1 dX6_layMatrix_37 (by decide) ?_
  refine bi_ne (tgt := 45) X dX6_layMatrix_38 (by decide) (fun c_4 => ?_) (fun c_4 => absurd c_4 (by decide))
  refine lv_lconst (v := 0) X.1 X.2.1 dX6_layMatrix_45 (by decide) ?_
  refine fin_v (wr := [(ma, alE cJ 9 M)]) (cv_X6_182 X (m_product l D cI cJ h0 st he ma tr fo gi n f k p t tb a b c 1 0 0  _) rfl rfl dX6_layMatrix_46 hP hD 0 rfl [0] rfl rfl hl.1 rfl rfl (Nat.le_of_ble_eq_true rfl) ⟨Nat.le_of_ble_eq_true rfl, Nat.le_of_ble_eq_true rfl⟩ ⟨Nat.le_of_ble_eq_true rfl, Nat.le_of_ble_eq_true rfl⟩) hP hD hS hA [0] [1] rfl rfl rfl (by decide) (fun u_6 H locs w_5 hP hD hS => ?_)
  have hP : va_P D vwCl [(ma, alE cJ 9 M), (h0, moE (nI n) st f k he (prodE f (a, b, c) (1, 0, 0)) ma tr t tb fo gi)] H := hP
  have hD : va_D AA [(ma, alE cJ 9 M), (h0, moE (nI n) st f k he (prodE f (a, b, c) (1, 0, 0)) ma tr t tb fo gi)] := hD
  refine lv_aload_n X.1 X.2.1 dX6_layMatrix_49 rfl (lv_at hl 1 rfl) ?_
  refine gf_X6_16 (v := .ref ma) X hP 1 rfl rfl dX6_layMatrix_50 ?_
  refine lv_iconst (v := 3) X.1 X.2.1 dX6_layMatrix_53 (by decide) ?_
  refine lv_iload X.1 X.2.1 dX6_layMatrix_54 (lv_at hl 0 rfl) ?_
  refine lv_imul X.1 X.2.1 dX6_layMatrix_56 ?_
  refine lv_topv (y := 0) (by decide) ?_
  refine lv_aload_n X.1 X.2.1 dX6_layMatrix_57 rfl (lv_at hl 1 rfl) ?_
  refine gf_X6_173 (v := .long ((prodE f (a, b, c) (1, 0, 0)).1)) X hP 1 rfl rfl dX6_layMatrix_58 ?_
  refine va_last X.1 X.2.1 X.k hP hD hS 0 1 rfl rfl (by unfold vp_in; decide) dX6_layMatrix_61 (fun H locs hP hD hS => ?_)
  have hP : va_P D vwCl [(ma, alE cJ 9 (vp_updL M 0 ((prodE f (a, b, c) (1, 0, 0)).1))), (h0, moE (nI n) st f k he (prodE f (a, b, c) (1, 0, 0)) ma tr t tb fo gi)] H := hP
  have hD : va_D AA [(ma, alE cJ 9 (vp_updL M 0 ((prodE f (a, b, c) (1, 0, 0)).1))), (h0, moE (nI n) st f k he (prodE f (a, b, c) (1, 0, 0)) ma tr t tb fo gi)] := hD
  refine lv_aload_n X.1 X.2.1 dX6_layMatrix_62 rfl (lv_at hl 1 rfl) ?_
  refine gf_X6_16 (v := .ref ma) X hP 1 rfl rfl dX6_layMatrix_63 ?_
  refine lv_iconst (v := 3) X.1 X.2.1 dX6_layMatrix_66 (by decide) ?_
  refine lv_iload X.1 X.2.1 dX6_layMatrix_67 (lv_at hl 0 rfl) ?_
  refine lv_imul X.1 X.2.1 dX6_layMatrix_69 ?_
  refine lv_topv (y := 0) (by decide) ?_
  refine lv_iconst (v := 1) X.1 X.2.1 dX6_layMatrix_70 (by decide) ?_
  refine lv_iadd X.1 X.2.1 dX6_layMatrix_71 ?_
  refine lv_topv (y := 1) (by decide) ?_
  refine lv_aload_n X.1 X.2.1 dX6_layMatrix_72 rfl (lv_at hl 1 rfl) ?_
  refine gf_X6_176 (v := .long ((prodE f (a, b, c) (1, 0, 0)).2.1)) X hP 1 rfl rfl dX6_layMatrix_73 ?_
  refine va_last X.1 X.2.1 X.k hP hD hS 0 1 rfl rfl (by unfold vp_in; decide) dX6_layMatrix_76 (fun H locs hP hD hS => ?_)
  have hP : va_P D vwCl [(ma, alE cJ 9 (vp_updL (vp_updL M 0 ((prodE f (a, b, c) (1, 0, 0)).1)) 1 ((prodE f (a, b, c) (1, 0, 0)).2.1))), (h0, moE (nI n) st f k he (prodE f (a, b, c) (1, 0, 0)) ma tr t tb fo gi)] H := hP
  have hD : va_D AA [(ma, alE cJ 9 (vp_updL (vp_updL M 0 ((prodE f (a, b, c) (1, 0, 0)).1)) 1 ((prodE f (a, b, c) (1, 0, 0)).2.1))), (h0, moE (nI n) st f k he (prodE f (a, b, c) (1, 0, 0)) ma tr t tb fo gi)] := hD
  refine lv_aload_n X.1 X.2.1 dX6_layMatrix_77 rfl (lv_at hl 1 rfl) ?_
  refine gf_X6_16 (v := .ref ma) X hP 1 rfl rfl dX6_layMatrix_78 ?_
  refine lv_iconst (v := 3) X.1 X.2.1 dX6_layMatrix_81 (by decide) ?_
  refine lv_iload X.1 X.2.1 dX6_layMatrix_82 (lv_at hl 0 rfl) ?_
  refine lv_imul X.1 X.2.1 dX6_layMatrix_84 ?_
  refine lv_topv (y := 0) (by decide) ?_
  refine lv_iconst (v := 2) X.1 X.2.1 dX6_layMatrix_85 (by decide) ?_
  refine lv_iadd X.1 X.2.1 dX6_layMatrix_86 ?_
  refine lv_topv (y := 2) (by decide) ?_
  refine lv_aload_n X.1 X.2.1 dX6_layMatrix_87 rfl (lv_at hl 1 rfl) ?_
  refine gf_X6_179 (v := .long ((prodE f (a, b, c) (1, 0, 0)).2.2)) X hP 1 rfl rfl dX6_layMatrix_88 ?_
  refine va_last X.1 X.2.1 X.k hP hD hS 0 1 rfl rfl (by unfold vp_in; decide) dX6_layMatrix_91 (fun H locs hP hD hS => ?_)
  have hP : va_P D vwCl [(ma, alE cJ 9 (vp_updL (vp_updL (vp_updL M 0 ((prodE f (a, b, c) (1, 0, 0)).1)) 1 ((prodE f (a, b, c) (1, 0, 0)).2.1)) 2 ((prodE f (a, b, c) (1, 0, 0)).2.2))), (h0, moE (nI n) st f k he (prodE f (a, b, c) (1, 0, 0)) ma tr t tb fo gi)] H := hP
  have hD : va_D AA [(ma, alE cJ 9 (vp_updL (vp_updL (vp_updL M 0 ((prodE f (a, b, c) (1, 0, 0)).1)) 1 ((prodE f (a, b, c) (1, 0, 0)).2.1)) 2 ((prodE f (a, b, c) (1, 0, 0)).2.2))), (h0, moE (nI n) st f k he (prodE f (a, b, c) (1, 0, 0)) ma tr t tb fo gi)] := hD
  refine lv_iinc (v := 1) (lv' := [(7, .int 1), (0, .ref h0), (1, .long a), (3, .long b), (5, .long c)]) X.1 X.2.1 dX6_layMatrix_92 hl (k := 0) rfl (by decide) (by decide) rfl (fun ls hl => ?_)
  refine lv_goto (tgt := 3) X.1 X.2.1 dX6_layMatrix_95 (by decide) ?_
  refine lv_iload X.1 X.2.1 dX6_layMatrix_3 (lv_at hl 0 rfl) ?_
  refine lv_iconst (v := 3) X.1 X.2.1 dX6_layMatrix_5 (by decide) ?_
  refine bi_ge (tgt := 98) X dX6_layMatrix_6 (by decide) (fun c_8 => absurd c_8 (by decide)) (fun c_8 => ?_)
  refine lv_aload_n X.1 X.2.1 dX6_layMatrix_9 rfl (lv_at hl 1 rfl) ?_
  refine lv_lload_n X.1 X.2.1 dX6_layMatrix_10 rfl (lv_at hl 2 rfl) ?_
  refine lv_lload_n X.1 X.2.1 dX6_layMatrix_11 rfl (lv_at hl 3 rfl) ?_
  refine lv_lload X.1 X.2.1 dX6_layMatrix_12 (lv_at hl 4 rfl) ?_
  refine lv_iload X.1 X.2.1 dX6_layMatrix_14 (lv_at hl 0 rfl) ?_
  refine bz_ne (tgt := 23) X dX6_layMatrix_16 (by decide) (fun c_9 => ?_) (fun c_9 => absurd c_9 (by decide))
  refine lv_lconst (v := 0) X.1 X.2.1 dX6_layMatrix_23 (by decide) ?_
  refine lv_iload X.1 X.2.1 dX6_layMatrix_24 (lv_at hl 0 rfl) ?_
  refine lv_iconst (v := 1) X.1 X.2.1 dX6_layMatrix_26 (by decide) ?_
  refine bi_ne (tgt := 34) X dX6_layMatrix_27 (by decide) (fun c_10 => absurd c_10 (by decide)) (fun c_10 => ?_)
  refine lv_lconst (v := 1) X.1 X.2.1 dX6_layMatrix_30 (by decide) ?_
  refine lv_goto (tgt := 35) X.1 X.2.1 dX6_layMatrix_31 (by decide) ?_
  refine lv_iload X.1 X.2.1 dX6_layMatrix_35 (lv_at hl 0 rfl) ?_
  refine lv_iconst (v := 2) X.1 X.2.1 dX6_layMatrix_37 (by decide) ?_
  refine bi_ne (tgt := 45) X dX6_layMatrix_38 (by decide) (fun c_11 => ?_) (fun c_11 => absurd c_11 (by decide))
  refine lv_lconst (v := 0) X.1 X.2.1 dX6_layMatrix_45 (by decide) ?_
  refine fin_v (wr := [(ma, alE cJ 9 (vp_updL (vp_updL (vp_updL M 0 ((prodE f (a, b, c) (1, 0, 0)).1)) 1 ((prodE f (a, b, c) (1, 0, 0)).2.1)) 2 ((prodE f (a, b, c) (1, 0, 0)).2.2)))]) (cv_X6_182 X (m_product l D cI cJ h0 st he ma tr fo gi n f k (prodE f (a, b, c) (1, 0, 0)) t tb a b c 0 1 0  _) rfl rfl dX6_layMatrix_46 hP hD 1 rfl [1] rfl rfl hl.1 rfl rfl (Nat.le_of_ble_eq_true rfl) ⟨Nat.le_of_ble_eq_true rfl, Nat.le_of_ble_eq_true rfl⟩ ⟨Nat.le_of_ble_eq_true rfl, Nat.le_of_ble_eq_true rfl⟩) hP hD hS hA [1] [0] rfl rfl rfl (by decide) (fun u_13 H locs w_12 hP hD hS => ?_)
  have hP : va_P D vwCl [(ma, alE cJ 9 (vp_updL (vp_updL (vp_updL M 0 ((prodE f (a, b, c) (1, 0, 0)).1)) 1 ((prodE f (a, b, c) (1, 0, 0)).2.1)) 2 ((prodE f (a, b, c) (1, 0, 0)).2.2))), (h0, moE (nI n) st f k he (prodE f (a, b, c) (0, 1, 0)) ma tr t tb fo gi)] H := hP
  have hD : va_D AA [(ma, alE cJ 9 (vp_updL (vp_updL (vp_updL M 0 ((prodE f (a, b, c) (1, 0, 0)).1)) 1 ((prodE f (a, b, c) (1, 0, 0)).2.1)) 2 ((prodE f (a, b, c) (1, 0, 0)).2.2))), (h0, moE (nI n) st f k he (prodE f (a, b, c) (0, 1, 0)) ma tr t tb fo gi)] := hD
  refine lv_aload_n X.1 X.2.1 dX6_layMatrix_49 rfl (lv_at hl 1 rfl) ?_
  refine gf_X6_16 (v := .ref ma) X hP 1 rfl rfl dX6_layMatrix_50 ?_
  refine lv_iconst (v := 3) X.1 X.2.1 dX6_layMatrix_53 (by decide) ?_
  refine lv_iload X.1 X.2.1 dX6_layMatrix_54 (lv_at hl 0 rfl) ?_
  refine lv_imul X.1 X.2.1 dX6_layMatrix_56 ?_
  refine lv_topv (y := 3) (by decide) ?_
  refine lv_aload_n X.1 X.2.1 dX6_layMatrix_57 rfl (lv_at hl 1 rfl) ?_
  refine gf_X6_173 (v := .long ((prodE f (a, b, c) (0, 1, 0)).1)) X hP 1 rfl rfl dX6_layMatrix_58 ?_
  refine va_last X.1 X.2.1 X.k hP hD hS 0 1 rfl rfl (by unfold vp_in; decide) dX6_layMatrix_61 (fun H locs hP hD hS => ?_)
  have hP : va_P D vwCl [(ma, alE cJ 9 (vp_updL (vp_updL (vp_updL (vp_updL M 0 ((prodE f (a, b, c) (1, 0, 0)).1)) 1 ((prodE f (a, b, c) (1, 0, 0)).2.1)) 2 ((prodE f (a, b, c) (1, 0, 0)).2.2)) 3 ((prodE f (a, b, c) (0, 1, 0)).1))), (h0, moE (nI n) st f k he (prodE f (a, b, c) (0, 1, 0)) ma tr t tb fo gi)] H := hP
  have hD : va_D AA [(ma, alE cJ 9 (vp_updL (vp_updL (vp_updL (vp_updL M 0 ((prodE f (a, b, c) (1, 0, 0)).1)) 1 ((prodE f (a, b, c) (1, 0, 0)).2.1)) 2 ((prodE f (a, b, c) (1, 0, 0)).2.2)) 3 ((prodE f (a, b, c) (0, 1, 0)).1))), (h0, moE (nI n) st f k he (prodE f (a, b, c) (0, 1, 0)) ma tr t tb fo gi)] := hD
  refine lv_aload_n X.1 X.2.1 dX6_layMatrix_62 rfl (lv_at hl 1 rfl) ?_
  refine gf_X6_16 (v := .ref ma) X hP 1 rfl rfl dX6_layMatrix_63 ?_
  refine lv_iconst (v := 3) X.1 X.2.1 dX6_layMatrix_66 (by decide) ?_
  refine lv_iload X.1 X.2.1 dX6_layMatrix_67 (lv_at hl 0 rfl) ?_
  refine lv_imul X.1 X.2.1 dX6_layMatrix_69 ?_
  refine lv_topv (y := 3) (by decide) ?_
  refine lv_iconst (v := 1) X.1 X.2.1 dX6_layMatrix_70 (by decide) ?_
  refine lv_iadd X.1 X.2.1 dX6_layMatrix_71 ?_
  refine lv_topv (y := 4) (by decide) ?_
  refine lv_aload_n X.1 X.2.1 dX6_layMatrix_72 rfl (lv_at hl 1 rfl) ?_
  refine gf_X6_176 (v := .long ((prodE f (a, b, c) (0, 1, 0)).2.1)) X hP 1 rfl rfl dX6_layMatrix_73 ?_
  refine va_last X.1 X.2.1 X.k hP hD hS 0 1 rfl rfl (by unfold vp_in; decide) dX6_layMatrix_76 (fun H locs hP hD hS => ?_)
  have hP : va_P D vwCl [(ma, alE cJ 9 (vp_updL (vp_updL (vp_updL (vp_updL (vp_updL M 0 ((prodE f (a, b, c) (1, 0, 0)).1)) 1 ((prodE f (a, b, c) (1, 0, 0)).2.1)) 2 ((prodE f (a, b, c) (1, 0, 0)).2.2)) 3 ((prodE f (a, b, c) (0, 1, 0)).1)) 4 ((prodE f (a, b, c) (0, 1, 0)).2.1))), (h0, moE (nI n) st f k he (prodE f (a, b, c) (0, 1, 0)) ma tr t tb fo gi)] H := hP
  have hD : va_D AA [(ma, alE cJ 9 (vp_updL (vp_updL (vp_updL (vp_updL (vp_updL M 0 ((prodE f (a, b, c) (1, 0, 0)).1)) 1 ((prodE f (a, b, c) (1, 0, 0)).2.1)) 2 ((prodE f (a, b, c) (1, 0, 0)).2.2)) 3 ((prodE f (a, b, c) (0, 1, 0)).1)) 4 ((prodE f (a, b, c) (0, 1, 0)).2.1))), (h0, moE (nI n) st f k he (prodE f (a, b, c) (0, 1, 0)) ma tr t tb fo gi)] := hD
  refine lv_aload_n X.1 X.2.1 dX6_layMatrix_77 rfl (lv_at hl 1 rfl) ?_
  refine gf_X6_16 (v := .ref ma) X hP 1 rfl rfl dX6_layMatrix_78 ?_
  refine lv_iconst (v := 3) X.1 X.2.1 dX6_layMatrix_81 (by decide) ?_
  refine lv_iload X.1 X.2.1 dX6_layMatrix_82 (lv_at hl 0 rfl) ?_
  refine lv_imul X.1 X.2.1 dX6_layMatrix_84 ?_
  refine lv_topv (y := 3) (by decide) ?_
  refine lv_iconst (v := 2) X.1 X.2.1 dX6_layMatrix_85 (by decide) ?_
  refine lv_iadd X.1 X.2.1 dX6_layMatrix_86 ?_
  refine lv_topv (y := 5) (by decide) ?_
  refine lv_aload_n X.1 X.2.1 dX6_layMatrix_87 rfl (lv_at hl 1 rfl) ?_
  refine gf_X6_179 (v := .long ((prodE f (a, b, c) (0, 1, 0)).2.2)) X hP 1 rfl rfl dX6_layMatrix_88 ?_
  refine va_last X.1 X.2.1 X.k hP hD hS 0 1 rfl rfl (by unfold vp_in; decide) dX6_layMatrix_91 (fun H locs hP hD hS => ?_)
  have hP : va_P D vwCl [(ma, alE cJ 9 (vp_updL (vp_updL (vp_updL (vp_updL (vp_updL (vp_updL M 0 ((prodE f (a, b, c) (1, 0, 0)).1)) 1 ((prodE f (a, b, c) (1, 0, 0)).2.1)) 2 ((prodE f (a, b, c) (1, 0, 0)).2.2)) 3 ((prodE f (a, b, c) (0, 1, 0)).1)) 4 ((prodE f (a, b, c) (0, 1, 0)).2.1)) 5 ((prodE f (a, b, c) (0, 1, 0)).2.2))), (h0, moE (nI n) st f k he (prodE f (a, b, c) (0, 1, 0)) ma tr t tb fo gi)] H := hP
  have hD : va_D AA [(ma, alE cJ 9 (vp_updL (vp_updL (vp_updL (vp_updL (vp_updL (vp_updL M 0 ((prodE f (a, b, c) (1, 0, 0)).1)) 1 ((prodE f (a, b, c) (1, 0, 0)).2.1)) 2 ((prodE f (a, b, c) (1, 0, 0)).2.2)) 3 ((prodE f (a, b, c) (0, 1, 0)).1)) 4 ((prodE f (a, b, c) (0, 1, 0)).2.1)) 5 ((prodE f (a, b, c) (0, 1, 0)).2.2))), (h0, moE (nI n) st f k he (prodE f (a, b, c) (0, 1, 0)) ma tr t tb fo gi)] := hD
  refine lv_iinc (v := 2) (lv' := [(7, .int 2), (0, .ref h0), (1, .long a), (3, .long b), (5, .long c)]) X.1 X.2.1 dX6_layMatrix_92 hl (k := 0) rfl (by decide) (by decide) rfl (fun ls hl => ?_)
  refine lv_goto (tgt := 3) X.1 X.2.1 dX6_layMatrix_95 (by decide) ?_
  refine lv_iload X.1 X.2.1 dX6_layMatrix_3 (lv_at hl 0 rfl) ?_
  refine lv_iconst (v := 3) X.1 X.2.1 dX6_layMatrix_5 (by decide) ?_
  refine bi_ge (tgt := 98) X dX6_layMatrix_6 (by decide) (fun c_15 => absurd c_15 (by decide)) (fun c_15 => ?_)
  refine lv_aload_n X.1 X.2.1 dX6_layMatrix_9 rfl (lv_at hl 1 rfl) ?_
  refine lv_lload_n X.1 X.2.1 dX6_layMatrix_10 rfl (lv_at hl 2 rfl) ?_
  refine lv_lload_n X.1 X.2.1 dX6_layMatrix_11 rfl (lv_at hl 3 rfl) ?_
  refine lv_lload X.1 X.2.1 dX6_layMatrix_12 (lv_at hl 4 rfl) ?_
  refine lv_iload X.1 X.2.1 dX6_layMatrix_14 (lv_at hl 0 rfl) ?_
  refine bz_ne (tgt := 23) X dX6_layMatrix_16 (by decide) (fun c_16 => ?_) (fun c_16 => absurd c_16 (by decide))
  refine lv_lconst (v := 0) X.1 X.2.1 dX6_layMatrix_23 (by decide) ?_
  refine lv_iload X.1 X.2.1 dX6_layMatrix_24 (lv_at hl 0 rfl) ?_
  refine lv_iconst (v := 1) X.1 X.2.1 dX6_layMatrix_26 (by decide) ?_
  refine bi_ne (tgt := 34) X dX6_layMatrix_27 (by decide) (fun c_17 => ?_) (fun c_17 => absurd c_17 (by decide))
  refine lv_lconst (v := 0) X.1 X.2.1 dX6_layMatrix_34 (by decide) ?_
  refine lv_iload X.1 X.2.1 dX6_layMatrix_35 (lv_at hl 0 rfl) ?_
  refine lv_iconst (v := 2) X.1 X.2.1 dX6_layMatrix_37 (by decide) ?_
  refine bi_ne (tgt := 45) X dX6_layMatrix_38 (by decide) (fun c_18 => absurd c_18 (by decide)) (fun c_18 => ?_)
  refine lv_lconst (v := 1) X.1 X.2.1 dX6_layMatrix_41 (by decide) ?_
  refine lv_goto (tgt := 46) X.1 X.2.1 dX6_layMatrix_42 (by decide) ?_
  refine fin_v (wr := [(ma, alE cJ 9 (vp_updL (vp_updL (vp_updL (vp_updL (vp_updL (vp_updL M 0 ((prodE f (a, b, c) (1, 0, 0)).1)) 1 ((prodE f (a, b, c) (1, 0, 0)).2.1)) 2 ((prodE f (a, b, c) (1, 0, 0)).2.2)) 3 ((prodE f (a, b, c) (0, 1, 0)).1)) 4 ((prodE f (a, b, c) (0, 1, 0)).2.1)) 5 ((prodE f (a, b, c) (0, 1, 0)).2.2)))]) (cv_X6_182 X (m_product l D cI cJ h0 st he ma tr fo gi n f k (prodE f (a, b, c) (0, 1, 0)) t tb a b c 0 0 1  _) rfl rfl dX6_layMatrix_46 hP hD 1 rfl [1] rfl rfl hl.1 rfl rfl (Nat.le_of_ble_eq_true rfl) ⟨Nat.le_of_ble_eq_true rfl, Nat.le_of_ble_eq_true rfl⟩ ⟨Nat.le_of_ble_eq_true rfl, Nat.le_of_ble_eq_true rfl⟩) hP hD hS hA [1] [0] rfl rfl rfl (by decide) (fun u_20 H locs w_19 hP hD hS => ?_)
  have hP : va_P D vwCl [(ma, alE cJ 9 (vp_updL (vp_updL (vp_updL (vp_updL (vp_updL (vp_updL M 0 ((prodE f (a, b, c) (1, 0, 0)).1)) 1 ((prodE f (a, b, c) (1, 0, 0)).2.1)) 2 ((prodE f (a, b, c) (1, 0, 0)).2.2)) 3 ((prodE f (a, b, c) (0, 1, 0)).1)) 4 ((prodE f (a, b, c) (0, 1, 0)).2.1)) 5 ((prodE f (a, b, c) (0, 1, 0)).2.2))), (h0, moE (nI n) st f k he (prodE f (a, b, c) (0, 0, 1)) ma tr t tb fo gi)] H := hP
  have hD : va_D AA [(ma, alE cJ 9 (vp_updL (vp_updL (vp_updL (vp_updL (vp_updL (vp_updL M 0 ((prodE f (a, b, c) (1, 0, 0)).1)) 1 ((prodE f (a, b, c) (1, 0, 0)).2.1)) 2 ((prodE f (a, b, c) (1, 0, 0)).2.2)) 3 ((prodE f (a, b, c) (0, 1, 0)).1)) 4 ((prodE f (a, b, c) (0, 1, 0)).2.1)) 5 ((prodE f (a, b, c) (0, 1, 0)).2.2))), (h0, moE (nI n) st f k he (prodE f (a, b, c) (0, 0, 1)) ma tr t tb fo gi)] := hD
  refine lv_aload_n X.1 X.2.1 dX6_layMatrix_49 rfl (lv_at hl 1 rfl) ?_
  refine gf_X6_16 (v := .ref ma) X hP 1 rfl rfl dX6_layMatrix_50 ?_
  refine lv_iconst (v := 3) X.1 X.2.1 dX6_layMatrix_53 (by decide) ?_
  refine lv_iload X.1 X.2.1 dX6_layMatrix_54 (lv_at hl 0 rfl) ?_
  refine lv_imul X.1 X.2.1 dX6_layMatrix_56 ?_
  refine lv_topv (y := 6) (by decide) ?_
  refine lv_aload_n X.1 X.2.1 dX6_layMatrix_57 rfl (lv_at hl 1 rfl) ?_
  refine gf_X6_173 (v := .long ((prodE f (a, b, c) (0, 0, 1)).1)) X hP 1 rfl rfl dX6_layMatrix_58 ?_
  refine va_last X.1 X.2.1 X.k hP hD hS 0 1 rfl rfl (by unfold vp_in; decide) dX6_layMatrix_61 (fun H locs hP hD hS => ?_)
  have hP : va_P D vwCl [(ma, alE cJ 9 (vp_updL (vp_updL (vp_updL (vp_updL (vp_updL (vp_updL (vp_updL M 0 ((prodE f (a, b, c) (1, 0, 0)).1)) 1 ((prodE f (a, b, c) (1, 0, 0)).2.1)) 2 ((prodE f (a, b, c) (1, 0, 0)).2.2)) 3 ((prodE f (a, b, c) (0, 1, 0)).1)) 4 ((prodE f (a, b, c) (0, 1, 0)).2.1)) 5 ((prodE f (a, b, c) (0, 1, 0)).2.2)) 6 ((prodE f (a, b, c) (0, 0, 1)).1))), (h0, moE (nI n) st f k he (prodE f (a, b, c) (0, 0, 1)) ma tr t tb fo gi)] H := hP
  have hD : va_D AA [(ma, alE cJ 9 (vp_updL (vp_updL (vp_updL (vp_updL (vp_updL (vp_updL (vp_updL M 0 ((prodE f (a, b, c) (1, 0, 0)).1)) 1 ((prodE f (a, b, c) (1, 0, 0)).2.1)) 2 ((prodE f (a, b, c) (1, 0, 0)).2.2)) 3 ((prodE f (a, b, c) (0, 1, 0)).1)) 4 ((prodE f (a, b, c) (0, 1, 0)).2.1)) 5 ((prodE f (a, b, c) (0, 1, 0)).2.2)) 6 ((prodE f (a, b, c) (0, 0, 1)).1))), (h0, moE (nI n) st f k he (prodE f (a, b, c) (0, 0, 1)) ma tr t tb fo gi)] := hD
  refine lv_aload_n X.1 X.2.1 dX6_layMatrix_62 rfl (lv_at hl 1 rfl) ?_
  refine gf_X6_16 (v := .ref ma) X hP 1 rfl rfl dX6_layMatrix_63 ?_
  refine lv_iconst (v := 3) X.1 X.2.1 dX6_layMatrix_66 (by decide) ?_
  refine lv_iload X.1 X.2.1 dX6_layMatrix_67 (lv_at hl 0 rfl) ?_
  refine lv_imul X.1 X.2.1 dX6_layMatrix_69 ?_
  refine lv_topv (y := 6) (by decide) ?_
  refine lv_iconst (v := 1) X.1 X.2.1 dX6_layMatrix_70 (by decide) ?_
  refine lv_iadd X.1 X.2.1 dX6_layMatrix_71 ?_
  refine lv_topv (y := 7) (by decide) ?_
  refine lv_aload_n X.1 X.2.1 dX6_layMatrix_72 rfl (lv_at hl 1 rfl) ?_
  refine gf_X6_176 (v := .long ((prodE f (a, b, c) (0, 0, 1)).2.1)) X hP 1 rfl rfl dX6_layMatrix_73 ?_
  refine va_last X.1 X.2.1 X.k hP hD hS 0 1 rfl rfl (by unfold vp_in; decide) dX6_layMatrix_76 (fun H locs hP hD hS => ?_)
  have hP : va_P D vwCl [(ma, alE cJ 9 (vp_updL (vp_updL (vp_updL (vp_updL (vp_updL (vp_updL (vp_updL (vp_updL M 0 ((prodE f (a, b, c) (1, 0, 0)).1)) 1 ((prodE f (a, b, c) (1, 0, 0)).2.1)) 2 ((prodE f (a, b, c) (1, 0, 0)).2.2)) 3 ((prodE f (a, b, c) (0, 1, 0)).1)) 4 ((prodE f (a, b, c) (0, 1, 0)).2.1)) 5 ((prodE f (a, b, c) (0, 1, 0)).2.2)) 6 ((prodE f (a, b, c) (0, 0, 1)).1)) 7 ((prodE f (a, b, c) (0, 0, 1)).2.1))), (h0, moE (nI n) st f k he (prodE f (a, b, c) (0, 0, 1)) ma tr t tb fo gi)] H := hP
  have hD : va_D AA [(ma, alE cJ 9 (vp_updL (vp_updL (vp_updL (vp_updL (vp_updL (vp_updL (vp_updL (vp_updL M 0 ((prodE f (a, b, c) (1, 0, 0)).1)) 1 ((prodE f (a, b, c) (1, 0, 0)).2.1)) 2 ((prodE f (a, b, c) (1, 0, 0)).2.2)) 3 ((prodE f (a, b, c) (0, 1, 0)).1)) 4 ((prodE f (a, b, c) (0, 1, 0)).2.1)) 5 ((prodE f (a, b, c) (0, 1, 0)).2.2)) 6 ((prodE f (a, b, c) (0, 0, 1)).1)) 7 ((prodE f (a, b, c) (0, 0, 1)).2.1))), (h0, moE (nI n) st f k he (prodE f (a, b, c) (0, 0, 1)) ma tr t tb fo gi)] := hD
  refine lv_aload_n X.1 X.2.1 dX6_layMatrix_77 rfl (lv_at hl 1 rfl) ?_
  refine gf_X6_16 (v := .ref ma) X hP 1 rfl rfl dX6_layMatrix_78 ?_
  refine lv_iconst (v := 3) X.1 X.2.1 dX6_layMatrix_81 (by decide) ?_
  refine lv_iload X.1 X.2.1 dX6_layMatrix_82 (lv_at hl 0 rfl) ?_
  refine lv_imul X.1 X.2.1 dX6_layMatrix_84 ?_
  refine lv_topv (y := 6) (by decide) ?_
  refine lv_iconst (v := 2) X.1 X.2.1 dX6_layMatrix_85 (by decide) ?_
  refine lv_iadd X.1 X.2.1 dX6_layMatrix_86 ?_
  refine lv_topv (y := 8) (by decide) ?_
  refine lv_aload_n X.1 X.2.1 dX6_layMatrix_87 rfl (lv_at hl 1 rfl) ?_
  refine gf_X6_179 (v := .long ((prodE f (a, b, c) (0, 0, 1)).2.2)) X hP 1 rfl rfl dX6_layMatrix_88 ?_
  refine va_last X.1 X.2.1 X.k hP hD hS 0 1 rfl rfl (by unfold vp_in; decide) dX6_layMatrix_91 (fun H locs hP hD hS => ?_)
  have hP : va_P D vwCl [(ma, alE cJ 9 (vp_updL (vp_updL (vp_updL (vp_updL (vp_updL (vp_updL (vp_updL (vp_updL (vp_updL M 0 ((prodE f (a, b, c) (1, 0, 0)).1)) 1 ((prodE f (a, b, c) (1, 0, 0)).2.1)) 2 ((prodE f (a, b, c) (1, 0, 0)).2.2)) 3 ((prodE f (a, b, c) (0, 1, 0)).1)) 4 ((prodE f (a, b, c) (0, 1, 0)).2.1)) 5 ((prodE f (a, b, c) (0, 1, 0)).2.2)) 6 ((prodE f (a, b, c) (0, 0, 1)).1)) 7 ((prodE f (a, b, c) (0, 0, 1)).2.1)) 8 ((prodE f (a, b, c) (0, 0, 1)).2.2))), (h0, moE (nI n) st f k he (prodE f (a, b, c) (0, 0, 1)) ma tr t tb fo gi)] H := hP
  have hD : va_D AA [(ma, alE cJ 9 (vp_updL (vp_updL (vp_updL (vp_updL (vp_updL (vp_updL (vp_updL (vp_updL (vp_updL M 0 ((prodE f (a, b, c) (1, 0, 0)).1)) 1 ((prodE f (a, b, c) (1, 0, 0)).2.1)) 2 ((prodE f (a, b, c) (1, 0, 0)).2.2)) 3 ((prodE f (a, b, c) (0, 1, 0)).1)) 4 ((prodE f (a, b, c) (0, 1, 0)).2.1)) 5 ((prodE f (a, b, c) (0, 1, 0)).2.2)) 6 ((prodE f (a, b, c) (0, 0, 1)).1)) 7 ((prodE f (a, b, c) (0, 0, 1)).2.1)) 8 ((prodE f (a, b, c) (0, 0, 1)).2.2))), (h0, moE (nI n) st f k he (prodE f (a, b, c) (0, 0, 1)) ma tr t tb fo gi)] := hD
  refine lv_iinc (v := 3) (lv' := [(7, .int 3), (0, .ref h0), (1, .long a), (3, .long b), (5, .long c)]) X.1 X.2.1 dX6_layMatrix_92 hl (k := 0) rfl (by decide) (by decide) rfl (fun ls hl => ?_)
  refine lv_goto (tgt := 3) X.1 X.2.1 dX6_layMatrix_95 (by decide) ?_
  refine lv_iload X.1 X.2.1 dX6_layMatrix_3 (lv_at hl 0 rfl) ?_
  refine lv_iconst (v := 3) X.1 X.2.1 dX6_layMatrix_5 (by decide) ?_
  refine bi_ge (tgt := 98) X dX6_layMatrix_6 (by decide) (fun c_22 => ?_) (fun c_22 => absurd c_22 (by decide))
  have e0 : layF f (a, b, c) M = vp_updL (vp_updL (vp_updL (vp_updL (vp_updL (vp_updL (vp_updL (vp_updL (vp_updL M 0 ((prodE f (a, b, c) (1, 0, 0)).1)) 1 ((prodE f (a, b, c) (1, 0, 0)).2.1)) 2 ((prodE f (a, b, c) (1, 0, 0)).2.2)) 3 ((prodE f (a, b, c) (0, 1, 0)).1)) 4 ((prodE f (a, b, c) (0, 1, 0)).2.1)) 5 ((prodE f (a, b, c) (0, 1, 0)).2.2)) 6 ((prodE f (a, b, c) (0, 0, 1)).1)) 7 ((prodE f (a, b, c) (0, 0, 1)).2.1)) 8 ((prodE f (a, b, c) (0, 0, 1)).2.2) := rfl
  have hP : va_P D vwCl [(ma, alE cJ 9 (layF f (a, b, c) M)), (h0, moE (nI n) st f k he (prodE f (a, b, c) (0, 0, 1)) ma tr t tb fo gi)] H := by rw [e0]; exact hP
  have hD : va_D AA [(ma, alE cJ 9 (layF f (a, b, c) M)), (h0, moE (nI n) st f k he (prodE f (a, b, c) (0, 0, 1)) ma tr t tb fo gi)] := by rw [e0]; exact hD
  exact hret (prodE f (a, b, c) (0, 0, 1)) _ _ _ _ (trivial) (hP.sub [1, 0] rfl) (hD.sub [1, 0] rfl rfl) hS dX6_layMatrix_98
set_option maxHeartbeats 4000000 in
set_option maxRecDepth 100000 in
theorem m_setElement (l : Launch) (D : va_G) (cI cJ : ClassId) (h0 : Nat) (st : Nat) (he : Nat) (ma : Nat) (tr : Nat) (fo : Nat) (gi : Nat) (n : Nat) (f : Fm) (k : Fm) (p : Em) (t : Fm) (tb : Int32) (G : Nat → Int32) (x : Int32) (a : Int32) (b : Int32) (c : Int32)  : CtI l yX6_setElement cX6_setElement 7 .int (rmk 2 45) D cI cJ [.ref h0, .int x, .int a, .int b, .int c] [(h0, moE (nI n) st f k he p ma tr t tb fo gi), (he, aiE cI 18 G)] (fun (_ : Unit) => [(h0, moE (nI n) st f k he p ma tr t tb fo gi), (he, aiE cI 18 (regS G x (setO x a b c)))]) (fun (r : Int32) (_ : Unit) => r = setR G x a b c) := by
  refine CtI.of (own := RX6) (by decide +kernel) (Nat.le_of_ble_eq_true rfl) rfl ?_
  intro pr_ en_ sg_ me_ ar_ be_ mt_ co_ AA ls QQ X hA hP hD hS hl hret
  have hl : lv_has ls 7 [(0, .ref h0), (1, .int x), (2, .int a), (3, .int b), (4, .int c)] := hl
  refine lv_iload_n X.1 X.2.1 dX6_setElement_0 rfl (lv_at hl 1 rfl) ?_
  refine fin_i (wr := [(h0, moE (nI n) st f k he p ma tr t tb fo gi), (he, aiE cI 18 G)]) (cv_X6_170 X (m_isRegister l D cI cJ x  _) rfl rfl dX6_setElement_1 hP hD [] rfl rfl hl.1 rfl rfl (Nat.le_of_ble_eq_true rfl) ⟨Nat.le_of_ble_eq_true rfl, Nat.le_of_ble_eq_true rfl⟩ ⟨Nat.le_of_ble_eq_true rfl, Nat.le_of_ble_eq_true rfl⟩) hP hD hS hA [] [0, 1] rfl rfl rfl (by decide) (fun r_3 u_2 H locs w_1 hP hD hS => ?_)
  have hP : va_P D vwCl [(h0, moE (nI n) st f k he p ma tr t tb fo gi), (he, aiE cI 18 G)] H := hP
  have hD : va_D AA [(h0, moE (nI n) st f k he p ma tr t tb fo gi), (he, aiE cI 18 G)] := hD
  subst w_1
  refine bb_ne (tgt := 11) X dX6_setElement_4 (by decide) (fun c_4 => ?_) (fun c_4 => ?_)
  · refine lv_iload_n X.1 X.2.1 dX6_setElement_11 rfl (lv_at hl 2 rfl) ?_
    refine fin_i (wr := [(h0, moE (nI n) st f k he p ma tr t tb fo gi), (he, aiE cI 18 G)]) (cv_X6_117 X (m_isEntry l D cI cJ a  _) rfl rfl dX6_setElement_12 hP hD [] rfl rfl hl.1 rfl rfl (Nat.le_of_ble_eq_true rfl) ⟨Nat.le_of_ble_eq_true rfl, Nat.le_of_ble_eq_true rfl⟩ ⟨Nat.le_of_ble_eq_true rfl, Nat.le_of_ble_eq_true rfl⟩) hP hD hS hA [] [0, 1] rfl rfl rfl (by decide) (fun r_7 u_6 H locs w_5 hP hD hS => ?_)
    have hP : va_P D vwCl [(h0, moE (nI n) st f k he p ma tr t tb fo gi), (he, aiE cI 18 G)] H := hP
    have hD : va_D AA [(h0, moE (nI n) st f k he p ma tr t tb fo gi), (he, aiE cI 18 G)] := hD
    subst w_5
    refine bb_eq (tgt := 33) X dX6_setElement_15 (by decide) (fun c_8 => ?_) (fun c_8 => ?_)
    · have ef : fitsE (a.toInt64, b.toInt64, c.toInt64) = false := by simp only [fitsE, c_8, Bool.and_true, Bool.true_and, Bool.and_false, Bool.false_and]
      have eo : setO x a b c = .inl (-10003) := by rw [setO, if_pos c_4, if_neg (by rw [ef]; decide)]
      have hP : va_P D vwCl [(h0, moE (nI n) st f k he p ma tr t tb fo gi), (he, aiE cI 18 (regS G x (setO x a b c)))] H := by rw [eo]; exact hP
      have hD : va_D AA [(h0, moE (nI n) st f k he p ma tr t tb fo gi), (he, aiE cI 18 (regS G x (setO x a b c)))] := by rw [eo]; exact hD
      refine lv_sipush (v := (-10003)) X.1 X.2.1 dX6_setElement_33 (by decide) ?_
      exact hret (-10003) () _ _ _ _ (by rw [setR, eo]) rfl (hP.sub [0, 1] rfl) (hD.sub [0, 1] rfl rfl) hS dX6_setElement_36
    · refine lv_iload_n X.1 X.2.1 dX6_setElement_18 rfl (lv_at hl 3 rfl) ?_
      refine fin_i (wr := [(h0, moE (nI n) st f k he p ma tr t tb fo gi), (he, aiE cI 18 G)]) (cv_X6_117 X (m_isEntry l D cI cJ b  _) rfl rfl dX6_setElement_19 hP hD [] rfl rfl hl.1 rfl rfl (Nat.le_of_ble_eq_true rfl) ⟨Nat.le_of_ble_eq_true rfl, Nat.le_of_ble_eq_true rfl⟩ ⟨Nat.le_of_ble_eq_true rfl, Nat.le_of_ble_eq_true rfl⟩) hP hD hS hA [] [0, 1] rfl rfl rfl (by decide) (fun r_11 u_10 H locs w_9 hP hD hS => ?_)
      have hP : va_P D vwCl [(h0, moE (nI n) st f k he p ma tr t tb fo gi), (he, aiE cI 18 G)] H := hP
      have hD : va_D AA [(h0, moE (nI n) st f k he p ma tr t tb fo gi), (he, aiE cI 18 G)] := hD
      subst w_9
      refine bb_eq (tgt := 33) X dX6_setElement_22 (by decide) (fun c_12 => ?_) (fun c_12 => ?_)
      · have ef : fitsE (a.toInt64, b.toInt64, c.toInt64) = false := by simp only [fitsE, c_8, c_12, Bool.and_true, Bool.true_and, Bool.and_false, Bool.false_and]
        have eo : setO x a b c = .inl (-10003) := by rw [setO, if_pos c_4, if_neg (by rw [ef]; decide)]
        have hP : va_P D vwCl [(h0, moE (nI n) st f k he p ma tr t tb fo gi), (he, aiE cI 18 (regS G x (setO x a b c)))] H := by rw [eo]; exact hP
        have hD : va_D AA [(h0, moE (nI n) st f k he p ma tr t tb fo gi), (he, aiE cI 18 (regS G x (setO x a b c)))] := by rw [eo]; exact hD
        refine lv_sipush (v := (-10003)) X.1 X.2.1 dX6_setElement_33 (by decide) ?_
        exact hret (-10003) () _ _ _ _ (by rw [setR, eo]) rfl (hP.sub [0, 1] rfl) (hD.sub [0, 1] rfl rfl) hS dX6_setElement_36
      · refine lv_iload X.1 X.2.1 dX6_setElement_25 (lv_at hl 4 rfl) ?_
        refine fin_i (wr := [(h0, moE (nI n) st f k he p ma tr t tb fo gi), (he, aiE cI 18 G)]) (cv_X6_117 X (m_isEntry l D cI cJ c  _) rfl rfl dX6_setElement_27 hP hD [] rfl rfl hl.1 rfl rfl (Nat.le_of_ble_eq_true rfl) ⟨Nat.le_of_ble_eq_true rfl, Nat.le_of_ble_eq_true rfl⟩ ⟨Nat.le_of_ble_eq_true rfl, Nat.le_of_ble_eq_true rfl⟩) hP hD hS hA [] [0, 1] rfl rfl rfl (by decide) (fun r_15 u_14 H locs w_13 hP hD hS => ?_)
        have hP : va_P D vwCl [(h0, moE (nI n) st f k he p ma tr t tb fo gi), (he, aiE cI 18 G)] H := hP
        have hD : va_D AA [(h0, moE (nI n) st f k he p ma tr t tb fo gi), (he, aiE cI 18 G)] := hD
        subst w_13
        refine bb_ne (tgt := 37) X dX6_setElement_30 (by decide) (fun c_16 => ?_) (fun c_16 => ?_)
        · obtain ⟨k9, hk9, hx⟩ := isRegB_out c_4
          rw [hx] at hl
          refine lv_iconst (v := 3) X.1 X.2.1 dX6_setElement_37 (by decide) ?_
          refine lv_iload_n X.1 X.2.1 dX6_setElement_38 rfl (lv_at hl 1 rfl) ?_
          refine lv_imul X.1 X.2.1 dX6_setElement_39 ?_
          rw [nI_3l]
          refine lv_istore (lv' := [(5, .int (nI (3 * k9))), (0, .ref h0), (1, .int (nI k9)), (2, .int a), (3, .int b), (4, .int c)]) X.1 X.2.1 dX6_setElement_40 hl (by decide) rfl (fun ls hl => ?_)
          refine lv_aload_n X.1 X.2.1 dX6_setElement_42 rfl (lv_at hl 1 rfl) ?_
          refine gf_X6_13 (v := .ref he) X hP 0 rfl rfl dX6_setElement_43 ?_
          refine lv_iload X.1 X.2.1 dX6_setElement_46 (lv_at hl 0 rfl) ?_
          refine va_iald X.1 X.2.1 X.k hP 1 0 rfl rfl (vp_in_nI (by omega) (by omega)) dX6_setElement_48 ?_
          refine lv_iload_n X.1 X.2.1 dX6_setElement_49 rfl (lv_at hl 3 rfl) ?_
          refine bi_ne (tgt := 84) X dX6_setElement_50 (by decide) (fun c_17 => ?_) (fun c_17 => ?_)
          · refine lv_iconst (v := 0) X.1 X.2.1 dX6_setElement_84 (by decide) ?_
            rw [nI_clamp (show 3 * k9 < 2 ^ 31 by omega)] at c_17
            refine lv_istore (lv' := [(6, .int 0), (5, .int (nI (3 * k9))), (0, .ref h0), (1, .int (nI k9)), (2, .int a), (3, .int b), (4, .int c)]) X.1 X.2.1 dX6_setElement_85 hl (by decide) rfl (fun ls hl => ?_)
            refine lv_aload_n X.1 X.2.1 dX6_setElement_87 rfl (lv_at hl 2 rfl) ?_
            refine gf_X6_13 (v := .ref he) X hP 0 rfl rfl dX6_setElement_88 ?_
            refine lv_iload X.1 X.2.1 dX6_setElement_91 (lv_at hl 1 rfl) ?_
            refine lv_iload_n X.1 X.2.1 dX6_setElement_93 rfl (lv_at hl 4 rfl) ?_
            refine va_iast X.1 X.2.1 X.k hP hD hS 1 0 rfl rfl (vp_in_nI (by omega) (by omega)) dX6_setElement_94 (fun H locs hP hD hS => ?_)
            have hP : va_P D vwCl [(h0, moE (nI n) st f k he p ma tr t tb fo gi), (he, aiE cI 18 (upd G ((nI (3 * k9)).toNatClampNeg) a))] H := hP
            have hD : va_D AA [(h0, moE (nI n) st f k he p ma tr t tb fo gi), (he, aiE cI 18 (upd G ((nI (3 * k9)).toNatClampNeg) a))] := hD
            refine lv_aload_n X.1 X.2.1 dX6_setElement_95 rfl (lv_at hl 2 rfl) ?_
            refine gf_X6_13 (v := .ref he) X hP 0 rfl rfl dX6_setElement_96 ?_
            refine lv_iload X.1 X.2.1 dX6_setElement_99 (lv_at hl 1 rfl) ?_
            refine lv_iconst (v := 1) X.1 X.2.1 dX6_setElement_101 (by decide) ?_
            refine lv_iadd X.1 X.2.1 dX6_setElement_102 ?_
            rw [nI_1]
            refine lv_iload_n X.1 X.2.1 dX6_setElement_103 rfl (lv_at hl 5 rfl) ?_
            refine va_iast X.1 X.2.1 X.k hP hD hS 1 0 rfl rfl (vp_in_nI (by omega) (by omega)) dX6_setElement_104 (fun H locs hP hD hS => ?_)
            have hP : va_P D vwCl [(h0, moE (nI n) st f k he p ma tr t tb fo gi), (he, aiE cI 18 (upd (upd G ((nI (3 * k9)).toNatClampNeg) a) ((nI (3 * k9 + 1)).toNatClampNeg) b))] H := hP
            have hD : va_D AA [(h0, moE (nI n) st f k he p ma tr t tb fo gi), (he, aiE cI 18 (upd (upd G ((nI (3 * k9)).toNatClampNeg) a) ((nI (3 * k9 + 1)).toNatClampNeg) b))] := hD
            refine lv_aload_n X.1 X.2.1 dX6_setElement_105 rfl (lv_at hl 2 rfl) ?_
            refine gf_X6_13 (v := .ref he) X hP 0 rfl rfl dX6_setElement_106 ?_
            refine lv_iload X.1 X.2.1 dX6_setElement_109 (lv_at hl 1 rfl) ?_
            refine lv_iconst (v := 2) X.1 X.2.1 dX6_setElement_111 (by decide) ?_
            refine lv_iadd X.1 X.2.1 dX6_setElement_112 ?_
            rw [nI_2]
            refine lv_iload X.1 X.2.1 dX6_setElement_113 (lv_at hl 6 rfl) ?_
            refine va_iast X.1 X.2.1 X.k hP hD hS 1 0 rfl rfl (vp_in_nI (by omega) (by omega)) dX6_setElement_115 (fun H locs hP hD hS => ?_)
            have hP : va_P D vwCl [(h0, moE (nI n) st f k he p ma tr t tb fo gi), (he, aiE cI 18 (upd (upd (upd G ((nI (3 * k9)).toNatClampNeg) a) ((nI (3 * k9 + 1)).toNatClampNeg) b) ((nI (3 * k9 + 2)).toNatClampNeg) c))] H := hP
            have hD : va_D AA [(h0, moE (nI n) st f k he p ma tr t tb fo gi), (he, aiE cI 18 (upd (upd (upd G ((nI (3 * k9)).toNatClampNeg) a) ((nI (3 * k9 + 1)).toNatClampNeg) b) ((nI (3 * k9 + 2)).toNatClampNeg) c))] := hD
            refine lv_iload X.1 X.2.1 dX6_setElement_116 (lv_at hl 0 rfl) ?_
            refine bz_eq (tgt := 125) X dX6_setElement_118 (by decide) (fun c_18 => ?_) (fun c_18 => absurd c_18 (by decide))
            refine lv_iconst (v := 1) X.1 X.2.1 dX6_setElement_125 (by decide) ?_
            rw [nI_clamp (show 3 * k9 < 2 ^ 31 by omega), nI_clamp (show 3 * k9 + 1 < 2 ^ 31 by omega), nI_clamp (show 3 * k9 + 2 < 2 ^ 31 by omega)] at hP hD
            have ef : fitsE (a.toInt64, b.toInt64, c.toInt64) = true := by simp only [fitsE, c_8, c_12, c_16, Bool.and_true, Bool.true_and, Bool.and_false, Bool.false_and]
            have eo : setO x a b c = .inr (a.toInt64, b.toInt64, c.toInt64) := by rw [setO, if_pos c_4, if_pos ef]
            have er : regS G x (.inr (a.toInt64, b.toInt64, c.toInt64)) = upd (upd (upd G (3 * k9) a) (3 * k9 + 1) b) (3 * k9 + 2) c := by simp only [regS, stE, narrowE, hx, nI_clamp (show k9 < 2 ^ 31 by omega)]
            have hP : va_P D vwCl [(h0, moE (nI n) st f k he p ma tr t tb fo gi), (he, aiE cI 18 (regS G x (setO x a b c)))] H := by rw [eo, er]; exact hP
            have hD : va_D AA [(h0, moE (nI n) st f k he p ma tr t tb fo gi), (he, aiE cI 18 (regS G x (setO x a b c)))] := by rw [eo, er]; exact hD
            exact hret 1 () _ _ _ _ (by rw [setR, eo]; show _ = (if sameE (ldE G x.toNatClampNeg) (a.toInt64, b.toInt64, c.toInt64) then (0 : Int32) else 1); rw [ldE_same, hx, nI_clamp (show k9 < 2 ^ 31 by omega)]; simp only [c_17, decide_true, decide_false, Bool.and_true, Bool.true_and, Bool.and_false, Bool.false_and, if_true, if_false, Bool.false_eq_true]) rfl (hP.sub [0, 1] rfl) (hD.sub [0, 1] rfl rfl) hS dX6_setElement_126
          · refine lv_aload_n X.1 X.2.1 dX6_setElement_53 rfl (lv_at hl 1 rfl) ?_
            refine gf_X6_13 (v := .ref he) X hP 0 rfl rfl dX6_setElement_54 ?_
            refine lv_iload X.1 X.2.1 dX6_setElement_57 (lv_at hl 0 rfl) ?_
            refine lv_iconst (v := 1) X.1 X.2.1 dX6_setElement_59 (by decide) ?_
            refine lv_iadd X.1 X.2.1 dX6_setElement_60 ?_
            rw [nI_1]
            refine va_iald X.1 X.2.1 X.k hP 1 0 rfl rfl (vp_in_nI (by omega) (by omega)) dX6_setElement_61 ?_
            refine lv_iload_n X.1 X.2.1 dX6_setElement_62 rfl (lv_at hl 4 rfl) ?_
            refine bi_ne (tgt := 84) X dX6_setElement_63 (by decide) (fun c_19 => ?_) (fun c_19 => ?_)
            · refine lv_iconst (v := 0) X.1 X.2.1 dX6_setElement_84 (by decide) ?_
              rw [nI_clamp (show 3 * k9 < 2 ^ 31 by omega)] at c_17
              rw [nI_clamp (show 3 * k9 + 1 < 2 ^ 31 by omega)] at c_19
              refine lv_istore (lv' := [(6, .int 0), (5, .int (nI (3 * k9))), (0, .ref h0), (1, .int (nI k9)), (2, .int a), (3, .int b), (4, .int c)]) X.1 X.2.1 dX6_setElement_85 hl (by decide) rfl (fun ls hl => ?_)
              refine lv_aload_n X.1 X.2.1 dX6_setElement_87 rfl (lv_at hl 2 rfl) ?_
              refine gf_X6_13 (v := .ref he) X hP 0 rfl rfl dX6_setElement_88 ?_
              refine lv_iload X.1 X.2.1 dX6_setElement_91 (lv_at hl 1 rfl) ?_
              refine lv_iload_n X.1 X.2.1 dX6_setElement_93 rfl (lv_at hl 4 rfl) ?_
              refine va_iast X.1 X.2.1 X.k hP hD hS 1 0 rfl rfl (vp_in_nI (by omega) (by omega)) dX6_setElement_94 (fun H locs hP hD hS => ?_)
              have hP : va_P D vwCl [(h0, moE (nI n) st f k he p ma tr t tb fo gi), (he, aiE cI 18 (upd G ((nI (3 * k9)).toNatClampNeg) a))] H := hP
              have hD : va_D AA [(h0, moE (nI n) st f k he p ma tr t tb fo gi), (he, aiE cI 18 (upd G ((nI (3 * k9)).toNatClampNeg) a))] := hD
              refine lv_aload_n X.1 X.2.1 dX6_setElement_95 rfl (lv_at hl 2 rfl) ?_
              refine gf_X6_13 (v := .ref he) X hP 0 rfl rfl dX6_setElement_96 ?_
              refine lv_iload X.1 X.2.1 dX6_setElement_99 (lv_at hl 1 rfl) ?_
              refine lv_iconst (v := 1) X.1 X.2.1 dX6_setElement_101 (by decide) ?_
              refine lv_iadd X.1 X.2.1 dX6_setElement_102 ?_
              rw [nI_1]
              refine lv_iload_n X.1 X.2.1 dX6_setElement_103 rfl (lv_at hl 5 rfl) ?_
              refine va_iast X.1 X.2.1 X.k hP hD hS 1 0 rfl rfl (vp_in_nI (by omega) (by omega)) dX6_setElement_104 (fun H locs hP hD hS => ?_)
              have hP : va_P D vwCl [(h0, moE (nI n) st f k he p ma tr t tb fo gi), (he, aiE cI 18 (upd (upd G ((nI (3 * k9)).toNatClampNeg) a) ((nI (3 * k9 + 1)).toNatClampNeg) b))] H := hP
              have hD : va_D AA [(h0, moE (nI n) st f k he p ma tr t tb fo gi), (he, aiE cI 18 (upd (upd G ((nI (3 * k9)).toNatClampNeg) a) ((nI (3 * k9 + 1)).toNatClampNeg) b))] := hD
              refine lv_aload_n X.1 X.2.1 dX6_setElement_105 rfl (lv_at hl 2 rfl) ?_
              refine gf_X6_13 (v := .ref he) X hP 0 rfl rfl dX6_setElement_106 ?_
              refine lv_iload X.1 X.2.1 dX6_setElement_109 (lv_at hl 1 rfl) ?_
              refine lv_iconst (v := 2) X.1 X.2.1 dX6_setElement_111 (by decide) ?_
              refine lv_iadd X.1 X.2.1 dX6_setElement_112 ?_
              rw [nI_2]
              refine lv_iload X.1 X.2.1 dX6_setElement_113 (lv_at hl 6 rfl) ?_
              refine va_iast X.1 X.2.1 X.k hP hD hS 1 0 rfl rfl (vp_in_nI (by omega) (by omega)) dX6_setElement_115 (fun H locs hP hD hS => ?_)
              have hP : va_P D vwCl [(h0, moE (nI n) st f k he p ma tr t tb fo gi), (he, aiE cI 18 (upd (upd (upd G ((nI (3 * k9)).toNatClampNeg) a) ((nI (3 * k9 + 1)).toNatClampNeg) b) ((nI (3 * k9 + 2)).toNatClampNeg) c))] H := hP
              have hD : va_D AA [(h0, moE (nI n) st f k he p ma tr t tb fo gi), (he, aiE cI 18 (upd (upd (upd G ((nI (3 * k9)).toNatClampNeg) a) ((nI (3 * k9 + 1)).toNatClampNeg) b) ((nI (3 * k9 + 2)).toNatClampNeg) c))] := hD
              refine lv_iload X.1 X.2.1 dX6_setElement_116 (lv_at hl 0 rfl) ?_
              refine bz_eq (tgt := 125) X dX6_setElement_118 (by decide) (fun c_20 => ?_) (fun c_20 => absurd c_20 (by decide))
              refine lv_iconst (v := 1) X.1 X.2.1 dX6_setElement_125 (by decide) ?_
              rw [nI_clamp (show 3 * k9 < 2 ^ 31 by omega), nI_clamp (show 3 * k9 + 1 < 2 ^ 31 by omega), nI_clamp (show 3 * k9 + 2 < 2 ^ 31 by omega)] at hP hD
              have ef : fitsE (a.toInt64, b.toInt64, c.toInt64) = true := by simp only [fitsE, c_8, c_12, c_16, Bool.and_true, Bool.true_and, Bool.and_false, Bool.false_and]
              have eo : setO x a b c = .inr (a.toInt64, b.toInt64, c.toInt64) := by rw [setO, if_pos c_4, if_pos ef]
              have er : regS G x (.inr (a.toInt64, b.toInt64, c.toInt64)) = upd (upd (upd G (3 * k9) a) (3 * k9 + 1) b) (3 * k9 + 2) c := by simp only [regS, stE, narrowE, hx, nI_clamp (show k9 < 2 ^ 31 by omega)]
              have hP : va_P D vwCl [(h0, moE (nI n) st f k he p ma tr t tb fo gi), (he, aiE cI 18 (regS G x (setO x a b c)))] H := by rw [eo, er]; exact hP
              have hD : va_D AA [(h0, moE (nI n) st f k he p ma tr t tb fo gi), (he, aiE cI 18 (regS G x (setO x a b c)))] := by rw [eo, er]; exact hD
              exact hret 1 () _ _ _ _ (by rw [setR, eo]; show _ = (if sameE (ldE G x.toNatClampNeg) (a.toInt64, b.toInt64, c.toInt64) then (0 : Int32) else 1); rw [ldE_same, hx, nI_clamp (show k9 < 2 ^ 31 by omega)]; simp only [c_17, c_19, decide_true, decide_false, Bool.and_true, Bool.true_and, Bool.and_false, Bool.false_and, if_true, if_false, Bool.false_eq_true]) rfl (hP.sub [0, 1] rfl) (hD.sub [0, 1] rfl rfl) hS dX6_setElement_126
            · refine lv_aload_n X.1 X.2.1 dX6_setElement_66 rfl (lv_at hl 1 rfl) ?_
              refine gf_X6_13 (v := .ref he) X hP 0 rfl rfl dX6_setElement_67 ?_
              refine lv_iload X.1 X.2.1 dX6_setElement_70 (lv_at hl 0 rfl) ?_
              refine lv_iconst (v := 2) X.1 X.2.1 dX6_setElement_72 (by decide) ?_
              refine lv_iadd X.1 X.2.1 dX6_setElement_73 ?_
              rw [nI_2]
              refine va_iald X.1 X.2.1 X.k hP 1 0 rfl rfl (vp_in_nI (by omega) (by omega)) dX6_setElement_74 ?_
              refine lv_iload X.1 X.2.1 dX6_setElement_75 (lv_at hl 5 rfl) ?_
              refine bi_ne (tgt := 84) X dX6_setElement_77 (by decide) (fun c_21 => ?_) (fun c_21 => ?_)
              · refine lv_iconst (v := 0) X.1 X.2.1 dX6_setElement_84 (by decide) ?_
                rw [nI_clamp (show 3 * k9 < 2 ^ 31 by omega)] at c_17
                rw [nI_clamp (show 3 * k9 + 1 < 2 ^ 31 by omega)] at c_19
                rw [nI_clamp (show 3 * k9 + 2 < 2 ^ 31 by omega)] at c_21
                refine lv_istore (lv' := [(6, .int 0), (5, .int (nI (3 * k9))), (0, .ref h0), (1, .int (nI k9)), (2, .int a), (3, .int b), (4, .int c)]) X.1 X.2.1 dX6_setElement_85 hl (by decide) rfl (fun ls hl => ?_)
                refine lv_aload_n X.1 X.2.1 dX6_setElement_87 rfl (lv_at hl 2 rfl) ?_
                refine gf_X6_13 (v := .ref he) X hP 0 rfl rfl dX6_setElement_88 ?_
                refine lv_iload X.1 X.2.1 dX6_setElement_91 (lv_at hl 1 rfl) ?_
                refine lv_iload_n X.1 X.2.1 dX6_setElement_93 rfl (lv_at hl 4 rfl) ?_
                refine va_iast X.1 X.2.1 X.k hP hD hS 1 0 rfl rfl (vp_in_nI (by omega) (by omega)) dX6_setElement_94 (fun H locs hP hD hS => ?_)
                have hP : va_P D vwCl [(h0, moE (nI n) st f k he p ma tr t tb fo gi), (he, aiE cI 18 (upd G ((nI (3 * k9)).toNatClampNeg) a))] H := hP
                have hD : va_D AA [(h0, moE (nI n) st f k he p ma tr t tb fo gi), (he, aiE cI 18 (upd G ((nI (3 * k9)).toNatClampNeg) a))] := hD
                refine lv_aload_n X.1 X.2.1 dX6_setElement_95 rfl (lv_at hl 2 rfl) ?_
                refine gf_X6_13 (v := .ref he) X hP 0 rfl rfl dX6_setElement_96 ?_
                refine lv_iload X.1 X.2.1 dX6_setElement_99 (lv_at hl 1 rfl) ?_
                refine lv_iconst (v := 1) X.1 X.2.1 dX6_setElement_101 (by decide) ?_
                refine lv_iadd X.1 X.2.1 dX6_setElement_102 ?_
                rw [nI_1]
                refine lv_iload_n X.1 X.2.1 dX6_setElement_103 rfl (lv_at hl 5 rfl) ?_
                refine va_iast X.1 X.2.1 X.k hP hD hS 1 0 rfl rfl (vp_in_nI (by omega) (by omega)) dX6_setElement_104 (fun H locs hP hD hS => ?_)
                have hP : va_P D vwCl [(h0, moE (nI n) st f k he p ma tr t tb fo gi), (he, aiE cI 18 (upd (upd G ((nI (3 * k9)).toNatClampNeg) a) ((nI (3 * k9 + 1)).toNatClampNeg) b))] H := hP
                have hD : va_D AA [(h0, moE (nI n) st f k he p ma tr t tb fo gi), (he, aiE cI 18 (upd (upd G ((nI (3 * k9)).toNatClampNeg) a) ((nI (3 * k9 + 1)).toNatClampNeg) b))] := hD
                refine lv_aload_n X.1 X.2.1 dX6_setElement_105 rfl (lv_at hl 2 rfl) ?_
                refine gf_X6_13 (v := .ref he) X hP 0 rfl rfl dX6_setElement_106 ?_
                refine lv_iload X.1 X.2.1 dX6_setElement_109 (lv_at hl 1 rfl) ?_
                refine lv_iconst (v := 2) X.1 X.2.1 dX6_setElement_111 (by decide) ?_
                refine lv_iadd X.1 X.2.1 dX6_setElement_112 ?_
                rw [nI_2]
                refine lv_iload X.1 X.2.1 dX6_setElement_113 (lv_at hl 6 rfl) ?_
                refine va_iast X.1 X.2.1 X.k hP hD hS 1 0 rfl rfl (vp_in_nI (by omega) (by omega)) dX6_setElement_115 (fun H locs hP hD hS => ?_)
                have hP : va_P D vwCl [(h0, moE (nI n) st f k he p ma tr t tb fo gi), (he, aiE cI 18 (upd (upd (upd G ((nI (3 * k9)).toNatClampNeg) a) ((nI (3 * k9 + 1)).toNatClampNeg) b) ((nI (3 * k9 + 2)).toNatClampNeg) c))] H := hP
                have hD : va_D AA [(h0, moE (nI n) st f k he p ma tr t tb fo gi), (he, aiE cI 18 (upd (upd (upd G ((nI (3 * k9)).toNatClampNeg) a) ((nI (3 * k9 + 1)).toNatClampNeg) b) ((nI (3 * k9 + 2)).toNatClampNeg) c))] := hD
                refine lv_iload X.1 X.2.1 dX6_setElement_116 (lv_at hl 0 rfl) ?_
                refine bz_eq (tgt := 125) X dX6_setElement_118 (by decide) (fun c_22 => ?_) (fun c_22 => absurd c_22 (by decide))
                refine lv_iconst (v := 1) X.1 X.2.1 dX6_setElement_125 (by decide) ?_
                rw [nI_clamp (show 3 * k9 < 2 ^ 31 by omega), nI_clamp (show 3 * k9 + 1 < 2 ^ 31 by omega), nI_clamp (show 3 * k9 + 2 < 2 ^ 31 by omega)] at hP hD
                have ef : fitsE (a.toInt64, b.toInt64, c.toInt64) = true := by simp only [fitsE, c_8, c_12, c_16, Bool.and_true, Bool.true_and, Bool.and_false, Bool.false_and]
                have eo : setO x a b c = .inr (a.toInt64, b.toInt64, c.toInt64) := by rw [setO, if_pos c_4, if_pos ef]
                have er : regS G x (.inr (a.toInt64, b.toInt64, c.toInt64)) = upd (upd (upd G (3 * k9) a) (3 * k9 + 1) b) (3 * k9 + 2) c := by simp only [regS, stE, narrowE, hx, nI_clamp (show k9 < 2 ^ 31 by omega)]
                have hP : va_P D vwCl [(h0, moE (nI n) st f k he p ma tr t tb fo gi), (he, aiE cI 18 (regS G x (setO x a b c)))] H := by rw [eo, er]; exact hP
                have hD : va_D AA [(h0, moE (nI n) st f k he p ma tr t tb fo gi), (he, aiE cI 18 (regS G x (setO x a b c)))] := by rw [eo, er]; exact hD
                exact hret 1 () _ _ _ _ (by rw [setR, eo]; show _ = (if sameE (ldE G x.toNatClampNeg) (a.toInt64, b.toInt64, c.toInt64) then (0 : Int32) else 1); rw [ldE_same, hx, nI_clamp (show k9 < 2 ^ 31 by omega)]; simp only [c_17, c_19, c_21, decide_true, decide_false, Bool.and_true, Bool.true_and, Bool.and_false, Bool.false_and, if_true, if_false, Bool.false_eq_true]) rfl (hP.sub [0, 1] rfl) (hD.sub [0, 1] rfl rfl) hS dX6_setElement_126
              · refine lv_iconst (v := 1) X.1 X.2.1 dX6_setElement_80 (by decide) ?_
                refine lv_goto (tgt := 85) X.1 X.2.1 dX6_setElement_81 (by decide) ?_
                rw [nI_clamp (show 3 * k9 < 2 ^ 31 by omega)] at c_17
                rw [nI_clamp (show 3 * k9 + 1 < 2 ^ 31 by omega)] at c_19
                rw [nI_clamp (show 3 * k9 + 2 < 2 ^ 31 by omega)] at c_21
                refine lv_istore (lv' := [(6, .int 1), (5, .int (nI (3 * k9))), (0, .ref h0), (1, .int (nI k9)), (2, .int a), (3, .int b), (4, .int c)]) X.1 X.2.1 dX6_setElement_85 hl (by decide) rfl (fun ls hl => ?_)
                refine lv_aload_n X.1 X.2.1 dX6_setElement_87 rfl (lv_at hl 2 rfl) ?_
                refine gf_X6_13 (v := .ref he) X hP 0 rfl rfl dX6_setElement_88 ?_
                refine lv_iload X.1 X.2.1 dX6_setElement_91 (lv_at hl 1 rfl) ?_
                refine lv_iload_n X.1 X.2.1 dX6_setElement_93 rfl (lv_at hl 4 rfl) ?_
                refine va_iast X.1 X.2.1 X.k hP hD hS 1 0 rfl rfl (vp_in_nI (by omega) (by omega)) dX6_setElement_94 (fun H locs hP hD hS => ?_)
                have hP : va_P D vwCl [(h0, moE (nI n) st f k he p ma tr t tb fo gi), (he, aiE cI 18 (upd G ((nI (3 * k9)).toNatClampNeg) a))] H := hP
                have hD : va_D AA [(h0, moE (nI n) st f k he p ma tr t tb fo gi), (he, aiE cI 18 (upd G ((nI (3 * k9)).toNatClampNeg) a))] := hD
                refine lv_aload_n X.1 X.2.1 dX6_setElement_95 rfl (lv_at hl 2 rfl) ?_
                refine gf_X6_13 (v := .ref he) X hP 0 rfl rfl dX6_setElement_96 ?_
                refine lv_iload X.1 X.2.1 dX6_setElement_99 (lv_at hl 1 rfl) ?_
                refine lv_iconst (v := 1) X.1 X.2.1 dX6_setElement_101 (by decide) ?_
                refine lv_iadd X.1 X.2.1 dX6_setElement_102 ?_
                rw [nI_1]
                refine lv_iload_n X.1 X.2.1 dX6_setElement_103 rfl (lv_at hl 5 rfl) ?_
                refine va_iast X.1 X.2.1 X.k hP hD hS 1 0 rfl rfl (vp_in_nI (by omega) (by omega)) dX6_setElement_104 (fun H locs hP hD hS => ?_)
                have hP : va_P D vwCl [(h0, moE (nI n) st f k he p ma tr t tb fo gi), (he, aiE cI 18 (upd (upd G ((nI (3 * k9)).toNatClampNeg) a) ((nI (3 * k9 + 1)).toNatClampNeg) b))] H := hP
                have hD : va_D AA [(h0, moE (nI n) st f k he p ma tr t tb fo gi), (he, aiE cI 18 (upd (upd G ((nI (3 * k9)).toNatClampNeg) a) ((nI (3 * k9 + 1)).toNatClampNeg) b))] := hD
                refine lv_aload_n X.1 X.2.1 dX6_setElement_105 rfl (lv_at hl 2 rfl) ?_
                refine gf_X6_13 (v := .ref he) X hP 0 rfl rfl dX6_setElement_106 ?_
                refine lv_iload X.1 X.2.1 dX6_setElement_109 (lv_at hl 1 rfl) ?_
                refine lv_iconst (v := 2) X.1 X.2.1 dX6_setElement_111 (by decide) ?_
                refine lv_iadd X.1 X.2.1 dX6_setElement_112 ?_
                rw [nI_2]
                refine lv_iload X.1 X.2.1 dX6_setElement_113 (lv_at hl 6 rfl) ?_
                refine va_iast X.1 X.2.1 X.k hP hD hS 1 0 rfl rfl (vp_in_nI (by omega) (by omega)) dX6_setElement_115 (fun H locs hP hD hS => ?_)
                have hP : va_P D vwCl [(h0, moE (nI n) st f k he p ma tr t tb fo gi), (he, aiE cI 18 (upd (upd (upd G ((nI (3 * k9)).toNatClampNeg) a) ((nI (3 * k9 + 1)).toNatClampNeg) b) ((nI (3 * k9 + 2)).toNatClampNeg) c))] H := hP
                have hD : va_D AA [(h0, moE (nI n) st f k he p ma tr t tb fo gi), (he, aiE cI 18 (upd (upd (upd G ((nI (3 * k9)).toNatClampNeg) a) ((nI (3 * k9 + 1)).toNatClampNeg) b) ((nI (3 * k9 + 2)).toNatClampNeg) c))] := hD
                refine lv_iload X.1 X.2.1 dX6_setElement_116 (lv_at hl 0 rfl) ?_
                refine bz_eq (tgt := 125) X dX6_setElement_118 (by decide) (fun c_23 => absurd c_23 (by decide)) (fun c_23 => ?_)
                refine lv_iconst (v := 0) X.1 X.2.1 dX6_setElement_121 (by decide) ?_
                refine lv_goto (tgt := 126) X.1 X.2.1 dX6_setElement_122 (by decide) ?_
                rw [nI_clamp (show 3 * k9 < 2 ^ 31 by omega), nI_clamp (show 3 * k9 + 1 < 2 ^ 31 by omega), nI_clamp (show 3 * k9 + 2 < 2 ^ 31 by omega)] at hP hD
                have ef : fitsE (a.toInt64, b.toInt64, c.toInt64) = true := by simp only [fitsE, c_8, c_12, c_16, Bool.and_true, Bool.true_and, Bool.and_false, Bool.false_and]
                have eo : setO x a b c = .inr (a.toInt64, b.toInt64, c.toInt64) := by rw [setO, if_pos c_4, if_pos ef]
                have er : regS G x (.inr (a.toInt64, b.toInt64, c.toInt64)) = upd (upd (upd G (3 * k9) a) (3 * k9 + 1) b) (3 * k9 + 2) c := by simp only [regS, stE, narrowE, hx, nI_clamp (show k9 < 2 ^ 31 by omega)]
                have hP : va_P D vwCl [(h0, moE (nI n) st f k he p ma tr t tb fo gi), (he, aiE cI 18 (regS G x (setO x a b c)))] H := by rw [eo, er]; exact hP
                have hD : va_D AA [(h0, moE (nI n) st f k he p ma tr t tb fo gi), (he, aiE cI 18 (regS G x (setO x a b c)))] := by rw [eo, er]; exact hD
                exact hret 0 () _ _ _ _ (by rw [setR, eo]; show _ = (if sameE (ldE G x.toNatClampNeg) (a.toInt64, b.toInt64, c.toInt64) then (0 : Int32) else 1); rw [ldE_same, hx, nI_clamp (show k9 < 2 ^ 31 by omega)]; simp only [c_17, c_19, c_21, decide_true, decide_false, Bool.and_true, Bool.true_and, Bool.and_false, Bool.false_and, if_true, if_false, Bool.false_eq_true]) rfl (hP.sub [0, 1] rfl) (hD.sub [0, 1] rfl rfl) hS dX6_setElement_126
        · have ef : fitsE (a.toInt64, b.toInt64, c.toInt64) = false := by simp only [fitsE, c_8, c_12, c_16, Bool.and_true, Bool.true_and, Bool.and_false, Bool.false_and]
          have eo : setO x a b c = .inl (-10003) := by rw [setO, if_pos c_4, if_neg (by rw [ef]; decide)]
          have hP : va_P D vwCl [(h0, moE (nI n) st f k he p ma tr t tb fo gi), (he, aiE cI 18 (regS G x (setO x a b c)))] H := by rw [eo]; exact hP
          have hD : va_D AA [(h0, moE (nI n) st f k he p ma tr t tb fo gi), (he, aiE cI 18 (regS G x (setO x a b c)))] := by rw [eo]; exact hD
          refine lv_sipush (v := (-10003)) X.1 X.2.1 dX6_setElement_33 (by decide) ?_
          exact hret (-10003) () _ _ _ _ (by rw [setR, eo]) rfl (hP.sub [0, 1] rfl) (hD.sub [0, 1] rfl rfl) hS dX6_setElement_36
  · have eo : setO x a b c = .inl (-10002) := by rw [setO, if_neg (by rw [c_4]; decide)]
    have hP : va_P D vwCl [(h0, moE (nI n) st f k he p ma tr t tb fo gi), (he, aiE cI 18 (regS G x (setO x a b c)))] H := by rw [eo]; exact hP
    have hD : va_D AA [(h0, moE (nI n) st f k he p ma tr t tb fo gi), (he, aiE cI 18 (regS G x (setO x a b c)))] := by rw [eo]; exact hD
    refine lv_sipush (v := (-10002)) X.1 X.2.1 dX6_setElement_7 (by decide) ?_
    exact hret (-10002) () _ _ _ _ (by rw [setR, eo]) rfl (hP.sub [0, 1] rfl) (hD.sub [0, 1] rfl rfl) hS dX6_setElement_10
set_option maxHeartbeats 4000000 in
set_option maxRecDepth 100000 in
theorem m_element (l : Launch) (D : va_G) (cI cJ : ClassId) (h0 : Nat) (st : Nat) (he : Nat) (ma : Nat) (tr : Nat) (fo : Nat) (gi : Nat) (n : Nat) (f : Fm) (k : Fm) (p : Em) (t : Fm) (tb : Int32) (G : Nat → Int32) (x : Int32) (y : Int32)  : CtI l yX6_element cX6_element 3 .int (rmk 2 45) D cI cJ [.ref h0, .int x, .int y] [(h0, moE (nI n) st f k he p ma tr t tb fo gi), (he, aiE cI 18 G)] (fun (_ : Unit) => [(h0, moE (nI n) st f k he p ma tr t tb fo gi), (he, aiE cI 18 G)]) (fun (r : Int32) (_ : Unit) => r = if isRegB x then (if y < 0 then (-10003) else if y < 3 then G (3 * x.toNatClampNeg + y.toNatClampNeg) else (-10003)) else (-10002)) := by
  refine CtI.of (own := RX6) (by decide +kernel) (Nat.le_of_ble_eq_true rfl) rfl ?_
  intro pr_ en_ sg_ me_ ar_ be_ mt_ co_ AA ls QQ X hA hP hD hS hl hret
  have hl : lv_has ls 3 [(0, .ref h0), (1, .int x), (2, .int y)] := hl
  refine lv_iload_n X.1 X.2.1 dX6_element_0 rfl (lv_at hl 1 rfl) ?_
  refine fin_i (wr := [(h0, moE (nI n) st f k he p ma tr t tb fo gi), (he, aiE cI 18 G)]) (cv_X6_170 X (m_isRegister l D cI cJ x  _) rfl rfl dX6_element_1 hP hD [] rfl rfl hl.1 rfl rfl (Nat.le_of_ble_eq_true rfl) ⟨Nat.le_of_ble_eq_true rfl, Nat.le_of_ble_eq_true rfl⟩ ⟨Nat.le_of_ble_eq_true rfl, Nat.le_of_ble_eq_true rfl⟩) hP hD hS hA [] [0, 1] rfl rfl rfl (by decide) (fun r_3 u_2 H locs w_1 hP hD hS => ?_)
  have hP : va_P D vwCl [(h0, moE (nI n) st f k he p ma tr t tb fo gi), (he, aiE cI 18 G)] H := hP
  have hD : va_D AA [(h0, moE (nI n) st f k he p ma tr t tb fo gi), (he, aiE cI 18 G)] := hD
  subst w_1
  refine bb_ne (tgt := 11) X dX6_element_4 (by decide) (fun c_4 => ?_) (fun c_4 => ?_)
  · refine lv_iload_n X.1 X.2.1 dX6_element_11 rfl (lv_at hl 2 rfl) ?_
    refine lv_i2l X.1 X.2.1 dX6_element_12 rfl ?_
    refine lv_lconst (v := 0) X.1 X.2.1 dX6_element_13 (by decide) ?_
    refine lc_X6_90 X dX6_element_14 ?_
    refine fin_i (wr := [(h0, moE (nI n) st f k he p ma tr t tb fo gi), (he, aiE cI 18 G)]) (cv_X6_33 X (m_isBetween l D cI cJ y.toInt64 0 2  _) rfl rfl dX6_element_17 hP hD [] rfl rfl hl.1 rfl rfl (Nat.le_of_ble_eq_true rfl) ⟨Nat.le_of_ble_eq_true rfl, Nat.le_of_ble_eq_true rfl⟩ ⟨Nat.le_of_ble_eq_true rfl, Nat.le_of_ble_eq_true rfl⟩) hP hD hS hA [] [0, 1] rfl rfl rfl (by decide) (fun r_7 u_6 H locs w_5 hP hD hS => ?_)
    have hP : va_P D vwCl [(h0, moE (nI n) st f k he p ma tr t tb fo gi), (he, aiE cI 18 G)] H := hP
    have hD : va_D AA [(h0, moE (nI n) st f k he p ma tr t tb fo gi), (he, aiE cI 18 G)] := hD
    subst w_5
    refine bb_eq (tgt := 36) X dX6_element_20 (by decide) (fun c_8 => ?_) (fun c_8 => ?_)
    · refine lv_sipush (v := (-10003)) X.1 X.2.1 dX6_element_36 (by decide) ?_
      exact hret (-10003) () _ _ _ _ (by rw [if_pos c_4]; exact btw2f c_8) rfl (hP.sub [0, 1] rfl) (hD.sub [0, 1] rfl rfl) hS dX6_element_39
    · obtain ⟨j, hj, hx⟩ := isRegB_out c_4
      obtain ⟨i, hi, hy, hy1, hy2⟩ := btw2o c_8
      refine lv_aload_n X.1 X.2.1 dX6_element_23 rfl (lv_at hl 0 rfl) ?_
      refine gf_X6_13 (v := .ref he) X hP 0 rfl rfl dX6_element_24 ?_
      refine lv_iconst (v := 3) X.1 X.2.1 dX6_element_27 (by decide) ?_
      refine lv_iload_n X.1 X.2.1 dX6_element_28 rfl (lv_at hl 1 rfl) ?_
      refine lv_imul X.1 X.2.1 dX6_element_29 ?_
      refine lv_iload_n X.1 X.2.1 dX6_element_30 rfl (lv_at hl 2 rfl) ?_
      refine lv_iadd X.1 X.2.1 dX6_element_31 ?_
      rw [hx, hy, nI_3l, nI_add]
      refine va_iald X.1 X.2.1 X.k hP 1 0 rfl rfl (vp_in_nI (by omega) (by omega)) dX6_element_32 ?_
      refine lv_goto (tgt := 39) X.1 X.2.1 dX6_element_33 (by decide) ?_
      exact hret (G ((nI (3 * j + i)).toNatClampNeg)) () _ _ _ _ (by rw [if_pos c_4, if_neg hy1, if_pos hy2, hx, hy, nI_clamp (show j < 2 ^ 31 by omega), nI_clamp (show i < 2 ^ 31 by omega), nI_clamp (by omega)]) rfl (hP.sub [0, 1] rfl) (hD.sub [0, 1] rfl rfl) hS dX6_element_39
  · refine lv_sipush (v := (-10002)) X.1 X.2.1 dX6_element_7 (by decide) ?_
    exact hret (-10002) () _ _ _ _ (by rw [if_neg (by rw [c_4]; decide)]) rfl (hP.sub [0, 1] rfl) (hD.sub [0, 1] rfl rfl) hS dX6_element_10
