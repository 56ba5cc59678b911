set_option maxHeartbeats 4000000 in
set_option maxRecDepth 100000 in
theorem c_El_set (l : Launch) (D : va_G) (cI cJ : ClassId) (h0 : Nat) (e : Em) (a : Int64) (b : Int64) (c : Int64)  : CtV l yX3_set cX3_set 7 (rmk 0 0) D cI cJ [.ref h0, .long a, .long b, .long c] [(h0, elE e)] (fun (_ : Unit) => [(h0, elE (a, b, c))]) (fun (_ : Unit) => True) 0 0 := by
  refine CtV.of (own := RX3) (by decide +kernel) (Nat.le_of_ble_eq_true rfl) rfl ?_
  intro pr_ en_ sg_ me_ ar_ be_ mt_ co_ AA ls QQ X hin hA hP hD hS hl hret
  have hl : lv_has ls 7 [(0, .ref h0), (1, .long a), (3, .long b), (5, .long c)] := hl
  refine lv_aload_n X.1 X.2.1 dX3_set_0 rfl (lv_at hl 0 rfl) ?_
  refine lv_lload_n X.1 X.2.1 dX3_set_1 rfl (lv_at hl 1 rfl) ?_
  refine pf_X3_9 X hP hD hS 0 rfl rfl rfl (Nat.le_of_ble_eq_true rfl) dX3_set_2 (fun H locs hP hD hS => ?_)
  have hP : va_P D vwCl [(h0, elE (a, e.2.1, e.2.2))] H := hP
  have hD : va_D AA [(h0, elE (a, e.2.1, e.2.2))] := hD
  refine lv_aload_n X.1 X.2.1 dX3_set_5 rfl (lv_at hl 0 rfl) ?_
  refine lv_lload_n X.1 X.2.1 dX3_set_6 rfl (lv_at hl 2 rfl) ?_
  refine pf_X3_15 X hP hD hS 0 rfl rfl rfl (Nat.le_of_ble_eq_true rfl) dX3_set_7 (fun H locs hP hD hS => ?_)
  have hP : va_P D vwCl [(h0, elE (a, b, e.2.2))] H := hP
  have hD : va_D AA [(h0, elE (a, b, e.2.2))] := hD
  refine lv_aload_n X.1 X.2.1 dX3_set_10 rfl (lv_at hl 0 rfl) ?_
  refine lv_lload X.1 X.2.1 dX3_set_11 (lv_at hl 3 rfl) ?_
  refine pf_X3_18 X hP hD hS 0 rfl rfl rfl (Nat.le_of_ble_eq_true rfl) dX3_set_13 (fun H locs hP hD hS => ?_)
  have hP : va_P D vwCl [(h0, elE (a, b, c))] H := hP
  have hD : va_D AA [(h0, elE (a, b, c))] := hD
  exact hret () _ _ _ _ (trivial) (hP.sub [0] rfl) (hD.sub [0] rfl rfl) hS dX3_set_16
set_option maxHeartbeats 4000000 in
set_option maxRecDepth 100000 in
theorem c_El_isSameAs (l : Launch) (D : va_G) (cI cJ : ClassId) (h0 : Nat) (e : Em) (h1 : Nat) (g : Em)  : CtI l yX3_isSameAs cX3_isSameAs 2 .boolean (rmk 0 0) D cI cJ [.ref h0, .ref h1] [(h0, elE e), (h1, elE g)] (fun (_ : Unit) => [(h0, elE e), (h1, elE g)]) (fun (r : Int32) (_ : Unit) => r = bI (sameE e g)) := by
  refine CtI.of (own := RX3) (by decide +kernel) (Nat.le_of_ble_eq_true rfl) rfl ?_
  intro pr_ en_ sg_ me_ ar_ be_ mt_ co_ AA ls QQ X hA hP hD hS hl hret
  have hl : lv_has ls 2 [(0, .ref h0), (1, .ref h1)] := hl
  refine lv_aload_n X.1 X.2.1 dX3_isSameAs_0 rfl (lv_at hl 0 rfl) ?_
  refine gf_X3_9 (v := .long e.1) X hP 0 rfl rfl dX3_isSameAs_1 ?_
  refine lv_aload_n X.1 X.2.1 dX3_isSameAs_4 rfl (lv_at hl 1 rfl) ?_
  refine gf_X3_9 (v := .long g.1) X hP 1 rfl rfl dX3_isSameAs_5 ?_
  refine bl_ne (tgt := 40) X dX3_isSameAs_8 dX3_isSameAs_9 (by decide) (fun c_1 => ?_) (fun c_1 => ?_)
  · refine lv_iconst (v := 0) X.1 X.2.1 dX3_isSameAs_40 (by decide) ?_
    exact hret 0 () _ _ _ _ (by simp [sameE, bI, c_1]) rfl (hP.sub [0, 1] rfl) (hD.sub [0, 1] rfl rfl) hS dX3_isSameAs_41
  · refine lv_aload_n X.1 X.2.1 dX3_isSameAs_12 rfl (lv_at hl 0 rfl) ?_
    refine gf_X3_15 (v := .long e.2.1) X hP 0 rfl rfl dX3_isSameAs_13 ?_
    refine lv_aload_n X.1 X.2.1 dX3_isSameAs_16 rfl (lv_at hl 1 rfl) ?_
    refine gf_X3_15 (v := .long g.2.1) X hP 1 rfl rfl dX3_isSameAs_17 ?_
    refine bl_ne (tgt := 40) X dX3_isSameAs_20 dX3_isSameAs_21 (by decide) (fun c_2 => ?_) (fun c_2 => ?_)
    · refine lv_iconst (v := 0) X.1 X.2.1 dX3_isSameAs_40 (by decide) ?_
      exact hret 0 () _ _ _ _ (by simp [sameE, bI, c_1, c_2]) rfl (hP.sub [0, 1] rfl) (hD.sub [0, 1] rfl rfl) hS dX3_isSameAs_41
    · refine lv_aload_n X.1 X.2.1 dX3_isSameAs_24 rfl (lv_at hl 0 rfl) ?_
      refine gf_X3_18 (v := .long e.2.2) X hP 0 rfl rfl dX3_isSameAs_25 ?_
      refine lv_aload_n X.1 X.2.1 dX3_isSameAs_28 rfl (lv_at hl 1 rfl) ?_
      refine gf_X3_18 (v := .long g.2.2) X hP 1 rfl rfl dX3_isSameAs_29 ?_
      refine bl_ne (tgt := 40) X dX3_isSameAs_32 dX3_isSameAs_33 (by decide) (fun c_3 => ?_) (fun c_3 => ?_)
      · refine lv_iconst (v := 0) X.1 X.2.1 dX3_isSameAs_40 (by decide) ?_
        exact hret 0 () _ _ _ _ (by simp [sameE, bI, c_1, c_2, c_3]) rfl (hP.sub [0, 1] rfl) (hD.sub [0, 1] rfl rfl) hS dX3_isSameAs_41
      · refine lv_iconst (v := 1) X.1 X.2.1 dX3_isSameAs_36 (by decide) ?_
        refine lv_goto (tgt := 41) X.1 X.2.1 dX3_isSameAs_37 (by decide) ?_
        exact hret 1 () _ _ _ _ (by simp [sameE, bI, c_1, c_2, c_3]) rfl (hP.sub [0, 1] rfl) (hD.sub [0, 1] rfl rfl) hS dX3_isSameAs_41
set_option maxHeartbeats 4000000 in
set_option maxRecDepth 100000 in
theorem c_El_fitsRegister (l : Launch) (D : va_G) (cI cJ : ClassId) (h0 : Nat) (e : Em)  : CtI l yX3_fitsRegister cX3_fitsRegister 1 .boolean (rmk 1 23) D cI cJ [.ref h0] [(h0, elE e)] (fun (_ : Unit) => [(h0, elE e)]) (fun (r : Int32) (_ : Unit) => r = bI (fitsE e)) := by
  refine CtI.of (own := RX3) (by decide +kernel) (Nat.le_of_ble_eq_true rfl) rfl ?_
  intro pr_ en_ sg_ me_ ar_ be_ mt_ co_ AA ls QQ X hA hP hD hS hl hret
  have hl : lv_has ls 1 [(0, .ref h0)] := hl
  refine lv_aload_n X.1 X.2.1 dX3_fitsRegister_0 rfl (lv_at hl 0 rfl) ?_
  refine gf_X3_9 (v := .long e.1) X hP 0 rfl rfl dX3_fitsRegister_1 ?_
  refine lc_X3_21 X dX3_fitsRegister_4 ?_
  refine fin_i (wr := [(h0, elE e)]) (cv_X3_23 X (c_isWithin l D cI cJ e.1 100  _) rfl rfl dX3_fitsRegister_7 hP hD [] rfl rfl hl.1 rfl rfl (Nat.le_of_ble_eq_true rfl) ⟨Nat.le_of_ble_eq_true rfl, Nat.le_of_ble_eq_true rfl⟩ ⟨Nat.le_of_ble_eq_true rfl, Nat.le_of_ble_eq_true rfl⟩) hP hD hS hA [] [0] rfl rfl rfl (by decide) (fun r_3 u_2 H locs w_1 hP hD hS => ?_)
  have hP : va_P D vwCl [(h0, elE e)] H := hP
  have hD : va_D AA [(h0, elE e)] := hD
  subst w_1
  refine bb_eq (tgt := 43) X dX3_fitsRegister_10 (by decide) (fun c_4 => ?_) (fun c_4 => ?_)
  · refine lv_iconst (v := 0) X.1 X.2.1 dX3_fitsRegister_43 (by decide) ?_
    exact hret 0 () _ _ _ _ (by simp [fitsE, bI, c_4]) rfl (hP.sub [0] rfl) (hD.sub [0] rfl rfl) hS dX3_fitsRegister_44
  · refine lv_aload_n X.1 X.2.1 dX3_fitsRegister_13 rfl (lv_at hl 0 rfl) ?_
    refine gf_X3_15 (v := .long e.2.1) X hP 0 rfl rfl dX3_fitsRegister_14 ?_
    refine lc_X3_21 X dX3_fitsRegister_17 ?_
    refine fin_i (wr := [(h0, elE e)]) (cv_X3_23 X (c_isWithin l D cI cJ e.2.1 100  _) rfl rfl dX3_fitsRegister_20 hP hD [] rfl rfl hl.1 rfl rfl (Nat.le_of_ble_eq_true rfl) ⟨Nat.le_of_ble_eq_true rfl, Nat.le_of_ble_eq_true rfl⟩ ⟨Nat.le_of_ble_eq_true rfl, Nat.le_of_ble_eq_true rfl⟩) hP hD hS hA [] [0] rfl rfl rfl (by decide) (fun r_7 u_6 H locs w_5 hP hD hS => ?_)
    have hP : va_P D vwCl [(h0, elE e)] H := hP
    have hD : va_D AA [(h0, elE e)] := hD
    subst w_5
    refine bb_eq (tgt := 43) X dX3_fitsRegister_23 (by decide) (fun c_8 => ?_) (fun c_8 => ?_)
    · refine lv_iconst (v := 0) X.1 X.2.1 dX3_fitsRegister_43 (by decide) ?_
      exact hret 0 () _ _ _ _ (by simp [fitsE, bI, c_4, c_8]) rfl (hP.sub [0] rfl) (hD.sub [0] rfl rfl) hS dX3_fitsRegister_44
    · refine lv_aload_n X.1 X.2.1 dX3_fitsRegister_26 rfl (lv_at hl 0 rfl) ?_
      refine gf_X3_18 (v := .long e.2.2) X hP 0 rfl rfl dX3_fitsRegister_27 ?_
      refine lc_X3_21 X dX3_fitsRegister_30 ?_
      refine fin_i (wr := [(h0, elE e)]) (cv_X3_23 X (c_isWithin l D cI cJ e.2.2 100  _) rfl rfl dX3_fitsRegister_33 hP hD [] rfl rfl hl.1 rfl rfl (Nat.le_of_ble_eq_true rfl) ⟨Nat.le_of_ble_eq_true rfl, Nat.le_of_ble_eq_true rfl⟩ ⟨Nat.le_of_ble_eq_true rfl, Nat.le_of_ble_eq_true rfl⟩) hP hD hS hA [] [0] rfl rfl rfl (by decide) (fun r_11 u_10 H locs w_9 hP hD hS => ?_)
      have hP : va_P D vwCl [(h0, elE e)] H := hP
      have hD : va_D AA [(h0, elE e)] := hD
      subst w_9
      refine bb_eq (tgt := 43) X dX3_fitsRegister_36 (by decide) (fun c_12 => ?_) (fun c_12 => ?_)
      · refine lv_iconst (v := 0) X.1 X.2.1 dX3_fitsRegister_43 (by decide) ?_
        exact hret 0 () _ _ _ _ (by simp [fitsE, bI, c_4, c_8, c_12]) rfl (hP.sub [0] rfl) (hD.sub [0] rfl rfl) hS dX3_fitsRegister_44
      · refine lv_iconst (v := 1) X.1 X.2.1 dX3_fitsRegister_39 (by decide) ?_
        refine lv_goto (tgt := 44) X.1 X.2.1 dX3_fitsRegister_40 (by decide) ?_
        exact hret 1 () _ _ _ _ (by simp [fitsE, bI, c_4, c_8, c_12]) rfl (hP.sub [0] rfl) (hD.sub [0] rfl rfl) hS dX3_fitsRegister_44
set_option maxHeartbeats 4000000 in
set_option maxRecDepth 100000 in
theorem c_El_traceIn (l : Launch) (D : va_G) (cI cJ : ClassId) (h0 : Nat) (e : Em) (h1 : Nat) (f : Fm)  : CtL l yX3_traceIn cX3_traceIn 2 (rmk 0 0) D cI cJ [.ref h0, .ref h1] [(h0, elE e), (h1, cubE f)] (fun (_ : Unit) => [(h0, elE e), (h1, cubE f)]) (fun (r : Int64) (_ : Unit) => r = traceE e f) := by
  refine CtL.of (own := RX3) (by decide +kernel) (Nat.le_of_ble_eq_true rfl) rfl ?_
  intro pr_ en_ sg_ me_ ar_ be_ mt_ co_ AA ls QQ X hA hP hD hS hl hret
  have hl : lv_has ls 2 [(0, .ref h0), (1, .ref h1)] := hl
  refine lc_X3_27 X dX3_traceIn_0 ?_
  refine lv_aload_n X.1 X.2.1 dX3_traceIn_3 rfl (lv_at hl 0 rfl) ?_
  refine gf_X3_9 (v := .long e.1) X hP 0 rfl rfl dX3_traceIn_4 ?_
  refine lv_lmul X.1 X.2.1 dX3_traceIn_7 ?_
  refine lv_aload_n X.1 X.2.1 dX3_traceIn_8 rfl (lv_at hl 1 rfl) ?_
  refine gf_X3_29 (v := .long f.2.1) X hP 1 rfl rfl dX3_traceIn_9 ?_
  refine lv_aload_n X.1 X.2.1 dX3_traceIn_12 rfl (lv_at hl 0 rfl) ?_
  refine gf_X3_15 (v := .long e.2.1) X hP 0 rfl rfl dX3_traceIn_13 ?_
  refine lv_lmul X.1 X.2.1 dX3_traceIn_16 ?_
  refine lv_ladd X.1 X.2.1 dX3_traceIn_17 ?_
  refine lv_aload_n X.1 X.2.1 dX3_traceIn_18 rfl (lv_at hl 1 rfl) ?_
  refine gf_X3_34 (v := .long f.2.2.1) X hP 1 rfl rfl dX3_traceIn_19 ?_
  refine lv_aload_n X.1 X.2.1 dX3_traceIn_22 rfl (lv_at hl 0 rfl) ?_
  refine gf_X3_18 (v := .long e.2.2) X hP 0 rfl rfl dX3_traceIn_23 ?_
  refine lv_lmul X.1 X.2.1 dX3_traceIn_26 ?_
  refine lv_lsub X.1 X.2.1 dX3_traceIn_27 ?_
  exact hret (((3 * e.1) + (f.2.1 * e.2.1)) - (f.2.2.1 * e.2.2)) () _ _ _ _ (rfl) (hP.sub [0, 1] rfl) (hD.sub [0, 1] rfl rfl) hS dX3_traceIn_28
set_option maxHeartbeats 4000000 in
set_option maxRecDepth 100000 in
theorem c_El_becomeProduct (l : Launch) (D : va_G) (cI cJ : ClassId) (h0 : Nat) (e : Em) (hf : Nat) (f : Fm) (hx : Nat) (x : Em) (hy : Nat) (y : Em)  : CtV l yX3_becomeProduct cX3_becomeProduct 10 (rmk 1 26) D cI cJ [.ref h0, .ref hf, .ref hx, .ref hy] [(h0, elE e), (hf, cubE f), (hx, elE x), (hy, elE y)] (fun (_ : Unit) => [(h0, elE (prodE f x y)), (hf, cubE f), (hx, elE x), (hy, elE y)]) (fun (_ : Unit) => True) 0 0 := by
  refine CtV.of (own := RX3) (by decide +kernel) (Nat.le_of_ble_eq_true rfl) rfl ?_
  intro pr_ en_ sg_ me_ ar_ be_ mt_ co_ AA ls QQ X hin hA hP hD hS hl hret
  have hl : lv_has ls 10 [(0, .ref h0), (1, .ref hf), (2, .ref hx), (3, .ref hy)] := hl
  refine lv_aload_n X.1 X.2.1 dX3_becomeProduct_0 rfl (lv_at hl 2 rfl) ?_
  refine gf_X3_15 (v := .long x.2.1) X hP 2 rfl rfl dX3_becomeProduct_1 ?_
  refine lv_aload_n X.1 X.2.1 dX3_becomeProduct_4 rfl (lv_at hl 3 rfl) ?_
  refine gf_X3_15 (v := .long y.2.1) X hP 3 rfl rfl dX3_becomeProduct_5 ?_
  refine lv_lmul X.1 X.2.1 dX3_becomeProduct_8 ?_
  refine lv_lstore (lv' := [(4, .long (x.2.1 * y.2.1)), (0, .ref h0), (1, .ref hf), (2, .ref hx), (3, .ref hy)]) X.1 X.2.1 dX3_becomeProduct_9 hl (by decide) rfl (fun ls hl => ?_)
  refine lv_aload_n X.1 X.2.1 dX3_becomeProduct_11 rfl (lv_at hl 3 rfl) ?_
  refine gf_X3_18 (v := .long x.2.2) X hP 2 rfl rfl dX3_becomeProduct_12 ?_
  refine lv_aload_n X.1 X.2.1 dX3_becomeProduct_15 rfl (lv_at hl 4 rfl) ?_
  refine gf_X3_18 (v := .long y.2.2) X hP 3 rfl rfl dX3_becomeProduct_16 ?_
  refine lv_lmul X.1 X.2.1 dX3_becomeProduct_19 ?_
  refine lv_lstore (lv' := [(6, .long (x.2.2 * y.2.2)), (4, .long (x.2.1 * y.2.1)), (0, .ref h0), (1, .ref hf), (2, .ref hx), (3, .ref hy)]) X.1 X.2.1 dX3_becomeProduct_20 hl (by decide) rfl (fun ls hl => ?_)
  refine lv_aload_n X.1 X.2.1 dX3_becomeProduct_22 rfl (lv_at hl 4 rfl) ?_
  refine gf_X3_15 (v := .long x.2.1) X hP 2 rfl rfl dX3_becomeProduct_23 ?_
  refine lv_aload_n X.1 X.2.1 dX3_becomeProduct_26 rfl (lv_at hl 5 rfl) ?_
  refine gf_X3_18 (v := .long y.2.2) X hP 3 rfl rfl dX3_becomeProduct_27 ?_
  refine lv_lmul X.1 X.2.1 dX3_becomeProduct_30 ?_
  refine lv_aload_n X.1 X.2.1 dX3_becomeProduct_31 rfl (lv_at hl 4 rfl) ?_
  refine gf_X3_18 (v := .long x.2.2) X hP 2 rfl rfl dX3_becomeProduct_32 ?_
  refine lv_aload_n X.1 X.2.1 dX3_becomeProduct_35 rfl (lv_at hl 5 rfl) ?_
  refine gf_X3_15 (v := .long y.2.1) X hP 3 rfl rfl dX3_becomeProduct_36 ?_
  refine lv_lmul X.1 X.2.1 dX3_becomeProduct_39 ?_
  refine lv_ladd X.1 X.2.1 dX3_becomeProduct_40 ?_
  refine lv_lstore (lv' := [(8, .long ((x.2.1 * y.2.2) + (x.2.2 * y.2.1))), (6, .long (x.2.2 * y.2.2)), (4, .long (x.2.1 * y.2.1)), (0, .ref h0), (1, .ref hf), (2, .ref hx), (3, .ref hy)]) X.1 X.2.1 dX3_becomeProduct_41 hl (by decide) rfl (fun ls hl => ?_)
  refine lv_aload_n X.1 X.2.1 dX3_becomeProduct_43 rfl (lv_at hl 3 rfl) ?_
  refine lv_aload_n X.1 X.2.1 dX3_becomeProduct_44 rfl (lv_at hl 5 rfl) ?_
  refine gf_X3_9 (v := .long x.1) X hP 2 rfl rfl dX3_becomeProduct_45 ?_
  refine lv_aload_n X.1 X.2.1 dX3_becomeProduct_48 rfl (lv_at hl 6 rfl) ?_
  refine gf_X3_9 (v := .long y.1) X hP 3 rfl rfl dX3_becomeProduct_49 ?_
  refine lv_lmul X.1 X.2.1 dX3_becomeProduct_52 ?_
  refine lv_aload_n X.1 X.2.1 dX3_becomeProduct_53 rfl (lv_at hl 4 rfl) ?_
  refine gf_X3_37 (v := .long f.1) X hP 1 rfl rfl dX3_becomeProduct_54 ?_
  refine lv_aload_n X.1 X.2.1 dX3_becomeProduct_57 rfl (lv_at hl 4 rfl) ?_
  refine gf_X3_34 (v := .long f.2.2.1) X hP 1 rfl rfl dX3_becomeProduct_58 ?_
  refine lv_lmul X.1 X.2.1 dX3_becomeProduct_61 ?_
  refine lv_lload X.1 X.2.1 dX3_becomeProduct_62 (lv_at hl 2 rfl) ?_
  refine lv_lmul X.1 X.2.1 dX3_becomeProduct_64 ?_
  refine lv_lsub X.1 X.2.1 dX3_becomeProduct_65 ?_
  refine lv_aload_n X.1 X.2.1 dX3_becomeProduct_66 rfl (lv_at hl 4 rfl) ?_
  refine gf_X3_29 (v := .long f.2.1) X hP 1 rfl rfl dX3_becomeProduct_67 ?_
  refine lv_aload_n X.1 X.2.1 dX3_becomeProduct_70 rfl (lv_at hl 4 rfl) ?_
  refine gf_X3_40 (v := .long f.2.2.2) X hP 1 rfl rfl dX3_becomeProduct_71 ?_
  refine lv_lmul X.1 X.2.1 dX3_becomeProduct_74 ?_
  refine lv_lload X.1 X.2.1 dX3_becomeProduct_75 (lv_at hl 1 rfl) ?_
  refine lv_lmul X.1 X.2.1 dX3_becomeProduct_77 ?_
  refine lv_lsub X.1 X.2.1 dX3_becomeProduct_78 ?_
  refine lv_aload_n X.1 X.2.1 dX3_becomeProduct_79 rfl (lv_at hl 4 rfl) ?_
  refine gf_X3_37 (v := .long f.1) X hP 1 rfl rfl dX3_becomeProduct_80 ?_
  refine lv_aload_n X.1 X.2.1 dX3_becomeProduct_83 rfl (lv_at hl 4 rfl) ?_
  refine gf_X3_40 (v := .long f.2.2.2) X hP 1 rfl rfl dX3_becomeProduct_84 ?_
  refine lv_lmul X.1 X.2.1 dX3_becomeProduct_87 ?_
  refine lv_lload X.1 X.2.1 dX3_becomeProduct_88 (lv_at hl 0 rfl) ?_
  refine lv_lmul X.1 X.2.1 dX3_becomeProduct_90 ?_
  refine lv_lsub X.1 X.2.1 dX3_becomeProduct_91 ?_
  refine lv_aload_n X.1 X.2.1 dX3_becomeProduct_92 rfl (lv_at hl 5 rfl) ?_
  refine gf_X3_9 (v := .long x.1) X hP 2 rfl rfl dX3_becomeProduct_93 ?_
  refine lv_aload_n X.1 X.2.1 dX3_becomeProduct_96 rfl (lv_at hl 6 rfl) ?_
  refine gf_X3_15 (v := .long y.2.1) X hP 3 rfl rfl dX3_becomeProduct_97 ?_
  refine lv_lmul X.1 X.2.1 dX3_becomeProduct_100 ?_
  refine lv_aload_n X.1 X.2.1 dX3_becomeProduct_101 rfl (lv_at hl 5 rfl) ?_
  refine gf_X3_15 (v := .long x.2.1) X hP 2 rfl rfl dX3_becomeProduct_102 ?_
  refine lv_aload_n X.1 X.2.1 dX3_becomeProduct_105 rfl (lv_at hl 6 rfl) ?_
  refine gf_X3_9 (v := .long y.1) X hP 3 rfl rfl dX3_becomeProduct_106 ?_
  refine lv_lmul X.1 X.2.1 dX3_becomeProduct_109 ?_
  refine lv_ladd X.1 X.2.1 dX3_becomeProduct_110 ?_
  refine lv_aload_n X.1 X.2.1 dX3_becomeProduct_111 rfl (lv_at hl 4 rfl) ?_
  refine gf_X3_29 (v := .long f.2.1) X hP 1 rfl rfl dX3_becomeProduct_112 ?_
  refine lv_lload X.1 X.2.1 dX3_becomeProduct_115 (lv_at hl 2 rfl) ?_
  refine lv_lmul X.1 X.2.1 dX3_becomeProduct_117 ?_
  refine lv_ladd X.1 X.2.1 dX3_becomeProduct_118 ?_
  refine lv_aload_n X.1 X.2.1 dX3_becomeProduct_119 rfl (lv_at hl 4 rfl) ?_
  refine gf_X3_40 (v := .long f.2.2.2) X hP 1 rfl rfl dX3_becomeProduct_120 ?_
  refine lv_lload X.1 X.2.1 dX3_becomeProduct_123 (lv_at hl 1 rfl) ?_
  refine lv_lmul X.1 X.2.1 dX3_becomeProduct_125 ?_
  refine lv_ladd X.1 X.2.1 dX3_becomeProduct_126 ?_
  refine lv_aload_n X.1 X.2.1 dX3_becomeProduct_127 rfl (lv_at hl 5 rfl) ?_
  refine gf_X3_9 (v := .long x.1) X hP 2 rfl rfl dX3_becomeProduct_128 ?_
  refine lv_aload_n X.1 X.2.1 dX3_becomeProduct_131 rfl (lv_at hl 6 rfl) ?_
  refine gf_X3_18 (v := .long y.2.2) X hP 3 rfl rfl dX3_becomeProduct_132 ?_
  refine lv_lmul X.1 X.2.1 dX3_becomeProduct_135 ?_
  refine lv_aload_n X.1 X.2.1 dX3_becomeProduct_136 rfl (lv_at hl 5 rfl) ?_
  refine gf_X3_18 (v := .long x.2.2) X hP 2 rfl rfl dX3_becomeProduct_137 ?_
  refine lv_aload_n X.1 X.2.1 dX3_becomeProduct_140 rfl (lv_at hl 6 rfl) ?_
  refine gf_X3_9 (v := .long y.1) X hP 3 rfl rfl dX3_becomeProduct_141 ?_
  refine lv_lmul X.1 X.2.1 dX3_becomeProduct_144 ?_
  refine lv_ladd X.1 X.2.1 dX3_becomeProduct_145 ?_
  refine lv_aload_n X.1 X.2.1 dX3_becomeProduct_146 rfl (lv_at hl 4 rfl) ?_
  refine gf_X3_37 (v := .long f.1) X hP 1 rfl rfl dX3_becomeProduct_147 ?_
  refine lv_lload X.1 X.2.1 dX3_becomeProduct_150 (lv_at hl 2 rfl) ?_
  refine lv_lmul X.1 X.2.1 dX3_becomeProduct_152 ?_
  refine lv_lsub X.1 X.2.1 dX3_becomeProduct_153 ?_
  refine lv_aload_n X.1 X.2.1 dX3_becomeProduct_154 rfl (lv_at hl 4 rfl) ?_
  refine gf_X3_34 (v := .long f.2.2.1) X hP 1 rfl rfl dX3_becomeProduct_155 ?_
  refine lv_lload X.1 X.2.1 dX3_becomeProduct_158 (lv_at hl 1 rfl) ?_
  refine lv_lmul X.1 X.2.1 dX3_becomeProduct_160 ?_
  refine lv_lsub X.1 X.2.1 dX3_becomeProduct_161 ?_
  refine fin_v (wr := [(hf, cubE f), (hx, elE x), (hy, elE y)]) (cv_X3_43 X (c_El_set l D cI cJ h0 e ((((x.1 * y.1) - ((f.1 * f.2.2.1) * (x.2.1 * y.2.1))) - ((f.2.1 * f.2.2.2) * (x.2.2 * y.2.2))) - ((f.1 * f.2.2.2) * ((x.2.1 * y.2.2) + (x.2.2 * y.2.1)))) ((((x.1 * y.2.1) + (x.2.1 * y.1)) + (f.2.1 * (x.2.1 * y.2.1))) + (f.2.2.2 * (x.2.2 * y.2.2))) ((((x.1 * y.2.2) + (x.2.2 * y.1)) - (f.1 * (x.2.1 * y.2.1))) - (f.2.2.1 * (x.2.2 * y.2.2)))  _) rfl rfl dX3_becomeProduct_162 hP hD 0 rfl [0] rfl rfl hl.1 rfl rfl (Nat.le_of_ble_eq_true rfl) ⟨Nat.le_of_ble_eq_true rfl, Nat.le_of_ble_eq_true rfl⟩ ⟨Nat.le_of_ble_eq_true rfl, Nat.le_of_ble_eq_true rfl⟩) hP hD hS hA [0] [1, 2, 3] rfl rfl rfl (by decide) (fun u_2 H locs w_1 hP hD hS => ?_)
  have hP : va_P D vwCl [(hf, cubE f), (hx, elE x), (hy, elE y), (h0, elE (((((x.1 * y.1) - ((f.1 * f.2.2.1) * (x.2.1 * y.2.1))) - ((f.2.1 * f.2.2.2) * (x.2.2 * y.2.2))) - ((f.1 * f.2.2.2) * ((x.2.1 * y.2.2) + (x.2.2 * y.2.1)))), ((((x.1 * y.2.1) + (x.2.1 * y.1)) + (f.2.1 * (x.2.1 * y.2.1))) + (f.2.2.2 * (x.2.2 * y.2.2))), ((((x.1 * y.2.2) + (x.2.2 * y.1)) - (f.1 * (x.2.1 * y.2.1))) - (f.2.2.1 * (x.2.2 * y.2.2)))))] H := hP
  have hD : va_D AA [(hf, cubE f), (hx, elE x), (hy, elE y), (h0, elE (((((x.1 * y.1) - ((f.1 * f.2.2.1) * (x.2.1 * y.2.1))) - ((f.2.1 * f.2.2.2) * (x.2.2 * y.2.2))) - ((f.1 * f.2.2.2) * ((x.2.1 * y.2.2) + (x.2.2 * y.2.1)))), ((((x.1 * y.2.1) + (x.2.1 * y.1)) + (f.2.1 * (x.2.1 * y.2.1))) + (f.2.2.2 * (x.2.2 * y.2.2))), ((((x.1 * y.2.2) + (x.2.2 * y.1)) - (f.1 * (x.2.1 * y.2.1))) - (f.2.2.1 * (x.2.2 * y.2.2)))))] := hD
  exact hret () _ _ _ _ (trivial) (hP.sub [3, 0, 1, 2] rfl) (hD.sub [3, 0, 1, 2] rfl rfl) hS dX3_becomeProduct_165
set_option maxHeartbeats 4000000 in
set_option maxRecDepth 100000 in
theorem c_El_becomeSquare (l : Launch) (D : va_G) (cI cJ : ClassId) (h0 : Nat) (e : Em) (hf : Nat) (f : Fm) (hx : Nat) (x : Em)  : CtV l yX3_becomeProduct cX3_becomeProduct 10 (rmk 1 26) D cI cJ [.ref h0, .ref hf, .ref hx, .ref hx] [(h0, elE e), (hf, cubE f), (hx, elE x)] (fun (_ : Unit) => [(h0, elE (prodE f x x)), (hf, cubE f), (hx, elE x)]) (fun (_ : Unit) => True) 0 0 := by
  refine CtV.of (own := RX3) (by decide +kernel) (Nat.le_of_ble_eq_true rfl) rfl ?_
  intro pr_ en_ sg_ me_ ar_ be_ mt_ co_ AA ls QQ X hin hA hP hD hS hl hret
  have hl : lv_has ls 10 [(0, .ref h0), (1, .ref hf), (2, .ref hx), (3, .ref hx)] := hl
  refine lv_aload_n X.1 X.2.1 dX3_becomeProduct_0 rfl (lv_at hl 2 rfl) ?_
  refine gf_X3_15 (v := .long x.2.1) X hP 2 rfl rfl dX3_becomeProduct_1 ?_
  refine lv_aload_n X.1 X.2.1 dX3_becomeProduct_4 rfl (lv_at hl 3 rfl) ?_
  refine gf_X3_15 (v := .long x.2.1) X hP 2 rfl rfl dX3_becomeProduct_5 ?_
  refine lv_lmul X.1 X.2.1 dX3_becomeProduct_8 ?_
  refine lv_lstore (lv' := [(4, .long (x.2.1 * x.2.1)), (0, .ref h0), (1, .ref hf), (2, .ref hx), (3, .ref hx)]) X.1 X.2.1 dX3_becomeProduct_9 hl (by decide) rfl (fun ls hl => ?_)
  refine lv_aload_n X.1 X.2.1 dX3_becomeProduct_11 rfl (lv_at hl 3 rfl) ?_
  refine gf_X3_18 (v := .long x.2.2) X hP 2 rfl rfl dX3_becomeProduct_12 ?_
  refine lv_aload_n X.1 X.2.1 dX3_becomeProduct_15 rfl (lv_at hl 4 rfl) ?_
  refine gf_X3_18 (v := .long x.2.2) X hP 2 rfl rfl dX3_becomeProduct_16 ?_
  refine lv_lmul X.1 X.2.1 dX3_becomeProduct_19 ?_
  refine lv_lstore (lv' := [(6, .long (x.2.2 * x.2.2)), (4, .long (x.2.1 * x.2.1)), (0, .ref h0), (1, .ref hf), (2, .ref hx), (3, .ref hx)]) X.1 X.2.1 dX3_becomeProduct_20 hl (by decide) rfl (fun ls hl => ?_)
  refine lv_aload_n X.1 X.2.1 dX3_becomeProduct_22 rfl (lv_at hl 4 rfl) ?_
  refine gf_X3_15 (v := .long x.2.1) X hP 2 rfl rfl dX3_becomeProduct_23 ?_
  refine lv_aload_n X.1 X.2.1 dX3_becomeProduct_26 rfl (lv_at hl 5 rfl) ?_
  refine gf_X3_18 (v := .long x.2.2) X hP 2 rfl rfl dX3_becomeProduct_27 ?_
  refine lv_lmul X.1 X.2.1 dX3_becomeProduct_30 ?_
  refine lv_aload_n X.1 X.2.1 dX3_becomeProduct_31 rfl (lv_at hl 4 rfl) ?_
  refine gf_X3_18 (v := .long x.2.2) X hP 2 rfl rfl dX3_becomeProduct_32 ?_
  refine lv_aload_n X.1 X.2.1 dX3_becomeProduct_35 rfl (lv_at hl 5 rfl) ?_
  refine gf_X3_15 (v := .long x.2.1) X hP 2 rfl rfl dX3_becomeProduct_36 ?_
  refine lv_lmul X.1 X.2.1 dX3_becomeProduct_39 ?_
  refine lv_ladd X.1 X.2.1 dX3_becomeProduct_40 ?_
  refine lv_lstore (lv' := [(8, .long ((x.2.1 * x.2.2) + (x.2.2 * x.2.1))), (6, .long (x.2.2 * x.2.2)), (4, .long (x.2.1 * x.2.1)), (0, .ref h0), (1, .ref hf), (2, .ref hx), (3, .ref hx)]) X.1 X.2.1 dX3_becomeProduct_41 hl (by decide) rfl (fun ls hl => ?_)
  refine lv_aload_n X.1 X.2.1 dX3_becomeProduct_43 rfl (lv_at hl 3 rfl) ?_
  refine lv_aload_n X.1 X.2.1 dX3_becomeProduct_44 rfl (lv_at hl 5 rfl) ?_
  refine gf_X3_9 (v := .long x.1) X hP 2 rfl rfl dX3_becomeProduct_45 ?_
  refine lv_aload_n X.1 X.2.1 dX3_becomeProduct_48 rfl (lv_at hl 6 rfl) ?_
  refine gf_X3_9 (v := .long x.1) X hP 2 rfl rfl dX3_becomeProduct_49 ?_
  refine lv_lmul X.1 X.2.1 dX3_becomeProduct_52 ?_
  refine lv_aload_n X.1 X.2.1 dX3_becomeProduct_53 rfl (lv_at hl 4 rfl) ?_
  refine gf_X3_37 (v := .long f.1) X hP 1 rfl rfl dX3_becomeProduct_54 ?_
  refine lv_aload_n X.1 X.2.1 dX3_becomeProduct_57 rfl (lv_at hl 4 rfl) ?_
  refine gf_X3_34 (v := .long f.2.2.1) X hP 1 rfl rfl dX3_becomeProduct_58 ?_
  refine lv_lmul X.1 X.2.1 dX3_becomeProduct_61 ?_
  refine lv_lload X.1 X.2.1 dX3_becomeProduct_62 (lv_at hl 2 rfl) ?_
  refine lv_lmul X.1 X.2.1 dX3_becomeProduct_64 ?_
  refine lv_lsub X.1 X.2.1 dX3_becomeProduct_65 ?_
  refine lv_aload_n X.1 X.2.1 dX3_becomeProduct_66 rfl (lv_at hl 4 rfl) ?_
  refine gf_X3_29 (v := .long f.2.1) X hP 1 rfl rfl dX3_becomeProduct_67 ?_
  refine lv_aload_n X.1 X.2.1 dX3_becomeProduct_70 rfl (lv_at hl 4 rfl) ?_
  refine gf_X3_40 (v := .long f.2.2.2) X hP 1 rfl rfl dX3_becomeProduct_71 ?_
  refine lv_lmul X.1 X.2.1 dX3_becomeProduct_74 ?_
  refine lv_lload X.1 X.2.1 dX3_becomeProduct_75 (lv_at hl 1 rfl) ?_
  refine lv_lmul X.1 X.2.1 dX3_becomeProduct_77 ?_
  refine lv_lsub X.1 X.2.1 dX3_becomeProduct_78 ?_
  refine lv_aload_n X.1 X.2.1 dX3_becomeProduct_79 rfl (lv_at hl 4 rfl) ?_
  refine gf_X3_37 (v := .long f.1) X hP 1 rfl rfl dX3_becomeProduct_80 ?_
  refine lv_aload_n X.1 X.2.1 dX3_becomeProduct_83 rfl (lv_at hl 4 rfl) ?_
  refine gf_X3_40 (v := .long f.2.2.2) X hP 1 rfl rfl dX3_becomeProduct_84 ?_
  refine lv_lmul X.1 X.2.1 dX3_becomeProduct_87 ?_
  refine lv_lload X.1 X.2.1 dX3_becomeProduct_88 (lv_at hl 0 rfl) ?_
  refine lv_lmul X.1 X.2.1 dX3_becomeProduct_90 ?_
  refine lv_lsub X.1 X.2.1 dX3_becomeProduct_91 ?_
  refine lv_aload_n X.1 X.2.1 dX3_becomeProduct_92 rfl (lv_at hl 5 rfl) ?_
  refine gf_X3_9 (v := .long x.1) X hP 2 rfl rfl dX3_becomeProduct_93 ?_
  refine lv_aload_n X.1 X.2.1 dX3_becomeProduct_96 rfl (lv_at hl 6 rfl) ?_
  refine gf_X3_15 (v := .long x.2.1) X hP 2 rfl rfl dX3_becomeProduct_97 ?_
  refine lv_lmul X.1 X.2.1 dX3_becomeProduct_100 ?_
  refine lv_aload_n X.1 X.2.1 dX3_becomeProduct_101 rfl (lv_at hl 5 rfl) ?_
  refine gf_X3_15 (v := .long x.2.1) X hP 2 rfl rfl dX3_becomeProduct_102 ?_
  refine lv_aload_n X.1 X.2.1 dX3_becomeProduct_105 rfl (lv_at hl 6 rfl) ?_
  refine gf_X3_9 (v := .long x.1) X hP 2 rfl rfl dX3_becomeProduct_106 ?_
  refine lv_lmul X.1 X.2.1 dX3_becomeProduct_109 ?_
  refine lv_ladd X.1 X.2.1 dX3_becomeProduct_110 ?_
  refine lv_aload_n X.1 X.2.1 dX3_becomeProduct_111 rfl (lv_at hl 4 rfl) ?_
  refine gf_X3_29 (v := .long f.2.1) X hP 1 rfl rfl dX3_becomeProduct_112 ?_
  refine lv_lload X.1 X.2.1 dX3_becomeProduct_115 (lv_at hl 2 rfl) ?_
  refine lv_lmul X.1 X.2.1 dX3_becomeProduct_117 ?_
  refine lv_ladd X.1 X.2.1 dX3_becomeProduct_118 ?_
  refine lv_aload_n X.1 X.2.1 dX3_becomeProduct_119 rfl (lv_at hl 4 rfl) ?_
  refine gf_X3_40 (v := .long f.2.2.2) X hP 1 rfl rfl dX3_becomeProduct_120 ?_
  refine lv_lload X.1 X.2.1 dX3_becomeProduct_123 (lv_at hl 1 rfl) ?_
  refine lv_lmul X.1 X.2.1 dX3_becomeProduct_125 ?_
  refine lv_ladd X.1 X.2.1 dX3_becomeProduct_126 ?_
  refine lv_aload_n X.1 X.2.1 dX3_becomeProduct_127 rfl (lv_at hl 5 rfl) ?_
  refine gf_X3_9 (v := .long x.1) X hP 2 rfl rfl dX3_becomeProduct_128 ?_
  refine lv_aload_n X.1 X.2.1 dX3_becomeProduct_131 rfl (lv_at hl 6 rfl) ?_
  refine gf_X3_18 (v := .long x.2.2) X hP 2 rfl rfl dX3_becomeProduct_132 ?_
  refine lv_lmul X.1 X.2.1 dX3_becomeProduct_135 ?_
  refine lv_aload_n X.1 X.2.1 dX3_becomeProduct_136 rfl (lv_at hl 5 rfl) ?_
  refine gf_X3_18 (v := .long x.2.2) X hP 2 rfl rfl dX3_becomeProduct_137 ?_
  refine lv_aload_n X.1 X.2.1 dX3_becomeProduct_140 rfl (lv_at hl 6 rfl) ?_
  refine gf_X3_9 (v := .long x.1) X hP 2 rfl rfl dX3_becomeProduct_141 ?_
  refine lv_lmul X.1 X.2.1 dX3_becomeProduct_144 ?_
  refine lv_ladd X.1 X.2.1 dX3_becomeProduct_145 ?_
  refine lv_aload_n X.1 X.2.1 dX3_becomeProduct_146 rfl (lv_at hl 4 rfl) ?_
  refine gf_X3_37 (v := .long f.1) X hP 1 rfl rfl dX3_becomeProduct_147 ?_
  refine lv_lload X.1 X.2.1 dX3_becomeProduct_150 (lv_at hl 2 rfl) ?_
  refine lv_lmul X.1 X.2.1 dX3_becomeProduct_152 ?_
  refine lv_lsub X.1 X.2.1 dX3_becomeProduct_153 ?_
  refine lv_aload_n X.1 X.2.1 dX3_becomeProduct_154 rfl (lv_at hl 4 rfl) ?_
  refine gf_X3_34 (v := .long f.2.2.1) X hP 1 rfl rfl dX3_becomeProduct_155 ?_
  refine lv_lload X.1 X.2.1 dX3_becomeProduct_158 (lv_at hl 1 rfl) ?_
  refine lv_lmul X.1 X.2.1 dX3_becomeProduct_160 ?_
  refine lv_lsub X.1 X.2.1 dX3_becomeProduct_161 ?_
  refine fin_v (wr := [(hf, cubE f), (hx, elE x)]) (cv_X3_43 X (c_El_set l D cI cJ h0 e ((((x.1 * x.1) - ((f.1 * f.2.2.1) * (x.2.1 * x.2.1))) - ((f.2.1 * f.2.2.2) * (x.2.2 * x.2.2))) - ((f.1 * f.2.2.2) * ((x.2.1 * x.2.2) + (x.2.2 * x.2.1)))) ((((x.1 * x.2.1) + (x.2.1 * x.1)) + (f.2.1 * (x.2.1 * x.2.1))) + (f.2.2.2 * (x.2.2 * x.2.2))) ((((x.1 * x.2.2) + (x.2.2 * x.1)) - (f.1 * (x.2.1 * x.2.1))) - (f.2.2.1 * (x.2.2 * x.2.2)))  _) rfl rfl dX3_becomeProduct_162 hP hD 0 rfl [0] rfl rfl hl.1 rfl rfl (Nat.le_of_ble_eq_true rfl) ⟨Nat.le_of_ble_eq_true rfl, Nat.le_of_ble_eq_true rfl⟩ ⟨Nat.le_of_ble_eq_true rfl, Nat.le_of_ble_eq_true rfl⟩) hP hD hS hA [0] [1, 2] rfl rfl rfl (by decide) (fun u_2 H locs w_1 hP hD hS => ?_)
  have hP : va_P D vwCl [(hf, cubE f), (hx, elE x), (h0, elE (((((x.1 * x.1) - ((f.1 * f.2.2.1) * (x.2.1 * x.2.1))) - ((f.2.1 * f.2.2.2) * (x.2.2 * x.2.2))) - ((f.1 * f.2.2.2) * ((x.2.1 * x.2.2) + (x.2.2 * x.2.1)))), ((((x.1 * x.2.1) + (x.2.1 * x.1)) + (f.2.1 * (x.2.1 * x.2.1))) + (f.2.2.2 * (x.2.2 * x.2.2))), ((((x.1 * x.2.2) + (x.2.2 * x.1)) - (f.1 * (x.2.1 * x.2.1))) - (f.2.2.1 * (x.2.2 * x.2.2)))))] H := hP
  have hD : va_D AA [(hf, cubE f), (hx, elE x), (h0, elE (((((x.1 * x.1) - ((f.1 * f.2.2.1) * (x.2.1 * x.2.1))) - ((f.2.1 * f.2.2.2) * (x.2.2 * x.2.2))) - ((f.1 * f.2.2.2) * ((x.2.1 * x.2.2) + (x.2.2 * x.2.1)))), ((((x.1 * x.2.1) + (x.2.1 * x.1)) + (f.2.1 * (x.2.1 * x.2.1))) + (f.2.2.2 * (x.2.2 * x.2.2))), ((((x.1 * x.2.2) + (x.2.2 * x.1)) - (f.1 * (x.2.1 * x.2.1))) - (f.2.2.1 * (x.2.2 * x.2.2)))))] := hD
  exact hret () _ _ _ _ (trivial) (hP.sub [2, 0, 1] rfl) (hD.sub [2, 0, 1] rfl rfl) hS dX3_becomeProduct_165
set_option maxHeartbeats 4000000 in
set_option maxRecDepth 100000 in
theorem c_Ring_productOf (l : Launch) (D : va_G) (cI cJ : ClassId) (h0 : Nat) (o : Nat) (w : Nat) (z : Nat) (p : Nat) (r1 : Nat) (r2 : Nat) (r3 : Nat) (ep : Em) (hf : Nat) (f : Fm) (hx : Nat) (x : Em) (hy : Nat) (y : Em)  : CtR l yX2_productOf cX2_productOf 4 (.object "CubicForms$RingElement") (rmk 2 55) D cI cJ [.ref h0, .ref hf, .ref hx, .ref hy] [(h0, rgE o w z p r1 r2 r3), (p, elE ep), (hf, cubE f), (hx, elE x), (hy, elE y)] (fun (_ : Unit) => [(h0, rgE o w z p r1 r2 r3), (p, elE (prodE f x y)), (hf, cubE f), (hx, elE x), (hy, elE y)]) (fun (_ : Unit) => True) p := by
  refine CtR.of (own := RX2) (by decide +kernel) (Nat.le_of_ble_eq_true rfl) rfl (Or.inl ⟨_, rfl⟩) ?_
  intro pr_ en_ sg_ me_ ar_ be_ mt_ co_ AA ls QQ X hA hP hD hS hl hret
  have hl : lv_has ls 4 [(0, .ref h0), (1, .ref hf), (2, .ref hx), (3, .ref hy)] := hl
  refine lv_aload_n X.1 X.2.1 dX2_productOf_0 rfl (lv_at hl 0 rfl) ?_
  refine gf_X2_22 (v := .ref p) X hP 0 rfl rfl dX2_productOf_1 ?_
  refine lv_aload_n X.1 X.2.1 dX2_productOf_4 rfl (lv_at hl 1 rfl) ?_
  refine lv_aload_n X.1 X.2.1 dX2_productOf_5 rfl (lv_at hl 2 rfl) ?_
  refine lv_aload_n X.1 X.2.1 dX2_productOf_6 rfl (lv_at hl 3 rfl) ?_
  refine fin_v (wr := [(h0, rgE o w z p r1 r2 r3)]) (cv_X2_44 X (c_El_becomeProduct l D cI cJ p ep hf f hx x hy y  _) rfl rfl dX2_productOf_7 hP hD 1 rfl [1, 2, 3, 4] rfl rfl hl.1 rfl rfl (Nat.le_of_ble_eq_true rfl) ⟨Nat.le_of_ble_eq_true rfl, Nat.le_of_ble_eq_true rfl⟩ ⟨Nat.le_of_ble_eq_true rfl, Nat.le_of_ble_eq_true rfl⟩) hP hD hS hA [1, 2, 3, 4] [0] rfl rfl rfl (by decide) (fun u_2 H locs w_1 hP hD hS => ?_)
  have hP : va_P D vwCl [(h0, rgE o w z p r1 r2 r3), (p, elE (prodE f x y)), (hf, cubE f), (hx, elE x), (hy, elE y)] H := hP
  have hD : va_D AA [(h0, rgE o w z p r1 r2 r3), (p, elE (prodE f x y)), (hf, cubE f), (hx, elE x), (hy, elE y)] := hD
  refine lv_aload_n X.1 X.2.1 dX2_productOf_10 rfl (lv_at hl 0 rfl) ?_
  refine gf_X2_22 (v := .ref p) X hP 0 rfl rfl dX2_productOf_11 ?_
  exact hret () _ _ _ _ (trivial) (hP.sub [0, 1, 2, 3, 4] rfl) (hD.sub [0, 1, 2, 3, 4] rfl rfl) hS dX2_productOf_14
set_option maxHeartbeats 4000000 in
set_option maxRecDepth 100000 in
theorem c_Ring_squareOf (l : Launch) (D : va_G) (cI cJ : ClassId) (h0 : Nat) (o : Nat) (w : Nat) (z : Nat) (p : Nat) (r1 : Nat) (r2 : Nat) (r3 : Nat) (ep : Em) (hf : Nat) (f : Fm) (hx : Nat) (x : Em)  : CtR l yX2_productOf cX2_productOf 4 (.object "CubicForms$RingElement") (rmk 2 55) D cI cJ [.ref h0, .ref hf, .ref hx, .ref hx] [(h0, rgE o w z p r1 r2 r3), (p, elE ep), (hf, cubE f), (hx, elE x)] (fun (_ : Unit) => [(h0, rgE o w z p r1 r2 r3), (p, elE (prodE f x x)), (hf, cubE f), (hx, elE x)]) (fun (_ : Unit) => True) p := by
  refine CtR.of (own := RX2) (by decide +kernel) (Nat.le_of_ble_eq_true rfl) rfl (Or.inl ⟨_, rfl⟩) ?_
  intro pr_ en_ sg_ me_ ar_ be_ mt_ co_ AA ls QQ X hA hP hD hS hl hret
  have hl : lv_has ls 4 [(0, .ref h0), (1, .ref hf), (2, .ref hx), (3, .ref hx)] := hl
  refine lv_aload_n X.1 X.2.1 dX2_productOf_0 rfl (lv_at hl 0 rfl) ?_
  refine gf_X2_22 (v := .ref p) X hP 0 rfl rfl dX2_productOf_1 ?_
  refine lv_aload_n X.1 X.2.1 dX2_productOf_4 rfl (lv_at hl 1 rfl) ?_
  refine lv_aload_n X.1 X.2.1 dX2_productOf_5 rfl (lv_at hl 2 rfl) ?_
  refine lv_aload_n X.1 X.2.1 dX2_productOf_6 rfl (lv_at hl 3 rfl) ?_
  refine fin_v (wr := [(h0, rgE o w z p r1 r2 r3)]) (cv_X2_44 X (c_El_becomeSquare l D cI cJ p ep hf f hx x  _) rfl rfl dX2_productOf_7 hP hD 1 rfl [1, 2, 3] rfl rfl hl.1 rfl rfl (Nat.le_of_ble_eq_true rfl) ⟨Nat.le_of_ble_eq_true rfl, Nat.le_of_ble_eq_true rfl⟩ ⟨Nat.le_of_ble_eq_true rfl, Nat.le_of_ble_eq_true rfl⟩) hP hD hS hA [1, 2, 3] [0] rfl rfl rfl (by decide) (fun u_2 H locs w_1 hP hD hS => ?_)
  have hP : va_P D vwCl [(h0, rgE o w z p r1 r2 r3), (p, elE (prodE f x x)), (hf, cubE f), (hx, elE x)] H := hP
  have hD : va_D AA [(h0, rgE o w z p r1 r2 r3), (p, elE (prodE f x x)), (hf, cubE f), (hx, elE x)] := hD
  refine lv_aload_n X.1 X.2.1 dX2_productOf_10 rfl (lv_at hl 0 rfl) ?_
  refine gf_X2_22 (v := .ref p) X hP 0 rfl rfl dX2_productOf_11 ?_
  exact hret () _ _ _ _ (trivial) (hP.sub [0, 1, 2, 3] rfl) (hD.sub [0, 1, 2, 3] rfl rfl) hS dX2_productOf_14
set_option maxHeartbeats 4000000 in
set_option maxRecDepth 100000 in
theorem c_Ring_determinantOfRows (l : Launch) (D : va_G) (cI cJ : ClassId) (h0 : Nat) (o : Nat) (w : Nat) (z : Nat) (p : Nat) (r1 : Nat) (r2 : Nat) (r3 : Nat) (e1 : Em) (e2 : Em) (e3 : Em)  : CtL l yX2_determinantOfRows cX2_determinantOfRows 1 (rmk 0 0) D cI cJ [.ref h0] [(h0, rgE o w z p r1 r2 r3), (r1, elE e1), (r2, elE e2), (r3, elE e3)] (fun (_ : Unit) => [(h0, rgE o w z p r1 r2 r3), (r1, elE e1), (r2, elE e2), (r3, elE e3)]) (fun (r : Int64) (_ : Unit) => r = detE e1 e2 e3) := by
  refine CtL.of (own := RX2) (by decide +kernel) (Nat.le_of_ble_eq_true rfl) rfl ?_
  intro pr_ en_ sg_ me_ ar_ be_ mt_ co_ AA ls QQ X hA hP hD hS hl hret
  have hl : lv_has ls 1 [(0, .ref h0)] := hl
  refine lv_aload_n X.1 X.2.1 dX2_determinantOfRows_0 rfl (lv_at hl 0 rfl) ?_
  refine gf_X2_25 (v := .ref r1) X hP 0 rfl rfl dX2_determinantOfRows_1 ?_
  refine gf_X2_34 (v := .long e1.1) X hP 1 rfl rfl dX2_determinantOfRows_4 ?_
  refine lv_aload_n X.1 X.2.1 dX2_determinantOfRows_7 rfl (lv_at hl 0 rfl) ?_
  refine gf_X2_28 (v := .ref r2) X hP 0 rfl rfl dX2_determinantOfRows_8 ?_
  refine gf_X2_38 (v := .long e2.2.1) X hP 2 rfl rfl dX2_determinantOfRows_11 ?_
  refine lv_aload_n X.1 X.2.1 dX2_determinantOfRows_14 rfl (lv_at hl 0 rfl) ?_
  refine gf_X2_31 (v := .ref r3) X hP 0 rfl rfl dX2_determinantOfRows_15 ?_
  refine gf_X2_41 (v := .long e3.2.2) X hP 3 rfl rfl dX2_determinantOfRows_18 ?_
  refine lv_lmul X.1 X.2.1 dX2_determinantOfRows_21 ?_
  refine lv_aload_n X.1 X.2.1 dX2_determinantOfRows_22 rfl (lv_at hl 0 rfl) ?_
  refine gf_X2_28 (v := .ref r2) X hP 0 rfl rfl dX2_determinantOfRows_23 ?_
  refine gf_X2_41 (v := .long e2.2.2) X hP 2 rfl rfl dX2_determinantOfRows_26 ?_
  refine lv_aload_n X.1 X.2.1 dX2_determinantOfRows_29 rfl (lv_at hl 0 rfl) ?_
  refine gf_X2_31 (v := .ref r3) X hP 0 rfl rfl dX2_determinantOfRows_30 ?_
  refine gf_X2_38 (v := .long e3.2.1) X hP 3 rfl rfl dX2_determinantOfRows_33 ?_
  refine lv_lmul X.1 X.2.1 dX2_determinantOfRows_36 ?_
  refine lv_lsub X.1 X.2.1 dX2_determinantOfRows_37 ?_
  refine lv_lmul X.1 X.2.1 dX2_determinantOfRows_38 ?_
  refine lv_aload_n X.1 X.2.1 dX2_determinantOfRows_39 rfl (lv_at hl 0 rfl) ?_
  refine gf_X2_25 (v := .ref r1) X hP 0 rfl rfl dX2_determinantOfRows_40 ?_
  refine gf_X2_38 (v := .long e1.2.1) X hP 1 rfl rfl dX2_determinantOfRows_43 ?_
  refine lv_aload_n X.1 X.2.1 dX2_determinantOfRows_46 rfl (lv_at hl 0 rfl) ?_
  refine gf_X2_28 (v := .ref r2) X hP 0 rfl rfl dX2_determinantOfRows_47 ?_
  refine gf_X2_34 (v := .long e2.1) X hP 2 rfl rfl dX2_determinantOfRows_50 ?_
  refine lv_aload_n X.1 X.2.1 dX2_determinantOfRows_53 rfl (lv_at hl 0 rfl) ?_
  refine gf_X2_31 (v := .ref r3) X hP 0 rfl rfl dX2_determinantOfRows_54 ?_
  refine gf_X2_41 (v := .long e3.2.2) X hP 3 rfl rfl dX2_determinantOfRows_57 ?_
  refine lv_lmul X.1 X.2.1 dX2_determinantOfRows_60 ?_
  refine lv_aload_n X.1 X.2.1 dX2_determinantOfRows_61 rfl (lv_at hl 0 rfl) ?_
  refine gf_X2_28 (v := .ref r2) X hP 0 rfl rfl dX2_determinantOfRows_62 ?_
  refine gf_X2_41 (v := .long e2.2.2) X hP 2 rfl rfl dX2_determinantOfRows_65 ?_
  refine lv_aload_n X.1 X.2.1 dX2_determinantOfRows_68 rfl (lv_at hl 0 rfl) ?_
  refine gf_X2_31 (v := .ref r3) X hP 0 rfl rfl dX2_determinantOfRows_69 ?_
  refine gf_X2_34 (v := .long e3.1) X hP 3 rfl rfl dX2_determinantOfRows_72 ?_
  refine lv_lmul X.1 X.2.1 dX2_determinantOfRows_75 ?_
  refine lv_lsub X.1 X.2.1 dX2_determinantOfRows_76 ?_
  refine lv_lmul X.1 X.2.1 dX2_determinantOfRows_77 ?_
  refine lv_lsub X.1 X.2.1 dX2_determinantOfRows_78 ?_
  refine lv_aload_n X.1 X.2.1 dX2_determinantOfRows_79 rfl (lv_at hl 0 rfl) ?_
  refine gf_X2_25 (v := .ref r1) X hP 0 rfl rfl dX2_determinantOfRows_80 ?_
  refine gf_X2_41 (v := .long e1.2.2) X hP 1 rfl rfl dX2_determinantOfRows_83 ?_
  refine lv_aload_n X.1 X.2.1 dX2_determinantOfRows_86 rfl (lv_at hl 0 rfl) ?_
  refine gf_X2_28 (v := .ref r2) X hP 0 rfl rfl dX2_determinantOfRows_87 ?_
  refine gf_X2_34 (v := .long e2.1) X hP 2 rfl rfl dX2_determinantOfRows_90 ?_
  refine lv_aload_n X.1 X.2.1 dX2_determinantOfRows_93 rfl (lv_at hl 0 rfl) ?_
  refine gf_X2_31 (v := .ref r3) X hP 0 rfl rfl dX2_determinantOfRows_94 ?_
  refine gf_X2_38 (v := .long e3.2.1) X hP 3 rfl rfl dX2_determinantOfRows_97 ?_
  refine lv_lmul X.1 X.2.1 dX2_determinantOfRows_100 ?_
  refine lv_aload_n X.1 X.2.1 dX2_determinantOfRows_101 rfl (lv_at hl 0 rfl) ?_
  refine gf_X2_28 (v := .ref r2) X hP 0 rfl rfl dX2_determinantOfRows_102 ?_
  refine gf_X2_38 (v := .long e2.2.1) X hP 2 rfl rfl dX2_determinantOfRows_105 ?_
  refine lv_aload_n X.1 X.2.1 dX2_determinantOfRows_108 rfl (lv_at hl 0 rfl) ?_
  refine gf_X2_31 (v := .ref r3) X hP 0 rfl rfl dX2_determinantOfRows_109 ?_
  refine gf_X2_34 (v := .long e3.1) X hP 3 rfl rfl dX2_determinantOfRows_112 ?_
  refine lv_lmul X.1 X.2.1 dX2_determinantOfRows_115 ?_
  refine lv_lsub X.1 X.2.1 dX2_determinantOfRows_116 ?_
  refine lv_lmul X.1 X.2.1 dX2_determinantOfRows_117 ?_
  refine lv_ladd X.1 X.2.1 dX2_determinantOfRows_118 ?_
  exact hret (((e1.1 * ((e2.2.1 * e3.2.2) - (e2.2.2 * e3.2.1))) - (e1.2.1 * ((e2.1 * e3.2.2) - (e2.2.2 * e3.1)))) + (e1.2.2 * ((e2.1 * e3.2.1) - (e2.2.1 * e3.1)))) () _ _ _ _ (rfl) (hP.sub [0, 1, 2, 3] rfl) (hD.sub [0, 1, 2, 3] rfl rfl) hS dX2_determinantOfRows_119
set_option maxHeartbeats 4000000 in
set_option maxRecDepth 100000 in
theorem c_Ring_normOf (l : Launch) (D : va_G) (cI cJ : ClassId) (h0 : Nat) (o : Nat) (w : Nat) (z : Nat) (p : Nat) (r1 : Nat) (r2 : Nat) (r3 : Nat) (e1 : Em) (e2 : Em) (e3 : Em) (hf : Nat) (f : Fm) (hx : Nat) (x : Em)  : CtL l yX2_normOf cX2_normOf 3 (rmk 2 55) D cI cJ [.ref h0, .ref hf, .ref hx] [(h0, rgE o w z p r1 r2 r3), (r1, elE e1), (r2, elE e2), (r3, elE e3), (o, elE (1, 0, 0)), (w, elE (0, 1, 0)), (z, elE (0, 0, 1)), (hf, cubE f), (hx, elE x)] (fun (_ : Unit) => [(h0, rgE o w z p r1 r2 r3), (r1, elE (prodE f x (1, 0, 0))), (r2, elE (prodE f x (0, 1, 0))), (r3, elE (prodE f x (0, 0, 1))), (o, elE (1, 0, 0)), (w, elE (0, 1, 0)), (z, elE (0, 0, 1)), (hf, cubE f), (hx, elE x)]) (fun (r : Int64) (_ : Unit) => r = detE (prodE f x (1, 0, 0)) (prodE f x (0, 1, 0)) (prodE f x (0, 0, 1))) := by
  refine CtL.of (own := RX2) (by decide +kernel) (Nat.le_of_ble_eq_true rfl) rfl ?_
  intro pr_ en_ sg_ me_ ar_ be_ mt_ co_ AA ls QQ X hA hP hD hS hl hret
  have hl : lv_has ls 3 [(0, .ref h0), (1, .ref hf), (2, .ref hx)] := hl
  refine lv_aload_n X.1 X.2.1 dX2_normOf_0 rfl (lv_at hl 0 rfl) ?_
  refine gf_X2_25 (v := .ref r1) X hP 0 rfl rfl dX2_normOf_1 ?_
  refine lv_aload_n X.1 X.2.1 dX2_normOf_4 rfl (lv_at hl 1 rfl) ?_
  refine lv_aload_n X.1 X.2.1 dX2_normOf_5 rfl (lv_at hl 2 rfl) ?_
  refine lv_aload_n X.1 X.2.1 dX2_normOf_6 rfl (lv_at hl 0 rfl) ?_
  refine gf_X2_10 (v := .ref o) X hP 0 rfl rfl dX2_normOf_7 ?_
  refine fin_v (wr := [(h0, rgE o w z p r1 r2 r3), (r2, elE e2), (r3, elE e3), (w, elE (0, 1, 0)), (z, elE (0, 0, 1))]) (cv_X2_44 X (c_El_becomeProduct l D cI cJ r1 e1 hf f hx x o (1, 0, 0)  _) rfl rfl dX2_normOf_10 hP hD 1 rfl [1, 7, 8, 4] rfl rfl hl.1 rfl rfl (Nat.le_of_ble_eq_true rfl) ⟨Nat.le_of_ble_eq_true rfl, Nat.le_of_ble_eq_true rfl⟩ ⟨Nat.le_of_ble_eq_true rfl, Nat.le_of_ble_eq_true rfl⟩) hP hD hS hA [1, 7, 8, 4] [0, 2, 3, 5, 6] rfl rfl rfl (by decide) (fun u_2 H locs w_1 hP hD hS => ?_)
  have hP : va_P D vwCl [(h0, rgE o w z p r1 r2 r3), (r2, elE e2), (r3, elE e3), (w, elE (0, 1, 0)), (z, elE (0, 0, 1)), (r1, elE (prodE f x (1, 0, 0))), (hf, cubE f), (hx, elE x), (o, elE (1, 0, 0))] H := hP
  have hD : va_D AA [(h0, rgE o w z p r1 r2 r3), (r2, elE e2), (r3, elE e3), (w, elE (0, 1, 0)), (z, elE (0, 0, 1)), (r1, elE (prodE f x (1, 0, 0))), (hf, cubE f), (hx, elE x), (o, elE (1, 0, 0))] := hD
  refine lv_aload_n X.1 X.2.1 dX2_normOf_13 rfl (lv_at hl 0 rfl) ?_
  refine gf_X2_28 (v := .ref r2) X hP 0 rfl rfl dX2_normOf_14 ?_
  refine lv_aload_n X.1 X.2.1 dX2_normOf_17 rfl (lv_at hl 1 rfl) ?_
  refine lv_aload_n X.1 X.2.1 dX2_normOf_18 rfl (lv_at hl 2 rfl) ?_
  refine lv_aload_n X.1 X.2.1 dX2_normOf_19 rfl (lv_at hl 0 rfl) ?_
  refine gf_X2_16 (v := .ref w) X hP 0 rfl rfl dX2_normOf_20 ?_
  refine fin_v (wr := [(h0, rgE o w z p r1 r2 r3), (r3, elE e3), (z, elE (0, 0, 1)), (r1, elE (prodE f x (1, 0, 0))), (o, elE (1, 0, 0))]) (cv_X2_44 X (c_El_becomeProduct l D cI cJ r2 e2 hf f hx x w (0, 1, 0)  _) rfl rfl dX2_normOf_23 hP hD 1 rfl [1, 6, 7, 3] rfl rfl hl.1 rfl rfl (Nat.le_of_ble_eq_true rfl) ⟨Nat.le_of_ble_eq_true rfl, Nat.le_of_ble_eq_true rfl⟩ ⟨Nat.le_of_ble_eq_true rfl, Nat.le_of_ble_eq_true rfl⟩) hP hD hS hA [1, 6, 7, 3] [0, 2, 4, 5, 8] rfl rfl rfl (by decide) (fun u_5 H locs w_4 hP hD hS => ?_)
  have hP : va_P D vwCl [(h0, rgE o w z p r1 r2 r3), (r3, elE e3), (z, elE (0, 0, 1)), (r1, elE (prodE f x (1, 0, 0))), (o, elE (1, 0, 0)), (r2, elE (prodE f x (0, 1, 0))), (hf, cubE f), (hx, elE x), (w, elE (0, 1, 0))] H := hP
  have hD : va_D AA [(h0, rgE o w z p r1 r2 r3), (r3, elE e3), (z, elE (0, 0, 1)), (r1, elE (prodE f x (1, 0, 0))), (o, elE (1, 0, 0)), (r2, elE (prodE f x (0, 1, 0))), (hf, cubE f), (hx, elE x), (w, elE (0, 1, 0))] := hD
  refine lv_aload_n X.1 X.2.1 dX2_normOf_26 rfl (lv_at hl 0 rfl) ?_
  refine gf_X2_31 (v := .ref r3) X hP 0 rfl rfl dX2_normOf_27 ?_
  refine lv_aload_n X.1 X.2.1 dX2_normOf_30 rfl (lv_at hl 1 rfl) ?_
  refine lv_aload_n X.1 X.2.1 dX2_normOf_31 rfl (lv_at hl 2 rfl) ?_
  refine lv_aload_n X.1 X.2.1 dX2_normOf_32 rfl (lv_at hl 0 rfl) ?_
  refine gf_X2_19 (v := .ref z) X hP 0 rfl rfl dX2_normOf_33 ?_
  refine fin_v (wr := [(h0, rgE o w z p r1 r2 r3), (r1, elE (prodE f x (1, 0, 0))), (o, elE (1, 0, 0)), (r2, elE (prodE f x (0, 1, 0))), (w, elE (0, 1, 0))]) (cv_X2_44 X (c_El_becomeProduct l D cI cJ r3 e3 hf f hx x z (0, 0, 1)  _) rfl rfl dX2_normOf_36 hP hD 1 rfl [1, 6, 7, 2] rfl rfl hl.1 rfl rfl (Nat.le_of_ble_eq_true rfl) ⟨Nat.le_of_ble_eq_true rfl, Nat.le_of_ble_eq_true rfl⟩ ⟨Nat.le_of_ble_eq_true rfl, Nat.le_of_ble_eq_true rfl⟩) hP hD hS hA [1, 6, 7, 2] [0, 3, 4, 5, 8] rfl rfl rfl (by decide) (fun u_8 H locs w_7 hP hD hS => ?_)
  have hP : va_P D vwCl [(h0, rgE o w z p r1 r2 r3), (r1, elE (prodE f x (1, 0, 0))), (o, elE (1, 0, 0)), (r2, elE (prodE f x (0, 1, 0))), (w, elE (0, 1, 0)), (r3, elE (prodE f x (0, 0, 1))), (hf, cubE f), (hx, elE x), (z, elE (0, 0, 1))] H := hP
  have hD : va_D AA [(h0, rgE o w z p r1 r2 r3), (r1, elE (prodE f x (1, 0, 0))), (o, elE (1, 0, 0)), (r2, elE (prodE f x (0, 1, 0))), (w, elE (0, 1, 0)), (r3, elE (prodE f x (0, 0, 1))), (hf, cubE f), (hx, elE x), (z, elE (0, 0, 1))] := hD
  refine lv_aload_n X.1 X.2.1 dX2_normOf_39 rfl (lv_at hl 0 rfl) ?_
  refine fin_l (wr := [(o, elE (1, 0, 0)), (w, elE (0, 1, 0)), (hf, cubE f), (hx, elE x), (z, elE (0, 0, 1))]) (cv_X2_48 X (c_Ring_determinantOfRows l D cI cJ h0 o w z p r1 r2 r3 (prodE f x (1, 0, 0)) (prodE f x (0, 1, 0)) (prodE f x (0, 0, 1))  _) rfl rfl dX2_normOf_40 hP hD 0 rfl [0, 1, 3, 5] rfl rfl hl.1 rfl rfl (Nat.le_of_ble_eq_true rfl) ⟨Nat.le_of_ble_eq_true rfl, Nat.le_of_ble_eq_true rfl⟩ ⟨Nat.le_of_ble_eq_true rfl, Nat.le_of_ble_eq_true rfl⟩) hP hD hS hA [0, 1, 3, 5] [2, 4, 6, 7, 8] rfl rfl rfl (by decide) (fun r_12 u_11 H locs w_10 hP hD hS => ?_)
  have hP : va_P D vwCl [(o, elE (1, 0, 0)), (w, elE (0, 1, 0)), (hf, cubE f), (hx, elE x), (z, elE (0, 0, 1)), (h0, rgE o w z p r1 r2 r3), (r1, elE (prodE f x (1, 0, 0))), (r2, elE (prodE f x (0, 1, 0))), (r3, elE (prodE f x (0, 0, 1)))] H := hP
  have hD : va_D AA [(o, elE (1, 0, 0)), (w, elE (0, 1, 0)), (hf, cubE f), (hx, elE x), (z, elE (0, 0, 1)), (h0, rgE o w z p r1 r2 r3), (r1, elE (prodE f x (1, 0, 0))), (r2, elE (prodE f x (0, 1, 0))), (r3, elE (prodE f x (0, 0, 1)))] := hD
  subst w_10
  exact hret (detE (prodE f x (1, 0, 0)) (prodE f x (0, 1, 0)) (prodE f x (0, 0, 1))) () _ _ _ _ (rfl) (hP.sub [5, 6, 7, 8, 0, 1, 4, 2, 3] rfl) (hD.sub [5, 6, 7, 8, 0, 1, 4, 2, 3] rfl rfl) hS dX2_normOf_43
set_option maxHeartbeats 4000000 in
set_option maxRecDepth 100000 in
theorem c_Ring_setTraces_o (l : Launch) (D : va_G) (cI cJ : ClassId) (h0 : Nat) (o : Nat) (w : Nat) (z : Nat) (p : Nat) (r1 : Nat) (r2 : Nat) (r3 : Nat) (ep : Em) (hf : Nat) (f : Fm) (hr : Nat) (er : Em)  : CtV l yX2_setTraces cX2_setTraces 4 (rmk 3 78) D cI cJ [.ref h0, .ref hf, .ref hr, .ref o] [(h0, rgE o w z p r1 r2 r3), (o, elE (1, 0, 0)), (w, elE (0, 1, 0)), (z, elE (0, 0, 1)), (p, elE ep), (hf, cubE f), (hr, elE er)] (fun (u : Em) => [(h0, rgE o w z p r1 r2 r3), (o, elE (1, 0, 0)), (w, elE (0, 1, 0)), (z, elE (0, 0, 1)), (p, elE u), (hf, cubE f), (hr, elE (trowE f (1, 0, 0)))]) (fun (u : Em) => True) 0 0 := by
  refine CtV.of (own := RX2) (by decide +kernel) (Nat.le_of_ble_eq_true rfl) rfl ?_
  intro pr_ en_ sg_ me_ ar_ be_ mt_ co_ AA ls QQ X hin hA hP hD hS hl hret
  have hl : lv_has ls 4 [(0, .ref h0), (1, .ref hf), (2, .ref hr), (3, .ref o)] := hl
  refine lv_aload_n X.1 X.2.1 dX2_setTraces_0 rfl (lv_at hl 2 rfl) ?_
  refine lv_aload_n X.1 X.2.1 dX2_setTraces_1 rfl (lv_at hl 0 rfl) ?_
  refine lv_aload_n X.1 X.2.1 dX2_setTraces_2 rfl (lv_at hl 1 rfl) ?_
  refine lv_aload_n X.1 X.2.1 dX2_setTraces_3 rfl (lv_at hl 3 rfl) ?_
  refine lv_aload_n X.1 X.2.1 dX2_setTraces_4 rfl (lv_at hl 0 rfl) ?_
  refine gf_X2_10 (v := .ref o) X hP 0 rfl rfl dX2_setTraces_5 ?_
  refine fin_r (wr := [(w, elE (0, 1, 0)), (z, elE (0, 0, 1)), (hr, elE er)]) (cv_X2_55 X (c_Ring_squareOf l D cI cJ h0 o w z p r1 r2 r3 ep hf f o (1, 0, 0)  _) rfl rfl dX2_setTraces_8 hP hD 0 rfl [0, 4, 5, 1] rfl rfl hl.1 rfl rfl (Nat.le_of_ble_eq_true rfl) ⟨Nat.le_of_ble_eq_true rfl, Nat.le_of_ble_eq_true rfl⟩ ⟨Nat.le_of_ble_eq_true rfl, Nat.le_of_ble_eq_true rfl⟩) hP hD hS hA [0, 4, 5, 1] [2, 3, 6] rfl rfl rfl (by decide) (fun u_2 H locs w_1 hP hD hS => ?_)
  have hP : va_P D vwCl [(w, elE (0, 1, 0)), (z, elE (0, 0, 1)), (hr, elE er), (h0, rgE o w z p r1 r2 r3), (p, elE (prodE f (1, 0, 0) (1, 0, 0))), (hf, cubE f), (o, elE (1, 0, 0))] H := hP
  have hD : va_D AA [(w, elE (0, 1, 0)), (z, elE (0, 0, 1)), (hr, elE er), (h0, rgE o w z p r1 r2 r3), (p, elE (prodE f (1, 0, 0) (1, 0, 0))), (hf, cubE f), (o, elE (1, 0, 0))] := hD
  refine lv_aload_n X.1 X.2.1 dX2_setTraces_11 rfl (lv_at hl 1 rfl) ?_
  refine fin_l (wr := [(w, elE (0, 1, 0)), (z, elE (0, 0, 1)), (hr, elE er), (h0, rgE o w z p r1 r2 r3), (o, elE (1, 0, 0))]) (cv_X2_59 X (c_El_traceIn l D cI cJ p (prodE f (1, 0, 0) (1, 0, 0)) hf f  _) rfl rfl dX2_setTraces_12 hP hD 4 rfl [4, 5] rfl rfl hl.1 rfl rfl (Nat.le_of_ble_eq_true rfl) ⟨Nat.le_of_ble_eq_true rfl, Nat.le_of_ble_eq_true rfl⟩ ⟨Nat.le_of_ble_eq_true rfl, Nat.le_of_ble_eq_true rfl⟩) hP hD hS hA [4, 5] [0, 1, 2, 3, 6] rfl rfl rfl (by decide) (fun r_6 u_5 H locs w_4 hP hD hS => ?_)
  have hP : va_P D vwCl [(w, elE (0, 1, 0)), (z, elE (0, 0, 1)), (hr, elE er), (h0, rgE o w z p r1 r2 r3), (o, elE (1, 0, 0)), (p, elE (prodE f (1, 0, 0) (1, 0, 0))), (hf, cubE f)] H := hP
  have hD : va_D AA [(w, elE (0, 1, 0)), (z, elE (0, 0, 1)), (hr, elE er), (h0, rgE o w z p r1 r2 r3), (o, elE (1, 0, 0)), (p, elE (prodE f (1, 0, 0) (1, 0, 0))), (hf, cubE f)] := hD
  subst w_4
  refine lv_aload_n X.1 X.2.1 dX2_setTraces_15 rfl (lv_at hl 0 rfl) ?_
  refine lv_aload_n X.1 X.2.1 dX2_setTraces_16 rfl (lv_at hl 1 rfl) ?_
  refine lv_aload_n X.1 X.2.1 dX2_setTraces_17 rfl (lv_at hl 3 rfl) ?_
  refine lv_aload_n X.1 X.2.1 dX2_setTraces_18 rfl (lv_at hl 0 rfl) ?_
  refine gf_X2_16 (v := .ref w) X hP 3 rfl rfl dX2_setTraces_19 ?_
  refine fin_r (wr := [(z, elE (0, 0, 1)), (hr, elE er)]) (cv_X2_55 X (c_Ring_productOf l D cI cJ h0 o w z p r1 r2 r3 (prodE f (1, 0, 0) (1, 0, 0)) hf f o (1, 0, 0) w (0, 1, 0)  _) rfl rfl dX2_setTraces_22 hP hD 3 rfl [3, 5, 6, 4, 0] rfl rfl hl.1 rfl rfl (Nat.le_of_ble_eq_true rfl) ⟨Nat.le_of_ble_eq_true rfl, Nat.le_of_ble_eq_true rfl⟩ ⟨Nat.le_of_ble_eq_true rfl, Nat.le_of_ble_eq_true rfl⟩) hP hD hS hA [3, 5, 6, 4, 0] [1, 2] rfl rfl rfl (by decide) (fun u_8 H locs w_7 hP hD hS => ?_)
  have hP : va_P D vwCl [(z, elE (0, 0, 1)), (hr, elE er), (h0, rgE o w z p r1 r2 r3), (p, elE (prodE f (1, 0, 0) (0, 1, 0))), (hf, cubE f), (o, elE (1, 0, 0)), (w, elE (0, 1, 0))] H := hP
  have hD : va_D AA [(z, elE (0, 0, 1)), (hr, elE er), (h0, rgE o w z p r1 r2 r3), (p, elE (prodE f (1, 0, 0) (0, 1, 0))), (hf, cubE f), (o, elE (1, 0, 0)), (w, elE (0, 1, 0))] := hD
  refine lv_aload_n X.1 X.2.1 dX2_setTraces_25 rfl (lv_at hl 1 rfl) ?_
  refine fin_l (wr := [(z, elE (0, 0, 1)), (hr, elE er), (h0, rgE o w z p r1 r2 r3), (o, elE (1, 0, 0)), (w, elE (0, 1, 0))]) (cv_X2_59 X (c_El_traceIn l D cI cJ p (prodE f (1, 0, 0) (0, 1, 0)) hf f  _) rfl rfl dX2_setTraces_26 hP hD 3 rfl [3, 4] rfl rfl hl.1 rfl rfl (Nat.le_of_ble_eq_true rfl) ⟨Nat.le_of_ble_eq_true rfl, Nat.le_of_ble_eq_true rfl⟩ ⟨Nat.le_of_ble_eq_true rfl, Nat.le_of_ble_eq_true rfl⟩) hP hD hS hA [3, 4] [0, 1, 2, 5, 6] rfl rfl rfl (by decide) (fun r_12 u_11 H locs w_10 hP hD hS => ?_)
  have hP : va_P D vwCl [(z, elE (0, 0, 1)), (hr, elE er), (h0, rgE o w z p r1 r2 r3), (o, elE (1, 0, 0)), (w, elE (0, 1, 0)), (p, elE (prodE f (1, 0, 0) (0, 1, 0))), (hf, cubE f)] H := hP
  have hD : va_D AA [(z, elE (0, 0, 1)), (hr, elE er), (h0, rgE o w z p r1 r2 r3), (o, elE (1, 0, 0)), (w, elE (0, 1, 0)), (p, elE (prodE f (1, 0, 0) (0, 1, 0))), (hf, cubE f)] := hD
  subst w_10
  refine lv_aload_n X.1 X.2.1 dX2_setTraces_29 rfl (lv_at hl 0 rfl) ?_
  refine lv_aload_n X.1 X.2.1 dX2_setTraces_30 rfl (lv_at hl 1 rfl) ?_
  refine lv_aload_n X.1 X.2.1 dX2_setTraces_31 rfl (lv_at hl 3 rfl) ?_
  refine lv_aload_n X.1 X.2.1 dX2_setTraces_32 rfl (lv_at hl 0 rfl) ?_
  refine gf_X2_19 (v := .ref z) X hP 2 rfl rfl dX2_setTraces_33 ?_
  refine fin_r (wr := [(hr, elE er), (w, elE (0, 1, 0))]) (cv_X2_55 X (c_Ring_productOf l D cI cJ h0 o w z p r1 r2 r3 (prodE f (1, 0, 0) (0, 1, 0)) hf f o (1, 0, 0) z (0, 0, 1)  _) rfl rfl dX2_setTraces_36 hP hD 2 rfl [2, 5, 6, 3, 0] rfl rfl hl.1 rfl rfl (Nat.le_of_ble_eq_true rfl) ⟨Nat.le_of_ble_eq_true rfl, Nat.le_of_ble_eq_true rfl⟩ ⟨Nat.le_of_ble_eq_true rfl, Nat.le_of_ble_eq_true rfl⟩) hP hD hS hA [2, 5, 6, 3, 0] [1, 4] rfl rfl rfl (by decide) (fun u_14 H locs w_13 hP hD hS => ?_)
  have hP : va_P D vwCl [(hr, elE er), (w, elE (0, 1, 0)), (h0, rgE o w z p r1 r2 r3), (p, elE (prodE f (1, 0, 0) (0, 0, 1))), (hf, cubE f), (o, elE (1, 0, 0)), (z, elE (0, 0, 1))] H := hP
  have hD : va_D AA [(hr, elE er), (w, elE (0, 1, 0)), (h0, rgE o w z p r1 r2 r3), (p, elE (prodE f (1, 0, 0) (0, 0, 1))), (hf, cubE f), (o, elE (1, 0, 0)), (z, elE (0, 0, 1))] := hD
  refine lv_aload_n X.1 X.2.1 dX2_setTraces_39 rfl (lv_at hl 1 rfl) ?_
  refine fin_l (wr := [(hr, elE er), (w, elE (0, 1, 0)), (h0, rgE o w z p r1 r2 r3), (o, elE (1, 0, 0)), (z, elE (0, 0, 1))]) (cv_X2_59 X (c_El_traceIn l D cI cJ p (prodE f (1, 0, 0) (0, 0, 1)) hf f  _) rfl rfl dX2_setTraces_40 hP hD 3 rfl [3, 4] rfl rfl hl.1 rfl rfl (Nat.le_of_ble_eq_true rfl) ⟨Nat.le_of_ble_eq_true rfl, Nat.le_of_ble_eq_true rfl⟩ ⟨Nat.le_of_ble_eq_true rfl, Nat.le_of_ble_eq_true rfl⟩) hP hD hS hA [3, 4] [0, 1, 2, 5, 6] rfl rfl rfl (by decide) (fun r_18 u_17 H locs w_16 hP hD hS => ?_)
  have hP : va_P D vwCl [(hr, elE er), (w, elE (0, 1, 0)), (h0, rgE o w z p r1 r2 r3), (o, elE (1, 0, 0)), (z, elE (0, 0, 1)), (p, elE (prodE f (1, 0, 0) (0, 0, 1))), (hf, cubE f)] H := hP
  have hD : va_D AA [(hr, elE er), (w, elE (0, 1, 0)), (h0, rgE o w z p r1 r2 r3), (o, elE (1, 0, 0)), (z, elE (0, 0, 1)), (p, elE (prodE f (1, 0, 0) (0, 0, 1))), (hf, cubE f)] := hD
  subst w_16
  refine fin_v (wr := [(w, elE (0, 1, 0)), (h0, rgE o w z p r1 r2 r3), (o, elE (1, 0, 0)), (z, elE (0, 0, 1)), (p, elE (prodE f (1, 0, 0) (0, 0, 1))), (hf, cubE f)]) (cv_X2_63 X (c_El_set l D cI cJ hr er (traceE (prodE f (1, 0, 0) (1, 0, 0)) f) (traceE (prodE f (1, 0, 0) (0, 1, 0)) f) (traceE (prodE f (1, 0, 0) (0, 0, 1)) f)  _) rfl rfl dX2_setTraces_43 hP hD 0 rfl [0] rfl rfl hl.1 rfl rfl (Nat.le_of_ble_eq_true rfl) ⟨Nat.le_of_ble_eq_true rfl, Nat.le_of_ble_eq_true rfl⟩ ⟨Nat.le_of_ble_eq_true rfl, Nat.le_of_ble_eq_true rfl⟩) hP hD hS hA [0] [1, 2, 3, 4, 5, 6] rfl rfl rfl (by decide) (fun u_20 H locs w_19 hP hD hS => ?_)
  have hP : va_P D vwCl [(w, elE (0, 1, 0)), (h0, rgE o w z p r1 r2 r3), (o, elE (1, 0, 0)), (z, elE (0, 0, 1)), (p, elE (prodE f (1, 0, 0) (0, 0, 1))), (hf, cubE f), (hr, elE ((traceE (prodE f (1, 0, 0) (1, 0, 0)) f), (traceE (prodE f (1, 0, 0) (0, 1, 0)) f), (traceE (prodE f (1, 0, 0) (0, 0, 1)) f)))] H := hP
  have hD : va_D AA [(w, elE (0, 1, 0)), (h0, rgE o w z p r1 r2 r3), (o, elE (1, 0, 0)), (z, elE (0, 0, 1)), (p, elE (prodE f (1, 0, 0) (0, 0, 1))), (hf, cubE f), (hr, elE ((traceE (prodE f (1, 0, 0) (1, 0, 0)) f), (traceE (prodE f (1, 0, 0) (0, 1, 0)) f), (traceE (prodE f (1, 0, 0) (0, 0, 1)) f)))] := hD
  exact hret (prodE f (1, 0, 0) (0, 0, 1)) _ _ _ _ (trivial) (hP.sub [1, 2, 0, 3, 4, 5, 6] rfl) (hD.sub [1, 2, 0, 3, 4, 5, 6] rfl rfl) hS dX2_setTraces_46
set_option maxHeartbeats 4000000 in
set_option maxRecDepth 100000 in
theorem c_Ring_setTraces_w (l : Launch) (D : va_G) (cI cJ : ClassId) (h0 : Nat) (o : Nat) (w : Nat) (z : Nat) (p : Nat) (r1 : Nat) (r2 : Nat) (r3 : Nat) (ep : Em) (hf : Nat) (f : Fm) (hr : Nat) (er : Em)  : CtV l yX2_setTraces cX2_setTraces 4 (rmk 3 78) D cI cJ [.ref h0, .ref hf, .ref hr, .ref w] [(h0, rgE o w z p r1 r2 r3), (o, elE (1, 0, 0)), (w, elE (0, 1, 0)), (z, elE (0, 0, 1)), (p, elE ep), (hf, cubE f), (hr, elE er)] (fun (u : Em) => [(h0, rgE o w z p r1 r2 r3), (o, elE (1, 0, 0)), (w, elE (0, 1, 0)), (z, elE (0, 0, 1)), (p, elE u), (hf, cubE f), (hr, elE (trowE f (0, 1, 0)))]) (fun (u : Em) => True) 0 0 := by
  refine CtV.of (own := RX2) (by decide +kernel) (Nat.le_of_ble_eq_true rfl) rfl ?_
  intro pr_ en_ sg_ me_ ar_ be_ mt_ co_ AA ls QQ X hin hA hP hD hS hl hret
  have hl : lv_has ls 4 [(0, .ref h0), (1, .ref hf), (2, .ref hr), (3, .ref w)] := hl
  refine lv_aload_n X.1 X.2.1 dX2_setTraces_0 rfl (lv_at hl 2 rfl) ?_
  refine lv_aload_n X.1 X.2.1 dX2_setTraces_1 rfl (lv_at hl 0 rfl) ?_
  refine lv_aload_n X.1 X.2.1 dX2_setTraces_2 rfl (lv_at hl 1 rfl) ?_
  refine lv_aload_n X.1 X.2.1 dX2_setTraces_3 rfl (lv_at hl 3 rfl) ?_
  refine lv_aload_n X.1 X.2.1 dX2_setTraces_4 rfl (lv_at hl 0 rfl) ?_
  refine gf_X2_10 (v := .ref o) X hP 0 rfl rfl dX2_setTraces_5 ?_
  refine fin_r (wr := [(z, elE (0, 0, 1)), (hr, elE er)]) (cv_X2_55 X (c_Ring_productOf l D cI cJ h0 o w z p r1 r2 r3 ep hf f w (0, 1, 0) o (1, 0, 0)  _) rfl rfl dX2_setTraces_8 hP hD 0 rfl [0, 4, 5, 2, 1] rfl rfl hl.1 rfl rfl (Nat.le_of_ble_eq_true rfl) ⟨Nat.le_of_ble_eq_true rfl, Nat.le_of_ble_eq_true rfl⟩ ⟨Nat.le_of_ble_eq_true rfl, Nat.le_of_ble_eq_true rfl⟩) hP hD hS hA [0, 4, 5, 2, 1] [3, 6] rfl rfl rfl (by decide) (fun u_2 H locs w_1 hP hD hS => ?_)
  have hP : va_P D vwCl [(z, elE (0, 0, 1)), (hr, elE er), (h0, rgE o w z p r1 r2 r3), (p, elE (prodE f (0, 1, 0) (1, 0, 0))), (hf, cubE f), (w, elE (0, 1, 0)), (o, elE (1, 0, 0))] H := hP
  have hD : va_D AA [(z, elE (0, 0, 1)), (hr, elE er), (h0, rgE o w z p r1 r2 r3), (p, elE (prodE f (0, 1, 0) (1, 0, 0))), (hf, cubE f), (w, elE (0, 1, 0)), (o, elE (1, 0, 0))] := hD
  refine lv_aload_n X.1 X.2.1 dX2_setTraces_11 rfl (lv_at hl 1 rfl) ?_
  refine fin_l (wr := [(z, elE (0, 0, 1)), (hr, elE er), (h0, rgE o w z p r1 r2 r3), (w, elE (0, 1, 0)), (o, elE (1, 0, 0))]) (cv_X2_59 X (c_El_traceIn l D cI cJ p (prodE f (0, 1, 0) (1, 0, 0)) hf f  _) rfl rfl dX2_setTraces_12 hP hD 3 rfl [3, 4] rfl rfl hl.1 rfl rfl (Nat.le_of_ble_eq_true rfl) ⟨Nat.le_of_ble_eq_true rfl, Nat.le_of_ble_eq_true rfl⟩ ⟨Nat.le_of_ble_eq_true rfl, Nat.le_of_ble_eq_true rfl⟩) hP hD hS hA [3, 4] [0, 1, 2, 5, 6] rfl rfl rfl (by decide) (fun r_6 u_5 H locs w_4 hP hD hS => ?_)
  have hP : va_P D vwCl [(z, elE (0, 0, 1)), (hr, elE er), (h0, rgE o w z p r1 r2 r3), (w, elE (0, 1, 0)), (o, elE (1, 0, 0)), (p, elE (prodE f (0, 1, 0) (1, 0, 0))), (hf, cubE f)] H := hP
  have hD : va_D AA [(z, elE (0, 0, 1)), (hr, elE er), (h0, rgE o w z p r1 r2 r3), (w, elE (0, 1, 0)), (o, elE (1, 0, 0)), (p, elE (prodE f (0, 1, 0) (1, 0, 0))), (hf, cubE f)] := hD
  subst w_4
  refine lv_aload_n X.1 X.2.1 dX2_setTraces_15 rfl (lv_at hl 0 rfl) ?_
  refine lv_aload_n X.1 X.2.1 dX2_setTraces_16 rfl (lv_at hl 1 rfl) ?_
  refine lv_aload_n X.1 X.2.1 dX2_setTraces_17 rfl (lv_at hl 3 rfl) ?_
  refine lv_aload_n X.1 X.2.1 dX2_setTraces_18 rfl (lv_at hl 0 rfl) ?_
  refine gf_X2_16 (v := .ref w) X hP 2 rfl rfl dX2_setTraces_19 ?_
  refine fin_r (wr := [(z, elE (0, 0, 1)), (hr, elE er), (o, elE (1, 0, 0))]) (cv_X2_55 X (c_Ring_squareOf l D cI cJ h0 o w z p r1 r2 r3 (prodE f (0, 1, 0) (1, 0, 0)) hf f w (0, 1, 0)  _) rfl rfl dX2_setTraces_22 hP hD 2 rfl [2, 5, 6, 3] rfl rfl hl.1 rfl rfl (Nat.le_of_ble_eq_true rfl) ⟨Nat.le_of_ble_eq_true rfl, Nat.le_of_ble_eq_true rfl⟩ ⟨Nat.le_of_ble_eq_true rfl, Nat.le_of_ble_eq_true rfl⟩) hP hD hS hA [2, 5, 6, 3] [0, 1, 4] rfl rfl rfl (by decide) (fun u_8 H locs w_7 hP hD hS => ?_)
  have hP : va_P D vwCl [(z, elE (0, 0, 1)), (hr, elE er), (o, elE (1, 0, 0)), (h0, rgE o w z p r1 r2 r3), (p, elE (prodE f (0, 1, 0) (0, 1, 0))), (hf, cubE f), (w, elE (0, 1, 0))] H := hP
  have hD : va_D AA [(z, elE (0, 0, 1)), (hr, elE er), (o, elE (1, 0, 0)), (h0, rgE o w z p r1 r2 r3), (p, elE (prodE f (0, 1, 0) (0, 1, 0))), (hf, cubE f), (w, elE (0, 1, 0))] := hD
  refine lv_aload_n X.1 X.2.1 dX2_setTraces_25 rfl (lv_at hl 1 rfl) ?_
  refine fin_l (wr := [(z, elE (0, 0, 1)), (hr, elE er), (o, elE (1, 0, 0)), (h0, rgE o w z p r1 r2 r3), (w, elE (0, 1, 0))]) (cv_X2_59 X (c_El_traceIn l D cI cJ p (prodE f (0, 1, 0) (0, 1, 0)) hf f  _) rfl rfl dX2_setTraces_26 hP hD 4 rfl [4, 5] rfl rfl hl.1 rfl rfl (Nat.le_of_ble_eq_true rfl) ⟨Nat.le_of_ble_eq_true rfl, Nat.le_of_ble_eq_true rfl⟩ ⟨Nat.le_of_ble_eq_true rfl, Nat.le_of_ble_eq_true rfl⟩) hP hD hS hA [4, 5] [0, 1, 2, 3, 6] rfl rfl rfl (by decide) (fun r_12 u_11 H locs w_10 hP hD hS => ?_)
  have hP : va_P D vwCl [(z, elE (0, 0, 1)), (hr, elE er), (o, elE (1, 0, 0)), (h0, rgE o w z p r1 r2 r3), (w, elE (0, 1, 0)), (p, elE (prodE f (0, 1, 0) (0, 1, 0))), (hf, cubE f)] H := hP
  have hD : va_D AA [(z, elE (0, 0, 1)), (hr, elE er), (o, elE (1, 0, 0)), (h0, rgE o w z p r1 r2 r3), (w, elE (0, 1, 0)), (p, elE (prodE f (0, 1, 0) (0, 1, 0))), (hf, cubE f)] := hD
  subst w_10
  refine lv_aload_n X.1 X.2.1 dX2_setTraces_29 rfl (lv_at hl 0 rfl) ?_
  refine lv_aload_n X.1 X.2.1 dX2_setTraces_30 rfl (lv_at hl 1 rfl) ?_
  refine lv_aload_n X.1 X.2.1 dX2_setTraces_31 rfl (lv_at hl 3 rfl) ?_
  refine lv_aload_n X.1 X.2.1 dX2_setTraces_32 rfl (lv_at hl 0 rfl) ?_
  refine gf_X2_19 (v := .ref z) X hP 3 rfl rfl dX2_setTraces_33 ?_
  refine fin_r (wr := [(hr, elE er), (o, elE (1, 0, 0))]) (cv_X2_55 X (c_Ring_productOf l D cI cJ h0 o w z p r1 r2 r3 (prodE f (0, 1, 0) (0, 1, 0)) hf f w (0, 1, 0) z (0, 0, 1)  _) rfl rfl dX2_setTraces_36 hP hD 3 rfl [3, 5, 6, 4, 0] rfl rfl hl.1 rfl rfl (Nat.le_of_ble_eq_true rfl) ⟨Nat.le_of_ble_eq_true rfl, Nat.le_of_ble_eq_true rfl⟩ ⟨Nat.le_of_ble_eq_true rfl, Nat.le_of_ble_eq_true rfl⟩) hP hD hS hA [3, 5, 6, 4, 0] [1, 2] rfl rfl rfl (by decide) (fun u_14 H locs w_13 hP hD hS => ?_)
  have hP : va_P D vwCl [(hr, elE er), (o, elE (1, 0, 0)), (h0, rgE o w z p r1 r2 r3), (p, elE (prodE f (0, 1, 0) (0, 0, 1))), (hf, cubE f), (w, elE (0, 1, 0)), (z, elE (0, 0, 1))] H := hP
  have hD : va_D AA [(hr, elE er), (o, elE (1, 0, 0)), (h0, rgE o w z p r1 r2 r3), (p, elE (prodE f (0, 1, 0) (0, 0, 1))), (hf, cubE f), (w, elE (0, 1, 0)), (z, elE (0, 0, 1))] := hD
  refine lv_aload_n X.1 X.2.1 dX2_setTraces_39 rfl (lv_at hl 1 rfl) ?_
  refine fin_l (wr := [(hr, elE er), (o, elE (1, 0, 0)), (h0, rgE o w z p r1 r2 r3), (w, elE (0, 1, 0)), (z, elE (0, 0, 1))]) (cv_X2_59 X (c_El_traceIn l D cI cJ p (prodE f (0, 1, 0) (0, 0, 1)) hf f  _) rfl rfl dX2_setTraces_40 hP hD 3 rfl [3, 4] rfl rfl hl.1 rfl rfl (Nat.le_of_ble_eq_true rfl) ⟨Nat.le_of_ble_eq_true rfl, Nat.le_of_ble_eq_true rfl⟩ ⟨Nat.le_of_ble_eq_true rfl, Nat.le_of_ble_eq_true rfl⟩) hP hD hS hA [3, 4] [0, 1, 2, 5, 6] rfl rfl rfl (by decide) (fun r_18 u_17 H locs w_16 hP hD hS => ?_)
  have hP : va_P D vwCl [(hr, elE er), (o, elE (1, 0, 0)), (h0, rgE o w z p r1 r2 r3), (w, elE (0, 1, 0)), (z, elE (0, 0, 1)), (p, elE (prodE f (0, 1, 0) (0, 0, 1))), (hf, cubE f)] H := hP
  have hD : va_D AA [(hr, elE er), (o, elE (1, 0, 0)), (h0, rgE o w z p r1 r2 r3), (w, elE (0, 1, 0)), (z, elE (0, 0, 1)), (p, elE (prodE f (0, 1, 0) (0, 0, 1))), (hf, cubE f)] := hD
  subst w_16
  refine fin_v (wr := [(o, elE (1, 0, 0)), (h0, rgE o w z p r1 r2 r3), (w, elE (0, 1, 0)), (z, elE (0, 0, 1)), (p, elE (prodE f (0, 1, 0) (0, 0, 1))), (hf, cubE f)]) (cv_X2_63 X (c_El_set l D cI cJ hr er (traceE (prodE f (0, 1, 0) (1, 0, 0)) f) (traceE (prodE f (0, 1, 0) (0, 1, 0)) f) (traceE (prodE f (0, 1, 0) (0, 0, 1)) f)  _) rfl rfl dX2_setTraces_43 hP hD 0 rfl [0] rfl rfl hl.1 rfl rfl (Nat.le_of_ble_eq_true rfl) ⟨Nat.le_of_ble_eq_true rfl, Nat.le_of_ble_eq_true rfl⟩ ⟨Nat.le_of_ble_eq_true rfl, Nat.le_of_ble_eq_true rfl⟩) hP hD hS hA [0] [1, 2, 3, 4, 5, 6] rfl rfl rfl (by decide) (fun u_20 H locs w_19 hP hD hS => ?_)
  have hP : va_P D vwCl [(o, elE (1, 0, 0)), (h0, rgE o w z p r1 r2 r3), (w, elE (0, 1, 0)), (z, elE (0, 0, 1)), (p, elE (prodE f (0, 1, 0) (0, 0, 1))), (hf, cubE f), (hr, elE ((traceE (prodE f (0, 1, 0) (1, 0, 0)) f), (traceE (prodE f (0, 1, 0) (0, 1, 0)) f), (traceE (prodE f (0, 1, 0) (0, 0, 1)) f)))] H := hP
  have hD : va_D AA [(o, elE (1, 0, 0)), (h0, rgE o w z p r1 r2 r3), (w, elE (0, 1, 0)), (z, elE (0, 0, 1)), (p, elE (prodE f (0, 1, 0) (0, 0, 1))), (hf, cubE f), (hr, elE ((traceE (prodE f (0, 1, 0) (1, 0, 0)) f), (traceE (prodE f (0, 1, 0) (0, 1, 0)) f), (traceE (prodE f (0, 1, 0) (0, 0, 1)) f)))] := hD
  exact hret (prodE f (0, 1, 0) (0, 0, 1)) _ _ _ _ (trivial) (hP.sub [1, 0, 2, 3, 4, 5, 6] rfl) (hD.sub [1, 0, 2, 3, 4, 5, 6] rfl rfl) hS dX2_setTraces_46
set_option maxHeartbeats 4000000 in
set_option maxRecDepth 100000 in
theorem c_Ring_setTraces_z (l : Launch) (D : va_G) (cI cJ : ClassId) (h0 : Nat) (o : Nat) (w : Nat) (z : Nat) (p : Nat) (r1 : Nat) (r2 : Nat) (r3 : Nat) (ep : Em) (hf : Nat) (f : Fm) (hr : Nat) (er : Em)  : CtV l yX2_setTraces cX2_setTraces 4 (rmk 3 78) D cI cJ [.ref h0, .ref hf, .ref hr, .ref z] [(h0, rgE o w z p r1 r2 r3), (o, elE (1, 0, 0)), (w, elE (0, 1, 0)), (z, elE (0, 0, 1)), (p, elE ep), (hf, cubE f), (hr, elE er)] (fun (u : Em) => [(h0, rgE o w z p r1 r2 r3), (o, elE (1, 0, 0)), (w, elE (0, 1, 0)), (z, elE (0, 0, 1)), (p, elE u), (hf, cubE f), (hr, elE (trowE f (0, 0, 1)))]) (fun (u : Em) => True) 0 0 := by
  refine CtV.of (own := RX2) (by decide +kernel) (Nat.le_of_ble_eq_true rfl) rfl ?_
  intro pr_ en_ sg_ me_ ar_ be_ mt_ co_ AA ls QQ X hin hA hP hD hS hl hret
  have hl : lv_has ls 4 [(0, .ref h0), (1, .ref hf), (2, .ref hr), (3, .ref z)] := hl
  refine lv_aload_n X.1 X.2.1 dX2_setTraces_0 rfl (lv_at hl 2 rfl) ?_
  refine lv_aload_n X.1 X.2.1 dX2_setTraces_1 rfl (lv_at hl 0 rfl) ?_
  refine lv_aload_n X.1 X.2.1 dX2_setTraces_2 rfl (lv_at hl 1 rfl) ?_
  refine lv_aload_n X.1 X.2.1 dX2_setTraces_3 rfl (lv_at hl 3 rfl) ?_
  refine lv_aload_n X.1 X.2.1 dX2_setTraces_4 rfl (lv_at hl 0 rfl) ?_
  refine gf_X2_10 (v := .ref o) X hP 0 rfl rfl dX2_setTraces_5 ?_
  refine fin_r (wr := [(w, elE (0, 1, 0)), (hr, elE er)]) (cv_X2_55 X (c_Ring_productOf l D cI cJ h0 o w z p r1 r2 r3 ep hf f z (0, 0, 1) o (1, 0, 0)  _) rfl rfl dX2_setTraces_8 hP hD 0 rfl [0, 4, 5, 3, 1] rfl rfl hl.1 rfl rfl (Nat.le_of_ble_eq_true rfl) ⟨Nat.le_of_ble_eq_true rfl, Nat.le_of_ble_eq_true rfl⟩ ⟨Nat.le_of_ble_eq_true rfl, Nat.le_of_ble_eq_true rfl⟩) hP hD hS hA [0, 4, 5, 3, 1] [2, 6] rfl rfl rfl (by decide) (fun u_2 H locs w_1 hP hD hS => ?_)
  have hP : va_P D vwCl [(w, elE (0, 1, 0)), (hr, elE er), (h0, rgE o w z p r1 r2 r3), (p, elE (prodE f (0, 0, 1) (1, 0, 0))), (hf, cubE f), (z, elE (0, 0, 1)), (o, elE (1, 0, 0))] H := hP
  have hD : va_D AA [(w, elE (0, 1, 0)), (hr, elE er), (h0, rgE o w z p r1 r2 r3), (p, elE (prodE f (0, 0, 1) (1, 0, 0))), (hf, cubE f), (z, elE (0, 0, 1)), (o, elE (1, 0, 0))] := hD
  refine lv_aload_n X.1 X.2.1 dX2_setTraces_11 rfl (lv_at hl 1 rfl) ?_
  refine fin_l (wr := [(w, elE (0, 1, 0)), (hr, elE er), (h0, rgE o w z p r1 r2 r3), (z, elE (0, 0, 1)), (o, elE (1, 0, 0))]) (cv_X2_59 X (c_El_traceIn l D cI cJ p (prodE f (0, 0, 1) (1, 0, 0)) hf f  _) rfl rfl dX2_setTraces_12 hP hD 3 rfl [3, 4] rfl rfl hl.1 rfl rfl (Nat.le_of_ble_eq_true rfl) ⟨Nat.le_of_ble_eq_true rfl, Nat.le_of_ble_eq_true rfl⟩ ⟨Nat.le_of_ble_eq_true rfl, Nat.le_of_ble_eq_true rfl⟩) hP hD hS hA [3, 4] [0, 1, 2, 5, 6] rfl rfl rfl (by decide) (fun r_6 u_5 H locs w_4 hP hD hS => ?_)
  have hP : va_P D vwCl [(w, elE (0, 1, 0)), (hr, elE er), (h0, rgE o w z p r1 r2 r3), (z, elE (0, 0, 1)), (o, elE (1, 0, 0)), (p, elE (prodE f (0, 0, 1) (1, 0, 0))), (hf, cubE f)] H := hP
  have hD : va_D AA [(w, elE (0, 1, 0)), (hr, elE er), (h0, rgE o w z p r1 r2 r3), (z, elE (0, 0, 1)), (o, elE (1, 0, 0)), (p, elE (prodE f (0, 0, 1) (1, 0, 0))), (hf, cubE f)] := hD
  subst w_4
  refine lv_aload_n X.1 X.2.1 dX2_setTraces_15 rfl (lv_at hl 0 rfl) ?_
  refine lv_aload_n X.1 X.2.1 dX2_setTraces_16 rfl (lv_at hl 1 rfl) ?_
  refine lv_aload_n X.1 X.2.1 dX2_setTraces_17 rfl (lv_at hl 3 rfl) ?_
  refine lv_aload_n X.1 X.2.1 dX2_setTraces_18 rfl (lv_at hl 0 rfl) ?_
  refine gf_X2_16 (v := .ref w) X hP 2 rfl rfl dX2_setTraces_19 ?_
  refine fin_r (wr := [(hr, elE er), (o, elE (1, 0, 0))]) (cv_X2_55 X (c_Ring_productOf l D cI cJ h0 o w z p r1 r2 r3 (prodE f (0, 0, 1) (1, 0, 0)) hf f z (0, 0, 1) w (0, 1, 0)  _) rfl rfl dX2_setTraces_22 hP hD 2 rfl [2, 5, 6, 3, 0] rfl rfl hl.1 rfl rfl (Nat.le_of_ble_eq_true rfl) ⟨Nat.le_of_ble_eq_true rfl, Nat.le_of_ble_eq_true rfl⟩ ⟨Nat.le_of_ble_eq_true rfl, Nat.le_of_ble_eq_true rfl⟩) hP hD hS hA [2, 5, 6, 3, 0] [1, 4] rfl rfl rfl (by decide) (fun u_8 H locs w_7 hP hD hS => ?_)
  have hP : va_P D vwCl [(hr, elE er), (o, elE (1, 0, 0)), (h0, rgE o w z p r1 r2 r3), (p, elE (prodE f (0, 0, 1) (0, 1, 0))), (hf, cubE f), (z, elE (0, 0, 1)), (w, elE (0, 1, 0))] H := hP
  have hD : va_D AA [(hr, elE er), (o, elE (1, 0, 0)), (h0, rgE o w z p r1 r2 r3), (p, elE (prodE f (0, 0, 1) (0, 1, 0))), (hf, cubE f), (z, elE (0, 0, 1)), (w, elE (0, 1, 0))] := hD
  refine lv_aload_n X.1 X.2.1 dX2_setTraces_25 rfl (lv_at hl 1 rfl) ?_
  refine fin_l (wr := [(hr, elE er), (o, elE (1, 0, 0)), (h0, rgE o w z p r1 r2 r3), (z, elE (0, 0, 1)), (w, elE (0, 1, 0))]) (cv_X2_59 X (c_El_traceIn l D cI cJ p (prodE f (0, 0, 1) (0, 1, 0)) hf f  _) rfl rfl dX2_setTraces_26 hP hD 3 rfl [3, 4] rfl rfl hl.1 rfl rfl (Nat.le_of_ble_eq_true rfl) ⟨Nat.le_of_ble_eq_true rfl, Nat.le_of_ble_eq_true rfl⟩ ⟨Nat.le_of_ble_eq_true rfl, Nat.le_of_ble_eq_true rfl⟩) hP hD hS hA [3, 4] [0, 1, 2, 5, 6] rfl rfl rfl (by decide) (fun r_12 u_11 H locs w_10 hP hD hS => ?_)
  have hP : va_P D vwCl [(hr, elE er), (o, elE (1, 0, 0)), (h0, rgE o w z p r1 r2 r3), (z, elE (0, 0, 1)), (w, elE (0, 1, 0)), (p, elE (prodE f (0, 0, 1) (0, 1, 0))), (hf, cubE f)] H := hP
  have hD : va_D AA [(hr, elE er), (o, elE (1, 0, 0)), (h0, rgE o w z p r1 r2 r3), (z, elE (0, 0, 1)), (w, elE (0, 1, 0)), (p, elE (prodE f (0, 0, 1) (0, 1, 0))), (hf, cubE f)] := hD
  subst w_10
  refine lv_aload_n X.1 X.2.1 dX2_setTraces_29 rfl (lv_at hl 0 rfl) ?_
  refine lv_aload_n X.1 X.2.1 dX2_setTraces_30 rfl (lv_at hl 1 rfl) ?_
  refine lv_aload_n X.1 X.2.1 dX2_setTraces_31 rfl (lv_at hl 3 rfl) ?_
  refine lv_aload_n X.1 X.2.1 dX2_setTraces_32 rfl (lv_at hl 0 rfl) ?_
  refine gf_X2_19 (v := .ref z) X hP 2 rfl rfl dX2_setTraces_33 ?_
  refine fin_r (wr := [(hr, elE er), (o, elE (1, 0, 0)), (w, elE (0, 1, 0))]) (cv_X2_55 X (c_Ring_squareOf l D cI cJ h0 o w z p r1 r2 r3 (prodE f (0, 0, 1) (0, 1, 0)) hf f z (0, 0, 1)  _) rfl rfl dX2_setTraces_36 hP hD 2 rfl [2, 5, 6, 3] rfl rfl hl.1 rfl rfl (Nat.le_of_ble_eq_true rfl) ⟨Nat.le_of_ble_eq_true rfl, Nat.le_of_ble_eq_true rfl⟩ ⟨Nat.le_of_ble_eq_true rfl, Nat.le_of_ble_eq_true rfl⟩) hP hD hS hA [2, 5, 6, 3] [0, 1, 4] rfl rfl rfl (by decide) (fun u_14 H locs w_13 hP hD hS => ?_)
  have hP : va_P D vwCl [(hr, elE er), (o, elE (1, 0, 0)), (w, elE (0, 1, 0)), (h0, rgE o w z p r1 r2 r3), (p, elE (prodE f (0, 0, 1) (0, 0, 1))), (hf, cubE f), (z, elE (0, 0, 1))] H := hP
  have hD : va_D AA [(hr, elE er), (o, elE (1, 0, 0)), (w, elE (0, 1, 0)), (h0, rgE o w z p r1 r2 r3), (p, elE (prodE f (0, 0, 1) (0, 0, 1))), (hf, cubE f), (z, elE (0, 0, 1))] := hD
  refine lv_aload_n X.1 X.2.1 dX2_setTraces_39 rfl (lv_at hl 1 rfl) ?_
  refine fin_l (wr := [(hr, elE er), (o, elE (1, 0, 0)), (w, elE (0, 1, 0)), (h0, rgE o w z p r1 r2 r3), (z, elE (0, 0, 1))]) (cv_X2_59 X (c_El_traceIn l D cI cJ p (prodE f (0, 0, 1) (0, 0, 1)) hf f  _) rfl rfl dX2_setTraces_40 hP hD 4 rfl [4, 5] rfl rfl hl.1 rfl rfl (Nat.le_of_ble_eq_true rfl) ⟨Nat.le_of_ble_eq_true rfl, Nat.le_of_ble_eq_true rfl⟩ ⟨Nat.le_of_ble_eq_true rfl, Nat.le_of_ble_eq_true rfl⟩) hP hD hS hA [4, 5] [0, 1, 2, 3, 6] rfl rfl rfl (by decide) (fun r_18 u_17 H locs w_16 hP hD hS => ?_)
  have hP : va_P D vwCl [(hr, elE er), (o, elE (1, 0, 0)), (w, elE (0, 1, 0)), (h0, rgE o w z p r1 r2 r3), (z, elE (0, 0, 1)), (p, elE (prodE f (0, 0, 1) (0, 0, 1))), (hf, cubE f)] H := hP
  have hD : va_D AA [(hr, elE er), (o, elE (1, 0, 0)), (w, elE (0, 1, 0)), (h0, rgE o w z p r1 r2 r3), (z, elE (0, 0, 1)), (p, elE (prodE f (0, 0, 1) (0, 0, 1))), (hf, cubE f)] := hD
  subst w_16
  refine fin_v (wr := [(o, elE (1, 0, 0)), (w, elE (0, 1, 0)), (h0, rgE o w z p r1 r2 r3), (z, elE (0, 0, 1)), (p, elE (prodE f (0, 0, 1) (0, 0, 1))), (hf, cubE f)]) (cv_X2_63 X (c_El_set l D cI cJ hr er (traceE (prodE f (0, 0, 1) (1, 0, 0)) f) (traceE (prodE f (0, 0, 1) (0, 1, 0)) f) (traceE (prodE f (0, 0, 1) (0, 0, 1)) f)  _) rfl rfl dX2_setTraces_43 hP hD 0 rfl [0] rfl rfl hl.1 rfl rfl (Nat.le_of_ble_eq_true rfl) ⟨Nat.le_of_ble_eq_true rfl, Nat.le_of_ble_eq_true rfl⟩ ⟨Nat.le_of_ble_eq_true rfl, Nat.le_of_ble_eq_true rfl⟩) hP hD hS hA [0] [1, 2, 3, 4, 5, 6] rfl rfl rfl (by decide) (fun u_20 H locs w_19 hP hD hS => ?_)
  have hP : va_P D vwCl [(o, elE (1, 0, 0)), (w, elE (0, 1, 0)), (h0, rgE o w z p r1 r2 r3), (z, elE (0, 0, 1)), (p, elE (prodE f (0, 0, 1) (0, 0, 1))), (hf, cubE f), (hr, elE ((traceE (prodE f (0, 0, 1) (1, 0, 0)) f), (traceE (prodE f (0, 0, 1) (0, 1, 0)) f), (traceE (prodE f (0, 0, 1) (0, 0, 1)) f)))] H := hP
  have hD : va_D AA [(o, elE (1, 0, 0)), (w, elE (0, 1, 0)), (h0, rgE o w z p r1 r2 r3), (z, elE (0, 0, 1)), (p, elE (prodE f (0, 0, 1) (0, 0, 1))), (hf, cubE f), (hr, elE ((traceE (prodE f (0, 0, 1) (1, 0, 0)) f), (traceE (prodE f (0, 0, 1) (0, 1, 0)) f), (traceE (prodE f (0, 0, 1) (0, 0, 1)) f)))] := hD
  exact hret (prodE f (0, 0, 1) (0, 0, 1)) _ _ _ _ (trivial) (hP.sub [2, 0, 1, 3, 4, 5, 6] rfl) (hD.sub [2, 0, 1, 3, 4, 5, 6] rfl rfl) hS dX2_setTraces_46
set_option maxHeartbeats 4000000 in
set_option maxRecDepth 100000 in
theorem c_Ring_determinantOfTraces (l : Launch) (D : va_G) (cI cJ : ClassId) (h0 : Nat) (o : Nat) (w : Nat) (z : Nat) (p : Nat) (r1 : Nat) (r2 : Nat) (r3 : Nat) (e1 : Em) (e2 : Em) (e3 : Em) (ep : Em) (hf : Nat) (f : Fm)  : CtL l yX2_determinantOfTraces cX2_determinantOfTraces 2 (rmk 4 101) D cI cJ [.ref h0, .ref hf] [(h0, rgE o w z p r1 r2 r3), (r1, elE e1), (r2, elE e2), (r3, elE e3), (o, elE (1, 0, 0)), (w, elE (0, 1, 0)), (z, elE (0, 0, 1)), (p, elE ep), (hf, cubE f)] (fun (u : Em) => [(h0, rgE o w z p r1 r2 r3), (r1, elE (trowE f (1, 0, 0))), (r2, elE (trowE f (0, 1, 0))), (r3, elE (trowE f (0, 0, 1))), (o, elE (1, 0, 0)), (w, elE (0, 1, 0)), (z, elE (0, 0, 1)), (p, elE u), (hf, cubE f)]) (fun (r : Int64) (u : Em) => r = detE (trowE f (1, 0, 0)) (trowE f (0, 1, 0)) (trowE f (0, 0, 1))) := by
  refine CtL.of (own := RX2) (by decide +kernel) (Nat.le_of_ble_eq_true rfl) rfl ?_
  intro pr_ en_ sg_ me_ ar_ be_ mt_ co_ AA ls QQ X hA hP hD hS hl hret
  have hl : lv_has ls 2 [(0, .ref h0), (1, .ref hf)] := hl
  refine lv_aload_n X.1 X.2.1 dX2_determinantOfTraces_0 rfl (lv_at hl 0 rfl) ?_
  refine lv_aload_n X.1 X.2.1 dX2_determinantOfTraces_1 rfl (lv_at hl 1 rfl) ?_
  refine lv_aload_n X.1 X.2.1 dX2_determinantOfTraces_2 rfl (lv_at hl 0 rfl) ?_
  refine gf_X2_25 (v := .ref r1) X hP 0 rfl rfl dX2_determinantOfTraces_3 ?_
  refine lv_aload_n X.1 X.2.1 dX2_determinantOfTraces_6 rfl (lv_at hl 0 rfl) ?_
  refine gf_X2_10 (v := .ref o) X hP 0 rfl rfl dX2_determinantOfTraces_7 ?_
  refine fin_v (wr := [(r2, elE e2), (r3, elE e3)]) (cv_X2_52 X (c_Ring_setTraces_o l D cI cJ h0 o w z p r1 r2 r3 ep hf f r1 e1  _) rfl rfl dX2_determinantOfTraces_10 hP hD 0 rfl [0, 4, 5, 6, 7, 8, 1] rfl rfl hl.1 rfl rfl (Nat.le_of_ble_eq_true rfl) ⟨Nat.le_of_ble_eq_true rfl, Nat.le_of_ble_eq_true rfl⟩ ⟨Nat.le_of_ble_eq_true rfl, Nat.le_of_ble_eq_true rfl⟩) hP hD hS hA [0, 4, 5, 6, 7, 8, 1] [2, 3] rfl rfl rfl (by decide) (fun u_2 H locs w_1 hP hD hS => ?_)
  have hP : va_P D vwCl [(r2, elE e2), (r3, elE e3), (h0, rgE o w z p r1 r2 r3), (o, elE (1, 0, 0)), (w, elE (0, 1, 0)), (z, elE (0, 0, 1)), (p, elE u_2), (hf, cubE f), (r1, elE (trowE f (1, 0, 0)))] H := hP
  have hD : va_D AA [(r2, elE e2), (r3, elE e3), (h0, rgE o w z p r1 r2 r3), (o, elE (1, 0, 0)), (w, elE (0, 1, 0)), (z, elE (0, 0, 1)), (p, elE u_2), (hf, cubE f), (r1, elE (trowE f (1, 0, 0)))] := hD
  refine lv_aload_n X.1 X.2.1 dX2_determinantOfTraces_13 rfl (lv_at hl 0 rfl) ?_
  refine lv_aload_n X.1 X.2.1 dX2_determinantOfTraces_14 rfl (lv_at hl 1 rfl) ?_
  refine lv_aload_n X.1 X.2.1 dX2_determinantOfTraces_15 rfl (lv_at hl 0 rfl) ?_
  refine gf_X2_28 (v := .ref r2) X hP 2 rfl rfl dX2_determinantOfTraces_16 ?_
  refine lv_aload_n X.1 X.2.1 dX2_determinantOfTraces_19 rfl (lv_at hl 0 rfl) ?_
  refine gf_X2_16 (v := .ref w) X hP 2 rfl rfl dX2_determinantOfTraces_20 ?_
  refine fin_v (wr := [(r3, elE e3), (r1, elE (trowE f (1, 0, 0)))]) (cv_X2_52 X (c_Ring_setTraces_w l D cI cJ h0 o w z p r1 r2 r3 u_2 hf f r2 e2  _) rfl rfl dX2_determinantOfTraces_23 hP hD 2 rfl [2, 3, 4, 5, 6, 7, 0] rfl rfl hl.1 rfl rfl (Nat.le_of_ble_eq_true rfl) ⟨Nat.le_of_ble_eq_true rfl, Nat.le_of_ble_eq_true rfl⟩ ⟨Nat.le_of_ble_eq_true rfl, Nat.le_of_ble_eq_true rfl⟩) hP hD hS hA [2, 3, 4, 5, 6, 7, 0] [1, 8] rfl rfl rfl (by decide) (fun u_5 H locs w_4 hP hD hS => ?_)
  have hP : va_P D vwCl [(r3, elE e3), (r1, elE (trowE f (1, 0, 0))), (h0, rgE o w z p r1 r2 r3), (o, elE (1, 0, 0)), (w, elE (0, 1, 0)), (z, elE (0, 0, 1)), (p, elE u_5), (hf, cubE f), (r2, elE (trowE f (0, 1, 0)))] H := hP
  have hD : va_D AA [(r3, elE e3), (r1, elE (trowE f (1, 0, 0))), (h0, rgE o w z p r1 r2 r3), (o, elE (1, 0, 0)), (w, elE (0, 1, 0)), (z, elE (0, 0, 1)), (p, elE u_5), (hf, cubE f), (r2, elE (trowE f (0, 1, 0)))] := hD
  refine lv_aload_n X.1 X.2.1 dX2_determinantOfTraces_26 rfl (lv_at hl 0 rfl) ?_
  refine lv_aload_n X.1 X.2.1 dX2_determinantOfTraces_27 rfl (lv_at hl 1 rfl) ?_
  refine lv_aload_n X.1 X.2.1 dX2_determinantOfTraces_28 rfl (lv_at hl 0 rfl) ?_
  refine gf_X2_31 (v := .ref r3) X hP 2 rfl rfl dX2_determinantOfTraces_29 ?_
  refine lv_aload_n X.1 X.2.1 dX2_determinantOfTraces_32 rfl (lv_at hl 0 rfl) ?_
  refine gf_X2_19 (v := .ref z) X hP 2 rfl rfl dX2_determinantOfTraces_33 ?_
  refine fin_v (wr := [(r1, elE (trowE f (1, 0, 0))), (r2, elE (trowE f (0, 1, 0)))]) (cv_X2_52 X (c_Ring_setTraces_z l D cI cJ h0 o w z p r1 r2 r3 u_5 hf f r3 e3  _) rfl rfl dX2_determinantOfTraces_36 hP hD 2 rfl [2, 3, 4, 5, 6, 7, 0] rfl rfl hl.1 rfl rfl (Nat.le_of_ble_eq_true rfl) ⟨Nat.le_of_ble_eq_true rfl, Nat.le_of_ble_eq_true rfl⟩ ⟨Nat.le_of_ble_eq_true rfl, Nat.le_of_ble_eq_true rfl⟩) hP hD hS hA [2, 3, 4, 5, 6, 7, 0] [1, 8] rfl rfl rfl (by decide) (fun u_8 H locs w_7 hP hD hS => ?_)
  have hP : va_P D vwCl [(r1, elE (trowE f (1, 0, 0))), (r2, elE (trowE f (0, 1, 0))), (h0, rgE o w z p r1 r2 r3), (o, elE (1, 0, 0)), (w, elE (0, 1, 0)), (z, elE (0, 0, 1)), (p, elE u_8), (hf, cubE f), (r3, elE (trowE f (0, 0, 1)))] H := hP
  have hD : va_D AA [(r1, elE (trowE f (1, 0, 0))), (r2, elE (trowE f (0, 1, 0))), (h0, rgE o w z p r1 r2 r3), (o, elE (1, 0, 0)), (w, elE (0, 1, 0)), (z, elE (0, 0, 1)), (p, elE u_8), (hf, cubE f), (r3, elE (trowE f (0, 0, 1)))] := hD
  refine lv_aload_n X.1 X.2.1 dX2_determinantOfTraces_39 rfl (lv_at hl 0 rfl) ?_
  refine fin_l (wr := [(o, elE (1, 0, 0)), (w, elE (0, 1, 0)), (z, elE (0, 0, 1)), (p, elE u_8), (hf, cubE f)]) (cv_X2_48 X (c_Ring_determinantOfRows l D cI cJ h0 o w z p r1 r2 r3 (trowE f (1, 0, 0)) (trowE f (0, 1, 0)) (trowE f (0, 0, 1))  _) rfl rfl dX2_determinantOfTraces_40 hP hD 2 rfl [2, 0, 1, 8] rfl rfl hl.1 rfl rfl (Nat.le_of_ble_eq_true rfl) ⟨Nat.le_of_ble_eq_true rfl, Nat.le_of_ble_eq_true rfl⟩ ⟨Nat.le_of_ble_eq_true rfl, Nat.le_of_ble_eq_true rfl⟩) hP hD hS hA [2, 0, 1, 8] [3, 4, 5, 6, 7] rfl rfl rfl (by decide) (fun r_12 u_11 H locs w_10 hP hD hS => ?_)
  have hP : va_P D vwCl [(o, elE (1, 0, 0)), (w, elE (0, 1, 0)), (z, elE (0, 0, 1)), (p, elE u_8), (hf, cubE f), (h0, rgE o w z p r1 r2 r3), (r1, elE (trowE f (1, 0, 0))), (r2, elE (trowE f (0, 1, 0))), (r3, elE (trowE f (0, 0, 1)))] H := hP
  have hD : va_D AA [(o, elE (1, 0, 0)), (w, elE (0, 1, 0)), (z, elE (0, 0, 1)), (p, elE u_8), (hf, cubE f), (h0, rgE o w z p r1 r2 r3), (r1, elE (trowE f (1, 0, 0))), (r2, elE (trowE f (0, 1, 0))), (r3, elE (trowE f (0, 0, 1)))] := hD
  subst w_10
  exact hret (detE (trowE f (1, 0, 0)) (trowE f (0, 1, 0)) (trowE f (0, 0, 1))) u_8 _ _ _ _ (rfl) (hP.sub [5, 6, 7, 8, 0, 1, 2, 3, 4] rfl) (hD.sub [5, 6, 7, 8, 0, 1, 2, 3, 4] rfl rfl) hS dX2_determinantOfTraces_43
set_option maxHeartbeats 4000000 in
set_option maxRecDepth 100000 in
theorem c_Ring_indexOf (l : Launch) (D : va_G) (cI cJ : ClassId) (h0 : Nat) (o : Nat) (w : Nat) (z : Nat) (p : Nat) (r1 : Nat) (r2 : Nat) (r3 : Nat) (ep : Em) (hf : Nat) (f : Fm) (hx : Nat) (x : Em)  : CtL l yX2_indexOf cX2_indexOf 4 (rmk 3 78) D cI cJ [.ref h0, .ref hf, .ref hx] [(h0, rgE o w z p r1 r2 r3), (p, elE ep), (hf, cubE f), (hx, elE x)] (fun (_ : Unit) => [(h0, rgE o w z p r1 r2 r3), (p, elE (prodE f x x)), (hf, cubE f), (hx, elE x)]) (fun (r : Int64) (_ : Unit) => r = absL (x.2.1 * (prodE f x x).2.2 - x.2.2 * (prodE f x x).2.1)) := by
  refine CtL.of (own := RX2) (by decide +kernel) (Nat.le_of_ble_eq_true rfl) rfl ?_
  intro pr_ en_ sg_ me_ ar_ be_ mt_ co_ AA ls QQ X hA hP hD hS hl hret
  have hl : lv_has ls 4 [(0, .ref h0), (1, .ref hf), (2, .ref hx)] := hl
  refine lv_aload_n X.1 X.2.1 dX2_indexOf_0 rfl (lv_at hl 0 rfl) ?_
  refine lv_aload_n X.1 X.2.1 dX2_indexOf_1 rfl (lv_at hl 1 rfl) ?_
  refine lv_aload_n X.1 X.2.1 dX2_indexOf_2 rfl (lv_at hl 2 rfl) ?_
  refine lv_aload_n X.1 X.2.1 dX2_indexOf_3 rfl (lv_at hl 2 rfl) ?_
  refine fin_r (wr := []) (cv_X2_55 X (c_Ring_squareOf l D cI cJ h0 o w z p r1 r2 r3 ep hf f hx x  _) rfl rfl dX2_indexOf_4 hP hD 0 rfl [0, 1, 2, 3] rfl rfl hl.1 rfl rfl (Nat.le_of_ble_eq_true rfl) ⟨Nat.le_of_ble_eq_true rfl, Nat.le_of_ble_eq_true rfl⟩ ⟨Nat.le_of_ble_eq_true rfl, Nat.le_of_ble_eq_true rfl⟩) hP hD hS hA [0, 1, 2, 3] [] rfl rfl rfl (by decide) (fun u_2 H locs w_1 hP hD hS => ?_)
  have hP : va_P D vwCl [(h0, rgE o w z p r1 r2 r3), (p, elE (prodE f x x)), (hf, cubE f), (hx, elE x)] H := hP
  have hD : va_D AA [(h0, rgE o w z p r1 r2 r3), (p, elE (prodE f x x)), (hf, cubE f), (hx, elE x)] := hD
  refine lv_astore_n (lv' := [(3, .ref p), (0, .ref h0), (1, .ref hf), (2, .ref hx)]) X.1 X.2.1 dX2_indexOf_7 rfl hl (by decide) rfl (fun ls hl => ?_)
  refine lv_aload_n X.1 X.2.1 dX2_indexOf_8 rfl (lv_at hl 3 rfl) ?_
  refine gf_X2_38 (v := .long x.2.1) X hP 3 rfl rfl dX2_indexOf_9 ?_
  refine lv_aload_n X.1 X.2.1 dX2_indexOf_12 rfl (lv_at hl 0 rfl) ?_
  refine gf_X2_41 (v := .long ((prodE f x x).2.2)) X hP 1 rfl rfl dX2_indexOf_13 ?_
  refine lv_lmul X.1 X.2.1 dX2_indexOf_16 ?_
  refine lv_aload_n X.1 X.2.1 dX2_indexOf_17 rfl (lv_at hl 3 rfl) ?_
  refine gf_X2_41 (v := .long x.2.2) X hP 3 rfl rfl dX2_indexOf_18 ?_
  refine lv_aload_n X.1 X.2.1 dX2_indexOf_21 rfl (lv_at hl 0 rfl) ?_
  refine gf_X2_38 (v := .long ((prodE f x x).2.1)) X hP 1 rfl rfl dX2_indexOf_22 ?_
  refine lv_lmul X.1 X.2.1 dX2_indexOf_25 ?_
  refine lv_lsub X.1 X.2.1 dX2_indexOf_26 ?_
  refine cv_X2_67 X hl.1 (Nat.le_of_ble_eq_true rfl) (Nat.le_of_ble_eq_true rfl) (Nat.zero_le _) (Nat.zero_le _) dX2_indexOf_27 ?_
  show W pr_ l en_ (rmk 3 78) sg_ me_ ar_ be_ mt_ co_ _ _ 0 0 QQ (F0 me_ _ ls (.long (absL ((x.2.1 * ((prodE f x x).2.2)) - (x.2.2 * ((prodE f x x).2.1)))) :: _))
  exact hret (absL ((x.2.1 * ((prodE f x x).2.2)) - (x.2.2 * ((prodE f x x).2.1)))) () _ _ _ _ (rfl) (hP.sub [0, 1, 2, 3] rfl) (hD.sub [0, 1, 2, 3] rfl rfl) hS dX2_indexOf_30
