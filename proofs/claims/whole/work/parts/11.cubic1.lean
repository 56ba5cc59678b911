set_option maxHeartbeats 4000000 in
set_option maxRecDepth 100000 in
theorem c_isWithin (l : Launch) (D : va_G) (cI cJ : ClassId) (x : Int64) (b : Int64)  : CtI l yX5_isWithin cX5_isWithin 4 .boolean (rmk 0 0) D cI cJ [.long x, .long b] [] (fun (_ : Unit) => []) (fun (r : Int32) (_ : Unit) => r = bI (isW x b)) := by
  refine CtI.of (own := RX5) (by decide +kernel) (Nat.le_of_ble_eq_true rfl) rfl ?_
  intro pr_ en_ sg_ me_ ar_ be_ mt_ co_ AA ls QQ X hA hP hD hS hl hret
  have hl : lv_has ls 4 [(0, .long x), (2, .long b)] := hl
  refine lv_lload_n X.1 X.2.1 dX5_isWithin_0 rfl (lv_at hl 0 rfl) ?_
  refine lv_lload_n X.1 X.2.1 dX5_isWithin_1 rfl (lv_at hl 1 rfl) ?_
  refine lv_lneg X.1 X.2.1 dX5_isWithin_2 ?_
  refine bl_lt (tgt := 17) X dX5_isWithin_3 dX5_isWithin_4 (by decide) (fun c_1 => ?_) (fun c_1 => ?_)
  · refine lv_iconst (v := 0) X.1 X.2.1 dX5_isWithin_17 (by decide) ?_
    exact hret 0 () _ _ _ _ (by simp [isW, bI, c_1]) rfl (hP.sub [] rfl) (hD.sub [] rfl rfl) hS dX5_isWithin_18
  · refine lv_lload_n X.1 X.2.1 dX5_isWithin_7 rfl (lv_at hl 0 rfl) ?_
    refine lv_lload_n X.1 X.2.1 dX5_isWithin_8 rfl (lv_at hl 1 rfl) ?_
    refine bl_gt (tgt := 17) X dX5_isWithin_9 dX5_isWithin_10 (by decide) (fun c_2 => ?_) (fun c_2 => ?_)
    · refine lv_iconst (v := 0) X.1 X.2.1 dX5_isWithin_17 (by decide) ?_
      exact hret 0 () _ _ _ _ (by simp [isW, bI, c_1, c_2]) rfl (hP.sub [] rfl) (hD.sub [] rfl rfl) hS dX5_isWithin_18
    · refine lv_iconst (v := 1) X.1 X.2.1 dX5_isWithin_13 (by decide) ?_
      refine lv_goto (tgt := 18) X.1 X.2.1 dX5_isWithin_14 (by decide) ?_
      exact hret 1 () _ _ _ _ (by simp [isW, bI, c_1, c_2]) rfl (hP.sub [] rfl) (hD.sub [] rfl rfl) hS dX5_isWithin_18
set_option maxHeartbeats 4000000 in
set_option maxRecDepth 100000 in
theorem c_Cubic_set (l : Launch) (D : va_G) (cI cJ : ClassId) (h0 : Nat) (f : Fm) (a : Int64) (b : Int64) (c : Int64) (d : Int64)  : CtV l yX0_set cX0_set 9 (rmk 0 0) D cI cJ [.ref h0, .long a, .long b, .long c, .long d] [(h0, cubE f)] (fun (_ : Unit) => [(h0, cubE (a, b, c, d))]) (fun (_ : Unit) => True) 0 0 := by
  refine CtV.of (own := RX0) (by decide +kernel) (Nat.le_of_ble_eq_true rfl) rfl ?_
  intro pr_ en_ sg_ me_ ar_ be_ mt_ co_ AA ls QQ X hin hA hP hD hS hl hret
  have hl : lv_has ls 9 [(0, .ref h0), (1, .long a), (3, .long b), (5, .long c), (7, .long d)] := hl
  refine lv_aload_n X.1 X.2.1 dX0_set_0 rfl (lv_at hl 0 rfl) ?_
  refine lv_lload_n X.1 X.2.1 dX0_set_1 rfl (lv_at hl 1 rfl) ?_
  refine pf_X0_9 X hP hD hS 0 rfl rfl rfl (Nat.le_of_ble_eq_true rfl) dX0_set_2 (fun H locs hP hD hS => ?_)
  have hP : va_P D vwCl [(h0, cubE (a, f.2.1, f.2.2.1, f.2.2.2))] H := hP
  have hD : va_D AA [(h0, cubE (a, f.2.1, f.2.2.1, f.2.2.2))] := hD
  refine lv_aload_n X.1 X.2.1 dX0_set_5 rfl (lv_at hl 0 rfl) ?_
  refine lv_lload_n X.1 X.2.1 dX0_set_6 rfl (lv_at hl 2 rfl) ?_
  refine pf_X0_15 X hP hD hS 0 rfl rfl rfl (Nat.le_of_ble_eq_true rfl) dX0_set_7 (fun H locs hP hD hS => ?_)
  have hP : va_P D vwCl [(h0, cubE (a, b, f.2.2.1, f.2.2.2))] H := hP
  have hD : va_D AA [(h0, cubE (a, b, f.2.2.1, f.2.2.2))] := hD
  refine lv_aload_n X.1 X.2.1 dX0_set_10 rfl (lv_at hl 0 rfl) ?_
  refine lv_lload X.1 X.2.1 dX0_set_11 (lv_at hl 3 rfl) ?_
  refine pf_X0_18 X hP hD hS 0 rfl rfl rfl (Nat.le_of_ble_eq_true rfl) dX0_set_13 (fun H locs hP hD hS => ?_)
  have hP : va_P D vwCl [(h0, cubE (a, b, c, f.2.2.2))] H := hP
  have hD : va_D AA [(h0, cubE (a, b, c, f.2.2.2))] := hD
  refine lv_aload_n X.1 X.2.1 dX0_set_16 rfl (lv_at hl 0 rfl) ?_
  refine lv_lload X.1 X.2.1 dX0_set_17 (lv_at hl 4 rfl) ?_
  refine pf_X0_21 X hP hD hS 0 rfl rfl rfl (Nat.le_of_ble_eq_true rfl) dX0_set_19 (fun H locs hP hD hS => ?_)
  have hP : va_P D vwCl [(h0, cubE (a, b, c, d))] H := hP
  have hD : va_D AA [(h0, cubE (a, b, c, d))] := hD
  exact hret () _ _ _ _ (trivial) (hP.sub [0] rfl) (hD.sub [0] rfl rfl) hS dX0_set_22
set_option maxHeartbeats 4000000 in
set_option maxRecDepth 100000 in
theorem c_Cubic_copyFrom (l : Launch) (D : va_G) (cI cJ : ClassId) (h0 : Nat) (f : Fm) (h1 : Nat) (g : Fm)  : CtV l yX0_copyFrom cX0_copyFrom 2 (rmk 1 28) D cI cJ [.ref h0, .ref h1] [(h0, cubE f), (h1, cubE g)] (fun (_ : Unit) => [(h0, cubE g), (h1, cubE g)]) (fun (_ : Unit) => True) 0 0 := by
  refine CtV.of (own := RX0) (by decide +kernel) (Nat.le_of_ble_eq_true rfl) rfl ?_
  intro pr_ en_ sg_ me_ ar_ be_ mt_ co_ AA ls QQ X hin hA hP hD hS hl hret
  have hl : lv_has ls 2 [(0, .ref h0), (1, .ref h1)] := hl
  refine lv_aload_n X.1 X.2.1 dX0_copyFrom_0 rfl (lv_at hl 0 rfl) ?_
  refine lv_aload_n X.1 X.2.1 dX0_copyFrom_1 rfl (lv_at hl 1 rfl) ?_
  refine gf_X0_9 (v := .long g.1) X hP 1 rfl rfl dX0_copyFrom_2 ?_
  refine lv_aload_n X.1 X.2.1 dX0_copyFrom_5 rfl (lv_at hl 1 rfl) ?_
  refine gf_X0_15 (v := .long g.2.1) X hP 1 rfl rfl dX0_copyFrom_6 ?_
  refine lv_aload_n X.1 X.2.1 dX0_copyFrom_9 rfl (lv_at hl 1 rfl) ?_
  refine gf_X0_18 (v := .long g.2.2.1) X hP 1 rfl rfl dX0_copyFrom_10 ?_
  refine lv_aload_n X.1 X.2.1 dX0_copyFrom_13 rfl (lv_at hl 1 rfl) ?_
  refine gf_X0_21 (v := .long g.2.2.2) X hP 1 rfl rfl dX0_copyFrom_14 ?_
  refine fin_v (wr := [(h1, cubE g)]) (cv_X0_24 X (c_Cubic_set l D cI cJ h0 f g.1 g.2.1 g.2.2.1 g.2.2.2  _) rfl rfl dX0_copyFrom_17 hP hD 0 rfl [0] rfl rfl hl.1 rfl rfl (Nat.le_of_ble_eq_true rfl) ⟨Nat.le_of_ble_eq_true rfl, Nat.le_of_ble_eq_true rfl⟩ ⟨Nat.le_of_ble_eq_true rfl, Nat.le_of_ble_eq_true rfl⟩) hP hD hS hA [0] [1] rfl rfl rfl (by decide) (fun u_2 H locs w_1 hP hD hS => ?_)
  have hP : va_P D vwCl [(h1, cubE g), (h0, cubE g)] H := hP
  have hD : va_D AA [(h1, cubE g), (h0, cubE g)] := hD
  exact hret () _ _ _ _ (trivial) (hP.sub [1, 0] rfl) (hD.sub [1, 0] rfl rfl) hS dX0_copyFrom_20
set_option maxHeartbeats 4000000 in
set_option maxRecDepth 100000 in
theorem c_Cubic_fitsStore (l : Launch) (D : va_G) (cI cJ : ClassId) (h0 : Nat) (f : Fm)  : CtI l yX0_fitsStore cX0_fitsStore 1 .boolean (rmk 1 23) D cI cJ [.ref h0] [(h0, cubE f)] (fun (_ : Unit) => [(h0, cubE f)]) (fun (r : Int32) (_ : Unit) => r = bI (fitsF f)) := by
  refine CtI.of (own := RX0) (by decide +kernel) (Nat.le_of_ble_eq_true rfl) rfl ?_
  intro pr_ en_ sg_ me_ ar_ be_ mt_ co_ AA ls QQ X hA hP hD hS hl hret
  have hl : lv_has ls 1 [(0, .ref h0)] := hl
  refine lv_aload_n X.1 X.2.1 dX0_fitsStore_0 rfl (lv_at hl 0 rfl) ?_
  refine gf_X0_9 (v := .long f.1) X hP 0 rfl rfl dX0_fitsStore_1 ?_
  refine lc_X0_28 X dX0_fitsStore_4 ?_
  refine fin_i (wr := [(h0, cubE f)]) (cv_X0_30 X (c_isWithin l D cI cJ f.1 300  _) rfl rfl dX0_fitsStore_7 hP hD [] rfl rfl hl.1 rfl rfl (Nat.le_of_ble_eq_true rfl) ⟨Nat.le_of_ble_eq_true rfl, Nat.le_of_ble_eq_true rfl⟩ ⟨Nat.le_of_ble_eq_true rfl, Nat.le_of_ble_eq_true rfl⟩) hP hD hS hA [] [0] rfl rfl rfl (by decide) (fun r_3 u_2 H locs w_1 hP hD hS => ?_)
  have hP : va_P D vwCl [(h0, cubE f)] H := hP
  have hD : va_D AA [(h0, cubE f)] := hD
  subst w_1
  refine bb_eq (tgt := 56) X dX0_fitsStore_10 (by decide) (fun c_4 => ?_) (fun c_4 => ?_)
  · refine lv_iconst (v := 0) X.1 X.2.1 dX0_fitsStore_56 (by decide) ?_
    exact hret 0 () _ _ _ _ (by simp [fitsF, bI, c_4]) rfl (hP.sub [0] rfl) (hD.sub [0] rfl rfl) hS dX0_fitsStore_57
  · refine lv_aload_n X.1 X.2.1 dX0_fitsStore_13 rfl (lv_at hl 0 rfl) ?_
    refine gf_X0_15 (v := .long f.2.1) X hP 0 rfl rfl dX0_fitsStore_14 ?_
    refine lc_X0_28 X dX0_fitsStore_17 ?_
    refine fin_i (wr := [(h0, cubE f)]) (cv_X0_30 X (c_isWithin l D cI cJ f.2.1 300  _) rfl rfl dX0_fitsStore_20 hP hD [] rfl rfl hl.1 rfl rfl (Nat.le_of_ble_eq_true rfl) ⟨Nat.le_of_ble_eq_true rfl, Nat.le_of_ble_eq_true rfl⟩ ⟨Nat.le_of_ble_eq_true rfl, Nat.le_of_ble_eq_true rfl⟩) hP hD hS hA [] [0] rfl rfl rfl (by decide) (fun r_7 u_6 H locs w_5 hP hD hS => ?_)
    have hP : va_P D vwCl [(h0, cubE f)] H := hP
    have hD : va_D AA [(h0, cubE f)] := hD
    subst w_5
    refine bb_eq (tgt := 56) X dX0_fitsStore_23 (by decide) (fun c_8 => ?_) (fun c_8 => ?_)
    · refine lv_iconst (v := 0) X.1 X.2.1 dX0_fitsStore_56 (by decide) ?_
      exact hret 0 () _ _ _ _ (by simp [fitsF, bI, c_4, c_8]) rfl (hP.sub [0] rfl) (hD.sub [0] rfl rfl) hS dX0_fitsStore_57
    · refine lv_aload_n X.1 X.2.1 dX0_fitsStore_26 rfl (lv_at hl 0 rfl) ?_
      refine gf_X0_18 (v := .long f.2.2.1) X hP 0 rfl rfl dX0_fitsStore_27 ?_
      refine lc_X0_28 X dX0_fitsStore_30 ?_
      refine fin_i (wr := [(h0, cubE f)]) (cv_X0_30 X (c_isWithin l D cI cJ f.2.2.1 300  _) rfl rfl dX0_fitsStore_33 hP hD [] rfl rfl hl.1 rfl rfl (Nat.le_of_ble_eq_true rfl) ⟨Nat.le_of_ble_eq_true rfl, Nat.le_of_ble_eq_true rfl⟩ ⟨Nat.le_of_ble_eq_true rfl, Nat.le_of_ble_eq_true rfl⟩) hP hD hS hA [] [0] rfl rfl rfl (by decide) (fun r_11 u_10 H locs w_9 hP hD hS => ?_)
      have hP : va_P D vwCl [(h0, cubE f)] H := hP
      have hD : va_D AA [(h0, cubE f)] := hD
      subst w_9
      refine bb_eq (tgt := 56) X dX0_fitsStore_36 (by decide) (fun c_12 => ?_) (fun c_12 => ?_)
      · refine lv_iconst (v := 0) X.1 X.2.1 dX0_fitsStore_56 (by decide) ?_
        exact hret 0 () _ _ _ _ (by simp [fitsF, bI, c_4, c_8, c_12]) rfl (hP.sub [0] rfl) (hD.sub [0] rfl rfl) hS dX0_fitsStore_57
      · refine lv_aload_n X.1 X.2.1 dX0_fitsStore_39 rfl (lv_at hl 0 rfl) ?_
        refine gf_X0_21 (v := .long f.2.2.2) X hP 0 rfl rfl dX0_fitsStore_40 ?_
        refine lc_X0_28 X dX0_fitsStore_43 ?_
        refine fin_i (wr := [(h0, cubE f)]) (cv_X0_30 X (c_isWithin l D cI cJ f.2.2.2 300  _) rfl rfl dX0_fitsStore_46 hP hD [] rfl rfl hl.1 rfl rfl (Nat.le_of_ble_eq_true rfl) ⟨Nat.le_of_ble_eq_true rfl, Nat.le_of_ble_eq_true rfl⟩ ⟨Nat.le_of_ble_eq_true rfl, Nat.le_of_ble_eq_true rfl⟩) hP hD hS hA [] [0] rfl rfl rfl (by decide) (fun r_15 u_14 H locs w_13 hP hD hS => ?_)
        have hP : va_P D vwCl [(h0, cubE f)] H := hP
        have hD : va_D AA [(h0, cubE f)] := hD
        subst w_13
        refine bb_eq (tgt := 56) X dX0_fitsStore_49 (by decide) (fun c_16 => ?_) (fun c_16 => ?_)
        · refine lv_iconst (v := 0) X.1 X.2.1 dX0_fitsStore_56 (by decide) ?_
          exact hret 0 () _ _ _ _ (by simp [fitsF, bI, c_4, c_8, c_12, c_16]) rfl (hP.sub [0] rfl) (hD.sub [0] rfl rfl) hS dX0_fitsStore_57
        · refine lv_iconst (v := 1) X.1 X.2.1 dX0_fitsStore_52 (by decide) ?_
          refine lv_goto (tgt := 57) X.1 X.2.1 dX0_fitsStore_53 (by decide) ?_
          exact hret 1 () _ _ _ _ (by simp [fitsF, bI, c_4, c_8, c_12, c_16]) rfl (hP.sub [0] rfl) (hD.sub [0] rfl rfl) hS dX0_fitsStore_57
set_option maxHeartbeats 4000000 in
set_option maxRecDepth 100000 in
theorem c_Cubic_isSameAs (l : Launch) (D : va_G) (cI cJ : ClassId) (h0 : Nat) (f : Fm) (h1 : Nat) (g : Fm)  : CtI l yX0_isSameAs cX0_isSameAs 2 .boolean (rmk 0 0) D cI cJ [.ref h0, .ref h1] [(h0, cubE f), (h1, cubE g)] (fun (_ : Unit) => [(h0, cubE f), (h1, cubE g)]) (fun (r : Int32) (_ : Unit) => r = bI (sameF f g)) := by
  refine CtI.of (own := RX0) (by decide +kernel) (Nat.le_of_ble_eq_true rfl) rfl ?_
  intro pr_ en_ sg_ me_ ar_ be_ mt_ co_ AA ls QQ X hA hP hD hS hl hret
  have hl : lv_has ls 2 [(0, .ref h0), (1, .ref h1)] := hl
  refine lv_aload_n X.1 X.2.1 dX0_isSameAs_0 rfl (lv_at hl 0 rfl) ?_
  refine gf_X0_9 (v := .long f.1) X hP 0 rfl rfl dX0_isSameAs_1 ?_
  refine lv_aload_n X.1 X.2.1 dX0_isSameAs_4 rfl (lv_at hl 1 rfl) ?_
  refine gf_X0_9 (v := .long g.1) X hP 1 rfl rfl dX0_isSameAs_5 ?_
  refine bl_ne (tgt := 52) X dX0_isSameAs_8 dX0_isSameAs_9 (by decide) (fun c_1 => ?_) (fun c_1 => ?_)
  · refine lv_iconst (v := 0) X.1 X.2.1 dX0_isSameAs_52 (by decide) ?_
    exact hret 0 () _ _ _ _ (by simp [sameF, bI, c_1]) rfl (hP.sub [0, 1] rfl) (hD.sub [0, 1] rfl rfl) hS dX0_isSameAs_53
  · refine lv_aload_n X.1 X.2.1 dX0_isSameAs_12 rfl (lv_at hl 0 rfl) ?_
    refine gf_X0_15 (v := .long f.2.1) X hP 0 rfl rfl dX0_isSameAs_13 ?_
    refine lv_aload_n X.1 X.2.1 dX0_isSameAs_16 rfl (lv_at hl 1 rfl) ?_
    refine gf_X0_15 (v := .long g.2.1) X hP 1 rfl rfl dX0_isSameAs_17 ?_
    refine bl_ne (tgt := 52) X dX0_isSameAs_20 dX0_isSameAs_21 (by decide) (fun c_2 => ?_) (fun c_2 => ?_)
    · refine lv_iconst (v := 0) X.1 X.2.1 dX0_isSameAs_52 (by decide) ?_
      exact hret 0 () _ _ _ _ (by simp [sameF, bI, c_1, c_2]) rfl (hP.sub [0, 1] rfl) (hD.sub [0, 1] rfl rfl) hS dX0_isSameAs_53
    · refine lv_aload_n X.1 X.2.1 dX0_isSameAs_24 rfl (lv_at hl 0 rfl) ?_
      refine gf_X0_18 (v := .long f.2.2.1) X hP 0 rfl rfl dX0_isSameAs_25 ?_
      refine lv_aload_n X.1 X.2.1 dX0_isSameAs_28 rfl (lv_at hl 1 rfl) ?_
      refine gf_X0_18 (v := .long g.2.2.1) X hP 1 rfl rfl dX0_isSameAs_29 ?_
      refine bl_ne (tgt := 52) X dX0_isSameAs_32 dX0_isSameAs_33 (by decide) (fun c_3 => ?_) (fun c_3 => ?_)
      · refine lv_iconst (v := 0) X.1 X.2.1 dX0_isSameAs_52 (by decide) ?_
        exact hret 0 () _ _ _ _ (by simp [sameF, bI, c_1, c_2, c_3]) rfl (hP.sub [0, 1] rfl) (hD.sub [0, 1] rfl rfl) hS dX0_isSameAs_53
      · refine lv_aload_n X.1 X.2.1 dX0_isSameAs_36 rfl (lv_at hl 0 rfl) ?_
        refine gf_X0_21 (v := .long f.2.2.2) X hP 0 rfl rfl dX0_isSameAs_37 ?_
        refine lv_aload_n X.1 X.2.1 dX0_isSameAs_40 rfl (lv_at hl 1 rfl) ?_
        refine gf_X0_21 (v := .long g.2.2.2) X hP 1 rfl rfl dX0_isSameAs_41 ?_
        refine bl_ne (tgt := 52) X dX0_isSameAs_44 dX0_isSameAs_45 (by decide) (fun c_4 => ?_) (fun c_4 => ?_)
        · refine lv_iconst (v := 0) X.1 X.2.1 dX0_isSameAs_52 (by decide) ?_
          exact hret 0 () _ _ _ _ (by simp [sameF, bI, c_1, c_2, c_3, c_4]) rfl (hP.sub [0, 1] rfl) (hD.sub [0, 1] rfl rfl) hS dX0_isSameAs_53
        · refine lv_iconst (v := 1) X.1 X.2.1 dX0_isSameAs_48 (by decide) ?_
          refine lv_goto (tgt := 53) X.1 X.2.1 dX0_isSameAs_49 (by decide) ?_
          exact hret 1 () _ _ _ _ (by simp [sameF, bI, c_1, c_2, c_3, c_4]) rfl (hP.sub [0, 1] rfl) (hD.sub [0, 1] rfl rfl) hS dX0_isSameAs_53
set_option maxHeartbeats 4000000 in
set_option maxRecDepth 100000 in
theorem c_Cubic_isBefore (l : Launch) (D : va_G) (cI cJ : ClassId) (h0 : Nat) (f : Fm) (h1 : Nat) (g : Fm)  : CtI l yX0_isBefore cX0_isBefore 2 .boolean (rmk 0 0) D cI cJ [.ref h0, .ref h1] [(h0, cubE f), (h1, cubE g)] (fun (_ : Unit) => [(h0, cubE f), (h1, cubE g)]) (fun (r : Int32) (_ : Unit) => r = bI (befF f g)) := by
  refine CtI.of (own := RX0) (by decide +kernel) (Nat.le_of_ble_eq_true rfl) rfl ?_
  intro pr_ en_ sg_ me_ ar_ be_ mt_ co_ AA ls QQ X hA hP hD hS hl hret
  have hl : lv_has ls 2 [(0, .ref h0), (1, .ref h1)] := hl
  refine lv_aload_n X.1 X.2.1 dX0_isBefore_0 rfl (lv_at hl 0 rfl) ?_
  refine gf_X0_9 (v := .long f.1) X hP 0 rfl rfl dX0_isBefore_1 ?_
  refine lv_aload_n X.1 X.2.1 dX0_isBefore_4 rfl (lv_at hl 1 rfl) ?_
  refine gf_X0_9 (v := .long g.1) X hP 1 rfl rfl dX0_isBefore_5 ?_
  refine bl_eq (tgt := 30) X dX0_isBefore_8 dX0_isBefore_9 (by decide) (fun c_1 => ?_) (fun c_1 => ?_)
  · refine lv_aload_n X.1 X.2.1 dX0_isBefore_30 rfl (lv_at hl 0 rfl) ?_
    refine gf_X0_15 (v := .long f.2.1) X hP 0 rfl rfl dX0_isBefore_31 ?_
    refine lv_aload_n X.1 X.2.1 dX0_isBefore_34 rfl (lv_at hl 1 rfl) ?_
    refine gf_X0_15 (v := .long g.2.1) X hP 1 rfl rfl dX0_isBefore_35 ?_
    refine bl_eq (tgt := 60) X dX0_isBefore_38 dX0_isBefore_39 (by decide) (fun c_2 => ?_) (fun c_2 => ?_)
    · refine lv_aload_n X.1 X.2.1 dX0_isBefore_60 rfl (lv_at hl 0 rfl) ?_
      refine gf_X0_18 (v := .long f.2.2.1) X hP 0 rfl rfl dX0_isBefore_61 ?_
      refine lv_aload_n X.1 X.2.1 dX0_isBefore_64 rfl (lv_at hl 1 rfl) ?_
      refine gf_X0_18 (v := .long g.2.2.1) X hP 1 rfl rfl dX0_isBefore_65 ?_
      refine bl_eq (tgt := 90) X dX0_isBefore_68 dX0_isBefore_69 (by decide) (fun c_3 => ?_) (fun c_3 => ?_)
      · refine lv_aload_n X.1 X.2.1 dX0_isBefore_90 rfl (lv_at hl 0 rfl) ?_
        refine gf_X0_21 (v := .long f.2.2.2) X hP 0 rfl rfl dX0_isBefore_91 ?_
        refine lv_aload_n X.1 X.2.1 dX0_isBefore_94 rfl (lv_at hl 1 rfl) ?_
        refine gf_X0_21 (v := .long g.2.2.2) X hP 1 rfl rfl dX0_isBefore_95 ?_
        refine bl_ge (tgt := 106) X dX0_isBefore_98 dX0_isBefore_99 (by decide) (fun c_4 => ?_) (fun c_4 => ?_)
        · refine lv_iconst (v := 0) X.1 X.2.1 dX0_isBefore_106 (by decide) ?_
          exact hret 0 () _ _ _ _ (by simp [befF, bI, c_1, c_2, c_3, c_4]) rfl (hP.sub [0, 1] rfl) (hD.sub [0, 1] rfl rfl) hS dX0_isBefore_107
        · refine lv_iconst (v := 1) X.1 X.2.1 dX0_isBefore_102 (by decide) ?_
          refine lv_goto (tgt := 107) X.1 X.2.1 dX0_isBefore_103 (by decide) ?_
          exact hret 1 () _ _ _ _ (by simp [befF, bI, c_1, c_2, c_3, c_4]) rfl (hP.sub [0, 1] rfl) (hD.sub [0, 1] rfl rfl) hS dX0_isBefore_107
      · refine lv_aload_n X.1 X.2.1 dX0_isBefore_72 rfl (lv_at hl 0 rfl) ?_
        refine gf_X0_18 (v := .long f.2.2.1) X hP 0 rfl rfl dX0_isBefore_73 ?_
        refine lv_aload_n X.1 X.2.1 dX0_isBefore_76 rfl (lv_at hl 1 rfl) ?_
        refine gf_X0_18 (v := .long g.2.2.1) X hP 1 rfl rfl dX0_isBefore_77 ?_
        refine bl_ge (tgt := 88) X dX0_isBefore_80 dX0_isBefore_81 (by decide) (fun c_5 => ?_) (fun c_5 => ?_)
        · refine lv_iconst (v := 0) X.1 X.2.1 dX0_isBefore_88 (by decide) ?_
          exact hret 0 () _ _ _ _ (by simp [befF, bI, c_1, c_2, c_3, c_5]) rfl (hP.sub [0, 1] rfl) (hD.sub [0, 1] rfl rfl) hS dX0_isBefore_89
        · refine lv_iconst (v := 1) X.1 X.2.1 dX0_isBefore_84 (by decide) ?_
          refine lv_goto (tgt := 89) X.1 X.2.1 dX0_isBefore_85 (by decide) ?_
          exact hret 1 () _ _ _ _ (by simp [befF, bI, c_1, c_2, c_3, c_5]) rfl (hP.sub [0, 1] rfl) (hD.sub [0, 1] rfl rfl) hS dX0_isBefore_89
    · refine lv_aload_n X.1 X.2.1 dX0_isBefore_42 rfl (lv_at hl 0 rfl) ?_
      refine gf_X0_15 (v := .long f.2.1) X hP 0 rfl rfl dX0_isBefore_43 ?_
      refine lv_aload_n X.1 X.2.1 dX0_isBefore_46 rfl (lv_at hl 1 rfl) ?_
      refine gf_X0_15 (v := .long g.2.1) X hP 1 rfl rfl dX0_isBefore_47 ?_
      refine bl_ge (tgt := 58) X dX0_isBefore_50 dX0_isBefore_51 (by decide) (fun c_6 => ?_) (fun c_6 => ?_)
      · refine lv_iconst (v := 0) X.1 X.2.1 dX0_isBefore_58 (by decide) ?_
        exact hret 0 () _ _ _ _ (by simp [befF, bI, c_1, c_2, c_6]) rfl (hP.sub [0, 1] rfl) (hD.sub [0, 1] rfl rfl) hS dX0_isBefore_59
      · refine lv_iconst (v := 1) X.1 X.2.1 dX0_isBefore_54 (by decide) ?_
        refine lv_goto (tgt := 59) X.1 X.2.1 dX0_isBefore_55 (by decide) ?_
        exact hret 1 () _ _ _ _ (by simp [befF, bI, c_1, c_2, c_6]) rfl (hP.sub [0, 1] rfl) (hD.sub [0, 1] rfl rfl) hS dX0_isBefore_59
  · refine lv_aload_n X.1 X.2.1 dX0_isBefore_12 rfl (lv_at hl 0 rfl) ?_
    refine gf_X0_9 (v := .long f.1) X hP 0 rfl rfl dX0_isBefore_13 ?_
    refine lv_aload_n X.1 X.2.1 dX0_isBefore_16 rfl (lv_at hl 1 rfl) ?_
    refine gf_X0_9 (v := .long g.1) X hP 1 rfl rfl dX0_isBefore_17 ?_
    refine bl_ge (tgt := 28) X dX0_isBefore_20 dX0_isBefore_21 (by decide) (fun c_7 => ?_) (fun c_7 => ?_)
    · refine lv_iconst (v := 0) X.1 X.2.1 dX0_isBefore_28 (by decide) ?_
      exact hret 0 () _ _ _ _ (by simp [befF, bI, c_1, c_7]) rfl (hP.sub [0, 1] rfl) (hD.sub [0, 1] rfl rfl) hS dX0_isBefore_29
    · refine lv_iconst (v := 1) X.1 X.2.1 dX0_isBefore_24 (by decide) ?_
      refine lv_goto (tgt := 29) X.1 X.2.1 dX0_isBefore_25 (by decide) ?_
      exact hret 1 () _ _ _ _ (by simp [befF, bI, c_1, c_7]) rfl (hP.sub [0, 1] rfl) (hD.sub [0, 1] rfl rfl) hS dX0_isBefore_29
set_option maxHeartbeats 4000000 in
set_option maxRecDepth 100000 in
theorem c_Cubic_disc (l : Launch) (D : va_G) (cI cJ : ClassId) (h0 : Nat) (f : Fm)  : CtL l yX0_disc cX0_disc 1 (rmk 0 0) D cI cJ [.ref h0] [(h0, cubE f)] (fun (_ : Unit) => [(h0, cubE f)]) (fun (r : Int64) (_ : Unit) => r = discF f) := by
  refine CtL.of (own := RX0) (by decide +kernel) (Nat.le_of_ble_eq_true rfl) rfl ?_
  intro pr_ en_ sg_ me_ ar_ be_ mt_ co_ AA ls QQ X hA hP hD hS hl hret
  have hl : lv_has ls 1 [(0, .ref h0)] := hl
  refine lv_aload_n X.1 X.2.1 dX0_disc_0 rfl (lv_at hl 0 rfl) ?_
  refine gf_X0_15 (v := .long f.2.1) X hP 0 rfl rfl dX0_disc_1 ?_
  refine lv_aload_n X.1 X.2.1 dX0_disc_4 rfl (lv_at hl 0 rfl) ?_
  refine gf_X0_15 (v := .long f.2.1) X hP 0 rfl rfl dX0_disc_5 ?_
  refine lv_lmul X.1 X.2.1 dX0_disc_8 ?_
  refine lv_aload_n X.1 X.2.1 dX0_disc_9 rfl (lv_at hl 0 rfl) ?_
  refine gf_X0_18 (v := .long f.2.2.1) X hP 0 rfl rfl dX0_disc_10 ?_
  refine lv_lmul X.1 X.2.1 dX0_disc_13 ?_
  refine lv_aload_n X.1 X.2.1 dX0_disc_14 rfl (lv_at hl 0 rfl) ?_
  refine gf_X0_18 (v := .long f.2.2.1) X hP 0 rfl rfl dX0_disc_15 ?_
  refine lv_lmul X.1 X.2.1 dX0_disc_18 ?_
  refine lc_X0_34 X dX0_disc_19 ?_
  refine lv_aload_n X.1 X.2.1 dX0_disc_22 rfl (lv_at hl 0 rfl) ?_
  refine gf_X0_9 (v := .long f.1) X hP 0 rfl rfl dX0_disc_23 ?_
  refine lv_lmul X.1 X.2.1 dX0_disc_26 ?_
  refine lv_aload_n X.1 X.2.1 dX0_disc_27 rfl (lv_at hl 0 rfl) ?_
  refine gf_X0_18 (v := .long f.2.2.1) X hP 0 rfl rfl dX0_disc_28 ?_
  refine lv_lmul X.1 X.2.1 dX0_disc_31 ?_
  refine lv_aload_n X.1 X.2.1 dX0_disc_32 rfl (lv_at hl 0 rfl) ?_
  refine gf_X0_18 (v := .long f.2.2.1) X hP 0 rfl rfl dX0_disc_33 ?_
  refine lv_lmul X.1 X.2.1 dX0_disc_36 ?_
  refine lv_aload_n X.1 X.2.1 dX0_disc_37 rfl (lv_at hl 0 rfl) ?_
  refine gf_X0_18 (v := .long f.2.2.1) X hP 0 rfl rfl dX0_disc_38 ?_
  refine lv_lmul X.1 X.2.1 dX0_disc_41 ?_
  refine lv_lsub X.1 X.2.1 dX0_disc_42 ?_
  refine lc_X0_34 X dX0_disc_43 ?_
  refine lv_aload_n X.1 X.2.1 dX0_disc_46 rfl (lv_at hl 0 rfl) ?_
  refine gf_X0_15 (v := .long f.2.1) X hP 0 rfl rfl dX0_disc_47 ?_
  refine lv_lmul X.1 X.2.1 dX0_disc_50 ?_
  refine lv_aload_n X.1 X.2.1 dX0_disc_51 rfl (lv_at hl 0 rfl) ?_
  refine gf_X0_15 (v := .long f.2.1) X hP 0 rfl rfl dX0_disc_52 ?_
  refine lv_lmul X.1 X.2.1 dX0_disc_55 ?_
  refine lv_aload_n X.1 X.2.1 dX0_disc_56 rfl (lv_at hl 0 rfl) ?_
  refine gf_X0_15 (v := .long f.2.1) X hP 0 rfl rfl dX0_disc_57 ?_
  refine lv_lmul X.1 X.2.1 dX0_disc_60 ?_
  refine lv_aload_n X.1 X.2.1 dX0_disc_61 rfl (lv_at hl 0 rfl) ?_
  refine gf_X0_21 (v := .long f.2.2.2) X hP 0 rfl rfl dX0_disc_62 ?_
  refine lv_lmul X.1 X.2.1 dX0_disc_65 ?_
  refine lv_lsub X.1 X.2.1 dX0_disc_66 ?_
  refine lc_X0_36 X dX0_disc_67 ?_
  refine lv_aload_n X.1 X.2.1 dX0_disc_70 rfl (lv_at hl 0 rfl) ?_
  refine gf_X0_9 (v := .long f.1) X hP 0 rfl rfl dX0_disc_71 ?_
  refine lv_lmul X.1 X.2.1 dX0_disc_74 ?_
  refine lv_aload_n X.1 X.2.1 dX0_disc_75 rfl (lv_at hl 0 rfl) ?_
  refine gf_X0_9 (v := .long f.1) X hP 0 rfl rfl dX0_disc_76 ?_
  refine lv_lmul X.1 X.2.1 dX0_disc_79 ?_
  refine lv_aload_n X.1 X.2.1 dX0_disc_80 rfl (lv_at hl 0 rfl) ?_
  refine gf_X0_21 (v := .long f.2.2.2) X hP 0 rfl rfl dX0_disc_81 ?_
  refine lv_lmul X.1 X.2.1 dX0_disc_84 ?_
  refine lv_aload_n X.1 X.2.1 dX0_disc_85 rfl (lv_at hl 0 rfl) ?_
  refine gf_X0_21 (v := .long f.2.2.2) X hP 0 rfl rfl dX0_disc_86 ?_
  refine lv_lmul X.1 X.2.1 dX0_disc_89 ?_
  refine lv_lsub X.1 X.2.1 dX0_disc_90 ?_
  refine lc_X0_38 X dX0_disc_91 ?_
  refine lv_aload_n X.1 X.2.1 dX0_disc_94 rfl (lv_at hl 0 rfl) ?_
  refine gf_X0_9 (v := .long f.1) X hP 0 rfl rfl dX0_disc_95 ?_
  refine lv_lmul X.1 X.2.1 dX0_disc_98 ?_
  refine lv_aload_n X.1 X.2.1 dX0_disc_99 rfl (lv_at hl 0 rfl) ?_
  refine gf_X0_15 (v := .long f.2.1) X hP 0 rfl rfl dX0_disc_100 ?_
  refine lv_lmul X.1 X.2.1 dX0_disc_103 ?_
  refine lv_aload_n X.1 X.2.1 dX0_disc_104 rfl (lv_at hl 0 rfl) ?_
  refine gf_X0_18 (v := .long f.2.2.1) X hP 0 rfl rfl dX0_disc_105 ?_
  refine lv_lmul X.1 X.2.1 dX0_disc_108 ?_
  refine lv_aload_n X.1 X.2.1 dX0_disc_109 rfl (lv_at hl 0 rfl) ?_
  refine gf_X0_21 (v := .long f.2.2.2) X hP 0 rfl rfl dX0_disc_110 ?_
  refine lv_lmul X.1 X.2.1 dX0_disc_113 ?_
  refine lv_ladd X.1 X.2.1 dX0_disc_114 ?_
  exact hret (((((((f.2.1 * f.2.1) * f.2.2.1) * f.2.2.1) - ((((4 * f.1) * f.2.2.1) * f.2.2.1) * f.2.2.1)) - ((((4 * f.2.1) * f.2.1) * f.2.1) * f.2.2.2)) - ((((27 * f.1) * f.1) * f.2.2.2) * f.2.2.2)) + ((((18 * f.1) * f.2.1) * f.2.2.1) * f.2.2.2)) () _ _ _ _ (rfl) (hP.sub [0] rfl) (hD.sub [0] rfl rfl) hS dX0_disc_115
set_option maxHeartbeats 4000000 in
set_option maxRecDepth 100000 in
theorem c_Cubic_hessianP (l : Launch) (D : va_G) (cI cJ : ClassId) (h0 : Nat) (f : Fm)  : CtL l yX0_hessianP cX0_hessianP 1 (rmk 0 0) D cI cJ [.ref h0] [(h0, cubE f)] (fun (_ : Unit) => [(h0, cubE f)]) (fun (r : Int64) (_ : Unit) => r = hpF f) := by
  refine CtL.of (own := RX0) (by decide +kernel) (Nat.le_of_ble_eq_true rfl) rfl ?_
  intro pr_ en_ sg_ me_ ar_ be_ mt_ co_ AA ls QQ X hA hP hD hS hl hret
  have hl : lv_has ls 1 [(0, .ref h0)] := hl
  refine lv_aload_n X.1 X.2.1 dX0_hessianP_0 rfl (lv_at hl 0 rfl) ?_
  refine gf_X0_15 (v := .long f.2.1) X hP 0 rfl rfl dX0_hessianP_1 ?_
  refine lv_aload_n X.1 X.2.1 dX0_hessianP_4 rfl (lv_at hl 0 rfl) ?_
  refine gf_X0_15 (v := .long f.2.1) X hP 0 rfl rfl dX0_hessianP_5 ?_
  refine lv_lmul X.1 X.2.1 dX0_hessianP_8 ?_
  refine lc_X0_40 X dX0_hessianP_9 ?_
  refine lv_aload_n X.1 X.2.1 dX0_hessianP_12 rfl (lv_at hl 0 rfl) ?_
  refine gf_X0_9 (v := .long f.1) X hP 0 rfl rfl dX0_hessianP_13 ?_
  refine lv_lmul X.1 X.2.1 dX0_hessianP_16 ?_
  refine lv_aload_n X.1 X.2.1 dX0_hessianP_17 rfl (lv_at hl 0 rfl) ?_
  refine gf_X0_18 (v := .long f.2.2.1) X hP 0 rfl rfl dX0_hessianP_18 ?_
  refine lv_lmul X.1 X.2.1 dX0_hessianP_21 ?_
  refine lv_lsub X.1 X.2.1 dX0_hessianP_22 ?_
  exact hret ((f.2.1 * f.2.1) - ((3 * f.1) * f.2.2.1)) () _ _ _ _ (rfl) (hP.sub [0] rfl) (hD.sub [0] rfl rfl) hS dX0_hessianP_23
set_option maxHeartbeats 4000000 in
set_option maxRecDepth 100000 in
theorem c_Cubic_hessianQ (l : Launch) (D : va_G) (cI cJ : ClassId) (h0 : Nat) (f : Fm)  : CtL l yX0_hessianQ cX0_hessianQ 1 (rmk 0 0) D cI cJ [.ref h0] [(h0, cubE f)] (fun (_ : Unit) => [(h0, cubE f)]) (fun (r : Int64) (_ : Unit) => r = hqF f) := by
  refine CtL.of (own := RX0) (by decide +kernel) (Nat.le_of_ble_eq_true rfl) rfl ?_
  intro pr_ en_ sg_ me_ ar_ be_ mt_ co_ AA ls QQ X hA hP hD hS hl hret
  have hl : lv_has ls 1 [(0, .ref h0)] := hl
  refine lv_aload_n X.1 X.2.1 dX0_hessianQ_0 rfl (lv_at hl 0 rfl) ?_
  refine gf_X0_15 (v := .long f.2.1) X hP 0 rfl rfl dX0_hessianQ_1 ?_
  refine lv_aload_n X.1 X.2.1 dX0_hessianQ_4 rfl (lv_at hl 0 rfl) ?_
  refine gf_X0_18 (v := .long f.2.2.1) X hP 0 rfl rfl dX0_hessianQ_5 ?_
  refine lv_lmul X.1 X.2.1 dX0_hessianQ_8 ?_
  refine lc_X0_42 X dX0_hessianQ_9 ?_
  refine lv_aload_n X.1 X.2.1 dX0_hessianQ_12 rfl (lv_at hl 0 rfl) ?_
  refine gf_X0_9 (v := .long f.1) X hP 0 rfl rfl dX0_hessianQ_13 ?_
  refine lv_lmul X.1 X.2.1 dX0_hessianQ_16 ?_
  refine lv_aload_n X.1 X.2.1 dX0_hessianQ_17 rfl (lv_at hl 0 rfl) ?_
  refine gf_X0_21 (v := .long f.2.2.2) X hP 0 rfl rfl dX0_hessianQ_18 ?_
  refine lv_lmul X.1 X.2.1 dX0_hessianQ_21 ?_
  refine lv_lsub X.1 X.2.1 dX0_hessianQ_22 ?_
  exact hret ((f.2.1 * f.2.2.1) - ((9 * f.1) * f.2.2.2)) () _ _ _ _ (rfl) (hP.sub [0] rfl) (hD.sub [0] rfl rfl) hS dX0_hessianQ_23
set_option maxHeartbeats 4000000 in
set_option maxRecDepth 100000 in
theorem c_Cubic_hessianR (l : Launch) (D : va_G) (cI cJ : ClassId) (h0 : Nat) (f : Fm)  : CtL l yX0_hessianR cX0_hessianR 1 (rmk 0 0) D cI cJ [.ref h0] [(h0, cubE f)] (fun (_ : Unit) => [(h0, cubE f)]) (fun (r : Int64) (_ : Unit) => r = hrF f) := by
  refine CtL.of (own := RX0) (by decide +kernel) (Nat.le_of_ble_eq_true rfl) rfl ?_
  intro pr_ en_ sg_ me_ ar_ be_ mt_ co_ AA ls QQ X hA hP hD hS hl hret
  have hl : lv_has ls 1 [(0, .ref h0)] := hl
  refine lv_aload_n X.1 X.2.1 dX0_hessianR_0 rfl (lv_at hl 0 rfl) ?_
  refine gf_X0_18 (v := .long f.2.2.1) X hP 0 rfl rfl dX0_hessianR_1 ?_
  refine lv_aload_n X.1 X.2.1 dX0_hessianR_4 rfl (lv_at hl 0 rfl) ?_
  refine gf_X0_18 (v := .long f.2.2.1) X hP 0 rfl rfl dX0_hessianR_5 ?_
  refine lv_lmul X.1 X.2.1 dX0_hessianR_8 ?_
  refine lc_X0_40 X dX0_hessianR_9 ?_
  refine lv_aload_n X.1 X.2.1 dX0_hessianR_12 rfl (lv_at hl 0 rfl) ?_
  refine gf_X0_15 (v := .long f.2.1) X hP 0 rfl rfl dX0_hessianR_13 ?_
  refine lv_lmul X.1 X.2.1 dX0_hessianR_16 ?_
  refine lv_aload_n X.1 X.2.1 dX0_hessianR_17 rfl (lv_at hl 0 rfl) ?_
  refine gf_X0_21 (v := .long f.2.2.2) X hP 0 rfl rfl dX0_hessianR_18 ?_
  refine lv_lmul X.1 X.2.1 dX0_hessianR_21 ?_
  refine lv_lsub X.1 X.2.1 dX0_hessianR_22 ?_
  exact hret ((f.2.2.1 * f.2.2.1) - ((3 * f.2.1) * f.2.2.2)) () _ _ _ _ (rfl) (hP.sub [0] rfl) (hD.sub [0] rfl rfl) hS dX0_hessianR_23
set_option maxHeartbeats 4000000 in
set_option maxRecDepth 100000 in
theorem c_Cubic_hasReducedHessian (l : Launch) (D : va_G) (cI cJ : ClassId) (h0 : Nat) (f : Fm)  : CtI l yX0_hasReducedHessian cX0_hasReducedHessian 3 .boolean (rmk 1 23) D cI cJ [.ref h0] [(h0, cubE f)] (fun (_ : Unit) => [(h0, cubE f)]) (fun (r : Int32) (_ : Unit) => r = bI (reduF f)) := by
  refine CtI.of (own := RX0) (by decide +kernel) (Nat.le_of_ble_eq_true rfl) rfl ?_
  intro pr_ en_ sg_ me_ ar_ be_ mt_ co_ AA ls QQ X hA hP hD hS hl hret
  have hl : lv_has ls 3 [(0, .ref h0)] := hl
  refine lv_aload_n X.1 X.2.1 dX0_hasReducedHessian_0 rfl (lv_at hl 0 rfl) ?_
  refine fin_l (wr := []) (cv_X0_44 X (c_Cubic_hessianP l D cI cJ h0 f  _) rfl rfl dX0_hasReducedHessian_1 hP hD 0 rfl [0] rfl rfl hl.1 rfl rfl (Nat.le_of_ble_eq_true rfl) ⟨Nat.le_of_ble_eq_true rfl, Nat.le_of_ble_eq_true rfl⟩ ⟨Nat.le_of_ble_eq_true rfl, Nat.le_of_ble_eq_true rfl⟩) hP hD hS hA [0] [] rfl rfl rfl (by decide) (fun r_3 u_2 H locs w_1 hP hD hS => ?_)
  have hP : va_P D vwCl [(h0, cubE f)] H := hP
  have hD : va_D AA [(h0, cubE f)] := hD
  subst w_1
  refine lv_lstore_n (lv' := [(1, .long (hpF f)), (0, .ref h0)]) X.1 X.2.1 dX0_hasReducedHessian_4 rfl hl (by decide) rfl (fun ls hl => ?_)
  refine lv_aload_n X.1 X.2.1 dX0_hasReducedHessian_5 rfl (lv_at hl 1 rfl) ?_
  refine fin_l (wr := []) (cv_X0_48 X (c_Cubic_hessianQ l D cI cJ h0 f  _) rfl rfl dX0_hasReducedHessian_6 hP hD 0 rfl [0] rfl rfl hl.1 rfl rfl (Nat.le_of_ble_eq_true rfl) ⟨Nat.le_of_ble_eq_true rfl, Nat.le_of_ble_eq_true rfl⟩ ⟨Nat.le_of_ble_eq_true rfl, Nat.le_of_ble_eq_true rfl⟩) hP hD hS hA [0] [] rfl rfl rfl (by decide) (fun r_6 u_5 H locs w_4 hP hD hS => ?_)
  have hP : va_P D vwCl [(h0, cubE f)] H := hP
  have hD : va_D AA [(h0, cubE f)] := hD
  subst w_4
  refine lv_lload_n X.1 X.2.1 dX0_hasReducedHessian_9 rfl (lv_at hl 0 rfl) ?_
  refine fin_i (wr := [(h0, cubE f)]) (cv_X0_30 X (c_isWithin l D cI cJ (hqF f) (hpF f)  _) rfl rfl dX0_hasReducedHessian_10 hP hD [] rfl rfl hl.1 rfl rfl (Nat.le_of_ble_eq_true rfl) ⟨Nat.le_of_ble_eq_true rfl, Nat.le_of_ble_eq_true rfl⟩ ⟨Nat.le_of_ble_eq_true rfl, Nat.le_of_ble_eq_true rfl⟩) hP hD hS hA [] [0] rfl rfl rfl (by decide) (fun r_9 u_8 H locs w_7 hP hD hS => ?_)
  have hP : va_P D vwCl [(h0, cubE f)] H := hP
  have hD : va_D AA [(h0, cubE f)] := hD
  subst w_7
  refine bb_eq (tgt := 29) X dX0_hasReducedHessian_13 (by decide) (fun c_10 => ?_) (fun c_10 => ?_)
  · refine lv_iconst (v := 0) X.1 X.2.1 dX0_hasReducedHessian_29 (by decide) ?_
    exact hret 0 () _ _ _ _ (by simp [reduF, bI, c_10]) rfl (hP.sub [0] rfl) (hD.sub [0] rfl rfl) hS dX0_hasReducedHessian_30
  · refine lv_lload_n X.1 X.2.1 dX0_hasReducedHessian_16 rfl (lv_at hl 0 rfl) ?_
    refine lv_aload_n X.1 X.2.1 dX0_hasReducedHessian_17 rfl (lv_at hl 1 rfl) ?_
    refine fin_l (wr := []) (cv_X0_51 X (c_Cubic_hessianR l D cI cJ h0 f  _) rfl rfl dX0_hasReducedHessian_18 hP hD 0 rfl [0] rfl rfl hl.1 rfl rfl (Nat.le_of_ble_eq_true rfl) ⟨Nat.le_of_ble_eq_true rfl, Nat.le_of_ble_eq_true rfl⟩ ⟨Nat.le_of_ble_eq_true rfl, Nat.le_of_ble_eq_true rfl⟩) hP hD hS hA [0] [] rfl rfl rfl (by decide) (fun r_13 u_12 H locs w_11 hP hD hS => ?_)
    have hP : va_P D vwCl [(h0, cubE f)] H := hP
    have hD : va_D AA [(h0, cubE f)] := hD
    subst w_11
    refine bl_gt (tgt := 29) X dX0_hasReducedHessian_21 dX0_hasReducedHessian_22 (by decide) (fun c_14 => ?_) (fun c_14 => ?_)
    · refine lv_iconst (v := 0) X.1 X.2.1 dX0_hasReducedHessian_29 (by decide) ?_
      exact hret 0 () _ _ _ _ (by simp [reduF, bI, c_10, c_14]) rfl (hP.sub [0] rfl) (hD.sub [0] rfl rfl) hS dX0_hasReducedHessian_30
    · refine lv_iconst (v := 1) X.1 X.2.1 dX0_hasReducedHessian_25 (by decide) ?_
      refine lv_goto (tgt := 30) X.1 X.2.1 dX0_hasReducedHessian_26 (by decide) ?_
      exact hret 1 () _ _ _ _ (by simp [reduF, bI, c_10, c_14]) rfl (hP.sub [0] rfl) (hD.sub [0] rfl rfl) hS dX0_hasReducedHessian_30
set_option maxHeartbeats 4000000 in
set_option maxRecDepth 100000 in
theorem c_Cubic_valueAt (l : Launch) (D : va_G) (cI cJ : ClassId) (h0 : Nat) (f : Fm) (x : Int64) (y : Int64)  : CtL l yX0_valueAt cX0_valueAt 5 (rmk 0 0) D cI cJ [.ref h0, .long x, .long y] [(h0, cubE f)] (fun (_ : Unit) => [(h0, cubE f)]) (fun (r : Int64) (_ : Unit) => r = valF f x y) := by
  refine CtL.of (own := RX0) (by decide +kernel) (Nat.le_of_ble_eq_true rfl) rfl ?_
  intro pr_ en_ sg_ me_ ar_ be_ mt_ co_ AA ls QQ X hA hP hD hS hl hret
  have hl : lv_has ls 5 [(0, .ref h0), (1, .long x), (3, .long y)] := hl
  refine lv_aload_n X.1 X.2.1 dX0_valueAt_0 rfl (lv_at hl 0 rfl) ?_
  refine gf_X0_9 (v := .long f.1) X hP 0 rfl rfl dX0_valueAt_1 ?_
  refine lv_lload_n X.1 X.2.1 dX0_valueAt_4 rfl (lv_at hl 1 rfl) ?_
  refine lv_lmul X.1 X.2.1 dX0_valueAt_5 ?_
  refine lv_aload_n X.1 X.2.1 dX0_valueAt_6 rfl (lv_at hl 0 rfl) ?_
  refine gf_X0_15 (v := .long f.2.1) X hP 0 rfl rfl dX0_valueAt_7 ?_
  refine lv_lload_n X.1 X.2.1 dX0_valueAt_10 rfl (lv_at hl 2 rfl) ?_
  refine lv_lmul X.1 X.2.1 dX0_valueAt_11 ?_
  refine lv_ladd X.1 X.2.1 dX0_valueAt_12 ?_
  refine lv_lload_n X.1 X.2.1 dX0_valueAt_13 rfl (lv_at hl 1 rfl) ?_
  refine lv_lmul X.1 X.2.1 dX0_valueAt_14 ?_
  refine lv_aload_n X.1 X.2.1 dX0_valueAt_15 rfl (lv_at hl 0 rfl) ?_
  refine gf_X0_18 (v := .long f.2.2.1) X hP 0 rfl rfl dX0_valueAt_16 ?_
  refine lv_lload_n X.1 X.2.1 dX0_valueAt_19 rfl (lv_at hl 2 rfl) ?_
  refine lv_lmul X.1 X.2.1 dX0_valueAt_20 ?_
  refine lv_lload_n X.1 X.2.1 dX0_valueAt_21 rfl (lv_at hl 2 rfl) ?_
  refine lv_lmul X.1 X.2.1 dX0_valueAt_22 ?_
  refine lv_ladd X.1 X.2.1 dX0_valueAt_23 ?_
  refine lv_lload_n X.1 X.2.1 dX0_valueAt_24 rfl (lv_at hl 1 rfl) ?_
  refine lv_lmul X.1 X.2.1 dX0_valueAt_25 ?_
  refine lv_aload_n X.1 X.2.1 dX0_valueAt_26 rfl (lv_at hl 0 rfl) ?_
  refine gf_X0_21 (v := .long f.2.2.2) X hP 0 rfl rfl dX0_valueAt_27 ?_
  refine lv_lload_n X.1 X.2.1 dX0_valueAt_30 rfl (lv_at hl 2 rfl) ?_
  refine lv_lmul X.1 X.2.1 dX0_valueAt_31 ?_
  refine lv_lload_n X.1 X.2.1 dX0_valueAt_32 rfl (lv_at hl 2 rfl) ?_
  refine lv_lmul X.1 X.2.1 dX0_valueAt_33 ?_
  refine lv_lload_n X.1 X.2.1 dX0_valueAt_34 rfl (lv_at hl 2 rfl) ?_
  refine lv_lmul X.1 X.2.1 dX0_valueAt_35 ?_
  refine lv_ladd X.1 X.2.1 dX0_valueAt_36 ?_
  exact hret ((((((f.1 * x) + (f.2.1 * y)) * x) + ((f.2.2.1 * y) * y)) * x) + (((f.2.2.2 * y) * y) * y)) () _ _ _ _ (rfl) (hP.sub [0] rfl) (hD.sub [0] rfl rfl) hS dX0_valueAt_37
set_option maxHeartbeats 4000000 in
set_option maxRecDepth 100000 in
theorem c_Cubic_becomeSubstituted (l : Launch) (D : va_G) (cI cJ : ClassId) (h0 : Nat) (f : Fm) (h1 : Nat) (g : Fm) (p : Int64) (q : Int64) (r : Int64) (s : Int64)  : CtV l yX0_becomeSubstituted cX0_becomeSubstituted 10 (rmk 1 24) D cI cJ [.ref h0, .ref h1, .long p, .long q, .long r, .long s] [(h0, cubE f), (h1, cubE g)] (fun (_ : Unit) => [(h0, cubE (subF g p q r s)), (h1, cubE g)]) (fun (_ : Unit) => True) 0 0 := by
  refine CtV.of (own := RX0) (by decide +kernel) (Nat.le_of_ble_eq_true rfl) rfl ?_
  intro pr_ en_ sg_ me_ ar_ be_ mt_ co_ AA ls QQ X hin hA hP hD hS hl hret
  have hl : lv_has ls 10 [(0, .ref h0), (1, .ref h1), (2, .long p), (4, .long q), (6, .long r), (8, .long s)] := hl
  refine lv_aload_n X.1 X.2.1 dX0_becomeSubstituted_0 rfl (lv_at hl 0 rfl) ?_
  refine lv_aload_n X.1 X.2.1 dX0_becomeSubstituted_1 rfl (lv_at hl 1 rfl) ?_
  refine lv_lload_n X.1 X.2.1 dX0_becomeSubstituted_2 rfl (lv_at hl 2 rfl) ?_
  refine lv_lload X.1 X.2.1 dX0_becomeSubstituted_3 (lv_at hl 4 rfl) ?_
  refine fin_l (wr := [(h0, cubE f)]) (cv_X0_54 X (c_Cubic_valueAt l D cI cJ h1 g p r  _) rfl rfl dX0_becomeSubstituted_5 hP hD 1 rfl [1] rfl rfl hl.1 rfl rfl (Nat.le_of_ble_eq_true rfl) ⟨Nat.le_of_ble_eq_true rfl, Nat.le_of_ble_eq_true rfl⟩ ⟨Nat.le_of_ble_eq_true rfl, Nat.le_of_ble_eq_true rfl⟩) hP hD hS hA [1] [0] rfl rfl rfl (by decide) (fun r_3 u_2 H locs w_1 hP hD hS => ?_)
  have hP : va_P D vwCl [(h0, cubE f), (h1, cubE g)] H := hP
  have hD : va_D AA [(h0, cubE f), (h1, cubE g)] := hD
  subst w_1
  refine pf_X0_9 X hP hD hS 0 rfl rfl rfl (Nat.le_of_ble_eq_true rfl) dX0_becomeSubstituted_8 (fun H locs hP hD hS => ?_)
  have hP : va_P D vwCl [(h0, cubE (valF g p r, f.2.1, f.2.2.1, f.2.2.2)), (h1, cubE g)] H := hP
  have hD : va_D AA [(h0, cubE (valF g p r, f.2.1, f.2.2.1, f.2.2.2)), (h1, cubE g)] := hD
  refine lv_aload_n X.1 X.2.1 dX0_becomeSubstituted_11 rfl (lv_at hl 0 rfl) ?_
  refine lc_X0_40 X dX0_becomeSubstituted_12 ?_
  refine lv_aload_n X.1 X.2.1 dX0_becomeSubstituted_15 rfl (lv_at hl 1 rfl) ?_
  refine gf_X0_9 (v := .long g.1) X hP 1 rfl rfl dX0_becomeSubstituted_16 ?_
  refine lv_lmul X.1 X.2.1 dX0_becomeSubstituted_19 ?_
  refine lv_lload_n X.1 X.2.1 dX0_becomeSubstituted_20 rfl (lv_at hl 2 rfl) ?_
  refine lv_lmul X.1 X.2.1 dX0_becomeSubstituted_21 ?_
  refine lv_lload_n X.1 X.2.1 dX0_becomeSubstituted_22 rfl (lv_at hl 2 rfl) ?_
  refine lv_lmul X.1 X.2.1 dX0_becomeSubstituted_23 ?_
  refine lv_lload X.1 X.2.1 dX0_becomeSubstituted_24 (lv_at hl 3 rfl) ?_
  refine lv_lmul X.1 X.2.1 dX0_becomeSubstituted_26 ?_
  refine lv_aload_n X.1 X.2.1 dX0_becomeSubstituted_27 rfl (lv_at hl 1 rfl) ?_
  refine gf_X0_15 (v := .long g.2.1) X hP 1 rfl rfl dX0_becomeSubstituted_28 ?_
  refine lv_lload_n X.1 X.2.1 dX0_becomeSubstituted_31 rfl (lv_at hl 2 rfl) ?_
  refine lv_lmul X.1 X.2.1 dX0_becomeSubstituted_32 ?_
  refine lv_lload_n X.1 X.2.1 dX0_becomeSubstituted_33 rfl (lv_at hl 2 rfl) ?_
  refine lv_lload X.1 X.2.1 dX0_becomeSubstituted_34 (lv_at hl 5 rfl) ?_
  refine lv_lmul X.1 X.2.1 dX0_becomeSubstituted_36 ?_
  refine lc_X0_58 X dX0_becomeSubstituted_37 ?_
  refine lv_lload X.1 X.2.1 dX0_becomeSubstituted_40 (lv_at hl 3 rfl) ?_
  refine lv_lmul X.1 X.2.1 dX0_becomeSubstituted_42 ?_
  refine lv_lload X.1 X.2.1 dX0_becomeSubstituted_43 (lv_at hl 4 rfl) ?_
  refine lv_lmul X.1 X.2.1 dX0_becomeSubstituted_45 ?_
  refine lv_ladd X.1 X.2.1 dX0_becomeSubstituted_46 ?_
  refine lv_lmul X.1 X.2.1 dX0_becomeSubstituted_47 ?_
  refine lv_ladd X.1 X.2.1 dX0_becomeSubstituted_48 ?_
  refine lv_aload_n X.1 X.2.1 dX0_becomeSubstituted_49 rfl (lv_at hl 1 rfl) ?_
  refine gf_X0_18 (v := .long g.2.2.1) X hP 1 rfl rfl dX0_becomeSubstituted_50 ?_
  refine lv_lload X.1 X.2.1 dX0_becomeSubstituted_53 (lv_at hl 4 rfl) ?_
  refine lv_lmul X.1 X.2.1 dX0_becomeSubstituted_55 ?_
  refine lc_X0_58 X dX0_becomeSubstituted_56 ?_
  refine lv_lload_n X.1 X.2.1 dX0_becomeSubstituted_59 rfl (lv_at hl 2 rfl) ?_
  refine lv_lmul X.1 X.2.1 dX0_becomeSubstituted_60 ?_
  refine lv_lload X.1 X.2.1 dX0_becomeSubstituted_61 (lv_at hl 5 rfl) ?_
  refine lv_lmul X.1 X.2.1 dX0_becomeSubstituted_63 ?_
  refine lv_lload X.1 X.2.1 dX0_becomeSubstituted_64 (lv_at hl 3 rfl) ?_
  refine lv_lload X.1 X.2.1 dX0_becomeSubstituted_66 (lv_at hl 4 rfl) ?_
  refine lv_lmul X.1 X.2.1 dX0_becomeSubstituted_68 ?_
  refine lv_ladd X.1 X.2.1 dX0_becomeSubstituted_69 ?_
  refine lv_lmul X.1 X.2.1 dX0_becomeSubstituted_70 ?_
  refine lv_ladd X.1 X.2.1 dX0_becomeSubstituted_71 ?_
  refine lc_X0_40 X dX0_becomeSubstituted_72 ?_
  refine lv_aload_n X.1 X.2.1 dX0_becomeSubstituted_75 rfl (lv_at hl 1 rfl) ?_
  refine gf_X0_21 (v := .long g.2.2.2) X hP 1 rfl rfl dX0_becomeSubstituted_76 ?_
  refine lv_lmul X.1 X.2.1 dX0_becomeSubstituted_79 ?_
  refine lv_lload X.1 X.2.1 dX0_becomeSubstituted_80 (lv_at hl 4 rfl) ?_
  refine lv_lmul X.1 X.2.1 dX0_becomeSubstituted_82 ?_
  refine lv_lload X.1 X.2.1 dX0_becomeSubstituted_83 (lv_at hl 4 rfl) ?_
  refine lv_lmul X.1 X.2.1 dX0_becomeSubstituted_85 ?_
  refine lv_lload X.1 X.2.1 dX0_becomeSubstituted_86 (lv_at hl 5 rfl) ?_
  refine lv_lmul X.1 X.2.1 dX0_becomeSubstituted_88 ?_
  refine lv_ladd X.1 X.2.1 dX0_becomeSubstituted_89 ?_
  refine pf_X0_15 X hP hD hS 0 rfl rfl rfl (Nat.le_of_ble_eq_true rfl) dX0_becomeSubstituted_90 (fun H locs hP hD hS => ?_)
  have hP : va_P D vwCl [(h0, cubE (valF g p r, ((((((3 * g.1) * p) * p) * q) + ((g.2.1 * p) * ((p * s) + ((2 * q) * r)))) + ((g.2.2.1 * r) * (((2 * p) * s) + (q * r)))) + ((((3 * g.2.2.2) * r) * r) * s), f.2.2.1, f.2.2.2)), (h1, cubE g)] H := hP
  have hD : va_D AA [(h0, cubE (valF g p r, ((((((3 * g.1) * p) * p) * q) + ((g.2.1 * p) * ((p * s) + ((2 * q) * r)))) + ((g.2.2.1 * r) * (((2 * p) * s) + (q * r)))) + ((((3 * g.2.2.2) * r) * r) * s), f.2.2.1, f.2.2.2)), (h1, cubE g)] := hD
  refine lv_aload_n X.1 X.2.1 dX0_becomeSubstituted_93 rfl (lv_at hl 0 rfl) ?_
  refine lc_X0_40 X dX0_becomeSubstituted_94 ?_
  refine lv_aload_n X.1 X.2.1 dX0_becomeSubstituted_97 rfl (lv_at hl 1 rfl) ?_
  refine gf_X0_9 (v := .long g.1) X hP 1 rfl rfl dX0_becomeSubstituted_98 ?_
  refine lv_lmul X.1 X.2.1 dX0_becomeSubstituted_101 ?_
  refine lv_lload_n X.1 X.2.1 dX0_becomeSubstituted_102 rfl (lv_at hl 2 rfl) ?_
  refine lv_lmul X.1 X.2.1 dX0_becomeSubstituted_103 ?_
  refine lv_lload X.1 X.2.1 dX0_becomeSubstituted_104 (lv_at hl 3 rfl) ?_
  refine lv_lmul X.1 X.2.1 dX0_becomeSubstituted_106 ?_
  refine lv_lload X.1 X.2.1 dX0_becomeSubstituted_107 (lv_at hl 3 rfl) ?_
  refine lv_lmul X.1 X.2.1 dX0_becomeSubstituted_109 ?_
  refine lv_aload_n X.1 X.2.1 dX0_becomeSubstituted_110 rfl (lv_at hl 1 rfl) ?_
  refine gf_X0_15 (v := .long g.2.1) X hP 1 rfl rfl dX0_becomeSubstituted_111 ?_
  refine lv_lload X.1 X.2.1 dX0_becomeSubstituted_114 (lv_at hl 3 rfl) ?_
  refine lv_lmul X.1 X.2.1 dX0_becomeSubstituted_116 ?_
  refine lc_X0_58 X dX0_becomeSubstituted_117 ?_
  refine lv_lload_n X.1 X.2.1 dX0_becomeSubstituted_120 rfl (lv_at hl 2 rfl) ?_
  refine lv_lmul X.1 X.2.1 dX0_becomeSubstituted_121 ?_
  refine lv_lload X.1 X.2.1 dX0_becomeSubstituted_122 (lv_at hl 5 rfl) ?_
  refine lv_lmul X.1 X.2.1 dX0_becomeSubstituted_124 ?_
  refine lv_lload X.1 X.2.1 dX0_becomeSubstituted_125 (lv_at hl 3 rfl) ?_
  refine lv_lload X.1 X.2.1 dX0_becomeSubstituted_127 (lv_at hl 4 rfl) ?_
  refine lv_lmul X.1 X.2.1 dX0_becomeSubstituted_129 ?_
  refine lv_ladd X.1 X.2.1 dX0_becomeSubstituted_130 ?_
  refine lv_lmul X.1 X.2.1 dX0_becomeSubstituted_131 ?_
  refine lv_ladd X.1 X.2.1 dX0_becomeSubstituted_132 ?_
  refine lv_aload_n X.1 X.2.1 dX0_becomeSubstituted_133 rfl (lv_at hl 1 rfl) ?_
  refine gf_X0_18 (v := .long g.2.2.1) X hP 1 rfl rfl dX0_becomeSubstituted_134 ?_
  refine lv_lload X.1 X.2.1 dX0_becomeSubstituted_137 (lv_at hl 5 rfl) ?_
  refine lv_lmul X.1 X.2.1 dX0_becomeSubstituted_139 ?_
  refine lv_lload_n X.1 X.2.1 dX0_becomeSubstituted_140 rfl (lv_at hl 2 rfl) ?_
  refine lv_lload X.1 X.2.1 dX0_becomeSubstituted_141 (lv_at hl 5 rfl) ?_
  refine lv_lmul X.1 X.2.1 dX0_becomeSubstituted_143 ?_
  refine lc_X0_58 X dX0_becomeSubstituted_144 ?_
  refine lv_lload X.1 X.2.1 dX0_becomeSubstituted_147 (lv_at hl 3 rfl) ?_
  refine lv_lmul X.1 X.2.1 dX0_becomeSubstituted_149 ?_
  refine lv_lload X.1 X.2.1 dX0_becomeSubstituted_150 (lv_at hl 4 rfl) ?_
  refine lv_lmul X.1 X.2.1 dX0_becomeSubstituted_152 ?_
  refine lv_ladd X.1 X.2.1 dX0_becomeSubstituted_153 ?_
  refine lv_lmul X.1 X.2.1 dX0_becomeSubstituted_154 ?_
  refine lv_ladd X.1 X.2.1 dX0_becomeSubstituted_155 ?_
  refine lc_X0_40 X dX0_becomeSubstituted_156 ?_
  refine lv_aload_n X.1 X.2.1 dX0_becomeSubstituted_159 rfl (lv_at hl 1 rfl) ?_
  refine gf_X0_21 (v := .long g.2.2.2) X hP 1 rfl rfl dX0_becomeSubstituted_160 ?_
  refine lv_lmul X.1 X.2.1 dX0_becomeSubstituted_163 ?_
  refine lv_lload X.1 X.2.1 dX0_becomeSubstituted_164 (lv_at hl 4 rfl) ?_
  refine lv_lmul X.1 X.2.1 dX0_becomeSubstituted_166 ?_
  refine lv_lload X.1 X.2.1 dX0_becomeSubstituted_167 (lv_at hl 5 rfl) ?_
  refine lv_lmul X.1 X.2.1 dX0_becomeSubstituted_169 ?_
  refine lv_lload X.1 X.2.1 dX0_becomeSubstituted_170 (lv_at hl 5 rfl) ?_
  refine lv_lmul X.1 X.2.1 dX0_becomeSubstituted_172 ?_
  refine lv_ladd X.1 X.2.1 dX0_becomeSubstituted_173 ?_
  refine pf_X0_18 X hP hD hS 0 rfl rfl rfl (Nat.le_of_ble_eq_true rfl) dX0_becomeSubstituted_174 (fun H locs hP hD hS => ?_)
  have hP : va_P D vwCl [(h0, cubE (valF g p r, ((((((3 * g.1) * p) * p) * q) + ((g.2.1 * p) * ((p * s) + ((2 * q) * r)))) + ((g.2.2.1 * r) * (((2 * p) * s) + (q * r)))) + ((((3 * g.2.2.2) * r) * r) * s), ((((((3 * g.1) * p) * q) * q) + ((g.2.1 * q) * (((2 * p) * s) + (q * r)))) + ((g.2.2.1 * s) * ((p * s) + ((2 * q) * r)))) + ((((3 * g.2.2.2) * r) * s) * s), f.2.2.2)), (h1, cubE g)] H := hP
  have hD : va_D AA [(h0, cubE (valF g p r, ((((((3 * g.1) * p) * p) * q) + ((g.2.1 * p) * ((p * s) + ((2 * q) * r)))) + ((g.2.2.1 * r) * (((2 * p) * s) + (q * r)))) + ((((3 * g.2.2.2) * r) * r) * s), ((((((3 * g.1) * p) * q) * q) + ((g.2.1 * q) * (((2 * p) * s) + (q * r)))) + ((g.2.2.1 * s) * ((p * s) + ((2 * q) * r)))) + ((((3 * g.2.2.2) * r) * s) * s), f.2.2.2)), (h1, cubE g)] := hD
  refine lv_aload_n X.1 X.2.1 dX0_becomeSubstituted_177 rfl (lv_at hl 0 rfl) ?_
  refine lv_aload_n X.1 X.2.1 dX0_becomeSubstituted_178 rfl (lv_at hl 1 rfl) ?_
  refine lv_lload X.1 X.2.1 dX0_becomeSubstituted_179 (lv_at hl 3 rfl) ?_
  refine lv_lload X.1 X.2.1 dX0_becomeSubstituted_181 (lv_at hl 5 rfl) ?_
  refine fin_l (wr := [(h0, cubE (valF g p r, ((((((3 * g.1) * p) * p) * q) + ((g.2.1 * p) * ((p * s) + ((2 * q) * r)))) + ((g.2.2.1 * r) * (((2 * p) * s) + (q * r)))) + ((((3 * g.2.2.2) * r) * r) * s), ((((((3 * g.1) * p) * q) * q) + ((g.2.1 * q) * (((2 * p) * s) + (q * r)))) + ((g.2.2.1 * s) * ((p * s) + ((2 * q) * r)))) + ((((3 * g.2.2.2) * r) * s) * s), f.2.2.2))]) (cv_X0_54 X (c_Cubic_valueAt l D cI cJ h1 g q s  _) rfl rfl dX0_becomeSubstituted_183 hP hD 1 rfl [1] rfl rfl hl.1 rfl rfl (Nat.le_of_ble_eq_true rfl) ⟨Nat.le_of_ble_eq_true rfl, Nat.le_of_ble_eq_true rfl⟩ ⟨Nat.le_of_ble_eq_true rfl, Nat.le_of_ble_eq_true rfl⟩) hP hD hS hA [1] [0] rfl rfl rfl (by decide) (fun r_6 u_5 H locs w_4 hP hD hS => ?_)
  have hP : va_P D vwCl [(h0, cubE (valF g p r, ((((((3 * g.1) * p) * p) * q) + ((g.2.1 * p) * ((p * s) + ((2 * q) * r)))) + ((g.2.2.1 * r) * (((2 * p) * s) + (q * r)))) + ((((3 * g.2.2.2) * r) * r) * s), ((((((3 * g.1) * p) * q) * q) + ((g.2.1 * q) * (((2 * p) * s) + (q * r)))) + ((g.2.2.1 * s) * ((p * s) + ((2 * q) * r)))) + ((((3 * g.2.2.2) * r) * s) * s), f.2.2.2)), (h1, cubE g)] H := hP
  have hD : va_D AA [(h0, cubE (valF g p r, ((((((3 * g.1) * p) * p) * q) + ((g.2.1 * p) * ((p * s) + ((2 * q) * r)))) + ((g.2.2.1 * r) * (((2 * p) * s) + (q * r)))) + ((((3 * g.2.2.2) * r) * r) * s), ((((((3 * g.1) * p) * q) * q) + ((g.2.1 * q) * (((2 * p) * s) + (q * r)))) + ((g.2.2.1 * s) * ((p * s) + ((2 * q) * r)))) + ((((3 * g.2.2.2) * r) * s) * s), f.2.2.2)), (h1, cubE g)] := hD
  subst w_4
  refine pf_X0_21 X hP hD hS 0 rfl rfl rfl (Nat.le_of_ble_eq_true rfl) dX0_becomeSubstituted_186 (fun H locs hP hD hS => ?_)
  have hP : va_P D vwCl [(h0, cubE (valF g p r, ((((((3 * g.1) * p) * p) * q) + ((g.2.1 * p) * ((p * s) + ((2 * q) * r)))) + ((g.2.2.1 * r) * (((2 * p) * s) + (q * r)))) + ((((3 * g.2.2.2) * r) * r) * s), ((((((3 * g.1) * p) * q) * q) + ((g.2.1 * q) * (((2 * p) * s) + (q * r)))) + ((g.2.2.1 * s) * ((p * s) + ((2 * q) * r)))) + ((((3 * g.2.2.2) * r) * s) * s), valF g q s)), (h1, cubE g)] H := hP
  have hD : va_D AA [(h0, cubE (valF g p r, ((((((3 * g.1) * p) * p) * q) + ((g.2.1 * p) * ((p * s) + ((2 * q) * r)))) + ((g.2.2.1 * r) * (((2 * p) * s) + (q * r)))) + ((((3 * g.2.2.2) * r) * r) * s), ((((((3 * g.1) * p) * q) * q) + ((g.2.1 * q) * (((2 * p) * s) + (q * r)))) + ((g.2.2.1 * s) * ((p * s) + ((2 * q) * r)))) + ((((3 * g.2.2.2) * r) * s) * s), valF g q s)), (h1, cubE g)] := hD
  exact hret () _ _ _ _ (trivial) (hP.sub [0, 1] rfl) (hD.sub [0, 1] rfl rfl) hS dX0_becomeSubstituted_189
set_option maxHeartbeats 4000000 in
set_option maxRecDepth 100000 in
theorem c_Cubic_shift (l : Launch) (D : va_G) (cI cJ : ClassId) (h0 : Nat) (f : Fm) (k : Int64)  : CtV l yX0_shift cX0_shift 3 (rmk 1 24) D cI cJ [.ref h0, .long k] [(h0, cubE f)] (fun (_ : Unit) => [(h0, cubE (shF f k))]) (fun (_ : Unit) => True) 0 0 := by
  refine CtV.of (own := RX0) (by decide +kernel) (Nat.le_of_ble_eq_true rfl) rfl ?_
  intro pr_ en_ sg_ me_ ar_ be_ mt_ co_ AA ls QQ X hin hA hP hD hS hl hret
  have hl : lv_has ls 3 [(0, .ref h0), (1, .long k)] := hl
  refine lv_aload_n X.1 X.2.1 dX0_shift_0 rfl (lv_at hl 0 rfl) ?_
  refine lv_aload_n X.1 X.2.1 dX0_shift_1 rfl (lv_at hl 0 rfl) ?_
  refine lv_lload_n X.1 X.2.1 dX0_shift_2 rfl (lv_at hl 1 rfl) ?_
  refine lv_lconst (v := 1) X.1 X.2.1 dX0_shift_3 (by decide) ?_
  refine fin_l (wr := []) (cv_X0_54 X (c_Cubic_valueAt l D cI cJ h0 f k 1  _) rfl rfl dX0_shift_4 hP hD 0 rfl [0] rfl rfl hl.1 rfl rfl (Nat.le_of_ble_eq_true rfl) ⟨Nat.le_of_ble_eq_true rfl, Nat.le_of_ble_eq_true rfl⟩ ⟨Nat.le_of_ble_eq_true rfl, Nat.le_of_ble_eq_true rfl⟩) hP hD hS hA [0] [] rfl rfl rfl (by decide) (fun r_3 u_2 H locs w_1 hP hD hS => ?_)
  have hP : va_P D vwCl [(h0, cubE f)] H := hP
  have hD : va_D AA [(h0, cubE f)] := hD
  subst w_1
  refine pf_X0_21 X hP hD hS 0 rfl rfl rfl (Nat.le_of_ble_eq_true rfl) dX0_shift_7 (fun H locs hP hD hS => ?_)
  have hP : va_P D vwCl [(h0, cubE (f.1, f.2.1, f.2.2.1, valF f k 1))] H := hP
  have hD : va_D AA [(h0, cubE (f.1, f.2.1, f.2.2.1, valF f k 1))] := hD
  refine lv_aload_n X.1 X.2.1 dX0_shift_10 rfl (lv_at hl 0 rfl) ?_
  refine lc_X0_40 X dX0_shift_11 ?_
  refine lv_aload_n X.1 X.2.1 dX0_shift_14 rfl (lv_at hl 0 rfl) ?_
  refine gf_X0_9 (v := .long f.1) X hP 0 rfl rfl dX0_shift_15 ?_
  refine lv_lmul X.1 X.2.1 dX0_shift_18 ?_
  refine lv_lload_n X.1 X.2.1 dX0_shift_19 rfl (lv_at hl 1 rfl) ?_
  refine lv_lmul X.1 X.2.1 dX0_shift_20 ?_
  refine lc_X0_58 X dX0_shift_21 ?_
  refine lv_aload_n X.1 X.2.1 dX0_shift_24 rfl (lv_at hl 0 rfl) ?_
  refine gf_X0_15 (v := .long f.2.1) X hP 0 rfl rfl dX0_shift_25 ?_
  refine lv_lmul X.1 X.2.1 dX0_shift_28 ?_
  refine lv_ladd X.1 X.2.1 dX0_shift_29 ?_
  refine lv_lload_n X.1 X.2.1 dX0_shift_30 rfl (lv_at hl 1 rfl) ?_
  refine lv_lmul X.1 X.2.1 dX0_shift_31 ?_
  refine lv_aload_n X.1 X.2.1 dX0_shift_32 rfl (lv_at hl 0 rfl) ?_
  refine gf_X0_18 (v := .long f.2.2.1) X hP 0 rfl rfl dX0_shift_33 ?_
  refine lv_ladd X.1 X.2.1 dX0_shift_36 ?_
  refine pf_X0_18 X hP hD hS 0 rfl rfl rfl (Nat.le_of_ble_eq_true rfl) dX0_shift_37 (fun H locs hP hD hS => ?_)
  have hP : va_P D vwCl [(h0, cubE (f.1, f.2.1, ((((3 * f.1) * k) + (2 * f.2.1)) * k) + f.2.2.1, valF f k 1))] H := hP
  have hD : va_D AA [(h0, cubE (f.1, f.2.1, ((((3 * f.1) * k) + (2 * f.2.1)) * k) + f.2.2.1, valF f k 1))] := hD
  refine lv_aload_n X.1 X.2.1 dX0_shift_40 rfl (lv_at hl 0 rfl) ?_
  refine lc_X0_40 X dX0_shift_41 ?_
  refine lv_aload_n X.1 X.2.1 dX0_shift_44 rfl (lv_at hl 0 rfl) ?_
  refine gf_X0_9 (v := .long f.1) X hP 0 rfl rfl dX0_shift_45 ?_
  refine lv_lmul X.1 X.2.1 dX0_shift_48 ?_
  refine lv_lload_n X.1 X.2.1 dX0_shift_49 rfl (lv_at hl 1 rfl) ?_
  refine lv_lmul X.1 X.2.1 dX0_shift_50 ?_
  refine lv_aload_n X.1 X.2.1 dX0_shift_51 rfl (lv_at hl 0 rfl) ?_
  refine gf_X0_15 (v := .long f.2.1) X hP 0 rfl rfl dX0_shift_52 ?_
  refine lv_ladd X.1 X.2.1 dX0_shift_55 ?_
  refine pf_X0_15 X hP hD hS 0 rfl rfl rfl (Nat.le_of_ble_eq_true rfl) dX0_shift_56 (fun H locs hP hD hS => ?_)
  have hP : va_P D vwCl [(h0, cubE (f.1, ((3 * f.1) * k) + f.2.1, ((((3 * f.1) * k) + (2 * f.2.1)) * k) + f.2.2.1, valF f k 1))] H := hP
  have hD : va_D AA [(h0, cubE (f.1, ((3 * f.1) * k) + f.2.1, ((((3 * f.1) * k) + (2 * f.2.1)) * k) + f.2.2.1, valF f k 1))] := hD
  exact hret () _ _ _ _ (trivial) (hP.sub [0] rfl) (hD.sub [0] rfl rfl) hS dX0_shift_59
set_option maxHeartbeats 4000000 in
set_option maxRecDepth 100000 in
theorem c_Cubic_swap (l : Launch) (D : va_G) (cI cJ : ClassId) (h0 : Nat) (f : Fm)  : CtV l yX0_swap cX0_swap 1 (rmk 1 28) D cI cJ [.ref h0] [(h0, cubE f)] (fun (_ : Unit) => [(h0, cubE (swF f))]) (fun (_ : Unit) => True) 0 0 := by
  refine CtV.of (own := RX0) (by decide +kernel) (Nat.le_of_ble_eq_true rfl) rfl ?_
  intro pr_ en_ sg_ me_ ar_ be_ mt_ co_ AA ls QQ X hin hA hP hD hS hl hret
  have hl : lv_has ls 1 [(0, .ref h0)] := hl
  refine lv_aload_n X.1 X.2.1 dX0_swap_0 rfl (lv_at hl 0 rfl) ?_
  refine lv_aload_n X.1 X.2.1 dX0_swap_1 rfl (lv_at hl 0 rfl) ?_
  refine gf_X0_21 (v := .long f.2.2.2) X hP 0 rfl rfl dX0_swap_2 ?_
  refine lv_aload_n X.1 X.2.1 dX0_swap_5 rfl (lv_at hl 0 rfl) ?_
  refine gf_X0_18 (v := .long f.2.2.1) X hP 0 rfl rfl dX0_swap_6 ?_
  refine lv_aload_n X.1 X.2.1 dX0_swap_9 rfl (lv_at hl 0 rfl) ?_
  refine gf_X0_15 (v := .long f.2.1) X hP 0 rfl rfl dX0_swap_10 ?_
  refine lv_aload_n X.1 X.2.1 dX0_swap_13 rfl (lv_at hl 0 rfl) ?_
  refine gf_X0_9 (v := .long f.1) X hP 0 rfl rfl dX0_swap_14 ?_
  refine fin_v (wr := []) (cv_X0_24 X (c_Cubic_set l D cI cJ h0 f f.2.2.2 f.2.2.1 f.2.1 f.1  _) rfl rfl dX0_swap_17 hP hD 0 rfl [0] rfl rfl hl.1 rfl rfl (Nat.le_of_ble_eq_true rfl) ⟨Nat.le_of_ble_eq_true rfl, Nat.le_of_ble_eq_true rfl⟩ ⟨Nat.le_of_ble_eq_true rfl, Nat.le_of_ble_eq_true rfl⟩) hP hD hS hA [0] [] rfl rfl rfl (by decide) (fun u_2 H locs w_1 hP hD hS => ?_)
  have hP : va_P D vwCl [(h0, cubE (f.2.2.2, f.2.2.1, f.2.1, f.1))] H := hP
  have hD : va_D AA [(h0, cubE (f.2.2.2, f.2.2.1, f.2.1, f.1))] := hD
  exact hret () _ _ _ _ (trivial) (hP.sub [0] rfl) (hD.sub [0] rfl rfl) hS dX0_swap_20
