set_option maxHeartbeats 4000000 in
set_option maxRecDepth 100000 in
theorem c_CF_hessian (l : Launch) (D : va_G) (cI cJ : ClassId) (h0 : Nat) (co : Nat) (pa : Nat) (wo : Nat) (ot : Nat) (le : Nat) (ri : Nat) (wk : Nat) (rg : Nat) (ta : Nat) (n : Nat) (C : Nat → Int32) (f : Fm) (x : Int32) (y : Int32) (hn : n ≤ 60) : CtL l yX5_hessian cX5_hessian 3 (rmk 2 51) D cI cJ [.ref h0, .int x, .int y] [(h0, cfE co (nI n) pa wo ot le ri wk rg ta), (co, aiE cI 240 C), (wo, cubE f)] (fun (u : Fm) => [(h0, cfE co (nI n) pa wo ot le ri wk rg ta), (co, aiE cI 240 C), (wo, cubE u)]) (fun (r : Int64) (u : Fm) => r = if isFormB n x then hesR (ldF C x.toNatClampNeg) y else (-9223372036854775808)) := by
  refine CtL.of (own := RX5) (by decide +kernel) (Nat.le_of_ble_eq_true rfl) rfl ?_
  intro pr_ en_ sg_ me_ ar_ be_ mt_ co_ AA ls QQ X hA hP hD hS hl hret
  have hl : lv_has ls 3 [(0, .ref h0), (1, .int x), (2, .int y)] := hl
  refine lv_aload_n X.1 X.2.1 dX5_hessian_0 rfl (lv_at hl 0 rfl) ?_
  refine lv_iload_n X.1 X.2.1 dX5_hessian_1 rfl (lv_at hl 1 rfl) ?_
  refine lv_aload_n X.1 X.2.1 dX5_hessian_2 rfl (lv_at hl 0 rfl) ?_
  refine gf_X5_25 (v := .ref wo) X hP 0 rfl rfl dX5_hessian_3 ?_
  refine fin_i (wr := []) (cv_X5_79 X (c_CF_load l D cI cJ h0 co pa wo ot le ri wk rg ta n C wo f x (by first | assumption | omega) _) rfl rfl dX5_hessian_6 hP hD 0 rfl [0, 1, 2] rfl rfl hl.1 rfl rfl (Nat.le_of_ble_eq_true rfl) ⟨Nat.le_of_ble_eq_true rfl, Nat.le_of_ble_eq_true rfl⟩ ⟨Nat.le_of_ble_eq_true rfl, Nat.le_of_ble_eq_true rfl⟩) hP hD hS hA [0, 1, 2] [] rfl rfl rfl (by decide) (fun r_3 u_2 H locs w_1 hP hD hS => ?_)
  have hP : va_P D vwCl [(h0, cfE co (nI n) pa wo ot le ri wk rg ta), (co, aiE cI 240 C), (wo, cubE (if isFormB n x then ldF C x.toNatClampNeg else f))] H := hP
  have hD : va_D AA [(h0, cfE co (nI n) pa wo ot le ri wk rg ta), (co, aiE cI 240 C), (wo, cubE (if isFormB n x then ldF C x.toNatClampNeg else f))] := hD
  subst w_1
  refine bb_ne (tgt := 16) X dX5_hessian_9 (by decide) (fun c_4 => ?_) (fun c_4 => ?_)
  · rw [if_pos c_4] at hP hD
    refine lv_iload_n X.1 X.2.1 dX5_hessian_16 rfl (lv_at hl 2 rfl) ?_
    rcases sw3 y with c_5 | c_5 | c_5 | c_5
    · rw [c_5]
      refine lv_tableIn (off := 27) (tgt := 44) X.1 X.2.1 dX5_hessian_17 (by decide) (by decide) rfl (by decide) ?_
      refine lv_aload_n X.1 X.2.1 dX5_hessian_44 rfl (lv_at hl 0 rfl) ?_
      refine gf_X5_25 (v := .ref wo) X hP 0 rfl rfl dX5_hessian_45 ?_
      refine fin_l (wr := [(h0, cfE co (nI n) pa wo ot le ri wk rg ta), (co, aiE cI 240 C)]) (cv_X5_89 X (c_Cubic_hessianP l D cI cJ wo (ldF C x.toNatClampNeg)  _) rfl rfl dX5_hessian_48 hP hD 2 rfl [2] rfl rfl hl.1 rfl rfl (Nat.le_of_ble_eq_true rfl) ⟨Nat.le_of_ble_eq_true rfl, Nat.le_of_ble_eq_true rfl⟩ ⟨Nat.le_of_ble_eq_true rfl, Nat.le_of_ble_eq_true rfl⟩) hP hD hS hA [2] [0, 1] rfl rfl rfl (by decide) (fun r_8 u_7 H locs w_6 hP hD hS => ?_)
      have hP : va_P D vwCl [(h0, cfE co (nI n) pa wo ot le ri wk rg ta), (co, aiE cI 240 C), (wo, cubE (ldF C x.toNatClampNeg))] H := hP
      have hD : va_D AA [(h0, cfE co (nI n) pa wo ot le ri wk rg ta), (co, aiE cI 240 C), (wo, cubE (ldF C x.toNatClampNeg))] := hD
      subst w_6
      exact hret (hpF (ldF C x.toNatClampNeg)) (ldF C x.toNatClampNeg) _ _ _ _ (by rw [if_pos c_4, c_5]; rfl) (hP.sub [0, 1, 2] rfl) (hD.sub [0, 1, 2] rfl rfl) hS dX5_hessian_51
    · rw [c_5]
      refine lv_tableIn (off := 35) (tgt := 52) X.1 X.2.1 dX5_hessian_17 (by decide) (by decide) rfl (by decide) ?_
      refine lv_aload_n X.1 X.2.1 dX5_hessian_52 rfl (lv_at hl 0 rfl) ?_
      refine gf_X5_25 (v := .ref wo) X hP 0 rfl rfl dX5_hessian_53 ?_
      refine fin_l (wr := [(h0, cfE co (nI n) pa wo ot le ri wk rg ta), (co, aiE cI 240 C)]) (cv_X5_92 X (c_Cubic_hessianQ l D cI cJ wo (ldF C x.toNatClampNeg)  _) rfl rfl dX5_hessian_56 hP hD 2 rfl [2] rfl rfl hl.1 rfl rfl (Nat.le_of_ble_eq_true rfl) ⟨Nat.le_of_ble_eq_true rfl, Nat.le_of_ble_eq_true rfl⟩ ⟨Nat.le_of_ble_eq_true rfl, Nat.le_of_ble_eq_true rfl⟩) hP hD hS hA [2] [0, 1] rfl rfl rfl (by decide) (fun r_11 u_10 H locs w_9 hP hD hS => ?_)
      have hP : va_P D vwCl [(h0, cfE co (nI n) pa wo ot le ri wk rg ta), (co, aiE cI 240 C), (wo, cubE (ldF C x.toNatClampNeg))] H := hP
      have hD : va_D AA [(h0, cfE co (nI n) pa wo ot le ri wk rg ta), (co, aiE cI 240 C), (wo, cubE (ldF C x.toNatClampNeg))] := hD
      subst w_9
      exact hret (hqF (ldF C x.toNatClampNeg)) (ldF C x.toNatClampNeg) _ _ _ _ (by rw [if_pos c_4, c_5]; rfl) (hP.sub [0, 1, 2] rfl) (hD.sub [0, 1, 2] rfl rfl) hS dX5_hessian_59
    · rw [c_5]
      refine lv_tableIn (off := 43) (tgt := 60) X.1 X.2.1 dX5_hessian_17 (by decide) (by decide) rfl (by decide) ?_
      refine lv_aload_n X.1 X.2.1 dX5_hessian_60 rfl (lv_at hl 0 rfl) ?_
      refine gf_X5_25 (v := .ref wo) X hP 0 rfl rfl dX5_hessian_61 ?_
      refine fin_l (wr := [(h0, cfE co (nI n) pa wo ot le ri wk rg ta), (co, aiE cI 240 C)]) (cv_X5_95 X (c_Cubic_hessianR l D cI cJ wo (ldF C x.toNatClampNeg)  _) rfl rfl dX5_hessian_64 hP hD 2 rfl [2] rfl rfl hl.1 rfl rfl (Nat.le_of_ble_eq_true rfl) ⟨Nat.le_of_ble_eq_true rfl, Nat.le_of_ble_eq_true rfl⟩ ⟨Nat.le_of_ble_eq_true rfl, Nat.le_of_ble_eq_true rfl⟩) hP hD hS hA [2] [0, 1] rfl rfl rfl (by decide) (fun r_14 u_13 H locs w_12 hP hD hS => ?_)
      have hP : va_P D vwCl [(h0, cfE co (nI n) pa wo ot le ri wk rg ta), (co, aiE cI 240 C), (wo, cubE (ldF C x.toNatClampNeg))] H := hP
      have hD : va_D AA [(h0, cfE co (nI n) pa wo ot le ri wk rg ta), (co, aiE cI 240 C), (wo, cubE (ldF C x.toNatClampNeg))] := hD
      subst w_12
      exact hret (hrF (ldF C x.toNatClampNeg)) (ldF C x.toNatClampNeg) _ _ _ _ (by rw [if_pos c_4, c_5]; rfl) (hP.sub [0, 1, 2] rfl) (hD.sub [0, 1, 2] rfl rfl) hS dX5_hessian_67
    · refine lv_tableOut (tgt := 68) X.1 X.2.1 dX5_hessian_17 c_5 (by decide) ?_
      refine lc_X5_87 X dX5_hessian_68 ?_
      exact hret (-9223372036854775808) (ldF C x.toNatClampNeg) _ _ _ _ (by rw [if_pos c_4, hesR_out c_5]) (hP.sub [0, 1, 2] rfl) (hD.sub [0, 1, 2] rfl rfl) hS dX5_hessian_71
  · refine lc_X5_87 X dX5_hessian_12 ?_
    exact hret (-9223372036854775808) (if isFormB n x then ldF C x.toNatClampNeg else f) _ _ _ _ (by rw [if_neg (by rw [c_4]; decide)]) (hP.sub [0, 1, 2] rfl) (hD.sub [0, 1, 2] rfl rfl) hS dX5_hessian_15
set_option maxHeartbeats 4000000 in
set_option maxRecDepth 100000 in
theorem c_CF_value (l : Launch) (D : va_G) (cI cJ : ClassId) (h0 : Nat) (co : Nat) (pa : Nat) (wo : Nat) (ot : Nat) (le : Nat) (ri : Nat) (wk : Nat) (rg : Nat) (ta : Nat) (n : Nat) (C : Nat → Int32) (f : Fm) (x : Int32) (y : Int32) (z : Int32) (hn : n ≤ 60) : CtL l yX5_value cX5_value 4 (rmk 2 51) D cI cJ [.ref h0, .int x, .int y, .int z] [(h0, cfE co (nI n) pa wo ot le ri wk rg ta), (co, aiE cI 240 C), (wo, cubE f)] (fun (u : Fm) => [(h0, cfE co (nI n) pa wo ot le ri wk rg ta), (co, aiE cI 240 C), (wo, cubE u)]) (fun (r : Int64) (u : Fm) => r = if isFormB n x then (if isW y.toInt64 1000 then (if isW z.toInt64 1000 then valF (ldF C x.toNatClampNeg) y.toInt64 z.toInt64 else (-9223372036854775808)) else (-9223372036854775808)) else (-9223372036854775808)) := by
  refine CtL.of (own := RX5) (by decide +kernel) (Nat.le_of_ble_eq_true rfl) rfl ?_
  intro pr_ en_ sg_ me_ ar_ be_ mt_ co_ AA ls QQ X hA hP hD hS hl hret
  have hl : lv_has ls 4 [(0, .ref h0), (1, .int x), (2, .int y), (3, .int z)] := hl
  refine lv_aload_n X.1 X.2.1 dX5_value_0 rfl (lv_at hl 0 rfl) ?_
  refine lv_iload_n X.1 X.2.1 dX5_value_1 rfl (lv_at hl 1 rfl) ?_
  refine lv_aload_n X.1 X.2.1 dX5_value_2 rfl (lv_at hl 0 rfl) ?_
  refine gf_X5_25 (v := .ref wo) X hP 0 rfl rfl dX5_value_3 ?_
  refine fin_i (wr := []) (cv_X5_79 X (c_CF_load l D cI cJ h0 co pa wo ot le ri wk rg ta n C wo f x (by first | assumption | omega) _) rfl rfl dX5_value_6 hP hD 0 rfl [0, 1, 2] rfl rfl hl.1 rfl rfl (Nat.le_of_ble_eq_true rfl) ⟨Nat.le_of_ble_eq_true rfl, Nat.le_of_ble_eq_true rfl⟩ ⟨Nat.le_of_ble_eq_true rfl, Nat.le_of_ble_eq_true rfl⟩) hP hD hS hA [0, 1, 2] [] rfl rfl rfl (by decide) (fun r_3 u_2 H locs w_1 hP hD hS => ?_)
  have hP : va_P D vwCl [(h0, cfE co (nI n) pa wo ot le ri wk rg ta), (co, aiE cI 240 C), (wo, cubE (if isFormB n x then ldF C x.toNatClampNeg else f))] H := hP
  have hD : va_D AA [(h0, cfE co (nI n) pa wo ot le ri wk rg ta), (co, aiE cI 240 C), (wo, cubE (if isFormB n x then ldF C x.toNatClampNeg else f))] := hD
  subst w_1
  refine bb_eq (tgt := 34) X dX5_value_9 (by decide) (fun c_4 => ?_) (fun c_4 => ?_)
  · refine lc_X5_87 X dX5_value_34 ?_
    exact hret (-9223372036854775808) (if isFormB n x then ldF C x.toNatClampNeg else f) _ _ _ _ (by rw [if_neg (by rw [c_4]; decide)]) (hP.sub [0, 1, 2] rfl) (hD.sub [0, 1, 2] rfl rfl) hS dX5_value_37
  · rw [if_pos c_4] at hP hD
    refine lv_iload_n X.1 X.2.1 dX5_value_12 rfl (lv_at hl 2 rfl) ?_
    refine lv_i2l X.1 X.2.1 dX5_value_13 rfl ?_
    refine lc_X5_98 X dX5_value_14 ?_
    refine fin_i (wr := [(h0, cfE co (nI n) pa wo ot le ri wk rg ta), (co, aiE cI 240 C), (wo, cubE (ldF C x.toNatClampNeg))]) (cv_X5_100 X (c_isWithin l D cI cJ y.toInt64 1000  _) rfl rfl dX5_value_17 hP hD [] rfl rfl hl.1 rfl rfl (Nat.le_of_ble_eq_true rfl) ⟨Nat.le_of_ble_eq_true rfl, Nat.le_of_ble_eq_true rfl⟩ ⟨Nat.le_of_ble_eq_true rfl, Nat.le_of_ble_eq_true rfl⟩) hP hD hS hA [] [0, 1, 2] rfl rfl rfl (by decide) (fun r_7 u_6 H locs w_5 hP hD hS => ?_)
    have hP : va_P D vwCl [(h0, cfE co (nI n) pa wo ot le ri wk rg ta), (co, aiE cI 240 C), (wo, cubE (ldF C x.toNatClampNeg))] H := hP
    have hD : va_D AA [(h0, cfE co (nI n) pa wo ot le ri wk rg ta), (co, aiE cI 240 C), (wo, cubE (ldF C x.toNatClampNeg))] := hD
    subst w_5
    refine bb_eq (tgt := 34) X dX5_value_20 (by decide) (fun c_8 => ?_) (fun c_8 => ?_)
    · refine lc_X5_87 X dX5_value_34 ?_
      exact hret (-9223372036854775808) (ldF C x.toNatClampNeg) _ _ _ _ (by rw [if_pos c_4, if_neg (by rw [c_8]; decide)]) (hP.sub [0, 1, 2] rfl) (hD.sub [0, 1, 2] rfl rfl) hS dX5_value_37
    · refine lv_iload_n X.1 X.2.1 dX5_value_23 rfl (lv_at hl 3 rfl) ?_
      refine lv_i2l X.1 X.2.1 dX5_value_24 rfl ?_
      refine lc_X5_98 X dX5_value_25 ?_
      refine fin_i (wr := [(h0, cfE co (nI n) pa wo ot le ri wk rg ta), (co, aiE cI 240 C), (wo, cubE (ldF C x.toNatClampNeg))]) (cv_X5_100 X (c_isWithin l D cI cJ z.toInt64 1000  _) rfl rfl dX5_value_28 hP hD [] rfl rfl hl.1 rfl rfl (Nat.le_of_ble_eq_true rfl) ⟨Nat.le_of_ble_eq_true rfl, Nat.le_of_ble_eq_true rfl⟩ ⟨Nat.le_of_ble_eq_true rfl, Nat.le_of_ble_eq_true rfl⟩) hP hD hS hA [] [0, 1, 2] rfl rfl rfl (by decide) (fun r_11 u_10 H locs w_9 hP hD hS => ?_)
      have hP : va_P D vwCl [(h0, cfE co (nI n) pa wo ot le ri wk rg ta), (co, aiE cI 240 C), (wo, cubE (ldF C x.toNatClampNeg))] H := hP
      have hD : va_D AA [(h0, cfE co (nI n) pa wo ot le ri wk rg ta), (co, aiE cI 240 C), (wo, cubE (ldF C x.toNatClampNeg))] := hD
      subst w_9
      refine bb_ne (tgt := 38) X dX5_value_31 (by decide) (fun c_12 => ?_) (fun c_12 => ?_)
      · refine lv_aload_n X.1 X.2.1 dX5_value_38 rfl (lv_at hl 0 rfl) ?_
        refine gf_X5_25 (v := .ref wo) X hP 0 rfl rfl dX5_value_39 ?_
        refine lv_iload_n X.1 X.2.1 dX5_value_42 rfl (lv_at hl 2 rfl) ?_
        refine lv_i2l X.1 X.2.1 dX5_value_43 rfl ?_
        refine lv_iload_n X.1 X.2.1 dX5_value_44 rfl (lv_at hl 3 rfl) ?_
        refine lv_i2l X.1 X.2.1 dX5_value_45 rfl ?_
        refine fin_l (wr := [(h0, cfE co (nI n) pa wo ot le ri wk rg ta), (co, aiE cI 240 C)]) (cv_X5_104 X (c_Cubic_valueAt l D cI cJ wo (ldF C x.toNatClampNeg) y.toInt64 z.toInt64  _) rfl rfl dX5_value_46 hP hD 2 rfl [2] rfl rfl hl.1 rfl rfl (Nat.le_of_ble_eq_true rfl) ⟨Nat.le_of_ble_eq_true rfl, Nat.le_of_ble_eq_true rfl⟩ ⟨Nat.le_of_ble_eq_true rfl, Nat.le_of_ble_eq_true rfl⟩) hP hD hS hA [2] [0, 1] rfl rfl rfl (by decide) (fun r_15 u_14 H locs w_13 hP hD hS => ?_)
        have hP : va_P D vwCl [(h0, cfE co (nI n) pa wo ot le ri wk rg ta), (co, aiE cI 240 C), (wo, cubE (ldF C x.toNatClampNeg))] H := hP
        have hD : va_D AA [(h0, cfE co (nI n) pa wo ot le ri wk rg ta), (co, aiE cI 240 C), (wo, cubE (ldF C x.toNatClampNeg))] := hD
        subst w_13
        exact hret (valF (ldF C x.toNatClampNeg) y.toInt64 z.toInt64) (ldF C x.toNatClampNeg) _ _ _ _ (by rw [if_pos c_4, if_pos c_8, if_pos c_12]) (hP.sub [0, 1, 2] rfl) (hD.sub [0, 1, 2] rfl rfl) hS dX5_value_49
      · refine lc_X5_87 X dX5_value_34 ?_
        exact hret (-9223372036854775808) (ldF C x.toNatClampNeg) _ _ _ _ (by rw [if_pos c_4, if_pos c_8, if_neg (by rw [c_12]; decide)]) (hP.sub [0, 1, 2] rfl) (hD.sub [0, 1, 2] rfl rfl) hS dX5_value_37
set_option maxHeartbeats 4000000 in
set_option maxRecDepth 100000 in
theorem c_CF_substitute (l : Launch) (D : va_G) (cI cJ : ClassId) (h0 : Nat) (co : Nat) (pa : Nat) (wo : Nat) (ot : Nat) (le : Nat) (ri : Nat) (wk : Nat) (rg : Nat) (ta : Nat) (n : Nat) (C : Nat → Int32) (f : Fm) (g : Fm) (x : Int32) (a : Int32) (b : Int32) (c : Int32) (d : Int32) (hn : n ≤ 60) : CtI l yX5_substitute cX5_substitute 6 .int (rmk 3 64) D cI cJ [.ref h0, .int x, .int a, .int b, .int c, .int d] [(h0, cfE co (nI n) pa wo ot le ri wk rg ta), (co, aiE cI 240 C), (wo, cubE f), (ot, cubE g)] (fun (u : Fm × Fm) => [(h0, cfE co (nI (outS n C (subO n C x a b c d)).1) pa wo ot le ri wk rg ta), (co, aiE cI 240 ((outS n C (subO n C x a b c d)).2)), (wo, cubE u.1), (ot, cubE u.2)]) (fun (r : Int32) (u : Fm × Fm) => r = outR n (subO n C x a b c d)) := by
  refine CtI.of (own := RX5) (by decide +kernel) (Nat.le_of_ble_eq_true rfl) rfl ?_
  intro pr_ en_ sg_ me_ ar_ be_ mt_ co_ AA ls QQ X hA hP hD hS hl hret
  have hl : lv_has ls 6 [(0, .ref h0), (1, .int x), (2, .int a), (3, .int b), (4, .int c), (5, .int d)] := hl
  refine lv_aload_n X.1 X.2.1 dX5_substitute_0 rfl (lv_at hl 0 rfl) ?_
  refine lv_iload_n X.1 X.2.1 dX5_substitute_1 rfl (lv_at hl 1 rfl) ?_
  refine lv_aload_n X.1 X.2.1 dX5_substitute_2 rfl (lv_at hl 0 rfl) ?_
  refine gf_X5_29 (v := .ref ot) X hP 0 rfl rfl dX5_substitute_3 ?_
  refine fin_i (wr := [(wo, cubE f)]) (cv_X5_79 X (c_CF_load l D cI cJ h0 co pa wo ot le ri wk rg ta n C ot g x (by first | assumption | omega) _) rfl rfl dX5_substitute_6 hP hD 0 rfl [0, 1, 3] rfl rfl hl.1 rfl rfl (Nat.le_of_ble_eq_true rfl) ⟨Nat.le_of_ble_eq_true rfl, Nat.le_of_ble_eq_true rfl⟩ ⟨Nat.le_of_ble_eq_true rfl, Nat.le_of_ble_eq_true rfl⟩) hP hD hS hA [0, 1, 3] [2] rfl rfl rfl (by decide) (fun r_3 u_2 H locs w_1 hP hD hS => ?_)
  have hP : va_P D vwCl [(wo, cubE f), (h0, cfE co (nI n) pa wo ot le ri wk rg ta), (co, aiE cI 240 C), (ot, cubE (if isFormB n x then ldF C x.toNatClampNeg else g))] H := hP
  have hD : va_D AA [(wo, cubE f), (h0, cfE co (nI n) pa wo ot le ri wk rg ta), (co, aiE cI 240 C), (ot, cubE (if isFormB n x then ldF C x.toNatClampNeg else g))] := hD
  subst w_1
  refine bb_ne (tgt := 16) X dX5_substitute_9 (by decide) (fun c_4 => ?_) (fun c_4 => ?_)
  · rw [if_pos c_4] at hP hD
    refine lv_iload_n X.1 X.2.1 dX5_substitute_16 rfl (lv_at hl 2 rfl) ?_
    refine lv_iload_n X.1 X.2.1 dX5_substitute_17 rfl (lv_at hl 3 rfl) ?_
    refine lv_iload X.1 X.2.1 dX5_substitute_18 (lv_at hl 4 rfl) ?_
    refine lv_iload X.1 X.2.1 dX5_substitute_20 (lv_at hl 5 rfl) ?_
    refine fin_i (wr := [(wo, cubE f), (h0, cfE co (nI n) pa wo ot le ri wk rg ta), (co, aiE cI 240 C), (ot, cubE (ldF C x.toNatClampNeg))]) (cv_X5_108 X (c_isSubstitution l D cI cJ a b c d  _) rfl rfl dX5_substitute_22 hP hD [] rfl rfl hl.1 rfl rfl (Nat.le_of_ble_eq_true rfl) ⟨Nat.le_of_ble_eq_true rfl, Nat.le_of_ble_eq_true rfl⟩ ⟨Nat.le_of_ble_eq_true rfl, Nat.le_of_ble_eq_true rfl⟩) hP hD hS hA [] [0, 1, 2, 3] rfl rfl rfl (by decide) (fun r_7 u_6 H locs w_5 hP hD hS => ?_)
    have hP : va_P D vwCl [(wo, cubE f), (h0, cfE co (nI n) pa wo ot le ri wk rg ta), (co, aiE cI 240 C), (ot, cubE (ldF C x.toNatClampNeg))] H := hP
    have hD : va_D AA [(wo, cubE f), (h0, cfE co (nI n) pa wo ot le ri wk rg ta), (co, aiE cI 240 C), (ot, cubE (ldF C x.toNatClampNeg))] := hD
    subst w_5
    refine bb_ne (tgt := 32) X dX5_substitute_25 (by decide) (fun c_8 => ?_) (fun c_8 => ?_)
    · refine lv_aload_n X.1 X.2.1 dX5_substitute_32 rfl (lv_at hl 0 rfl) ?_
      refine gf_X5_25 (v := .ref wo) X hP 1 rfl rfl dX5_substitute_33 ?_
      refine lv_aload_n X.1 X.2.1 dX5_substitute_36 rfl (lv_at hl 0 rfl) ?_
      refine gf_X5_29 (v := .ref ot) X hP 1 rfl rfl dX5_substitute_37 ?_
      refine lv_iload_n X.1 X.2.1 dX5_substitute_40 rfl (lv_at hl 2 rfl) ?_
      refine lv_i2l X.1 X.2.1 dX5_substitute_41 rfl ?_
      refine lv_iload_n X.1 X.2.1 dX5_substitute_42 rfl (lv_at hl 3 rfl) ?_
      refine lv_i2l X.1 X.2.1 dX5_substitute_43 rfl ?_
      refine lv_iload X.1 X.2.1 dX5_substitute_44 (lv_at hl 4 rfl) ?_
      refine lv_i2l X.1 X.2.1 dX5_substitute_46 rfl ?_
      refine lv_iload X.1 X.2.1 dX5_substitute_47 (lv_at hl 5 rfl) ?_
      refine lv_i2l X.1 X.2.1 dX5_substitute_49 rfl ?_
      refine fin_v (wr := [(h0, cfE co (nI n) pa wo ot le ri wk rg ta), (co, aiE cI 240 C)]) (cv_X5_112 X (c_Cubic_becomeSubstituted l D cI cJ wo f ot (ldF C x.toNatClampNeg) a.toInt64 b.toInt64 c.toInt64 d.toInt64  _) rfl rfl dX5_substitute_50 hP hD 0 rfl [0, 3] rfl rfl hl.1 rfl rfl (Nat.le_of_ble_eq_true rfl) ⟨Nat.le_of_ble_eq_true rfl, Nat.le_of_ble_eq_true rfl⟩ ⟨Nat.le_of_ble_eq_true rfl, Nat.le_of_ble_eq_true rfl⟩) hP hD hS hA [0, 3] [1, 2] rfl rfl rfl (by decide) (fun u_10 H locs w_9 hP hD hS => ?_)
      have hP : va_P D vwCl [(h0, cfE co (nI n) pa wo ot le ri wk rg ta), (co, aiE cI 240 C), (wo, cubE (subF (ldF C x.toNatClampNeg) a.toInt64 b.toInt64 c.toInt64 d.toInt64)), (ot, cubE (ldF C x.toNatClampNeg))] H := hP
      have hD : va_D AA [(h0, cfE co (nI n) pa wo ot le ri wk rg ta), (co, aiE cI 240 C), (wo, cubE (subF (ldF C x.toNatClampNeg) a.toInt64 b.toInt64 c.toInt64 d.toInt64)), (ot, cubE (ldF C x.toNatClampNeg))] := hD
      refine lv_aload_n X.1 X.2.1 dX5_substitute_53 rfl (lv_at hl 0 rfl) ?_
      refine lv_aload_n X.1 X.2.1 dX5_substitute_54 rfl (lv_at hl 0 rfl) ?_
      refine gf_X5_25 (v := .ref wo) X hP 0 rfl rfl dX5_substitute_55 ?_
      refine fin_i (wr := [(ot, cubE (ldF C x.toNatClampNeg))]) (cv_X5_116 X (c_CF_storeIfFits l D cI cJ h0 co pa wo ot le ri wk rg ta n C wo (subF (ldF C x.toNatClampNeg) a.toInt64 b.toInt64 c.toInt64 d.toInt64) (by first | assumption | omega) _) rfl rfl dX5_substitute_58 hP hD 0 rfl [0, 1, 2] rfl rfl hl.1 rfl rfl (Nat.le_of_ble_eq_true rfl) ⟨Nat.le_of_ble_eq_true rfl, Nat.le_of_ble_eq_true rfl⟩ ⟨Nat.le_of_ble_eq_true rfl, Nat.le_of_ble_eq_true rfl⟩) hP hD hS hA [0, 1, 2] [3] rfl rfl rfl (by decide) (fun r_14 u_13 H locs w_12 hP hD hS => ?_)
      have hP : va_P D vwCl [(ot, cubE (ldF C x.toNatClampNeg)), (h0, cfE co (nI (sifS n C (subF (ldF C x.toNatClampNeg) a.toInt64 b.toInt64 c.toInt64 d.toInt64)).1) pa wo ot le ri wk rg ta), (co, aiE cI 240 ((sifS n C (subF (ldF C x.toNatClampNeg) a.toInt64 b.toInt64 c.toInt64 d.toInt64)).2)), (wo, cubE (subF (ldF C x.toNatClampNeg) a.toInt64 b.toInt64 c.toInt64 d.toInt64))] H := hP
      have hD : va_D AA [(ot, cubE (ldF C x.toNatClampNeg)), (h0, cfE co (nI (sifS n C (subF (ldF C x.toNatClampNeg) a.toInt64 b.toInt64 c.toInt64 d.toInt64)).1) pa wo ot le ri wk rg ta), (co, aiE cI 240 ((sifS n C (subF (ldF C x.toNatClampNeg) a.toInt64 b.toInt64 c.toInt64 d.toInt64)).2)), (wo, cubE (subF (ldF C x.toNatClampNeg) a.toInt64 b.toInt64 c.toInt64 d.toInt64))] := hD
      subst w_12
      have eo : subO n C x a b c d = .inr (subF (ldF C x.toNatClampNeg) a.toInt64 b.toInt64 c.toInt64 d.toInt64) := by rw [subO, if_pos c_4, if_pos c_8]
      have hP : va_P D vwCl [(ot, cubE (ldF C x.toNatClampNeg)), (h0, cfE co (nI (outS n C (subO n C x a b c d)).1) pa wo ot le ri wk rg ta), (co, aiE cI 240 ((outS n C (subO n C x a b c d)).2)), (wo, cubE (subF (ldF C x.toNatClampNeg) a.toInt64 b.toInt64 c.toInt64 d.toInt64))] H := by rw [eo]; exact hP
      have hD : va_D AA [(ot, cubE (ldF C x.toNatClampNeg)), (h0, cfE co (nI (outS n C (subO n C x a b c d)).1) pa wo ot le ri wk rg ta), (co, aiE cI 240 ((outS n C (subO n C x a b c d)).2)), (wo, cubE (subF (ldF C x.toNatClampNeg) a.toInt64 b.toInt64 c.toInt64 d.toInt64))] := by rw [eo]; exact hD
      exact hret (sifR n (subF (ldF C x.toNatClampNeg) a.toInt64 b.toInt64 c.toInt64 d.toInt64)) (subF (ldF C x.toNatClampNeg) a.toInt64 b.toInt64 c.toInt64 d.toInt64, (ldF C x.toNatClampNeg)) _ _ _ _ (by rw [eo]; rfl) rfl (hP.sub [1, 2, 3, 0] rfl) (hD.sub [1, 2, 3, 0] rfl rfl) hS dX5_substitute_61
    · have eo : subO n C x a b c d = .inl (-10003) := by rw [subO, if_pos c_4, if_neg (by rw [c_8]; decide)]
      have hP : va_P D vwCl [(wo, cubE f), (h0, cfE co (nI (outS n C (subO n C x a b c d)).1) pa wo ot le ri wk rg ta), (co, aiE cI 240 ((outS n C (subO n C x a b c d)).2)), (ot, cubE (ldF C x.toNatClampNeg))] H := by rw [eo]; exact hP
      have hD : va_D AA [(wo, cubE f), (h0, cfE co (nI (outS n C (subO n C x a b c d)).1) pa wo ot le ri wk rg ta), (co, aiE cI 240 ((outS n C (subO n C x a b c d)).2)), (ot, cubE (ldF C x.toNatClampNeg))] := by rw [eo]; exact hD
      refine lv_sipush (v := (-10003)) X.1 X.2.1 dX5_substitute_28 (by decide) ?_
      exact hret (-10003) (f, (ldF C x.toNatClampNeg)) _ _ _ _ (by rw [eo]; rfl) rfl (hP.sub [1, 2, 0, 3] rfl) (hD.sub [1, 2, 0, 3] rfl rfl) hS dX5_substitute_31
  · have eo : subO n C x a b c d = .inl (-10001) := by rw [subO, if_neg (by rw [c_4]; decide)]
    have hP : va_P D vwCl [(wo, cubE f), (h0, cfE co (nI (outS n C (subO n C x a b c d)).1) pa wo ot le ri wk rg ta), (co, aiE cI 240 ((outS n C (subO n C x a b c d)).2)), (ot, cubE (if isFormB n x then ldF C x.toNatClampNeg else g))] H := by rw [eo]; exact hP
    have hD : va_D AA [(wo, cubE f), (h0, cfE co (nI (outS n C (subO n C x a b c d)).1) pa wo ot le ri wk rg ta), (co, aiE cI 240 ((outS n C (subO n C x a b c d)).2)), (ot, cubE (if isFormB n x then ldF C x.toNatClampNeg else g))] := by rw [eo]; exact hD
    refine lv_sipush (v := (-10001)) X.1 X.2.1 dX5_substitute_12 (by decide) ?_
    exact hret (-10001) (f, if isFormB n x then ldF C x.toNatClampNeg else g) _ _ _ _ (by rw [eo]; rfl) rfl (hP.sub [1, 2, 0, 3] rfl) (hD.sub [1, 2, 0, 3] rfl rfl) hS dX5_substitute_15
set_option maxHeartbeats 4000000 in
set_option maxRecDepth 100000 in
theorem c_CF_isReducible (l : Launch) (D : va_G) (cI cJ : ClassId) (h0 : Nat) (co : Nat) (pa : Nat) (wo : Nat) (ot : Nat) (le : Nat) (ri : Nat) (wk : Nat) (rg : Nat) (ta : Nat) (n : Nat) (C : Nat → Int32) (f : Fm) (x : Int32) (hn : n ≤ 60) (hC : rngC C) : CtI l yX5_isReducible cX5_isReducible 2 .int (rmk 4 98) D cI cJ [.ref h0, .int x] [(h0, cfE co (nI n) pa wo ot le ri wk rg ta), (co, aiE cI 240 C), (wo, cubE f)] (fun (u : Fm) => [(h0, cfE co (nI n) pa wo ot le ri wk rg ta), (co, aiE cI 240 C), (wo, cubE u)]) (fun (r : Int32) (u : Fm) => r = if isFormB n x then (if rootF (ldF C x.toNatClampNeg) then 1 else 0) else (-10001)) := by
  refine CtI.of (own := RX5) (by decide +kernel) (Nat.le_of_ble_eq_true rfl) rfl ?_
  intro pr_ en_ sg_ me_ ar_ be_ mt_ co_ AA ls QQ X hA hP hD hS hl hret
  have hl : lv_has ls 2 [(0, .ref h0), (1, .int x)] := hl
  refine lv_aload_n X.1 X.2.1 dX5_isReducible_0 rfl (lv_at hl 0 rfl) ?_
  refine lv_iload_n X.1 X.2.1 dX5_isReducible_1 rfl (lv_at hl 1 rfl) ?_
  refine lv_aload_n X.1 X.2.1 dX5_isReducible_2 rfl (lv_at hl 0 rfl) ?_
  refine gf_X5_25 (v := .ref wo) X hP 0 rfl rfl dX5_isReducible_3 ?_
  refine fin_i (wr := []) (cv_X5_79 X (c_CF_load l D cI cJ h0 co pa wo ot le ri wk rg ta n C wo f x (by first | assumption | omega) _) rfl rfl dX5_isReducible_6 hP hD 0 rfl [0, 1, 2] rfl rfl hl.1 rfl rfl (Nat.le_of_ble_eq_true rfl) ⟨Nat.le_of_ble_eq_true rfl, Nat.le_of_ble_eq_true rfl⟩ ⟨Nat.le_of_ble_eq_true rfl, Nat.le_of_ble_eq_true rfl⟩) hP hD hS hA [0, 1, 2] [] rfl rfl rfl (by decide) (fun r_3 u_2 H locs w_1 hP hD hS => ?_)
  have hP : va_P D vwCl [(h0, cfE co (nI n) pa wo ot le ri wk rg ta), (co, aiE cI 240 C), (wo, cubE (if isFormB n x then ldF C x.toNatClampNeg else f))] H := hP
  have hD : va_D AA [(h0, cfE co (nI n) pa wo ot le ri wk rg ta), (co, aiE cI 240 C), (wo, cubE (if isFormB n x then ldF C x.toNatClampNeg else f))] := hD
  subst w_1
  refine bb_ne (tgt := 16) X dX5_isReducible_9 (by decide) (fun c_4 => ?_) (fun c_4 => ?_)
  · rw [if_pos c_4] at hP hD
    refine lv_aload_n X.1 X.2.1 dX5_isReducible_16 rfl (lv_at hl 0 rfl) ?_
    refine gf_X5_25 (v := .ref wo) X hP 0 rfl rfl dX5_isReducible_17 ?_
    refine fin_i (wr := [(h0, cfE co (nI n) pa wo ot le ri wk rg ta), (co, aiE cI 240 C)]) (cv_X5_119 X (c_Cubic_hasRationalRoot l D cI cJ wo (ldF C x.toNatClampNeg) (anF (ldF C x.toNatClampNeg)) (dnF (ldF C x.toNatClampNeg)) ((ldF_a hC hn c_4).1) ((ldF_a hC hn c_4).2) ((ldF_d hC hn c_4).1) ((ldF_d hC hn c_4).2) _) rfl rfl dX5_isReducible_20 hP hD 2 rfl [2] rfl rfl hl.1 rfl rfl (Nat.le_of_ble_eq_true rfl) ⟨Nat.le_of_ble_eq_true rfl, Nat.le_of_ble_eq_true rfl⟩ ⟨Nat.le_of_ble_eq_true rfl, Nat.le_of_ble_eq_true rfl⟩) hP hD hS hA [2] [0, 1] rfl rfl rfl (by decide) (fun r_7 u_6 H locs w_5 hP hD hS => ?_)
    have hP : va_P D vwCl [(h0, cfE co (nI n) pa wo ot le ri wk rg ta), (co, aiE cI 240 C), (wo, cubE (ldF C x.toNatClampNeg))] H := hP
    have hD : va_D AA [(h0, cfE co (nI n) pa wo ot le ri wk rg ta), (co, aiE cI 240 C), (wo, cubE (ldF C x.toNatClampNeg))] := hD
    subst w_5
    refine bb_eq (tgt := 30) X dX5_isReducible_23 (by decide) (fun c_8 => ?_) (fun c_8 => ?_)
    · refine lv_iconst (v := 0) X.1 X.2.1 dX5_isReducible_30 (by decide) ?_
      exact hret 0 (ldF C x.toNatClampNeg) _ _ _ _ (by rw [if_pos c_4, if_neg (show ¬ rootF _ = true from by rw [show rootF _ = false from c_8]; decide)]) rfl (hP.sub [0, 1, 2] rfl) (hD.sub [0, 1, 2] rfl rfl) hS dX5_isReducible_31
    · refine lv_iconst (v := 1) X.1 X.2.1 dX5_isReducible_26 (by decide) ?_
      refine lv_goto (tgt := 31) X.1 X.2.1 dX5_isReducible_27 (by decide) ?_
      exact hret 1 (ldF C x.toNatClampNeg) _ _ _ _ (by rw [if_pos c_4, if_pos (show rootF _ = true from c_8)]) rfl (hP.sub [0, 1, 2] rfl) (hD.sub [0, 1, 2] rfl rfl) hS dX5_isReducible_31
  · refine lv_sipush (v := (-10001)) X.1 X.2.1 dX5_isReducible_12 (by decide) ?_
    exact hret (-10001) (if isFormB n x then ldF C x.toNatClampNeg else f) _ _ _ _ (by rw [if_neg (by rw [c_4]; decide)]) rfl (hP.sub [0, 1, 2] rfl) (hD.sub [0, 1, 2] rfl rfl) hS dX5_isReducible_15
set_option maxHeartbeats 4000000 in
set_option maxRecDepth 100000 in
theorem c_CF_canonical (l : Launch) (D : va_G) (cI cJ : ClassId) (h0 : Nat) (co : Nat) (pa : Nat) (wo : Nat) (ot : Nat) (le : Nat) (ri : Nat) (wk : Nat) (rg : Nat) (ta : Nat) (n : Nat) (C : Nat → Int32) (f : Fm) (sc : Nat) (cd : Nat) (w1 : Fm) (w2 : Fm) (x : Int32) (hn : n ≤ 60) : CtI l yX5_canonical cX5_canonical 2 .int (rmk 4 100) D cI cJ [.ref h0, .int x] [(h0, cfE co (nI n) pa wo ot le ri wk rg ta), (co, aiE cI 240 C), (wo, cubE f), (wk, wkE sc cd), (sc, cubE w1), (cd, cubE w2)] (fun (u : Fm × Fm × Fm) => [(h0, cfE co (nI (outS n C (canO n C x)).1) pa wo ot le ri wk rg ta), (co, aiE cI 240 ((outS n C (canO n C x)).2)), (wo, cubE u.1), (wk, wkE sc cd), (sc, cubE u.2.1), (cd, cubE u.2.2)]) (fun (r : Int32) (u : Fm × Fm × Fm) => r = outR n (canO n C x)) := by
  refine CtI.of (own := RX5) (by decide +kernel) (Nat.le_of_ble_eq_true rfl) rfl ?_
  intro pr_ en_ sg_ me_ ar_ be_ mt_ co_ AA ls QQ X hA hP hD hS hl hret
  have hl : lv_has ls 2 [(0, .ref h0), (1, .int x)] := hl
  refine lv_aload_n X.1 X.2.1 dX5_canonical_0 rfl (lv_at hl 0 rfl) ?_
  refine lv_iload_n X.1 X.2.1 dX5_canonical_1 rfl (lv_at hl 1 rfl) ?_
  refine lv_aload_n X.1 X.2.1 dX5_canonical_2 rfl (lv_at hl 0 rfl) ?_
  refine gf_X5_25 (v := .ref wo) X hP 0 rfl rfl dX5_canonical_3 ?_
  refine fin_i (wr := [(wk, wkE sc cd), (sc, cubE w1), (cd, cubE w2)]) (cv_X5_79 X (c_CF_load l D cI cJ h0 co pa wo ot le ri wk rg ta n C wo f x (by first | assumption | omega) _) rfl rfl dX5_canonical_6 hP hD 0 rfl [0, 1, 2] rfl rfl hl.1 rfl rfl (Nat.le_of_ble_eq_true rfl) ⟨Nat.le_of_ble_eq_true rfl, Nat.le_of_ble_eq_true rfl⟩ ⟨Nat.le_of_ble_eq_true rfl, Nat.le_of_ble_eq_true rfl⟩) hP hD hS hA [0, 1, 2] [3, 4, 5] rfl rfl rfl (by decide) (fun r_3 u_2 H locs w_1 hP hD hS => ?_)
  have hP : va_P D vwCl [(wk, wkE sc cd), (sc, cubE w1), (cd, cubE w2), (h0, cfE co (nI n) pa wo ot le ri wk rg ta), (co, aiE cI 240 C), (wo, cubE (if isFormB n x then ldF C x.toNatClampNeg else f))] H := hP
  have hD : va_D AA [(wk, wkE sc cd), (sc, cubE w1), (cd, cubE w2), (h0, cfE co (nI n) pa wo ot le ri wk rg ta), (co, aiE cI 240 C), (wo, cubE (if isFormB n x then ldF C x.toNatClampNeg else f))] := hD
  subst w_1
  refine bb_ne (tgt := 16) X dX5_canonical_9 (by decide) (fun c_4 => ?_) (fun c_4 => ?_)
  · rw [if_pos c_4] at hP hD
    refine lv_aload_n X.1 X.2.1 dX5_canonical_16 rfl (lv_at hl 0 rfl) ?_
    refine gf_X5_25 (v := .ref wo) X hP 3 rfl rfl dX5_canonical_17 ?_
    refine fin_l (wr := [(wk, wkE sc cd), (sc, cubE w1), (cd, cubE w2), (h0, cfE co (nI n) pa wo ot le ri wk rg ta), (co, aiE cI 240 C)]) (cv_X5_83 X (c_Cubic_disc l D cI cJ wo (ldF C x.toNatClampNeg)  _) rfl rfl dX5_canonical_20 hP hD 5 rfl [5] rfl rfl hl.1 rfl rfl (Nat.le_of_ble_eq_true rfl) ⟨Nat.le_of_ble_eq_true rfl, Nat.le_of_ble_eq_true rfl⟩ ⟨Nat.le_of_ble_eq_true rfl, Nat.le_of_ble_eq_true rfl⟩) hP hD hS hA [5] [0, 1, 2, 3, 4] rfl rfl rfl (by decide) (fun r_7 u_6 H locs w_5 hP hD hS => ?_)
    have hP : va_P D vwCl [(wk, wkE sc cd), (sc, cubE w1), (cd, cubE w2), (h0, cfE co (nI n) pa wo ot le ri wk rg ta), (co, aiE cI 240 C), (wo, cubE (ldF C x.toNatClampNeg))] H := hP
    have hD : va_D AA [(wk, wkE sc cd), (sc, cubE w1), (cd, cubE w2), (h0, cfE co (nI n) pa wo ot le ri wk rg ta), (co, aiE cI 240 C), (wo, cubE (ldF C x.toNatClampNeg))] := hD
    subst w_5
    refine lv_lconst (v := 0) X.1 X.2.1 dX5_canonical_23 (by decide) ?_
    refine bl_gt (tgt := 32) X dX5_canonical_24 dX5_canonical_25 (by decide) (fun c_8 => ?_) (fun c_8 => ?_)
    · refine lv_aload_n X.1 X.2.1 dX5_canonical_32 rfl (lv_at hl 0 rfl) ?_
      refine gf_X5_45 (v := .ref wk) X hP 3 rfl rfl dX5_canonical_33 ?_
      refine lv_aload_n X.1 X.2.1 dX5_canonical_36 rfl (lv_at hl 0 rfl) ?_
      refine gf_X5_25 (v := .ref wo) X hP 3 rfl rfl dX5_canonical_37 ?_
      refine fin_v (wr := [(h0, cfE co (nI n) pa wo ot le ri wk rg ta), (co, aiE cI 240 C)]) (cv_X5_122 X (c_Wk_makeCanonical l D cI cJ wk sc cd w1 w2 wo (ldF C x.toNatClampNeg)  _) rfl rfl dX5_canonical_40 hP hD 0 rfl [0, 1, 2, 5] rfl rfl hl.1 rfl rfl (Nat.le_of_ble_eq_true rfl) ⟨Nat.le_of_ble_eq_true rfl, Nat.le_of_ble_eq_true rfl⟩ ⟨Nat.le_of_ble_eq_true rfl, Nat.le_of_ble_eq_true rfl⟩) hP hD hS hA [0, 1, 2, 5] [3, 4] rfl rfl rfl (by decide) (fun u_10 H locs w_9 hP hD hS => ?_)
      have hP : va_P D vwCl [(h0, cfE co (nI n) pa wo ot le ri wk rg ta), (co, aiE cI 240 C), (wk, wkE sc cd), (sc, cubE u_10.1), (cd, cubE u_10.2), (wo, cubE (sealC 0 (ldF C x.toNatClampNeg)))] H := hP
      have hD : va_D AA [(h0, cfE co (nI n) pa wo ot le ri wk rg ta), (co, aiE cI 240 C), (wk, wkE sc cd), (sc, cubE u_10.1), (cd, cubE u_10.2), (wo, cubE (sealC 0 (ldF C x.toNatClampNeg)))] := hD
      refine lv_aload_n X.1 X.2.1 dX5_canonical_43 rfl (lv_at hl 0 rfl) ?_
      refine lv_aload_n X.1 X.2.1 dX5_canonical_44 rfl (lv_at hl 0 rfl) ?_
      refine gf_X5_25 (v := .ref wo) X hP 0 rfl rfl dX5_canonical_45 ?_
      refine fin_i (wr := [(wk, wkE sc cd), (sc, cubE u_10.1), (cd, cubE u_10.2)]) (cv_X5_116 X (c_CF_storeIfFits l D cI cJ h0 co pa wo ot le ri wk rg ta n C wo (sealC 0 (ldF C x.toNatClampNeg)) (by first | assumption | omega) _) rfl rfl dX5_canonical_48 hP hD 0 rfl [0, 1, 5] rfl rfl hl.1 rfl rfl (Nat.le_of_ble_eq_true rfl) ⟨Nat.le_of_ble_eq_true rfl, Nat.le_of_ble_eq_true rfl⟩ ⟨Nat.le_of_ble_eq_true rfl, Nat.le_of_ble_eq_true rfl⟩) hP hD hS hA [0, 1, 5] [2, 3, 4] rfl rfl rfl (by decide) (fun r_14 u_13 H locs w_12 hP hD hS => ?_)
      have hP : va_P D vwCl [(wk, wkE sc cd), (sc, cubE u_10.1), (cd, cubE u_10.2), (h0, cfE co (nI (sifS n C (sealC 0 (ldF C x.toNatClampNeg))).1) pa wo ot le ri wk rg ta), (co, aiE cI 240 ((sifS n C (sealC 0 (ldF C x.toNatClampNeg))).2)), (wo, cubE (sealC 0 (ldF C x.toNatClampNeg)))] H := hP
      have hD : va_D AA [(wk, wkE sc cd), (sc, cubE u_10.1), (cd, cubE u_10.2), (h0, cfE co (nI (sifS n C (sealC 0 (ldF C x.toNatClampNeg))).1) pa wo ot le ri wk rg ta), (co, aiE cI 240 ((sifS n C (sealC 0 (ldF C x.toNatClampNeg))).2)), (wo, cubE (sealC 0 (ldF C x.toNatClampNeg)))] := hD
      subst w_12
      have eo : canO n C x = .inr (sealC 0 (ldF C x.toNatClampNeg)) := by rw [canO, if_pos c_4, if_pos c_8]
      have hP : va_P D vwCl [(wk, wkE sc cd), (sc, cubE u_10.1), (cd, cubE u_10.2), (h0, cfE co (nI (outS n C (canO n C x)).1) pa wo ot le ri wk rg ta), (co, aiE cI 240 ((outS n C (canO n C x)).2)), (wo, cubE (sealC 0 (ldF C x.toNatClampNeg)))] H := by rw [eo]; exact hP
      have hD : va_D AA [(wk, wkE sc cd), (sc, cubE u_10.1), (cd, cubE u_10.2), (h0, cfE co (nI (outS n C (canO n C x)).1) pa wo ot le ri wk rg ta), (co, aiE cI 240 ((outS n C (canO n C x)).2)), (wo, cubE (sealC 0 (ldF C x.toNatClampNeg)))] := by rw [eo]; exact hD
      exact hret (sifR n (sealC 0 (ldF C x.toNatClampNeg))) (sealC 0 (ldF C x.toNatClampNeg), u_10.1, u_10.2) _ _ _ _ (by rw [eo]; rfl) rfl (hP.sub [3, 4, 5, 0, 1, 2] rfl) (hD.sub [3, 4, 5, 0, 1, 2] rfl rfl) hS dX5_canonical_51
    · have eo : canO n C x = .inl (-10006) := by rw [canO, if_pos c_4, if_neg c_8]
      have hP : va_P D vwCl [(wk, wkE sc cd), (sc, cubE w1), (cd, cubE w2), (h0, cfE co (nI (outS n C (canO n C x)).1) pa wo ot le ri wk rg ta), (co, aiE cI 240 ((outS n C (canO n C x)).2)), (wo, cubE (ldF C x.toNatClampNeg))] H := by rw [eo]; exact hP
      have hD : va_D AA [(wk, wkE sc cd), (sc, cubE w1), (cd, cubE w2), (h0, cfE co (nI (outS n C (canO n C x)).1) pa wo ot le ri wk rg ta), (co, aiE cI 240 ((outS n C (canO n C x)).2)), (wo, cubE (ldF C x.toNatClampNeg))] := by rw [eo]; exact hD
      refine lv_sipush (v := (-10006)) X.1 X.2.1 dX5_canonical_28 (by decide) ?_
      exact hret (-10006) ((ldF C x.toNatClampNeg), w1, w2) _ _ _ _ (by rw [eo]; rfl) rfl (hP.sub [3, 4, 5, 0, 1, 2] rfl) (hD.sub [3, 4, 5, 0, 1, 2] rfl rfl) hS dX5_canonical_31
  · have eo : canO n C x = .inl (-10001) := by rw [canO, if_neg (by rw [c_4]; decide)]
    have hP : va_P D vwCl [(wk, wkE sc cd), (sc, cubE w1), (cd, cubE w2), (h0, cfE co (nI (outS n C (canO n C x)).1) pa wo ot le ri wk rg ta), (co, aiE cI 240 ((outS n C (canO n C x)).2)), (wo, cubE (if isFormB n x then ldF C x.toNatClampNeg else f))] H := by rw [eo]; exact hP
    have hD : va_D AA [(wk, wkE sc cd), (sc, cubE w1), (cd, cubE w2), (h0, cfE co (nI (outS n C (canO n C x)).1) pa wo ot le ri wk rg ta), (co, aiE cI 240 ((outS n C (canO n C x)).2)), (wo, cubE (if isFormB n x then ldF C x.toNatClampNeg else f))] := by rw [eo]; exact hD
    refine lv_sipush (v := (-10001)) X.1 X.2.1 dX5_canonical_12 (by decide) ?_
    exact hret (-10001) (if isFormB n x then ldF C x.toNatClampNeg else f, w1, w2) _ _ _ _ (by rw [eo]; rfl) rfl (hP.sub [3, 4, 5, 0, 1, 2] rfl) (hD.sub [3, 4, 5, 0, 1, 2] rfl rfl) hS dX5_canonical_15
set_option maxHeartbeats 4000000 in
set_option maxRecDepth 100000 in
theorem c_CF_areEquivalent (l : Launch) (D : va_G) (cI cJ : ClassId) (h0 : Nat) (co : Nat) (pa : Nat) (wo : Nat) (ot : Nat) (le : Nat) (ri : Nat) (wk : Nat) (rg : Nat) (ta : Nat) (n : Nat) (C : Nat → Int32) (f : Fm) (g : Fm) (sc : Nat) (cd : Nat) (w1 : Fm) (w2 : Fm) (x : Int32) (y : Int32) (hn : n ≤ 60) : CtI l yX5_areEquivalent cX5_areEquivalent 3 .int (rmk 4 100) D cI cJ [.ref h0, .int x, .int y] [(h0, cfE co (nI n) pa wo ot le ri wk rg ta), (co, aiE cI 240 C), (wo, cubE f), (ot, cubE g), (wk, wkE sc cd), (sc, cubE w1), (cd, cubE w2)] (fun (u : Fm × Fm × Fm × Fm) => [(h0, cfE co (nI n) pa wo ot le ri wk rg ta), (co, aiE cI 240 C), (wo, cubE u.1), (ot, cubE u.2.1), (wk, wkE sc cd), (sc, cubE u.2.2.1), (cd, cubE u.2.2.2)]) (fun (r : Int32) (u : Fm × Fm × Fm × Fm) => r = eqvR n C x y) := by
  refine CtI.of (own := RX5) (by decide +kernel) (Nat.le_of_ble_eq_true rfl) rfl ?_
  intro pr_ en_ sg_ me_ ar_ be_ mt_ co_ AA ls QQ X hA hP hD hS hl hret
  have hl : lv_has ls 3 [(0, .ref h0), (1, .int x), (2, .int y)] := hl
  refine lv_aload_n X.1 X.2.1 dX5_areEquivalent_0 rfl (lv_at hl 0 rfl) ?_
  refine lv_iload_n X.1 X.2.1 dX5_areEquivalent_1 rfl (lv_at hl 1 rfl) ?_
  refine lv_aload_n X.1 X.2.1 dX5_areEquivalent_2 rfl (lv_at hl 0 rfl) ?_
  refine gf_X5_25 (v := .ref wo) X hP 0 rfl rfl dX5_areEquivalent_3 ?_
  refine fin_i (wr := [(ot, cubE g), (wk, wkE sc cd), (sc, cubE w1), (cd, cubE w2)]) (cv_X5_79 X (c_CF_load l D cI cJ h0 co pa wo ot le ri wk rg ta n C wo f x (by first | assumption | omega) _) rfl rfl dX5_areEquivalent_6 hP hD 0 rfl [0, 1, 2] rfl rfl hl.1 rfl rfl (Nat.le_of_ble_eq_true rfl) ⟨Nat.le_of_ble_eq_true rfl, Nat.le_of_ble_eq_true rfl⟩ ⟨Nat.le_of_ble_eq_true rfl, Nat.le_of_ble_eq_true rfl⟩) hP hD hS hA [0, 1, 2] [3, 4, 5, 6] rfl rfl rfl (by decide) (fun r_3 u_2 H locs w_1 hP hD hS => ?_)
  have hP : va_P D vwCl [(ot, cubE g), (wk, wkE sc cd), (sc, cubE w1), (cd, cubE w2), (h0, cfE co (nI n) pa wo ot le ri wk rg ta), (co, aiE cI 240 C), (wo, cubE (if isFormB n x then ldF C x.toNatClampNeg else f))] H := hP
  have hD : va_D AA [(ot, cubE g), (wk, wkE sc cd), (sc, cubE w1), (cd, cubE w2), (h0, cfE co (nI n) pa wo ot le ri wk rg ta), (co, aiE cI 240 C), (wo, cubE (if isFormB n x then ldF C x.toNatClampNeg else f))] := hD
  subst w_1
  refine bb_eq (tgt := 24) X dX5_areEquivalent_9 (by decide) (fun c_4 => ?_) (fun c_4 => ?_)
  · refine lv_sipush (v := (-10001)) X.1 X.2.1 dX5_areEquivalent_24 (by decide) ?_
    exact hret (-10001) (if isFormB n x then ldF C x.toNatClampNeg else f, g, w1, w2) _ _ _ _ (by rw [eqvR, if_neg (by rw [c_4]; decide)]) rfl (hP.sub [4, 5, 6, 0, 1, 2, 3] rfl) (hD.sub [4, 5, 6, 0, 1, 2, 3] rfl rfl) hS dX5_areEquivalent_27
  · rw [if_pos c_4] at hP hD
    refine lv_aload_n X.1 X.2.1 dX5_areEquivalent_12 rfl (lv_at hl 0 rfl) ?_
    refine lv_iload_n X.1 X.2.1 dX5_areEquivalent_13 rfl (lv_at hl 2 rfl) ?_
    refine lv_aload_n X.1 X.2.1 dX5_areEquivalent_14 rfl (lv_at hl 0 rfl) ?_
    refine gf_X5_29 (v := .ref ot) X hP 4 rfl rfl dX5_areEquivalent_15 ?_
    refine fin_i (wr := [(wk, wkE sc cd), (sc, cubE w1), (cd, cubE w2), (wo, cubE (ldF C x.toNatClampNeg))]) (cv_X5_79 X (c_CF_load l D cI cJ h0 co pa wo ot le ri wk rg ta n C ot g y (by first | assumption | omega) _) rfl rfl dX5_areEquivalent_18 hP hD 4 rfl [4, 5, 0] rfl rfl hl.1 rfl rfl (Nat.le_of_ble_eq_true rfl) ⟨Nat.le_of_ble_eq_true rfl, Nat.le_of_ble_eq_true rfl⟩ ⟨Nat.le_of_ble_eq_true rfl, Nat.le_of_ble_eq_true rfl⟩) hP hD hS hA [4, 5, 0] [1, 2, 3, 6] rfl rfl rfl (by decide) (fun r_7 u_6 H locs w_5 hP hD hS => ?_)
    have hP : va_P D vwCl [(wk, wkE sc cd), (sc, cubE w1), (cd, cubE w2), (wo, cubE (ldF C x.toNatClampNeg)), (h0, cfE co (nI n) pa wo ot le ri wk rg ta), (co, aiE cI 240 C), (ot, cubE (if isFormB n y then ldF C y.toNatClampNeg else g))] H := hP
    have hD : va_D AA [(wk, wkE sc cd), (sc, cubE w1), (cd, cubE w2), (wo, cubE (ldF C x.toNatClampNeg)), (h0, cfE co (nI n) pa wo ot le ri wk rg ta), (co, aiE cI 240 C), (ot, cubE (if isFormB n y then ldF C y.toNatClampNeg else g))] := hD
    subst w_5
    refine bb_ne (tgt := 28) X dX5_areEquivalent_21 (by decide) (fun c_8 => ?_) (fun c_8 => ?_)
    · rw [if_pos c_8] at hP hD
      refine lv_aload_n X.1 X.2.1 dX5_areEquivalent_28 rfl (lv_at hl 0 rfl) ?_
      refine gf_X5_25 (v := .ref wo) X hP 4 rfl rfl dX5_areEquivalent_29 ?_
      refine fin_l (wr := [(wk, wkE sc cd), (sc, cubE w1), (cd, cubE w2), (h0, cfE co (nI n) pa wo ot le ri wk rg ta), (co, aiE cI 240 C), (ot, cubE (ldF C y.toNatClampNeg))]) (cv_X5_83 X (c_Cubic_disc l D cI cJ wo (ldF C x.toNatClampNeg)  _) rfl rfl dX5_areEquivalent_32 hP hD 3 rfl [3] rfl rfl hl.1 rfl rfl (Nat.le_of_ble_eq_true rfl) ⟨Nat.le_of_ble_eq_true rfl, Nat.le_of_ble_eq_true rfl⟩ ⟨Nat.le_of_ble_eq_true rfl, Nat.le_of_ble_eq_true rfl⟩) hP hD hS hA [3] [0, 1, 2, 4, 5, 6] rfl rfl rfl (by decide) (fun r_11 u_10 H locs w_9 hP hD hS => ?_)
      have hP : va_P D vwCl [(wk, wkE sc cd), (sc, cubE w1), (cd, cubE w2), (h0, cfE co (nI n) pa wo ot le ri wk rg ta), (co, aiE cI 240 C), (ot, cubE (ldF C y.toNatClampNeg)), (wo, cubE (ldF C x.toNatClampNeg))] H := hP
      have hD : va_D AA [(wk, wkE sc cd), (sc, cubE w1), (cd, cubE w2), (h0, cfE co (nI n) pa wo ot le ri wk rg ta), (co, aiE cI 240 C), (ot, cubE (ldF C y.toNatClampNeg)), (wo, cubE (ldF C x.toNatClampNeg))] := hD
      subst w_9
      refine lv_lconst (v := 0) X.1 X.2.1 dX5_areEquivalent_35 (by decide) ?_
      refine bl_le (tgt := 52) X dX5_areEquivalent_36 dX5_areEquivalent_37 (by decide) (fun c_12 => ?_) (fun c_12 => ?_)
      · refine lv_sipush (v := (-10006)) X.1 X.2.1 dX5_areEquivalent_52 (by decide) ?_
        exact hret (-10006) ((ldF C x.toNatClampNeg), (ldF C y.toNatClampNeg), w1, w2) _ _ _ _ (by rw [eqvR, if_pos c_4, if_pos c_8, if_neg c_12]) rfl (hP.sub [3, 4, 6, 5, 0, 1, 2] rfl) (hD.sub [3, 4, 6, 5, 0, 1, 2] rfl rfl) hS dX5_areEquivalent_55
      · refine lv_aload_n X.1 X.2.1 dX5_areEquivalent_40 rfl (lv_at hl 0 rfl) ?_
        refine gf_X5_29 (v := .ref ot) X hP 3 rfl rfl dX5_areEquivalent_41 ?_
        refine fin_l (wr := [(wk, wkE sc cd), (sc, cubE w1), (cd, cubE w2), (h0, cfE co (nI n) pa wo ot le ri wk rg ta), (co, aiE cI 240 C), (wo, cubE (ldF C x.toNatClampNeg))]) (cv_X5_83 X (c_Cubic_disc l D cI cJ ot (ldF C y.toNatClampNeg)  _) rfl rfl dX5_areEquivalent_44 hP hD 5 rfl [5] rfl rfl hl.1 rfl rfl (Nat.le_of_ble_eq_true rfl) ⟨Nat.le_of_ble_eq_true rfl, Nat.le_of_ble_eq_true rfl⟩ ⟨Nat.le_of_ble_eq_true rfl, Nat.le_of_ble_eq_true rfl⟩) hP hD hS hA [5] [0, 1, 2, 3, 4, 6] rfl rfl rfl (by decide) (fun r_15 u_14 H locs w_13 hP hD hS => ?_)
        have hP : va_P D vwCl [(wk, wkE sc cd), (sc, cubE w1), (cd, cubE w2), (h0, cfE co (nI n) pa wo ot le ri wk rg ta), (co, aiE cI 240 C), (wo, cubE (ldF C x.toNatClampNeg)), (ot, cubE (ldF C y.toNatClampNeg))] H := hP
        have hD : va_D AA [(wk, wkE sc cd), (sc, cubE w1), (cd, cubE w2), (h0, cfE co (nI n) pa wo ot le ri wk rg ta), (co, aiE cI 240 C), (wo, cubE (ldF C x.toNatClampNeg)), (ot, cubE (ldF C y.toNatClampNeg))] := hD
        subst w_13
        refine lv_lconst (v := 0) X.1 X.2.1 dX5_areEquivalent_47 (by decide) ?_
        refine bl_gt (tgt := 56) X dX5_areEquivalent_48 dX5_areEquivalent_49 (by decide) (fun c_16 => ?_) (fun c_16 => ?_)
        · refine lv_aload_n X.1 X.2.1 dX5_areEquivalent_56 rfl (lv_at hl 0 rfl) ?_
          refine gf_X5_45 (v := .ref wk) X hP 3 rfl rfl dX5_areEquivalent_57 ?_
          refine lv_aload_n X.1 X.2.1 dX5_areEquivalent_60 rfl (lv_at hl 0 rfl) ?_
          refine gf_X5_25 (v := .ref wo) X hP 3 rfl rfl dX5_areEquivalent_61 ?_
          refine fin_v (wr := [(h0, cfE co (nI n) pa wo ot le ri wk rg ta), (co, aiE cI 240 C), (ot, cubE (ldF C y.toNatClampNeg))]) (cv_X5_122 X (c_Wk_makeCanonical l D cI cJ wk sc cd w1 w2 wo (ldF C x.toNatClampNeg)  _) rfl rfl dX5_areEquivalent_64 hP hD 0 rfl [0, 1, 2, 5] rfl rfl hl.1 rfl rfl (Nat.le_of_ble_eq_true rfl) ⟨Nat.le_of_ble_eq_true rfl, Nat.le_of_ble_eq_true rfl⟩ ⟨Nat.le_of_ble_eq_true rfl, Nat.le_of_ble_eq_true rfl⟩) hP hD hS hA [0, 1, 2, 5] [3, 4, 6] rfl rfl rfl (by decide) (fun u_18 H locs w_17 hP hD hS => ?_)
          have hP : va_P D vwCl [(h0, cfE co (nI n) pa wo ot le ri wk rg ta), (co, aiE cI 240 C), (ot, cubE (ldF C y.toNatClampNeg)), (wk, wkE sc cd), (sc, cubE u_18.1), (cd, cubE u_18.2), (wo, cubE (sealC 0 (ldF C x.toNatClampNeg)))] H := hP
          have hD : va_D AA [(h0, cfE co (nI n) pa wo ot le ri wk rg ta), (co, aiE cI 240 C), (ot, cubE (ldF C y.toNatClampNeg)), (wk, wkE sc cd), (sc, cubE u_18.1), (cd, cubE u_18.2), (wo, cubE (sealC 0 (ldF C x.toNatClampNeg)))] := hD
          refine lv_aload_n X.1 X.2.1 dX5_areEquivalent_67 rfl (lv_at hl 0 rfl) ?_
          refine gf_X5_45 (v := .ref wk) X hP 0 rfl rfl dX5_areEquivalent_68 ?_
          refine lv_aload_n X.1 X.2.1 dX5_areEquivalent_71 rfl (lv_at hl 0 rfl) ?_
          refine gf_X5_29 (v := .ref ot) X hP 0 rfl rfl dX5_areEquivalent_72 ?_
          refine fin_v (wr := [(h0, cfE co (nI n) pa wo ot le ri wk rg ta), (co, aiE cI 240 C), (wo, cubE (sealC 0 (ldF C x.toNatClampNeg)))]) (cv_X5_122 X (c_Wk_makeCanonical l D cI cJ wk sc cd u_18.1 u_18.2 ot (ldF C y.toNatClampNeg)  _) rfl rfl dX5_areEquivalent_75 hP hD 3 rfl [3, 4, 5, 2] rfl rfl hl.1 rfl rfl (Nat.le_of_ble_eq_true rfl) ⟨Nat.le_of_ble_eq_true rfl, Nat.le_of_ble_eq_true rfl⟩ ⟨Nat.le_of_ble_eq_true rfl, Nat.le_of_ble_eq_true rfl⟩) hP hD hS hA [3, 4, 5, 2] [0, 1, 6] rfl rfl rfl (by decide) (fun u_21 H locs w_20 hP hD hS => ?_)
          have hP : va_P D vwCl [(h0, cfE co (nI n) pa wo ot le ri wk rg ta), (co, aiE cI 240 C), (wo, cubE (sealC 0 (ldF C x.toNatClampNeg))), (wk, wkE sc cd), (sc, cubE u_21.1), (cd, cubE u_21.2), (ot, cubE (sealC 0 (ldF C y.toNatClampNeg)))] H := hP
          have hD : va_D AA [(h0, cfE co (nI n) pa wo ot le ri wk rg ta), (co, aiE cI 240 C), (wo, cubE (sealC 0 (ldF C x.toNatClampNeg))), (wk, wkE sc cd), (sc, cubE u_21.1), (cd, cubE u_21.2), (ot, cubE (sealC 0 (ldF C y.toNatClampNeg)))] := hD
          refine lv_aload_n X.1 X.2.1 dX5_areEquivalent_78 rfl (lv_at hl 0 rfl) ?_
          refine gf_X5_25 (v := .ref wo) X hP 0 rfl rfl dX5_areEquivalent_79 ?_
          refine lv_aload_n X.1 X.2.1 dX5_areEquivalent_82 rfl (lv_at hl 0 rfl) ?_
          refine gf_X5_29 (v := .ref ot) X hP 0 rfl rfl dX5_areEquivalent_83 ?_
          refine fin_i (wr := [(h0, cfE co (nI n) pa wo ot le ri wk rg ta), (co, aiE cI 240 C), (wk, wkE sc cd), (sc, cubE u_21.1), (cd, cubE u_21.2)]) (cv_X5_126 X (c_Cubic_isSameAs l D cI cJ wo (sealC 0 (ldF C x.toNatClampNeg)) ot (sealC 0 (ldF C y.toNatClampNeg))  _) rfl rfl dX5_areEquivalent_86 hP hD 2 rfl [2, 6] rfl rfl hl.1 rfl rfl (Nat.le_of_ble_eq_true rfl) ⟨Nat.le_of_ble_eq_true rfl, Nat.le_of_ble_eq_true rfl⟩ ⟨Nat.le_of_ble_eq_true rfl, Nat.le_of_ble_eq_true rfl⟩) hP hD hS hA [2, 6] [0, 1, 3, 4, 5] rfl rfl rfl (by decide) (fun r_25 u_24 H locs w_23 hP hD hS => ?_)
          have hP : va_P D vwCl [(h0, cfE co (nI n) pa wo ot le ri wk rg ta), (co, aiE cI 240 C), (wk, wkE sc cd), (sc, cubE u_21.1), (cd, cubE u_21.2), (wo, cubE (sealC 0 (ldF C x.toNatClampNeg))), (ot, cubE (sealC 0 (ldF C y.toNatClampNeg)))] H := hP
          have hD : va_D AA [(h0, cfE co (nI n) pa wo ot le ri wk rg ta), (co, aiE cI 240 C), (wk, wkE sc cd), (sc, cubE u_21.1), (cd, cubE u_21.2), (wo, cubE (sealC 0 (ldF C x.toNatClampNeg))), (ot, cubE (sealC 0 (ldF C y.toNatClampNeg)))] := hD
          subst w_23
          refine bb_eq (tgt := 96) X dX5_areEquivalent_89 (by decide) (fun c_26 => ?_) (fun c_26 => ?_)
          · refine lv_iconst (v := 0) X.1 X.2.1 dX5_areEquivalent_96 (by decide) ?_
            exact hret 0 (sealC 0 (ldF C x.toNatClampNeg), sealC 0 (ldF C y.toNatClampNeg), u_21.1, u_21.2) _ _ _ _ (by rw [eqvR, if_pos c_4, if_pos c_8, if_pos c_12, if_pos c_16, if_neg (by rw [c_26]; decide)]) rfl (hP.sub [0, 1, 5, 6, 2, 3, 4] rfl) (hD.sub [0, 1, 5, 6, 2, 3, 4] rfl rfl) hS dX5_areEquivalent_97
          · refine lv_iconst (v := 1) X.1 X.2.1 dX5_areEquivalent_92 (by decide) ?_
            refine lv_goto (tgt := 97) X.1 X.2.1 dX5_areEquivalent_93 (by decide) ?_
            exact hret 1 (sealC 0 (ldF C x.toNatClampNeg), sealC 0 (ldF C y.toNatClampNeg), u_21.1, u_21.2) _ _ _ _ (by rw [eqvR, if_pos c_4, if_pos c_8, if_pos c_12, if_pos c_16, if_pos c_26]) rfl (hP.sub [0, 1, 5, 6, 2, 3, 4] rfl) (hD.sub [0, 1, 5, 6, 2, 3, 4] rfl rfl) hS dX5_areEquivalent_97
        · refine lv_sipush (v := (-10006)) X.1 X.2.1 dX5_areEquivalent_52 (by decide) ?_
          exact hret (-10006) ((ldF C x.toNatClampNeg), (ldF C y.toNatClampNeg), w1, w2) _ _ _ _ (by rw [eqvR, if_pos c_4, if_pos c_8, if_pos c_12, if_neg c_16]) rfl (hP.sub [3, 4, 5, 6, 0, 1, 2] rfl) (hD.sub [3, 4, 5, 6, 0, 1, 2] rfl rfl) hS dX5_areEquivalent_55
    · refine lv_sipush (v := (-10001)) X.1 X.2.1 dX5_areEquivalent_24 (by decide) ?_
      exact hret (-10001) ((ldF C x.toNatClampNeg), if isFormB n y then ldF C y.toNatClampNeg else g, w1, w2) _ _ _ _ (by rw [eqvR, if_pos c_4, if_neg (by rw [c_8]; decide)]) rfl (hP.sub [4, 5, 3, 6, 0, 1, 2] rfl) (hD.sub [4, 5, 3, 6, 0, 1, 2] rfl rfl) hS dX5_areEquivalent_27
set_option maxHeartbeats 4000000 in
set_option maxRecDepth 100000 in
theorem c_CF_automorphismCount (l : Launch) (D : va_G) (cI cJ : ClassId) (h0 : Nat) (co : Nat) (pa : Nat) (wo : Nat) (ot : Nat) (le : Nat) (ri : Nat) (wk : Nat) (rg : Nat) (ta : Nat) (n : Nat) (C : Nat → Int32) (f : Fm) (sc : Nat) (cd : Nat) (w1 : Fm) (w2 : Fm) (x : Int32) (hn : n ≤ 60) : CtI l yX5_automorphismCount cX5_automorphismCount 2 .int (rmk 4 101) D cI cJ [.ref h0, .int x] [(h0, cfE co (nI n) pa wo ot le ri wk rg ta), (co, aiE cI 240 C), (wo, cubE f), (wk, wkE sc cd), (sc, cubE w1), (cd, cubE w2)] (fun (u : Fm × Fm × Fm) => [(h0, cfE co (nI n) pa wo ot le ri wk rg ta), (co, aiE cI 240 C), (wo, cubE u.1), (wk, wkE sc cd), (sc, cubE u.2.1), (cd, cubE u.2.2)]) (fun (r : Int32) (u : Fm × Fm × Fm) => r = autR n C x) := by
  refine CtI.of (own := RX5) (by decide +kernel) (Nat.le_of_ble_eq_true rfl) rfl ?_
  intro pr_ en_ sg_ me_ ar_ be_ mt_ co_ AA ls QQ X hA hP hD hS hl hret
  have hl : lv_has ls 2 [(0, .ref h0), (1, .int x)] := hl
  refine lv_aload_n X.1 X.2.1 dX5_automorphismCount_0 rfl (lv_at hl 0 rfl) ?_
  refine lv_iload_n X.1 X.2.1 dX5_automorphismCount_1 rfl (lv_at hl 1 rfl) ?_
  refine lv_aload_n X.1 X.2.1 dX5_automorphismCount_2 rfl (lv_at hl 0 rfl) ?_
  refine gf_X5_25 (v := .ref wo) X hP 0 rfl rfl dX5_automorphismCount_3 ?_
  refine fin_i (wr := [(wk, wkE sc cd), (sc, cubE w1), (cd, cubE w2)]) (cv_X5_79 X (c_CF_load l D cI cJ h0 co pa wo ot le ri wk rg ta n C wo f x (by first | assumption | omega) _) rfl rfl dX5_automorphismCount_6 hP hD 0 rfl [0, 1, 2] rfl rfl hl.1 rfl rfl (Nat.le_of_ble_eq_true rfl) ⟨Nat.le_of_ble_eq_true rfl, Nat.le_of_ble_eq_true rfl⟩ ⟨Nat.le_of_ble_eq_true rfl, Nat.le_of_ble_eq_true rfl⟩) hP hD hS hA [0, 1, 2] [3, 4, 5] rfl rfl rfl (by decide) (fun r_3 u_2 H locs w_1 hP hD hS => ?_)
  have hP : va_P D vwCl [(wk, wkE sc cd), (sc, cubE w1), (cd, cubE w2), (h0, cfE co (nI n) pa wo ot le ri wk rg ta), (co, aiE cI 240 C), (wo, cubE (if isFormB n x then ldF C x.toNatClampNeg else f))] H := hP
  have hD : va_D AA [(wk, wkE sc cd), (sc, cubE w1), (cd, cubE w2), (h0, cfE co (nI n) pa wo ot le ri wk rg ta), (co, aiE cI 240 C), (wo, cubE (if isFormB n x then ldF C x.toNatClampNeg else f))] := hD
  subst w_1
  refine bb_ne (tgt := 16) X dX5_automorphismCount_9 (by decide) (fun c_4 => ?_) (fun c_4 => ?_)
  · rw [if_pos c_4] at hP hD
    refine lv_aload_n X.1 X.2.1 dX5_automorphismCount_16 rfl (lv_at hl 0 rfl) ?_
    refine gf_X5_25 (v := .ref wo) X hP 3 rfl rfl dX5_automorphismCount_17 ?_
    refine fin_l (wr := [(wk, wkE sc cd), (sc, cubE w1), (cd, cubE w2), (h0, cfE co (nI n) pa wo ot le ri wk rg ta), (co, aiE cI 240 C)]) (cv_X5_83 X (c_Cubic_disc l D cI cJ wo (ldF C x.toNatClampNeg)  _) rfl rfl dX5_automorphismCount_20 hP hD 5 rfl [5] rfl rfl hl.1 rfl rfl (Nat.le_of_ble_eq_true rfl) ⟨Nat.le_of_ble_eq_true rfl, Nat.le_of_ble_eq_true rfl⟩ ⟨Nat.le_of_ble_eq_true rfl, Nat.le_of_ble_eq_true rfl⟩) hP hD hS hA [5] [0, 1, 2, 3, 4] rfl rfl rfl (by decide) (fun r_7 u_6 H locs w_5 hP hD hS => ?_)
    have hP : va_P D vwCl [(wk, wkE sc cd), (sc, cubE w1), (cd, cubE w2), (h0, cfE co (nI n) pa wo ot le ri wk rg ta), (co, aiE cI 240 C), (wo, cubE (ldF C x.toNatClampNeg))] H := hP
    have hD : va_D AA [(wk, wkE sc cd), (sc, cubE w1), (cd, cubE w2), (h0, cfE co (nI n) pa wo ot le ri wk rg ta), (co, aiE cI 240 C), (wo, cubE (ldF C x.toNatClampNeg))] := hD
    subst w_5
    refine lv_lconst (v := 0) X.1 X.2.1 dX5_automorphismCount_23 (by decide) ?_
    refine bl_gt (tgt := 32) X dX5_automorphismCount_24 dX5_automorphismCount_25 (by decide) (fun c_8 => ?_) (fun c_8 => ?_)
    · refine lv_aload_n X.1 X.2.1 dX5_automorphismCount_32 rfl (lv_at hl 0 rfl) ?_
      refine gf_X5_45 (v := .ref wk) X hP 3 rfl rfl dX5_automorphismCount_33 ?_
      refine lv_aload_n X.1 X.2.1 dX5_automorphismCount_36 rfl (lv_at hl 0 rfl) ?_
      refine gf_X5_25 (v := .ref wo) X hP 3 rfl rfl dX5_automorphismCount_37 ?_
      refine fin_i (wr := [(h0, cfE co (nI n) pa wo ot le ri wk rg ta), (co, aiE cI 240 C)]) (cv_X5_130 X (c_Wk_countAutomorphisms l D cI cJ wk sc cd w1 w2 wo (ldF C x.toNatClampNeg)  _) rfl rfl dX5_automorphismCount_40 hP hD 0 rfl [0, 1, 2, 5] rfl rfl hl.1 rfl rfl (Nat.le_of_ble_eq_true rfl) ⟨Nat.le_of_ble_eq_true rfl, Nat.le_of_ble_eq_true rfl⟩ ⟨Nat.le_of_ble_eq_true rfl, Nat.le_of_ble_eq_true rfl⟩) hP hD hS hA [0, 1, 2, 5] [3, 4] rfl rfl rfl (by decide) (fun r_11 u_10 H locs w_9 hP hD hS => ?_)
      have hP : va_P D vwCl [(h0, cfE co (nI n) pa wo ot le ri wk rg ta), (co, aiE cI 240 C), (wk, wkE sc cd), (sc, cubE u_10.1), (cd, cubE u_10.2.1), (wo, cubE u_10.2.2)] H := hP
      have hD : va_D AA [(h0, cfE co (nI n) pa wo ot le ri wk rg ta), (co, aiE cI 240 C), (wk, wkE sc cd), (sc, cubE u_10.1), (cd, cubE u_10.2.1), (wo, cubE u_10.2.2)] := hD
      subst w_9
      exact hret (nI (sealA 0 (ldF C x.toNatClampNeg))) (u_10.2.2, u_10.1, u_10.2.1) _ _ _ _ (by rw [autR, if_pos c_4, if_pos c_8]) rfl (hP.sub [0, 1, 5, 2, 3, 4] rfl) (hD.sub [0, 1, 5, 2, 3, 4] rfl rfl) hS dX5_automorphismCount_43
    · refine lv_sipush (v := (-10006)) X.1 X.2.1 dX5_automorphismCount_28 (by decide) ?_
      exact hret (-10006) ((ldF C x.toNatClampNeg), w1, w2) _ _ _ _ (by rw [autR, if_pos c_4, if_neg c_8]) rfl (hP.sub [3, 4, 5, 0, 1, 2] rfl) (hD.sub [3, 4, 5, 0, 1, 2] rfl rfl) hS dX5_automorphismCount_31
  · refine lv_sipush (v := (-10001)) X.1 X.2.1 dX5_automorphismCount_12 (by decide) ?_
    exact hret (-10001) (if isFormB n x then ldF C x.toNatClampNeg else f, w1, w2) _ _ _ _ (by rw [autR, if_neg (by rw [c_4]; decide)]) rfl (hP.sub [3, 4, 5, 0, 1, 2] rfl) (hD.sub [3, 4, 5, 0, 1, 2] rfl rfl) hS dX5_automorphismCount_15
set_option maxHeartbeats 4000000 in
set_option maxRecDepth 100000 in
theorem c_CF_setElement (l : Launch) (D : va_G) (cI cJ : ClassId) (h0 : Nat) (co : Nat) (pa : Nat) (wo : Nat) (ot : Nat) (le : Nat) (ri : Nat) (wk : Nat) (rg : Nat) (ta : Nat) (n : Nat) (G : Nat → Int32) (e1 : Em) (e2 : Em) (x : Int32) (a : Int32) (b : Int32) (c : Int32)  : CtI l yX5_setElement cX5_setElement 5 .int (rmk 2 49) D cI cJ [.ref h0, .int x, .int a, .int b, .int c] [(h0, cfE co (nI n) pa wo ot le ri wk rg ta), (pa, aiE cI 18 G), (le, elE e1), (ri, elE e2)] (fun (u : Em × Em) => [(h0, cfE co (nI n) pa wo ot le ri wk rg ta), (pa, aiE cI 18 (regS G x (setO x a b c))), (le, elE u.1), (ri, elE u.2)]) (fun (r : Int32) (u : Em × Em) => r = setR G x a b c) := by
  refine CtI.of (own := RX5) (by decide +kernel) (Nat.le_of_ble_eq_true rfl) rfl ?_
  intro pr_ en_ sg_ me_ ar_ be_ mt_ co_ AA ls QQ X hA hP hD hS hl hret
  have hl : lv_has ls 5 [(0, .ref h0), (1, .int x), (2, .int a), (3, .int b), (4, .int c)] := hl
  refine lv_aload_n X.1 X.2.1 dX5_setElement_0 rfl (lv_at hl 0 rfl) ?_
  refine lv_iload_n X.1 X.2.1 dX5_setElement_1 rfl (lv_at hl 1 rfl) ?_
  refine lv_aload_n X.1 X.2.1 dX5_setElement_2 rfl (lv_at hl 0 rfl) ?_
  refine gf_X5_35 (v := .ref le) X hP 0 rfl rfl dX5_setElement_3 ?_
  refine fin_i (wr := [(ri, elE e2)]) (cv_X5_133 X (c_CF_loadElement l D cI cJ h0 co pa wo ot le ri wk rg ta n G le e1 x  _) rfl rfl dX5_setElement_6 hP hD 0 rfl [0, 1, 2] rfl rfl hl.1 rfl rfl (Nat.le_of_ble_eq_true rfl) ⟨Nat.le_of_ble_eq_true rfl, Nat.le_of_ble_eq_true rfl⟩ ⟨Nat.le_of_ble_eq_true rfl, Nat.le_of_ble_eq_true rfl⟩) hP hD hS hA [0, 1, 2] [3] rfl rfl rfl (by decide) (fun r_3 u_2 H locs w_1 hP hD hS => ?_)
  have hP : va_P D vwCl [(ri, elE e2), (h0, cfE co (nI n) pa wo ot le ri wk rg ta), (pa, aiE cI 18 G), (le, elE (if isRegB x then ldE G x.toNatClampNeg else e1))] H := hP
  have hD : va_D AA [(ri, elE e2), (h0, cfE co (nI n) pa wo ot le ri wk rg ta), (pa, aiE cI 18 G), (le, elE (if isRegB x then ldE G x.toNatClampNeg else e1))] := hD
  subst w_1
  refine bb_ne (tgt := 16) X dX5_setElement_9 (by decide) (fun c_4 => ?_) (fun c_4 => ?_)
  · rw [if_pos c_4] at hP hD
    refine lv_aload_n X.1 X.2.1 dX5_setElement_16 rfl (lv_at hl 0 rfl) ?_
    refine gf_X5_39 (v := .ref ri) X hP 1 rfl rfl dX5_setElement_17 ?_
    refine lv_iload_n X.1 X.2.1 dX5_setElement_20 rfl (lv_at hl 2 rfl) ?_
    refine lv_i2l X.1 X.2.1 dX5_setElement_21 rfl ?_
    refine lv_iload_n X.1 X.2.1 dX5_setElement_22 rfl (lv_at hl 3 rfl) ?_
    refine lv_i2l X.1 X.2.1 dX5_setElement_23 rfl ?_
    refine lv_iload X.1 X.2.1 dX5_setElement_24 (lv_at hl 4 rfl) ?_
    refine lv_i2l X.1 X.2.1 dX5_setElement_26 rfl ?_
    refine fin_v (wr := [(h0, cfE co (nI n) pa wo ot le ri wk rg ta), (pa, aiE cI 18 G), (le, elE (ldE G x.toNatClampNeg))]) (cv_X5_137 X (c_El_set l D cI cJ ri e2 a.toInt64 b.toInt64 c.toInt64  _) rfl rfl dX5_setElement_27 hP hD 0 rfl [0] rfl rfl hl.1 rfl rfl (Nat.le_of_ble_eq_true rfl) ⟨Nat.le_of_ble_eq_true rfl, Nat.le_of_ble_eq_true rfl⟩ ⟨Nat.le_of_ble_eq_true rfl, Nat.le_of_ble_eq_true rfl⟩) hP hD hS hA [0] [1, 2, 3] rfl rfl rfl (by decide) (fun u_6 H locs w_5 hP hD hS => ?_)
    have hP : va_P D vwCl [(h0, cfE co (nI n) pa wo ot le ri wk rg ta), (pa, aiE cI 18 G), (le, elE (ldE G x.toNatClampNeg)), (ri, elE (a.toInt64, b.toInt64, c.toInt64))] H := hP
    have hD : va_D AA [(h0, cfE co (nI n) pa wo ot le ri wk rg ta), (pa, aiE cI 18 G), (le, elE (ldE G x.toNatClampNeg)), (ri, elE (a.toInt64, b.toInt64, c.toInt64))] := hD
    refine lv_aload_n X.1 X.2.1 dX5_setElement_30 rfl (lv_at hl 0 rfl) ?_
    refine gf_X5_39 (v := .ref ri) X hP 0 rfl rfl dX5_setElement_31 ?_
    refine fin_i (wr := [(h0, cfE co (nI n) pa wo ot le ri wk rg ta), (pa, aiE cI 18 G), (le, elE (ldE G x.toNatClampNeg))]) (cv_X5_140 X (c_El_fitsRegister l D cI cJ ri (a.toInt64, b.toInt64, c.toInt64)  _) rfl rfl dX5_setElement_34 hP hD 3 rfl [3] rfl rfl hl.1 rfl rfl (Nat.le_of_ble_eq_true rfl) ⟨Nat.le_of_ble_eq_true rfl, Nat.le_of_ble_eq_true rfl⟩ ⟨Nat.le_of_ble_eq_true rfl, Nat.le_of_ble_eq_true rfl⟩) hP hD hS hA [3] [0, 1, 2] rfl rfl rfl (by decide) (fun r_10 u_9 H locs w_8 hP hD hS => ?_)
    have hP : va_P D vwCl [(h0, cfE co (nI n) pa wo ot le ri wk rg ta), (pa, aiE cI 18 G), (le, elE (ldE G x.toNatClampNeg)), (ri, elE (a.toInt64, b.toInt64, c.toInt64))] H := hP
    have hD : va_D AA [(h0, cfE co (nI n) pa wo ot le ri wk rg ta), (pa, aiE cI 18 G), (le, elE (ldE G x.toNatClampNeg)), (ri, elE (a.toInt64, b.toInt64, c.toInt64))] := hD
    subst w_8
    refine bb_ne (tgt := 44) X dX5_setElement_37 (by decide) (fun c_11 => ?_) (fun c_11 => ?_)
    · refine lv_aload_n X.1 X.2.1 dX5_setElement_44 rfl (lv_at hl 0 rfl) ?_
      refine lv_iload_n X.1 X.2.1 dX5_setElement_45 rfl (lv_at hl 1 rfl) ?_
      refine lv_aload_n X.1 X.2.1 dX5_setElement_46 rfl (lv_at hl 0 rfl) ?_
      refine gf_X5_39 (v := .ref ri) X hP 0 rfl rfl dX5_setElement_47 ?_
      refine fin_v (wr := [(le, elE (ldE G x.toNatClampNeg))]) (cv_X5_143 X (c_CF_storeElement l D cI cJ h0 co pa wo ot le ri wk rg ta n G ri (a.toInt64, b.toInt64, c.toInt64) x  _) rfl rfl dX5_setElement_50 hP hD 0 rfl [0, 1, 3] rfl rfl hl.1 rfl rfl (Nat.le_of_ble_eq_true rfl) ⟨Nat.le_of_ble_eq_true rfl, Nat.le_of_ble_eq_true rfl⟩ ⟨Nat.le_of_ble_eq_true rfl, Nat.le_of_ble_eq_true rfl⟩) hP hD hS hA [0, 1, 3] [2] rfl rfl rfl (by decide) (fun u_13 H locs w_12 hP hD hS => ?_)
      have hP : va_P D vwCl [(le, elE (ldE G x.toNatClampNeg)), (h0, cfE co (nI n) pa wo ot le ri wk rg ta), (pa, aiE cI 18 (if isRegB x then stE G x.toNatClampNeg (a.toInt64, b.toInt64, c.toInt64) else G)), (ri, elE (a.toInt64, b.toInt64, c.toInt64))] H := hP
      have hD : va_D AA [(le, elE (ldE G x.toNatClampNeg)), (h0, cfE co (nI n) pa wo ot le ri wk rg ta), (pa, aiE cI 18 (if isRegB x then stE G x.toNatClampNeg (a.toInt64, b.toInt64, c.toInt64) else G)), (ri, elE (a.toInt64, b.toInt64, c.toInt64))] := hD
      refine lv_aload_n X.1 X.2.1 dX5_setElement_53 rfl (lv_at hl 0 rfl) ?_
      refine gf_X5_35 (v := .ref le) X hP 1 rfl rfl dX5_setElement_54 ?_
      refine lv_aload_n X.1 X.2.1 dX5_setElement_57 rfl (lv_at hl 0 rfl) ?_
      refine gf_X5_39 (v := .ref ri) X hP 1 rfl rfl dX5_setElement_58 ?_
      refine fin_i (wr := [(h0, cfE co (nI n) pa wo ot le ri wk rg ta), (pa, aiE cI 18 (if isRegB x then stE G x.toNatClampNeg (a.toInt64, b.toInt64, c.toInt64) else G))]) (cv_X5_147 X (c_El_isSameAs l D cI cJ le (ldE G x.toNatClampNeg) ri (a.toInt64, b.toInt64, c.toInt64)  _) rfl rfl dX5_setElement_61 hP hD 0 rfl [0, 3] rfl rfl hl.1 rfl rfl (Nat.le_of_ble_eq_true rfl) ⟨Nat.le_of_ble_eq_true rfl, Nat.le_of_ble_eq_true rfl⟩ ⟨Nat.le_of_ble_eq_true rfl, Nat.le_of_ble_eq_true rfl⟩) hP hD hS hA [0, 3] [1, 2] rfl rfl rfl (by decide) (fun r_17 u_16 H locs w_15 hP hD hS => ?_)
      have hP : va_P D vwCl [(h0, cfE co (nI n) pa wo ot le ri wk rg ta), (pa, aiE cI 18 (if isRegB x then stE G x.toNatClampNeg (a.toInt64, b.toInt64, c.toInt64) else G)), (le, elE (ldE G x.toNatClampNeg)), (ri, elE (a.toInt64, b.toInt64, c.toInt64))] H := hP
      have hD : va_D AA [(h0, cfE co (nI n) pa wo ot le ri wk rg ta), (pa, aiE cI 18 (if isRegB x then stE G x.toNatClampNeg (a.toInt64, b.toInt64, c.toInt64) else G)), (le, elE (ldE G x.toNatClampNeg)), (ri, elE (a.toInt64, b.toInt64, c.toInt64))] := hD
      subst w_15
      refine bb_eq (tgt := 71) X dX5_setElement_64 (by decide) (fun c_18 => ?_) (fun c_18 => ?_)
      · refine lv_iconst (v := 1) X.1 X.2.1 dX5_setElement_71 (by decide) ?_
        rw [if_pos c_4] at hP hD
        have eo : setO x a b c = .inr (a.toInt64, b.toInt64, c.toInt64) := by rw [setO, if_pos c_4, if_pos c_11]
        have hP : va_P D vwCl [(h0, cfE co (nI n) pa wo ot le ri wk rg ta), (pa, aiE cI 18 (regS G x (setO x a b c))), (le, elE (ldE G x.toNatClampNeg)), (ri, elE (a.toInt64, b.toInt64, c.toInt64))] H := by rw [eo]; exact hP
        have hD : va_D AA [(h0, cfE co (nI n) pa wo ot le ri wk rg ta), (pa, aiE cI 18 (regS G x (setO x a b c))), (le, elE (ldE G x.toNatClampNeg)), (ri, elE (a.toInt64, b.toInt64, c.toInt64))] := by rw [eo]; exact hD
        exact hret 1 ((ldE G x.toNatClampNeg), (a.toInt64, b.toInt64, c.toInt64)) _ _ _ _ (by rw [setR, eo]; show _ = (if sameE (ldE G x.toNatClampNeg) (a.toInt64, b.toInt64, c.toInt64) then (0 : Int32) else 1); rw [if_neg (by rw [c_18]; decide)]) rfl (hP.sub [0, 1, 2, 3] rfl) (hD.sub [0, 1, 2, 3] rfl rfl) hS dX5_setElement_72
      · refine lv_iconst (v := 0) X.1 X.2.1 dX5_setElement_67 (by decide) ?_
        refine lv_goto (tgt := 72) X.1 X.2.1 dX5_setElement_68 (by decide) ?_
        rw [if_pos c_4] at hP hD
        have eo : setO x a b c = .inr (a.toInt64, b.toInt64, c.toInt64) := by rw [setO, if_pos c_4, if_pos c_11]
        have hP : va_P D vwCl [(h0, cfE co (nI n) pa wo ot le ri wk rg ta), (pa, aiE cI 18 (regS G x (setO x a b c))), (le, elE (ldE G x.toNatClampNeg)), (ri, elE (a.toInt64, b.toInt64, c.toInt64))] H := by rw [eo]; exact hP
        have hD : va_D AA [(h0, cfE co (nI n) pa wo ot le ri wk rg ta), (pa, aiE cI 18 (regS G x (setO x a b c))), (le, elE (ldE G x.toNatClampNeg)), (ri, elE (a.toInt64, b.toInt64, c.toInt64))] := by rw [eo]; exact hD
        exact hret 0 ((ldE G x.toNatClampNeg), (a.toInt64, b.toInt64, c.toInt64)) _ _ _ _ (by rw [setR, eo]; show _ = (if sameE (ldE G x.toNatClampNeg) (a.toInt64, b.toInt64, c.toInt64) then (0 : Int32) else 1); rw [if_pos c_18]) rfl (hP.sub [0, 1, 2, 3] rfl) (hD.sub [0, 1, 2, 3] rfl rfl) hS dX5_setElement_72
    · have eo : setO x a b c = .inl (-10003) := by rw [setO, if_pos c_4, if_neg (by rw [c_11]; decide)]
      have hP : va_P D vwCl [(h0, cfE co (nI n) pa wo ot le ri wk rg ta), (pa, aiE cI 18 (regS G x (setO x a b c))), (le, elE (ldE G x.toNatClampNeg)), (ri, elE (a.toInt64, b.toInt64, c.toInt64))] H := by rw [eo]; exact hP
      have hD : va_D AA [(h0, cfE co (nI n) pa wo ot le ri wk rg ta), (pa, aiE cI 18 (regS G x (setO x a b c))), (le, elE (ldE G x.toNatClampNeg)), (ri, elE (a.toInt64, b.toInt64, c.toInt64))] := by rw [eo]; exact hD
      refine lv_sipush (v := (-10003)) X.1 X.2.1 dX5_setElement_40 (by decide) ?_
      exact hret (-10003) ((ldE G x.toNatClampNeg), (a.toInt64, b.toInt64, c.toInt64)) _ _ _ _ (by rw [setR, eo]) rfl (hP.sub [0, 1, 2, 3] rfl) (hD.sub [0, 1, 2, 3] rfl rfl) hS dX5_setElement_43
  · have eo : setO x a b c = .inl (-10002) := by rw [setO, if_neg (by rw [c_4]; decide)]
    have hP : va_P D vwCl [(ri, elE e2), (h0, cfE co (nI n) pa wo ot le ri wk rg ta), (pa, aiE cI 18 (regS G x (setO x a b c))), (le, elE (if isRegB x then ldE G x.toNatClampNeg else e1))] H := by rw [eo]; exact hP
    have hD : va_D AA [(ri, elE e2), (h0, cfE co (nI n) pa wo ot le ri wk rg ta), (pa, aiE cI 18 (regS G x (setO x a b c))), (le, elE (if isRegB x then ldE G x.toNatClampNeg else e1))] := by rw [eo]; exact hD
    refine lv_sipush (v := (-10002)) X.1 X.2.1 dX5_setElement_12 (by decide) ?_
    exact hret (-10002) (if isRegB x then ldE G x.toNatClampNeg else e1, e2) _ _ _ _ (by rw [setR, eo]) rfl (hP.sub [1, 2, 3, 0] rfl) (hD.sub [1, 2, 3, 0] rfl rfl) hS dX5_setElement_15
set_option maxHeartbeats 4000000 in
set_option maxRecDepth 100000 in
theorem c_CF_element (l : Launch) (D : va_G) (cI cJ : ClassId) (h0 : Nat) (co : Nat) (pa : Nat) (wo : Nat) (ot : Nat) (le : Nat) (ri : Nat) (wk : Nat) (rg : Nat) (ta : Nat) (n : Nat) (G : Nat → Int32) (x : Int32) (y : Int32)  : CtI l yX5_element cX5_element 3 .int (rmk 1 20) D cI cJ [.ref h0, .int x, .int y] [(h0, cfE co (nI n) pa wo ot le ri wk rg ta), (pa, aiE cI 18 G)] (fun (_ : Unit) => [(h0, cfE co (nI n) pa wo ot le ri wk rg ta), (pa, aiE cI 18 G)]) (fun (r : Int32) (_ : Unit) => r = if isRegB x then (if y < 0 then (-10003) else if y < 3 then G (3 * x.toNatClampNeg + y.toNatClampNeg) else (-10003)) else (-10002)) := by
  refine CtI.of (own := RX5) (by decide +kernel) (Nat.le_of_ble_eq_true rfl) rfl ?_
  intro pr_ en_ sg_ me_ ar_ be_ mt_ co_ AA ls QQ X hA hP hD hS hl hret
  have hl : lv_has ls 3 [(0, .ref h0), (1, .int x), (2, .int y)] := hl
  refine lv_iload_n X.1 X.2.1 dX5_element_0 rfl (lv_at hl 1 rfl) ?_
  refine fin_i (wr := [(h0, cfE co (nI n) pa wo ot le ri wk rg ta), (pa, aiE cI 18 G)]) (cv_X5_150 X (c_isRegister l D cI cJ x  _) rfl rfl dX5_element_1 hP hD [] rfl rfl hl.1 rfl rfl (Nat.le_of_ble_eq_true rfl) ⟨Nat.le_of_ble_eq_true rfl, Nat.le_of_ble_eq_true rfl⟩ ⟨Nat.le_of_ble_eq_true rfl, Nat.le_of_ble_eq_true rfl⟩) hP hD hS hA [] [0, 1] rfl rfl rfl (by decide) (fun r_3 u_2 H locs w_1 hP hD hS => ?_)
  have hP : va_P D vwCl [(h0, cfE co (nI n) pa wo ot le ri wk rg ta), (pa, aiE cI 18 G)] H := hP
  have hD : va_D AA [(h0, cfE co (nI n) pa wo ot le ri wk rg ta), (pa, aiE cI 18 G)] := hD
  subst w_1
  refine bb_ne (tgt := 11) X dX5_element_4 (by decide) (fun c_4 => ?_) (fun c_4 => ?_)
  · refine lv_iload_n X.1 X.2.1 dX5_element_11 rfl (lv_at hl 2 rfl) ?_
    refine bz_lt (tgt := 20) X dX5_element_12 (by decide) (fun c_5 => ?_) (fun c_5 => ?_)
    · refine lv_sipush (v := (-10003)) X.1 X.2.1 dX5_element_20 (by decide) ?_
      exact hret (-10003) () _ _ _ _ (by rw [if_pos c_4, if_pos c_5]) rfl (hP.sub [0, 1] rfl) (hD.sub [0, 1] rfl rfl) hS dX5_element_23
    · refine lv_iload_n X.1 X.2.1 dX5_element_15 rfl (lv_at hl 2 rfl) ?_
      refine lv_iconst (v := 3) X.1 X.2.1 dX5_element_16 (by decide) ?_
      refine bi_lt (tgt := 24) X dX5_element_17 (by decide) (fun c_6 => ?_) (fun c_6 => ?_)
      · obtain ⟨k, hk, hx⟩ := isRegB_out c_4
        obtain ⟨j, hj, hy⟩ := nI_of c_5
        have hj4 : j < 3 := (nI_ltI (b := 3) hj (by decide)).mp (hy ▸ c_6)
        refine lv_aload_n X.1 X.2.1 dX5_element_24 rfl (lv_at hl 0 rfl) ?_
        refine gf_X5_19 (v := .ref pa) X hP 0 rfl rfl dX5_element_25 ?_
        refine lv_iload_n X.1 X.2.1 dX5_element_28 rfl (lv_at hl 1 rfl) ?_
        refine lv_iconst (v := 3) X.1 X.2.1 dX5_element_29 (by decide) ?_
        refine lv_imul X.1 X.2.1 dX5_element_30 ?_
        refine lv_iload_n X.1 X.2.1 dX5_element_31 rfl (lv_at hl 2 rfl) ?_
        refine lv_iadd X.1 X.2.1 dX5_element_32 ?_
        rw [hx, hy, nI_3m, nI_add]
        refine va_iald X.1 X.2.1 X.k hP 1 0 rfl rfl (vp_in_nI (by omega) (by omega)) dX5_element_33 ?_
        exact hret (G ((nI (3 * k + j)).toNatClampNeg)) () _ _ _ _ (by rw [if_pos c_4, if_neg c_5, if_pos c_6]; rw [hx, hy, nI_clamp (show k < 2 ^ 31 by omega), nI_clamp hj, nI_clamp (by omega)]) rfl (hP.sub [0, 1] rfl) (hD.sub [0, 1] rfl rfl) hS dX5_element_34
      · refine lv_sipush (v := (-10003)) X.1 X.2.1 dX5_element_20 (by decide) ?_
        exact hret (-10003) () _ _ _ _ (by rw [if_pos c_4, if_neg c_5, if_neg c_6]) rfl (hP.sub [0, 1] rfl) (hD.sub [0, 1] rfl rfl) hS dX5_element_23
  · refine lv_sipush (v := (-10002)) X.1 X.2.1 dX5_element_7 (by decide) ?_
    exact hret (-10002) () _ _ _ _ (by rw [if_neg (by rw [c_4]; decide)]) rfl (hP.sub [0, 1] rfl) (hD.sub [0, 1] rfl rfl) hS dX5_element_10
