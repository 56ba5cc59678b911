set_option maxHeartbeats 4000000 in
set_option maxRecDepth 100000 in
theorem c_CF_multiply (l : Launch) (D : va_G) (cI cJ : ClassId) (h0 : Nat) (co : Nat) (pa : Nat) (wo : Nat) (ot : Nat) (le : Nat) (ri : Nat) (wk : Nat) (rg : Nat) (ta : Nat) (n : Nat) (C : Nat → Int32) (G : Nat → Int32) (f : Fm) (e1 : Em) (e2 : Em) (o : Nat) (w : Nat) (z : Nat) (p : Nat) (r1 : Nat) (r2 : Nat) (r3 : Nat) (ep : Em) (x : Int32) (a : Int32) (b : Int32) (c : Int32) (hn : n ≤ 60) : CtI l yX5_multiply cX5_multiply 6 .int (rmk 3 78) D cI cJ [.ref h0, .int x, .int a, .int b, .int c] [(h0, cfE co (nI n) pa wo ot le ri wk rg ta), (co, aiE cI 240 C), (pa, aiE cI 18 G), (wo, cubE f), (le, elE e1), (ri, elE e2), (rg, rgE o w z p r1 r2 r3), (p, elE ep)] (fun (u : Fm × Em × Em × Em) => [(h0, cfE co (nI n) pa wo ot le ri wk rg ta), (co, aiE cI 240 C), (pa, aiE cI 18 (regS G c (mulO n C G x a b c))), (wo, cubE u.1), (le, elE u.2.1), (ri, elE u.2.2.1), (rg, rgE o w z p r1 r2 r3), (p, elE u.2.2.2)]) (fun (r : Int32) (u : Fm × Em × Em × Em) => r = mulR (mulO n C G x a b c)) := by
  refine CtI.of (own := RX5) (by decide +kernel) (Nat.le_of_ble_eq_true rfl) rfl ?_
  intro pr_ en_ sg_ me_ ar_ be_ mt_ co_ AA ls QQ X hA hP hD hS hl hret
  have hl : lv_has ls 6 [(0, .ref h0), (1, .int x), (2, .int a), (3, .int b), (4, .int c)] := hl
  refine lv_aload_n X.1 X.2.1 dX5_multiply_0 rfl (lv_at hl 0 rfl) ?_
  refine lv_iload_n X.1 X.2.1 dX5_multiply_1 rfl (lv_at hl 1 rfl) ?_
  refine lv_aload_n X.1 X.2.1 dX5_multiply_2 rfl (lv_at hl 0 rfl) ?_
  refine gf_X5_25 (v := .ref wo) X hP 0 rfl rfl dX5_multiply_3 ?_
  refine fin_i (wr := [(pa, aiE cI 18 G), (le, elE e1), (ri, elE e2), (rg, rgE o w z p r1 r2 r3), (p, elE ep)]) (cv_X5_79 X (c_CF_load l D cI cJ h0 co pa wo ot le ri wk rg ta n C wo f x (by first | assumption | omega) _) rfl rfl dX5_multiply_6 hP hD 0 rfl [0, 1, 3] rfl rfl hl.1 rfl rfl (Nat.le_of_ble_eq_true rfl) ⟨Nat.le_of_ble_eq_true rfl, Nat.le_of_ble_eq_true rfl⟩ ⟨Nat.le_of_ble_eq_true rfl, Nat.le_of_ble_eq_true rfl⟩) hP hD hS hA [0, 1, 3] [2, 4, 5, 6, 7] rfl rfl rfl (by decide) (fun r_3 u_2 H locs w_1 hP hD hS => ?_)
  have hP : va_P D vwCl [(pa, aiE cI 18 G), (le, elE e1), (ri, elE e2), (rg, rgE o w z p r1 r2 r3), (p, elE ep), (h0, cfE co (nI n) pa wo ot le ri wk rg ta), (co, aiE cI 240 C), (wo, cubE (if isFormB n x then ldF C x.toNatClampNeg else f))] H := hP
  have hD : va_D AA [(pa, aiE cI 18 G), (le, elE e1), (ri, elE e2), (rg, rgE o w z p r1 r2 r3), (p, elE ep), (h0, cfE co (nI n) pa wo ot le ri wk rg ta), (co, aiE cI 240 C), (wo, cubE (if isFormB n x then ldF C x.toNatClampNeg else f))] := hD
  subst w_1
  refine bb_ne (tgt := 16) X dX5_multiply_9 (by decide) (fun c_4 => ?_) (fun c_4 => ?_)
  · rw [if_pos c_4] at hP hD
    refine lv_aload_n X.1 X.2.1 dX5_multiply_16 rfl (lv_at hl 0 rfl) ?_
    refine lv_iload_n X.1 X.2.1 dX5_multiply_17 rfl (lv_at hl 2 rfl) ?_
    refine lv_aload_n X.1 X.2.1 dX5_multiply_18 rfl (lv_at hl 0 rfl) ?_
    refine gf_X5_35 (v := .ref le) X hP 5 rfl rfl dX5_multiply_19 ?_
    refine fin_i (wr := [(ri, elE e2), (rg, rgE o w z p r1 r2 r3), (p, elE ep), (co, aiE cI 240 C), (wo, cubE (ldF C x.toNatClampNeg))]) (cv_X5_133 X (c_CF_loadElement l D cI cJ h0 co pa wo ot le ri wk rg ta n G le e1 a  _) rfl rfl dX5_multiply_22 hP hD 5 rfl [5, 0, 1] rfl rfl hl.1 rfl rfl (Nat.le_of_ble_eq_true rfl) ⟨Nat.le_of_ble_eq_true rfl, Nat.le_of_ble_eq_true rfl⟩ ⟨Nat.le_of_ble_eq_true rfl, Nat.le_of_ble_eq_true rfl⟩) hP hD hS hA [5, 0, 1] [2, 3, 4, 6, 7] rfl rfl rfl (by decide) (fun r_7 u_6 H locs w_5 hP hD hS => ?_)
    have hP : va_P D vwCl [(ri, elE e2), (rg, rgE o w z p r1 r2 r3), (p, elE ep), (co, aiE cI 240 C), (wo, cubE (ldF C x.toNatClampNeg)), (h0, cfE co (nI n) pa wo ot le ri wk rg ta), (pa, aiE cI 18 G), (le, elE (if isRegB a then ldE G a.toNatClampNeg else e1))] H := hP
    have hD : va_D AA [(ri, elE e2), (rg, rgE o w z p r1 r2 r3), (p, elE ep), (co, aiE cI 240 C), (wo, cubE (ldF C x.toNatClampNeg)), (h0, cfE co (nI n) pa wo ot le ri wk rg ta), (pa, aiE cI 18 G), (le, elE (if isRegB a then ldE G a.toNatClampNeg else e1))] := hD
    subst w_5
    refine bb_eq (tgt := 48) X dX5_multiply_25 (by decide) (fun c_8 => ?_) (fun c_8 => ?_)
    · have eo : mulO n C G x a b c = .inl (-10002) := by rw [mulO, if_pos c_4, if_neg (by rw [c_8]; decide)]
      have hP : va_P D vwCl [(ri, elE e2), (rg, rgE o w z p r1 r2 r3), (p, elE ep), (co, aiE cI 240 C), (wo, cubE (ldF C x.toNatClampNeg)), (h0, cfE co (nI n) pa wo ot le ri wk rg ta), (pa, aiE cI 18 (regS G c (mulO n C G x a b c))), (le, elE (if isRegB a then ldE G a.toNatClampNeg else e1))] H := by rw [eo]; exact hP
      have hD : va_D AA [(ri, elE e2), (rg, rgE o w z p r1 r2 r3), (p, elE ep), (co, aiE cI 240 C), (wo, cubE (ldF C x.toNatClampNeg)), (h0, cfE co (nI n) pa wo ot le ri wk rg ta), (pa, aiE cI 18 (regS G c (mulO n C G x a b c))), (le, elE (if isRegB a then ldE G a.toNatClampNeg else e1))] := by rw [eo]; exact hD
      refine lv_sipush (v := (-10002)) X.1 X.2.1 dX5_multiply_48 (by decide) ?_
      exact hret (-10002) ((ldF C x.toNatClampNeg), if isRegB a then ldE G a.toNatClampNeg else e1, e2, ep) _ _ _ _ (by rw [eo]; rfl) rfl (hP.sub [5, 3, 6, 4, 7, 0, 1, 2] rfl) (hD.sub [5, 3, 6, 4, 7, 0, 1, 2] rfl rfl) hS dX5_multiply_51
    · rw [if_pos c_8] at hP hD
      refine lv_aload_n X.1 X.2.1 dX5_multiply_28 rfl (lv_at hl 0 rfl) ?_
      refine lv_iload_n X.1 X.2.1 dX5_multiply_29 rfl (lv_at hl 3 rfl) ?_
      refine lv_aload_n X.1 X.2.1 dX5_multiply_30 rfl (lv_at hl 0 rfl) ?_
      refine gf_X5_39 (v := .ref ri) X hP 5 rfl rfl dX5_multiply_31 ?_
      refine fin_i (wr := [(rg, rgE o w z p r1 r2 r3), (p, elE ep), (co, aiE cI 240 C), (wo, cubE (ldF C x.toNatClampNeg)), (le, elE (ldE G a.toNatClampNeg))]) (cv_X5_133 X (c_CF_loadElement l D cI cJ h0 co pa wo ot le ri wk rg ta n G ri e2 b  _) rfl rfl dX5_multiply_34 hP hD 5 rfl [5, 6, 0] rfl rfl hl.1 rfl rfl (Nat.le_of_ble_eq_true rfl) ⟨Nat.le_of_ble_eq_true rfl, Nat.le_of_ble_eq_true rfl⟩ ⟨Nat.le_of_ble_eq_true rfl, Nat.le_of_ble_eq_true rfl⟩) hP hD hS hA [5, 6, 0] [1, 2, 3, 4, 7] rfl rfl rfl (by decide) (fun r_11 u_10 H locs w_9 hP hD hS => ?_)
      have hP : va_P D vwCl [(rg, rgE o w z p r1 r2 r3), (p, elE ep), (co, aiE cI 240 C), (wo, cubE (ldF C x.toNatClampNeg)), (le, elE (ldE G a.toNatClampNeg)), (h0, cfE co (nI n) pa wo ot le ri wk rg ta), (pa, aiE cI 18 G), (ri, elE (if isRegB b then ldE G b.toNatClampNeg else e2))] H := hP
      have hD : va_D AA [(rg, rgE o w z p r1 r2 r3), (p, elE ep), (co, aiE cI 240 C), (wo, cubE (ldF C x.toNatClampNeg)), (le, elE (ldE G a.toNatClampNeg)), (h0, cfE co (nI n) pa wo ot le ri wk rg ta), (pa, aiE cI 18 G), (ri, elE (if isRegB b then ldE G b.toNatClampNeg else e2))] := hD
      subst w_9
      refine bb_eq (tgt := 48) X dX5_multiply_37 (by decide) (fun c_12 => ?_) (fun c_12 => ?_)
      · have eo : mulO n C G x a b c = .inl (-10002) := by rw [mulO, if_pos c_4, if_pos c_8, if_neg (by rw [c_12]; decide)]
        have hP : va_P D vwCl [(rg, rgE o w z p r1 r2 r3), (p, elE ep), (co, aiE cI 240 C), (wo, cubE (ldF C x.toNatClampNeg)), (le, elE (ldE G a.toNatClampNeg)), (h0, cfE co (nI n) pa wo ot le ri wk rg ta), (pa, aiE cI 18 (regS G c (mulO n C G x a b c))), (ri, elE (if isRegB b then ldE G b.toNatClampNeg else e2))] H := by rw [eo]; exact hP
        have hD : va_D AA [(rg, rgE o w z p r1 r2 r3), (p, elE ep), (co, aiE cI 240 C), (wo, cubE (ldF C x.toNatClampNeg)), (le, elE (ldE G a.toNatClampNeg)), (h0, cfE co (nI n) pa wo ot le ri wk rg ta), (pa, aiE cI 18 (regS G c (mulO n C G x a b c))), (ri, elE (if isRegB b then ldE G b.toNatClampNeg else e2))] := by rw [eo]; exact hD
        refine lv_sipush (v := (-10002)) X.1 X.2.1 dX5_multiply_48 (by decide) ?_
        exact hret (-10002) ((ldF C x.toNatClampNeg), (ldE G a.toNatClampNeg), if isRegB b then ldE G b.toNatClampNeg else e2, ep) _ _ _ _ (by rw [eo]; rfl) rfl (hP.sub [5, 2, 6, 3, 4, 7, 0, 1] rfl) (hD.sub [5, 2, 6, 3, 4, 7, 0, 1] rfl rfl) hS dX5_multiply_51
      · rw [if_pos c_12] at hP hD
        refine lv_iload X.1 X.2.1 dX5_multiply_40 (lv_at hl 4 rfl) ?_
        refine fin_i (wr := [(rg, rgE o w z p r1 r2 r3), (p, elE ep), (co, aiE cI 240 C), (wo, cubE (ldF C x.toNatClampNeg)), (le, elE (ldE G a.toNatClampNeg)), (h0, cfE co (nI n) pa wo ot le ri wk rg ta), (pa, aiE cI 18 G), (ri, elE (ldE G b.toNatClampNeg))]) (cv_X5_150 X (c_isRegister l D cI cJ c  _) rfl rfl dX5_multiply_42 hP hD [] rfl rfl hl.1 rfl rfl (Nat.le_of_ble_eq_true rfl) ⟨Nat.le_of_ble_eq_true rfl, Nat.le_of_ble_eq_true rfl⟩ ⟨Nat.le_of_ble_eq_true rfl, Nat.le_of_ble_eq_true rfl⟩) hP hD hS hA [] [0, 1, 2, 3, 4, 5, 6, 7] rfl rfl rfl (by decide) (fun r_15 u_14 H locs w_13 hP hD hS => ?_)
        have hP : va_P D vwCl [(rg, rgE o w z p r1 r2 r3), (p, elE ep), (co, aiE cI 240 C), (wo, cubE (ldF C x.toNatClampNeg)), (le, elE (ldE G a.toNatClampNeg)), (h0, cfE co (nI n) pa wo ot le ri wk rg ta), (pa, aiE cI 18 G), (ri, elE (ldE G b.toNatClampNeg))] H := hP
        have hD : va_D AA [(rg, rgE o w z p r1 r2 r3), (p, elE ep), (co, aiE cI 240 C), (wo, cubE (ldF C x.toNatClampNeg)), (le, elE (ldE G a.toNatClampNeg)), (h0, cfE co (nI n) pa wo ot le ri wk rg ta), (pa, aiE cI 18 G), (ri, elE (ldE G b.toNatClampNeg))] := hD
        subst w_13
        refine bb_ne (tgt := 52) X dX5_multiply_45 (by decide) (fun c_16 => ?_) (fun c_16 => ?_)
        · refine lv_aload_n X.1 X.2.1 dX5_multiply_52 rfl (lv_at hl 0 rfl) ?_
          refine gf_X5_52 (v := .ref rg) X hP 5 rfl rfl dX5_multiply_53 ?_
          refine lv_aload_n X.1 X.2.1 dX5_multiply_56 rfl (lv_at hl 0 rfl) ?_
          refine gf_X5_25 (v := .ref wo) X hP 5 rfl rfl dX5_multiply_57 ?_
          refine lv_aload_n X.1 X.2.1 dX5_multiply_60 rfl (lv_at hl 0 rfl) ?_
          refine gf_X5_35 (v := .ref le) X hP 5 rfl rfl dX5_multiply_61 ?_
          refine lv_aload_n X.1 X.2.1 dX5_multiply_64 rfl (lv_at hl 0 rfl) ?_
          refine gf_X5_39 (v := .ref ri) X hP 5 rfl rfl dX5_multiply_65 ?_
          refine fin_r (wr := [(co, aiE cI 240 C), (h0, cfE co (nI n) pa wo ot le ri wk rg ta), (pa, aiE cI 18 G)]) (cv_X5_153 X (c_Ring_productOf l D cI cJ rg o w z p r1 r2 r3 ep wo (ldF C x.toNatClampNeg) le (ldE G a.toNatClampNeg) ri (ldE G b.toNatClampNeg)  _) rfl rfl dX5_multiply_68 hP hD 0 rfl [0, 1, 3, 4, 7] rfl rfl hl.1 rfl rfl (Nat.le_of_ble_eq_true rfl) ⟨Nat.le_of_ble_eq_true rfl, Nat.le_of_ble_eq_true rfl⟩ ⟨Nat.le_of_ble_eq_true rfl, Nat.le_of_ble_eq_true rfl⟩) hP hD hS hA [0, 1, 3, 4, 7] [2, 5, 6] rfl rfl rfl (by decide) (fun u_18 H locs w_17 hP hD hS => ?_)
          have hP : va_P D vwCl [(co, aiE cI 240 C), (h0, cfE co (nI n) pa wo ot le ri wk rg ta), (pa, aiE cI 18 G), (rg, rgE o w z p r1 r2 r3), (p, elE (prodE (ldF C x.toNatClampNeg) (ldE G a.toNatClampNeg) (ldE G b.toNatClampNeg))), (wo, cubE (ldF C x.toNatClampNeg)), (le, elE (ldE G a.toNatClampNeg)), (ri, elE (ldE G b.toNatClampNeg))] H := hP
          have hD : va_D AA [(co, aiE cI 240 C), (h0, cfE co (nI n) pa wo ot le ri wk rg ta), (pa, aiE cI 18 G), (rg, rgE o w z p r1 r2 r3), (p, elE (prodE (ldF C x.toNatClampNeg) (ldE G a.toNatClampNeg) (ldE G b.toNatClampNeg))), (wo, cubE (ldF C x.toNatClampNeg)), (le, elE (ldE G a.toNatClampNeg)), (ri, elE (ldE G b.toNatClampNeg))] := hD
          refine lv_astore (lv' := [(5, .ref p), (0, .ref h0), (1, .int x), (2, .int a), (3, .int b), (4, .int c)]) X.1 X.2.1 dX5_multiply_71 hl (by decide) rfl (fun ls hl => ?_)
          refine lv_aload X.1 X.2.1 dX5_multiply_73 (lv_at hl 0 rfl) ?_
          refine fin_i (wr := [(co, aiE cI 240 C), (h0, cfE co (nI n) pa wo ot le ri wk rg ta), (pa, aiE cI 18 G), (rg, rgE o w z p r1 r2 r3), (wo, cubE (ldF C x.toNatClampNeg)), (le, elE (ldE G a.toNatClampNeg)), (ri, elE (ldE G b.toNatClampNeg))]) (cv_X5_140 X (c_El_fitsRegister l D cI cJ p (prodE (ldF C x.toNatClampNeg) (ldE G a.toNatClampNeg) (ldE G b.toNatClampNeg))  _) rfl rfl dX5_multiply_75 hP hD 4 rfl [4] rfl rfl hl.1 rfl rfl (Nat.le_of_ble_eq_true rfl) ⟨Nat.le_of_ble_eq_true rfl, Nat.le_of_ble_eq_true rfl⟩ ⟨Nat.le_of_ble_eq_true rfl, Nat.le_of_ble_eq_true rfl⟩) hP hD hS hA [4] [0, 1, 2, 3, 5, 6, 7] rfl rfl rfl (by decide) (fun r_22 u_21 H locs w_20 hP hD hS => ?_)
          have hP : va_P D vwCl [(co, aiE cI 240 C), (h0, cfE co (nI n) pa wo ot le ri wk rg ta), (pa, aiE cI 18 G), (rg, rgE o w z p r1 r2 r3), (wo, cubE (ldF C x.toNatClampNeg)), (le, elE (ldE G a.toNatClampNeg)), (ri, elE (ldE G b.toNatClampNeg)), (p, elE (prodE (ldF C x.toNatClampNeg) (ldE G a.toNatClampNeg) (ldE G b.toNatClampNeg)))] H := hP
          have hD : va_D AA [(co, aiE cI 240 C), (h0, cfE co (nI n) pa wo ot le ri wk rg ta), (pa, aiE cI 18 G), (rg, rgE o w z p r1 r2 r3), (wo, cubE (ldF C x.toNatClampNeg)), (le, elE (ldE G a.toNatClampNeg)), (ri, elE (ldE G b.toNatClampNeg)), (p, elE (prodE (ldF C x.toNatClampNeg) (ldE G a.toNatClampNeg) (ldE G b.toNatClampNeg)))] := hD
          subst w_20
          refine bb_ne (tgt := 85) X dX5_multiply_78 (by decide) (fun c_23 => ?_) (fun c_23 => ?_)
          · refine lv_aload_n X.1 X.2.1 dX5_multiply_85 rfl (lv_at hl 1 rfl) ?_
            refine lv_iload X.1 X.2.1 dX5_multiply_86 (lv_at hl 5 rfl) ?_
            refine lv_aload X.1 X.2.1 dX5_multiply_88 (lv_at hl 0 rfl) ?_
            refine fin_v (wr := [(co, aiE cI 240 C), (rg, rgE o w z p r1 r2 r3), (wo, cubE (ldF C x.toNatClampNeg)), (le, elE (ldE G a.toNatClampNeg)), (ri, elE (ldE G b.toNatClampNeg))]) (cv_X5_143 X (c_CF_storeElement l D cI cJ h0 co pa wo ot le ri wk rg ta n G p (prodE (ldF C x.toNatClampNeg) (ldE G a.toNatClampNeg) (ldE G b.toNatClampNeg)) c  _) rfl rfl dX5_multiply_90 hP hD 1 rfl [1, 2, 7] rfl rfl hl.1 rfl rfl (Nat.le_of_ble_eq_true rfl) ⟨Nat.le_of_ble_eq_true rfl, Nat.le_of_ble_eq_true rfl⟩ ⟨Nat.le_of_ble_eq_true rfl, Nat.le_of_ble_eq_true rfl⟩) hP hD hS hA [1, 2, 7] [0, 3, 4, 5, 6] rfl rfl rfl (by decide) (fun u_25 H locs w_24 hP hD hS => ?_)
            have hP : va_P D vwCl [(co, aiE cI 240 C), (rg, rgE o w z p r1 r2 r3), (wo, cubE (ldF C x.toNatClampNeg)), (le, elE (ldE G a.toNatClampNeg)), (ri, elE (ldE G b.toNatClampNeg)), (h0, cfE co (nI n) pa wo ot le ri wk rg ta), (pa, aiE cI 18 (if isRegB c then stE G c.toNatClampNeg (prodE (ldF C x.toNatClampNeg) (ldE G a.toNatClampNeg) (ldE G b.toNatClampNeg)) else G)), (p, elE (prodE (ldF C x.toNatClampNeg) (ldE G a.toNatClampNeg) (ldE G b.toNatClampNeg)))] H := hP
            have hD : va_D AA [(co, aiE cI 240 C), (rg, rgE o w z p r1 r2 r3), (wo, cubE (ldF C x.toNatClampNeg)), (le, elE (ldE G a.toNatClampNeg)), (ri, elE (ldE G b.toNatClampNeg)), (h0, cfE co (nI n) pa wo ot le ri wk rg ta), (pa, aiE cI 18 (if isRegB c then stE G c.toNatClampNeg (prodE (ldF C x.toNatClampNeg) (ldE G a.toNatClampNeg) (ldE G b.toNatClampNeg)) else G)), (p, elE (prodE (ldF C x.toNatClampNeg) (ldE G a.toNatClampNeg) (ldE G b.toNatClampNeg)))] := hD
            rw [if_pos c_16] at hP hD
            have eo : mulO n C G x a b c = .inr (prodE (ldF C x.toNatClampNeg) (ldE G a.toNatClampNeg) (ldE G b.toNatClampNeg)) := by rw [mulO, if_pos c_4, if_pos c_8, if_pos c_12, if_pos c_16, if_pos c_23]
            have hP : va_P D vwCl [(co, aiE cI 240 C), (rg, rgE o w z p r1 r2 r3), (wo, cubE (ldF C x.toNatClampNeg)), (le, elE (ldE G a.toNatClampNeg)), (ri, elE (ldE G b.toNatClampNeg)), (h0, cfE co (nI n) pa wo ot le ri wk rg ta), (pa, aiE cI 18 (regS G c (mulO n C G x a b c))), (p, elE (prodE (ldF C x.toNatClampNeg) (ldE G a.toNatClampNeg) (ldE G b.toNatClampNeg)))] H := by rw [eo]; exact hP
            have hD : va_D AA [(co, aiE cI 240 C), (rg, rgE o w z p r1 r2 r3), (wo, cubE (ldF C x.toNatClampNeg)), (le, elE (ldE G a.toNatClampNeg)), (ri, elE (ldE G b.toNatClampNeg)), (h0, cfE co (nI n) pa wo ot le ri wk rg ta), (pa, aiE cI 18 (regS G c (mulO n C G x a b c))), (p, elE (prodE (ldF C x.toNatClampNeg) (ldE G a.toNatClampNeg) (ldE G b.toNatClampNeg)))] := by rw [eo]; exact hD
            refine lv_iconst (v := 1) X.1 X.2.1 dX5_multiply_93 (by decide) ?_
            exact hret 1 ((ldF C x.toNatClampNeg), (ldE G a.toNatClampNeg), (ldE G b.toNatClampNeg), prodE (ldF C x.toNatClampNeg) (ldE G a.toNatClampNeg) (ldE G b.toNatClampNeg)) _ _ _ _ (by rw [eo]; rfl) rfl (hP.sub [5, 0, 6, 2, 3, 4, 1, 7] rfl) (hD.sub [5, 0, 6, 2, 3, 4, 1, 7] rfl rfl) hS dX5_multiply_94
          · have eo : mulO n C G x a b c = .inl (-10005) := by rw [mulO, if_pos c_4, if_pos c_8, if_pos c_12, if_pos c_16, if_neg (by rw [c_23]; decide)]
            have hP : va_P D vwCl [(co, aiE cI 240 C), (h0, cfE co (nI n) pa wo ot le ri wk rg ta), (pa, aiE cI 18 (regS G c (mulO n C G x a b c))), (rg, rgE o w z p r1 r2 r3), (wo, cubE (ldF C x.toNatClampNeg)), (le, elE (ldE G a.toNatClampNeg)), (ri, elE (ldE G b.toNatClampNeg)), (p, elE (prodE (ldF C x.toNatClampNeg) (ldE G a.toNatClampNeg) (ldE G b.toNatClampNeg)))] H := by rw [eo]; exact hP
            have hD : va_D AA [(co, aiE cI 240 C), (h0, cfE co (nI n) pa wo ot le ri wk rg ta), (pa, aiE cI 18 (regS G c (mulO n C G x a b c))), (rg, rgE o w z p r1 r2 r3), (wo, cubE (ldF C x.toNatClampNeg)), (le, elE (ldE G a.toNatClampNeg)), (ri, elE (ldE G b.toNatClampNeg)), (p, elE (prodE (ldF C x.toNatClampNeg) (ldE G a.toNatClampNeg) (ldE G b.toNatClampNeg)))] := by rw [eo]; exact hD
            refine lv_sipush (v := (-10005)) X.1 X.2.1 dX5_multiply_81 (by decide) ?_
            exact hret (-10005) ((ldF C x.toNatClampNeg), (ldE G a.toNatClampNeg), (ldE G b.toNatClampNeg), prodE (ldF C x.toNatClampNeg) (ldE G a.toNatClampNeg) (ldE G b.toNatClampNeg)) _ _ _ _ (by rw [eo]; rfl) rfl (hP.sub [1, 0, 2, 4, 5, 6, 3, 7] rfl) (hD.sub [1, 0, 2, 4, 5, 6, 3, 7] rfl rfl) hS dX5_multiply_84
        · have eo : mulO n C G x a b c = .inl (-10002) := by rw [mulO, if_pos c_4, if_pos c_8, if_pos c_12, if_neg (by rw [c_16]; decide)]
          have hP : va_P D vwCl [(rg, rgE o w z p r1 r2 r3), (p, elE ep), (co, aiE cI 240 C), (wo, cubE (ldF C x.toNatClampNeg)), (le, elE (ldE G a.toNatClampNeg)), (h0, cfE co (nI n) pa wo ot le ri wk rg ta), (pa, aiE cI 18 (regS G c (mulO n C G x a b c))), (ri, elE (ldE G b.toNatClampNeg))] H := by rw [eo]; exact hP
          have hD : va_D AA [(rg, rgE o w z p r1 r2 r3), (p, elE ep), (co, aiE cI 240 C), (wo, cubE (ldF C x.toNatClampNeg)), (le, elE (ldE G a.toNatClampNeg)), (h0, cfE co (nI n) pa wo ot le ri wk rg ta), (pa, aiE cI 18 (regS G c (mulO n C G x a b c))), (ri, elE (ldE G b.toNatClampNeg))] := by rw [eo]; exact hD
          refine lv_sipush (v := (-10002)) X.1 X.2.1 dX5_multiply_48 (by decide) ?_
          exact hret (-10002) ((ldF C x.toNatClampNeg), (ldE G a.toNatClampNeg), (ldE G b.toNatClampNeg), ep) _ _ _ _ (by rw [eo]; rfl) rfl (hP.sub [5, 2, 6, 3, 4, 7, 0, 1] rfl) (hD.sub [5, 2, 6, 3, 4, 7, 0, 1] rfl rfl) hS dX5_multiply_51
  · have eo : mulO n C G x a b c = .inl (-10001) := by rw [mulO, if_neg (by rw [c_4]; decide)]
    have hP : va_P D vwCl [(pa, aiE cI 18 (regS G c (mulO n C G x a b c))), (le, elE e1), (ri, elE e2), (rg, rgE o w z p r1 r2 r3), (p, elE ep), (h0, cfE co (nI n) pa wo ot le ri wk rg ta), (co, aiE cI 240 C), (wo, cubE (if isFormB n x then ldF C x.toNatClampNeg else f))] H := by rw [eo]; exact hP
    have hD : va_D AA [(pa, aiE cI 18 (regS G c (mulO n C G x a b c))), (le, elE e1), (ri, elE e2), (rg, rgE o w z p r1 r2 r3), (p, elE ep), (h0, cfE co (nI n) pa wo ot le ri wk rg ta), (co, aiE cI 240 C), (wo, cubE (if isFormB n x then ldF C x.toNatClampNeg else f))] := by rw [eo]; exact hD
    refine lv_sipush (v := (-10001)) X.1 X.2.1 dX5_multiply_12 (by decide) ?_
    exact hret (-10001) (if isFormB n x then ldF C x.toNatClampNeg else f, e1, e2, ep) _ _ _ _ (by rw [eo]; rfl) rfl (hP.sub [5, 6, 0, 7, 1, 2, 3, 4] rfl) (hD.sub [5, 6, 0, 7, 1, 2, 3, 4] rfl rfl) hS dX5_multiply_15
set_option maxHeartbeats 4000000 in
set_option maxRecDepth 100000 in
theorem c_CF_trace (l : Launch) (D : va_G) (cI cJ : ClassId) (h0 : Nat) (co : Nat) (pa : Nat) (wo : Nat) (ot : Nat) (le : Nat) (ri : Nat) (wk : Nat) (rg : Nat) (ta : Nat) (n : Nat) (C : Nat → Int32) (G : Nat → Int32) (f : Fm) (e1 : Em) (x : Int32) (y : Int32) (hn : n ≤ 60) : CtL l yX5_trace cX5_trace 3 (rmk 2 51) D cI cJ [.ref h0, .int x, .int y] [(h0, cfE co (nI n) pa wo ot le ri wk rg ta), (co, aiE cI 240 C), (pa, aiE cI 18 G), (wo, cubE f), (le, elE e1)] (fun (u : Fm × Em) => [(h0, cfE co (nI n) pa wo ot le ri wk rg ta), (co, aiE cI 240 C), (pa, aiE cI 18 G), (wo, cubE u.1), (le, elE u.2)]) (fun (r : Int64) (u : Fm × Em) => r = if isFormB n x then (if isRegB y then traceE (ldE G y.toNatClampNeg) (ldF C x.toNatClampNeg) else (-9223372036854775808)) else (-9223372036854775808)) := by
  refine CtL.of (own := RX5) (by decide +kernel) (Nat.le_of_ble_eq_true rfl) rfl ?_
  intro pr_ en_ sg_ me_ ar_ be_ mt_ co_ AA ls QQ X hA hP hD hS hl hret
  have hl : lv_has ls 3 [(0, .ref h0), (1, .int x), (2, .int y)] := hl
  refine lv_aload_n X.1 X.2.1 dX5_trace_0 rfl (lv_at hl 0 rfl) ?_
  refine lv_iload_n X.1 X.2.1 dX5_trace_1 rfl (lv_at hl 1 rfl) ?_
  refine lv_aload_n X.1 X.2.1 dX5_trace_2 rfl (lv_at hl 0 rfl) ?_
  refine gf_X5_25 (v := .ref wo) X hP 0 rfl rfl dX5_trace_3 ?_
  refine fin_i (wr := [(pa, aiE cI 18 G), (le, elE e1)]) (cv_X5_79 X (c_CF_load l D cI cJ h0 co pa wo ot le ri wk rg ta n C wo f x (by first | assumption | omega) _) rfl rfl dX5_trace_6 hP hD 0 rfl [0, 1, 3] rfl rfl hl.1 rfl rfl (Nat.le_of_ble_eq_true rfl) ⟨Nat.le_of_ble_eq_true rfl, Nat.le_of_ble_eq_true rfl⟩ ⟨Nat.le_of_ble_eq_true rfl, Nat.le_of_ble_eq_true rfl⟩) hP hD hS hA [0, 1, 3] [2, 4] rfl rfl rfl (by decide) (fun r_3 u_2 H locs w_1 hP hD hS => ?_)
  have hP : va_P D vwCl [(pa, aiE cI 18 G), (le, elE e1), (h0, cfE co (nI n) pa wo ot le ri wk rg ta), (co, aiE cI 240 C), (wo, cubE (if isFormB n x then ldF C x.toNatClampNeg else f))] H := hP
  have hD : va_D AA [(pa, aiE cI 18 G), (le, elE e1), (h0, cfE co (nI n) pa wo ot le ri wk rg ta), (co, aiE cI 240 C), (wo, cubE (if isFormB n x then ldF C x.toNatClampNeg else f))] := hD
  subst w_1
  refine bb_eq (tgt := 24) X dX5_trace_9 (by decide) (fun c_4 => ?_) (fun c_4 => ?_)
  · refine lc_X5_87 X dX5_trace_24 ?_
    exact hret (-9223372036854775808) (if isFormB n x then ldF C x.toNatClampNeg else f, e1) _ _ _ _ (by rw [if_neg (by rw [c_4]; decide)]) (hP.sub [2, 3, 0, 4, 1] rfl) (hD.sub [2, 3, 0, 4, 1] rfl rfl) hS dX5_trace_27
  · rw [if_pos c_4] at hP hD
    refine lv_aload_n X.1 X.2.1 dX5_trace_12 rfl (lv_at hl 0 rfl) ?_
    refine lv_iload_n X.1 X.2.1 dX5_trace_13 rfl (lv_at hl 2 rfl) ?_
    refine lv_aload_n X.1 X.2.1 dX5_trace_14 rfl (lv_at hl 0 rfl) ?_
    refine gf_X5_35 (v := .ref le) X hP 2 rfl rfl dX5_trace_15 ?_
    refine fin_i (wr := [(co, aiE cI 240 C), (wo, cubE (ldF C x.toNatClampNeg))]) (cv_X5_133 X (c_CF_loadElement l D cI cJ h0 co pa wo ot le ri wk rg ta n G le e1 y  _) rfl rfl dX5_trace_18 hP hD 2 rfl [2, 0, 1] rfl rfl hl.1 rfl rfl (Nat.le_of_ble_eq_true rfl) ⟨Nat.le_of_ble_eq_true rfl, Nat.le_of_ble_eq_true rfl⟩ ⟨Nat.le_of_ble_eq_true rfl, Nat.le_of_ble_eq_true rfl⟩) hP hD hS hA [2, 0, 1] [3, 4] rfl rfl rfl (by decide) (fun r_7 u_6 H locs w_5 hP hD hS => ?_)
    have hP : va_P D vwCl [(co, aiE cI 240 C), (wo, cubE (ldF C x.toNatClampNeg)), (h0, cfE co (nI n) pa wo ot le ri wk rg ta), (pa, aiE cI 18 G), (le, elE (if isRegB y then ldE G y.toNatClampNeg else e1))] H := hP
    have hD : va_D AA [(co, aiE cI 240 C), (wo, cubE (ldF C x.toNatClampNeg)), (h0, cfE co (nI n) pa wo ot le ri wk rg ta), (pa, aiE cI 18 G), (le, elE (if isRegB y then ldE G y.toNatClampNeg else e1))] := hD
    subst w_5
    refine bb_ne (tgt := 28) X dX5_trace_21 (by decide) (fun c_8 => ?_) (fun c_8 => ?_)
    · rw [if_pos c_8] at hP hD
      refine lv_aload_n X.1 X.2.1 dX5_trace_28 rfl (lv_at hl 0 rfl) ?_
      refine gf_X5_35 (v := .ref le) X hP 2 rfl rfl dX5_trace_29 ?_
      refine lv_aload_n X.1 X.2.1 dX5_trace_32 rfl (lv_at hl 0 rfl) ?_
      refine gf_X5_25 (v := .ref wo) X hP 2 rfl rfl dX5_trace_33 ?_
      refine fin_l (wr := [(co, aiE cI 240 C), (h0, cfE co (nI n) pa wo ot le ri wk rg ta), (pa, aiE cI 18 G)]) (cv_X5_157 X (c_El_traceIn l D cI cJ le (ldE G y.toNatClampNeg) wo (ldF C x.toNatClampNeg)  _) rfl rfl dX5_trace_36 hP hD 4 rfl [4, 1] rfl rfl hl.1 rfl rfl (Nat.le_of_ble_eq_true rfl) ⟨Nat.le_of_ble_eq_true rfl, Nat.le_of_ble_eq_true rfl⟩ ⟨Nat.le_of_ble_eq_true rfl, Nat.le_of_ble_eq_true rfl⟩) hP hD hS hA [4, 1] [0, 2, 3] rfl rfl rfl (by decide) (fun r_11 u_10 H locs w_9 hP hD hS => ?_)
      have hP : va_P D vwCl [(co, aiE cI 240 C), (h0, cfE co (nI n) pa wo ot le ri wk rg ta), (pa, aiE cI 18 G), (le, elE (ldE G y.toNatClampNeg)), (wo, cubE (ldF C x.toNatClampNeg))] H := hP
      have hD : va_D AA [(co, aiE cI 240 C), (h0, cfE co (nI n) pa wo ot le ri wk rg ta), (pa, aiE cI 18 G), (le, elE (ldE G y.toNatClampNeg)), (wo, cubE (ldF C x.toNatClampNeg))] := hD
      subst w_9
      exact hret (traceE (ldE G y.toNatClampNeg) (ldF C x.toNatClampNeg)) ((ldF C x.toNatClampNeg), (ldE G y.toNatClampNeg)) _ _ _ _ (by rw [if_pos c_4, if_pos c_8]) (hP.sub [1, 0, 2, 4, 3] rfl) (hD.sub [1, 0, 2, 4, 3] rfl rfl) hS dX5_trace_39
    · refine lc_X5_87 X dX5_trace_24 ?_
      exact hret (-9223372036854775808) ((ldF C x.toNatClampNeg), if isRegB y then ldE G y.toNatClampNeg else e1) _ _ _ _ (by rw [if_pos c_4, if_neg (by rw [c_8]; decide)]) (hP.sub [2, 0, 3, 1, 4] rfl) (hD.sub [2, 0, 3, 1, 4] rfl rfl) hS dX5_trace_27
set_option maxHeartbeats 4000000 in
set_option maxRecDepth 100000 in
theorem c_CF_norm (l : Launch) (D : va_G) (cI cJ : ClassId) (h0 : Nat) (co : Nat) (pa : Nat) (wo : Nat) (ot : Nat) (le : Nat) (ri : Nat) (wk : Nat) (rg : Nat) (ta : Nat) (n : Nat) (C : Nat → Int32) (G : Nat → Int32) (f : Fm) (e1 : Em) (o : Nat) (w : Nat) (z : Nat) (p : Nat) (r1 : Nat) (r2 : Nat) (r3 : Nat) (q1 : Em) (q2 : Em) (q3 : Em) (x : Int32) (y : Int32) (hn : n ≤ 60) : CtL l yX5_norm cX5_norm 3 (rmk 3 77) D cI cJ [.ref h0, .int x, .int y] [(h0, cfE co (nI n) pa wo ot le ri wk rg ta), (co, aiE cI 240 C), (pa, aiE cI 18 G), (wo, cubE f), (le, elE e1), (rg, rgE o w z p r1 r2 r3), (o, elE (1, 0, 0)), (w, elE (0, 1, 0)), (z, elE (0, 0, 1)), (r1, elE q1), (r2, elE q2), (r3, elE q3)] (fun (u : Fm × Em × Em × Em × Em) => [(h0, cfE co (nI n) pa wo ot le ri wk rg ta), (co, aiE cI 240 C), (pa, aiE cI 18 G), (wo, cubE u.1), (le, elE u.2.1), (rg, rgE o w z p r1 r2 r3), (o, elE (1, 0, 0)), (w, elE (0, 1, 0)), (z, elE (0, 0, 1)), (r1, elE u.2.2.1), (r2, elE u.2.2.2.1), (r3, elE u.2.2.2.2)]) (fun (r : Int64) (u : Fm × Em × Em × Em × Em) => r = if isFormB n x then (if isRegB y then detE (prodE (ldF C x.toNatClampNeg) (ldE G y.toNatClampNeg) (1, 0, 0)) (prodE (ldF C x.toNatClampNeg) (ldE G y.toNatClampNeg) (0, 1, 0)) (prodE (ldF C x.toNatClampNeg) (ldE G y.toNatClampNeg) (0, 0, 1)) else (-9223372036854775808)) else (-9223372036854775808)) := by
  refine CtL.of (own := RX5) (by decide +kernel) (Nat.le_of_ble_eq_true rfl) rfl ?_
  intro pr_ en_ sg_ me_ ar_ be_ mt_ co_ AA ls QQ X hA hP hD hS hl hret
  have hl : lv_has ls 3 [(0, .ref h0), (1, .int x), (2, .int y)] := hl
  refine lv_aload_n X.1 X.2.1 dX5_norm_0 rfl (lv_at hl 0 rfl) ?_
  refine lv_iload_n X.1 X.2.1 dX5_norm_1 rfl (lv_at hl 1 rfl) ?_
  refine lv_aload_n X.1 X.2.1 dX5_norm_2 rfl (lv_at hl 0 rfl) ?_
  refine gf_X5_25 (v := .ref wo) X hP 0 rfl rfl dX5_norm_3 ?_
  refine fin_i (wr := [(pa, aiE cI 18 G), (le, elE e1), (rg, rgE o w z p r1 r2 r3), (o, elE (1, 0, 0)), (w, elE (0, 1, 0)), (z, elE (0, 0, 1)), (r1, elE q1), (r2, elE q2), (r3, elE q3)]) (cv_X5_79 X (c_CF_load l D cI cJ h0 co pa wo ot le ri wk rg ta n C wo f x (by first | assumption | omega) _) rfl rfl dX5_norm_6 hP hD 0 rfl [0, 1, 3] rfl rfl hl.1 rfl rfl (Nat.le_of_ble_eq_true rfl) ⟨Nat.le_of_ble_eq_true rfl, Nat.le_of_ble_eq_true rfl⟩ ⟨Nat.le_of_ble_eq_true rfl, Nat.le_of_ble_eq_true rfl⟩) hP hD hS hA [0, 1, 3] [2, 4, 5, 6, 7, 8, 9, 10, 11] rfl rfl rfl (by decide) (fun r_3 u_2 H locs w_1 hP hD hS => ?_)
  have hP : va_P D vwCl [(pa, aiE cI 18 G), (le, elE e1), (rg, rgE o w z p r1 r2 r3), (o, elE (1, 0, 0)), (w, elE (0, 1, 0)), (z, elE (0, 0, 1)), (r1, elE q1), (r2, elE q2), (r3, elE q3), (h0, cfE co (nI n) pa wo ot le ri wk rg ta), (co, aiE cI 240 C), (wo, cubE (if isFormB n x then ldF C x.toNatClampNeg else f))] H := hP
  have hD : va_D AA [(pa, aiE cI 18 G), (le, elE e1), (rg, rgE o w z p r1 r2 r3), (o, elE (1, 0, 0)), (w, elE (0, 1, 0)), (z, elE (0, 0, 1)), (r1, elE q1), (r2, elE q2), (r3, elE q3), (h0, cfE co (nI n) pa wo ot le ri wk rg ta), (co, aiE cI 240 C), (wo, cubE (if isFormB n x then ldF C x.toNatClampNeg else f))] := hD
  subst w_1
  refine bb_eq (tgt := 24) X dX5_norm_9 (by decide) (fun c_4 => ?_) (fun c_4 => ?_)
  · refine lc_X5_87 X dX5_norm_24 ?_
    exact hret (-9223372036854775808) (if isFormB n x then ldF C x.toNatClampNeg else f, e1, q1, q2, q3) _ _ _ _ (by rw [if_neg (by rw [c_4]; decide)]) (hP.sub [9, 10, 0, 11, 1, 2, 3, 4, 5, 6, 7, 8] rfl) (hD.sub [9, 10, 0, 11, 1, 2, 3, 4, 5, 6, 7, 8] rfl rfl) hS dX5_norm_27
  · rw [if_pos c_4] at hP hD
    refine lv_aload_n X.1 X.2.1 dX5_norm_12 rfl (lv_at hl 0 rfl) ?_
    refine lv_iload_n X.1 X.2.1 dX5_norm_13 rfl (lv_at hl 2 rfl) ?_
    refine lv_aload_n X.1 X.2.1 dX5_norm_14 rfl (lv_at hl 0 rfl) ?_
    refine gf_X5_35 (v := .ref le) X hP 9 rfl rfl dX5_norm_15 ?_
    refine fin_i (wr := [(rg, rgE o w z p r1 r2 r3), (o, elE (1, 0, 0)), (w, elE (0, 1, 0)), (z, elE (0, 0, 1)), (r1, elE q1), (r2, elE q2), (r3, elE q3), (co, aiE cI 240 C), (wo, cubE (ldF C x.toNatClampNeg))]) (cv_X5_133 X (c_CF_loadElement l D cI cJ h0 co pa wo ot le ri wk rg ta n G le e1 y  _) rfl rfl dX5_norm_18 hP hD 9 rfl [9, 0, 1] rfl rfl hl.1 rfl rfl (Nat.le_of_ble_eq_true rfl) ⟨Nat.le_of_ble_eq_true rfl, Nat.le_of_ble_eq_true rfl⟩ ⟨Nat.le_of_ble_eq_true rfl, Nat.le_of_ble_eq_true rfl⟩) hP hD hS hA [9, 0, 1] [2, 3, 4, 5, 6, 7, 8, 10, 11] rfl rfl rfl (by decide) (fun r_7 u_6 H locs w_5 hP hD hS => ?_)
    have hP : va_P D vwCl [(rg, rgE o w z p r1 r2 r3), (o, elE (1, 0, 0)), (w, elE (0, 1, 0)), (z, elE (0, 0, 1)), (r1, elE q1), (r2, elE q2), (r3, elE q3), (co, aiE cI 240 C), (wo, cubE (ldF C x.toNatClampNeg)), (h0, cfE co (nI n) pa wo ot le ri wk rg ta), (pa, aiE cI 18 G), (le, elE (if isRegB y then ldE G y.toNatClampNeg else e1))] H := hP
    have hD : va_D AA [(rg, rgE o w z p r1 r2 r3), (o, elE (1, 0, 0)), (w, elE (0, 1, 0)), (z, elE (0, 0, 1)), (r1, elE q1), (r2, elE q2), (r3, elE q3), (co, aiE cI 240 C), (wo, cubE (ldF C x.toNatClampNeg)), (h0, cfE co (nI n) pa wo ot le ri wk rg ta), (pa, aiE cI 18 G), (le, elE (if isRegB y then ldE G y.toNatClampNeg else e1))] := hD
    subst w_5
    refine bb_ne (tgt := 28) X dX5_norm_21 (by decide) (fun c_8 => ?_) (fun c_8 => ?_)
    · rw [if_pos c_8] at hP hD
      refine lv_aload_n X.1 X.2.1 dX5_norm_28 rfl (lv_at hl 0 rfl) ?_
      refine gf_X5_52 (v := .ref rg) X hP 9 rfl rfl dX5_norm_29 ?_
      refine lv_aload_n X.1 X.2.1 dX5_norm_32 rfl (lv_at hl 0 rfl) ?_
      refine gf_X5_25 (v := .ref wo) X hP 9 rfl rfl dX5_norm_33 ?_
      refine lv_aload_n X.1 X.2.1 dX5_norm_36 rfl (lv_at hl 0 rfl) ?_
      refine gf_X5_35 (v := .ref le) X hP 9 rfl rfl dX5_norm_37 ?_
      refine fin_l (wr := [(co, aiE cI 240 C), (h0, cfE co (nI n) pa wo ot le ri wk rg ta), (pa, aiE cI 18 G)]) (cv_X5_161 X (c_Ring_normOf l D cI cJ rg o w z p r1 r2 r3 q1 q2 q3 wo (ldF C x.toNatClampNeg) le (ldE G y.toNatClampNeg)  _) rfl rfl dX5_norm_40 hP hD 0 rfl [0, 4, 5, 6, 1, 2, 3, 8, 11] rfl rfl hl.1 rfl rfl (Nat.le_of_ble_eq_true rfl) ⟨Nat.le_of_ble_eq_true rfl, Nat.le_of_ble_eq_true rfl⟩ ⟨Nat.le_of_ble_eq_true rfl, Nat.le_of_ble_eq_true rfl⟩) hP hD hS hA [0, 4, 5, 6, 1, 2, 3, 8, 11] [7, 9, 10] rfl rfl rfl (by decide) (fun r_11 u_10 H locs w_9 hP hD hS => ?_)
      have hP : va_P D vwCl [(co, aiE cI 240 C), (h0, cfE co (nI n) pa wo ot le ri wk rg ta), (pa, aiE cI 18 G), (rg, rgE o w z p r1 r2 r3), (r1, elE (prodE (ldF C x.toNatClampNeg) (ldE G y.toNatClampNeg) (1, 0, 0))), (r2, elE (prodE (ldF C x.toNatClampNeg) (ldE G y.toNatClampNeg) (0, 1, 0))), (r3, elE (prodE (ldF C x.toNatClampNeg) (ldE G y.toNatClampNeg) (0, 0, 1))), (o, elE (1, 0, 0)), (w, elE (0, 1, 0)), (z, elE (0, 0, 1)), (wo, cubE (ldF C x.toNatClampNeg)), (le, elE (ldE G y.toNatClampNeg))] H := hP
      have hD : va_D AA [(co, aiE cI 240 C), (h0, cfE co (nI n) pa wo ot le ri wk rg ta), (pa, aiE cI 18 G), (rg, rgE o w z p r1 r2 r3), (r1, elE (prodE (ldF C x.toNatClampNeg) (ldE G y.toNatClampNeg) (1, 0, 0))), (r2, elE (prodE (ldF C x.toNatClampNeg) (ldE G y.toNatClampNeg) (0, 1, 0))), (r3, elE (prodE (ldF C x.toNatClampNeg) (ldE G y.toNatClampNeg) (0, 0, 1))), (o, elE (1, 0, 0)), (w, elE (0, 1, 0)), (z, elE (0, 0, 1)), (wo, cubE (ldF C x.toNatClampNeg)), (le, elE (ldE G y.toNatClampNeg))] := hD
      subst w_9
      exact hret (detE (prodE (ldF C x.toNatClampNeg) (ldE G y.toNatClampNeg) (1, 0, 0)) (prodE (ldF C x.toNatClampNeg) (ldE G y.toNatClampNeg) (0, 1, 0)) (prodE (ldF C x.toNatClampNeg) (ldE G y.toNatClampNeg) (0, 0, 1))) ((ldF C x.toNatClampNeg), (ldE G y.toNatClampNeg), prodE (ldF C x.toNatClampNeg) (ldE G y.toNatClampNeg) (1, 0, 0), prodE (ldF C x.toNatClampNeg) (ldE G y.toNatClampNeg) (0, 1, 0), prodE (ldF C x.toNatClampNeg) (ldE G y.toNatClampNeg) (0, 0, 1)) _ _ _ _ (by rw [if_pos c_4, if_pos c_8]) (hP.sub [1, 0, 2, 10, 11, 3, 7, 8, 9, 4, 5, 6] rfl) (hD.sub [1, 0, 2, 10, 11, 3, 7, 8, 9, 4, 5, 6] rfl rfl) hS dX5_norm_43
    · refine lc_X5_87 X dX5_norm_24 ?_
      exact hret (-9223372036854775808) ((ldF C x.toNatClampNeg), if isRegB y then ldE G y.toNatClampNeg else e1, q1, q2, q3) _ _ _ _ (by rw [if_pos c_4, if_neg (by rw [c_8]; decide)]) (hP.sub [9, 7, 10, 8, 11, 0, 1, 2, 3, 4, 5, 6] rfl) (hD.sub [9, 7, 10, 8, 11, 0, 1, 2, 3, 4, 5, 6] rfl rfl) hS dX5_norm_27
set_option maxHeartbeats 4000000 in
set_option maxRecDepth 100000 in
theorem c_CF_traceDeterminant (l : Launch) (D : va_G) (cI cJ : ClassId) (h0 : Nat) (co : Nat) (pa : Nat) (wo : Nat) (ot : Nat) (le : Nat) (ri : Nat) (wk : Nat) (rg : Nat) (ta : Nat) (n : Nat) (C : Nat → Int32) (f : Fm) (o : Nat) (w : Nat) (z : Nat) (p : Nat) (r1 : Nat) (r2 : Nat) (r3 : Nat) (q1 : Em) (q2 : Em) (q3 : Em) (ep : Em) (x : Int32) (hn : n ≤ 60) : CtL l yX5_traceDeterminant cX5_traceDeterminant 2 (rmk 5 122) D cI cJ [.ref h0, .int x] [(h0, cfE co (nI n) pa wo ot le ri wk rg ta), (co, aiE cI 240 C), (wo, cubE f), (rg, rgE o w z p r1 r2 r3), (o, elE (1, 0, 0)), (w, elE (0, 1, 0)), (z, elE (0, 0, 1)), (r1, elE q1), (r2, elE q2), (r3, elE q3), (p, elE ep)] (fun (u : Fm × Em × Em × Em × Em) => [(h0, cfE co (nI n) pa wo ot le ri wk rg ta), (co, aiE cI 240 C), (wo, cubE u.1), (rg, rgE o w z p r1 r2 r3), (o, elE (1, 0, 0)), (w, elE (0, 1, 0)), (z, elE (0, 0, 1)), (r1, elE u.2.1), (r2, elE u.2.2.1), (r3, elE u.2.2.2.1), (p, elE u.2.2.2.2)]) (fun (r : Int64) (u : Fm × Em × Em × Em × Em) => r = if isFormB n x then detE (trowE (ldF C x.toNatClampNeg) (1, 0, 0)) (trowE (ldF C x.toNatClampNeg) (0, 1, 0)) (trowE (ldF C x.toNatClampNeg) (0, 0, 1)) else (-9223372036854775808)) := by
  refine CtL.of (own := RX5) (by decide +kernel) (Nat.le_of_ble_eq_true rfl) rfl ?_
  intro pr_ en_ sg_ me_ ar_ be_ mt_ co_ AA ls QQ X hA hP hD hS hl hret
  have hl : lv_has ls 2 [(0, .ref h0), (1, .int x)] := hl
  refine lv_aload_n X.1 X.2.1 dX5_traceDeterminant_0 rfl (lv_at hl 0 rfl) ?_
  refine lv_iload_n X.1 X.2.1 dX5_traceDeterminant_1 rfl (lv_at hl 1 rfl) ?_
  refine lv_aload_n X.1 X.2.1 dX5_traceDeterminant_2 rfl (lv_at hl 0 rfl) ?_
  refine gf_X5_25 (v := .ref wo) X hP 0 rfl rfl dX5_traceDeterminant_3 ?_
  refine fin_i (wr := [(rg, rgE o w z p r1 r2 r3), (o, elE (1, 0, 0)), (w, elE (0, 1, 0)), (z, elE (0, 0, 1)), (r1, elE q1), (r2, elE q2), (r3, elE q3), (p, elE ep)]) (cv_X5_79 X (c_CF_load l D cI cJ h0 co pa wo ot le ri wk rg ta n C wo f x (by first | assumption | omega) _) rfl rfl dX5_traceDeterminant_6 hP hD 0 rfl [0, 1, 2] rfl rfl hl.1 rfl rfl (Nat.le_of_ble_eq_true rfl) ⟨Nat.le_of_ble_eq_true rfl, Nat.le_of_ble_eq_true rfl⟩ ⟨Nat.le_of_ble_eq_true rfl, Nat.le_of_ble_eq_true rfl⟩) hP hD hS hA [0, 1, 2] [3, 4, 5, 6, 7, 8, 9, 10] rfl rfl rfl (by decide) (fun r_3 u_2 H locs w_1 hP hD hS => ?_)
  have hP : va_P D vwCl [(rg, rgE o w z p r1 r2 r3), (o, elE (1, 0, 0)), (w, elE (0, 1, 0)), (z, elE (0, 0, 1)), (r1, elE q1), (r2, elE q2), (r3, elE q3), (p, elE ep), (h0, cfE co (nI n) pa wo ot le ri wk rg ta), (co, aiE cI 240 C), (wo, cubE (if isFormB n x then ldF C x.toNatClampNeg else f))] H := hP
  have hD : va_D AA [(rg, rgE o w z p r1 r2 r3), (o, elE (1, 0, 0)), (w, elE (0, 1, 0)), (z, elE (0, 0, 1)), (r1, elE q1), (r2, elE q2), (r3, elE q3), (p, elE ep), (h0, cfE co (nI n) pa wo ot le ri wk rg ta), (co, aiE cI 240 C), (wo, cubE (if isFormB n x then ldF C x.toNatClampNeg else f))] := hD
  subst w_1
  refine bb_eq (tgt := 26) X dX5_traceDeterminant_9 (by decide) (fun c_4 => ?_) (fun c_4 => ?_)
  · refine lc_X5_87 X dX5_traceDeterminant_26 ?_
    exact hret (-9223372036854775808) (if isFormB n x then ldF C x.toNatClampNeg else f, q1, q2, q3, ep) _ _ _ _ (by rw [if_neg (by rw [c_4]; decide)]) (hP.sub [8, 9, 10, 0, 1, 2, 3, 4, 5, 6, 7] rfl) (hD.sub [8, 9, 10, 0, 1, 2, 3, 4, 5, 6, 7] rfl rfl) hS dX5_traceDeterminant_29
  · rw [if_pos c_4] at hP hD
    refine lv_aload_n X.1 X.2.1 dX5_traceDeterminant_12 rfl (lv_at hl 0 rfl) ?_
    refine gf_X5_52 (v := .ref rg) X hP 8 rfl rfl dX5_traceDeterminant_13 ?_
    refine lv_aload_n X.1 X.2.1 dX5_traceDeterminant_16 rfl (lv_at hl 0 rfl) ?_
    refine gf_X5_25 (v := .ref wo) X hP 8 rfl rfl dX5_traceDeterminant_17 ?_
    refine fin_l (wr := [(h0, cfE co (nI n) pa wo ot le ri wk rg ta), (co, aiE cI 240 C)]) (cv_X5_165 X (c_Ring_determinantOfTraces l D cI cJ rg o w z p r1 r2 r3 q1 q2 q3 ep wo (ldF C x.toNatClampNeg)  _) rfl rfl dX5_traceDeterminant_20 hP hD 0 rfl [0, 4, 5, 6, 1, 2, 3, 7, 10] rfl rfl hl.1 rfl rfl (Nat.le_of_ble_eq_true rfl) ⟨Nat.le_of_ble_eq_true rfl, Nat.le_of_ble_eq_true rfl⟩ ⟨Nat.le_of_ble_eq_true rfl, Nat.le_of_ble_eq_true rfl⟩) hP hD hS hA [0, 4, 5, 6, 1, 2, 3, 7, 10] [8, 9] rfl rfl rfl (by decide) (fun r_7 u_6 H locs w_5 hP hD hS => ?_)
    have hP : va_P D vwCl [(h0, cfE co (nI n) pa wo ot le ri wk rg ta), (co, aiE cI 240 C), (rg, rgE o w z p r1 r2 r3), (r1, elE (trowE (ldF C x.toNatClampNeg) (1, 0, 0))), (r2, elE (trowE (ldF C x.toNatClampNeg) (0, 1, 0))), (r3, elE (trowE (ldF C x.toNatClampNeg) (0, 0, 1))), (o, elE (1, 0, 0)), (w, elE (0, 1, 0)), (z, elE (0, 0, 1)), (p, elE u_6), (wo, cubE (ldF C x.toNatClampNeg))] H := hP
    have hD : va_D AA [(h0, cfE co (nI n) pa wo ot le ri wk rg ta), (co, aiE cI 240 C), (rg, rgE o w z p r1 r2 r3), (r1, elE (trowE (ldF C x.toNatClampNeg) (1, 0, 0))), (r2, elE (trowE (ldF C x.toNatClampNeg) (0, 1, 0))), (r3, elE (trowE (ldF C x.toNatClampNeg) (0, 0, 1))), (o, elE (1, 0, 0)), (w, elE (0, 1, 0)), (z, elE (0, 0, 1)), (p, elE u_6), (wo, cubE (ldF C x.toNatClampNeg))] := hD
    subst w_5
    refine lv_goto (tgt := 29) X.1 X.2.1 dX5_traceDeterminant_23 (by decide) ?_
    exact hret (detE (trowE (ldF C x.toNatClampNeg) (1, 0, 0)) (trowE (ldF C x.toNatClampNeg) (0, 1, 0)) (trowE (ldF C x.toNatClampNeg) (0, 0, 1))) ((ldF C x.toNatClampNeg), trowE (ldF C x.toNatClampNeg) (1, 0, 0), trowE (ldF C x.toNatClampNeg) (0, 1, 0), trowE (ldF C x.toNatClampNeg) (0, 0, 1), u_6) _ _ _ _ (by rw [if_pos c_4]) (hP.sub [0, 1, 10, 2, 6, 7, 8, 3, 4, 5, 9] rfl) (hD.sub [0, 1, 10, 2, 6, 7, 8, 3, 4, 5, 9] rfl rfl) hS dX5_traceDeterminant_29
set_option maxHeartbeats 4000000 in
set_option maxRecDepth 100000 in
theorem c_CF_elementIndex (l : Launch) (D : va_G) (cI cJ : ClassId) (h0 : Nat) (co : Nat) (pa : Nat) (wo : Nat) (ot : Nat) (le : Nat) (ri : Nat) (wk : Nat) (rg : Nat) (ta : Nat) (n : Nat) (C : Nat → Int32) (G : Nat → Int32) (f : Fm) (e1 : Em) (o : Nat) (w : Nat) (z : Nat) (p : Nat) (r1 : Nat) (r2 : Nat) (r3 : Nat) (ep : Em) (x : Int32) (y : Int32) (hn : n ≤ 60) : CtL l yX5_elementIndex cX5_elementIndex 3 (rmk 4 101) D cI cJ [.ref h0, .int x, .int y] [(h0, cfE co (nI n) pa wo ot le ri wk rg ta), (co, aiE cI 240 C), (pa, aiE cI 18 G), (wo, cubE f), (le, elE e1), (rg, rgE o w z p r1 r2 r3), (p, elE ep)] (fun (u : Fm × Em × Em) => [(h0, cfE co (nI n) pa wo ot le ri wk rg ta), (co, aiE cI 240 C), (pa, aiE cI 18 G), (wo, cubE u.1), (le, elE u.2.1), (rg, rgE o w z p r1 r2 r3), (p, elE u.2.2)]) (fun (r : Int64) (u : Fm × Em × Em) => r = if isFormB n x then (if isRegB y then absL ((ldE G y.toNatClampNeg).2.1 * (prodE (ldF C x.toNatClampNeg) (ldE G y.toNatClampNeg) (ldE G y.toNatClampNeg)).2.2 - (ldE G y.toNatClampNeg).2.2 * (prodE (ldF C x.toNatClampNeg) (ldE G y.toNatClampNeg) (ldE G y.toNatClampNeg)).2.1) else (-9223372036854775808)) else (-9223372036854775808)) := by
  refine CtL.of (own := RX5) (by decide +kernel) (Nat.le_of_ble_eq_true rfl) rfl ?_
  intro pr_ en_ sg_ me_ ar_ be_ mt_ co_ AA ls QQ X hA hP hD hS hl hret
  have hl : lv_has ls 3 [(0, .ref h0), (1, .int x), (2, .int y)] := hl
  refine lv_aload_n X.1 X.2.1 dX5_elementIndex_0 rfl (lv_at hl 0 rfl) ?_
  refine lv_iload_n X.1 X.2.1 dX5_elementIndex_1 rfl (lv_at hl 1 rfl) ?_
  refine lv_aload_n X.1 X.2.1 dX5_elementIndex_2 rfl (lv_at hl 0 rfl) ?_
  refine gf_X5_25 (v := .ref wo) X hP 0 rfl rfl dX5_elementIndex_3 ?_
  refine fin_i (wr := [(pa, aiE cI 18 G), (le, elE e1), (rg, rgE o w z p r1 r2 r3), (p, elE ep)]) (cv_X5_79 X (c_CF_load l D cI cJ h0 co pa wo ot le ri wk rg ta n C wo f x (by first | assumption | omega) _) rfl rfl dX5_elementIndex_6 hP hD 0 rfl [0, 1, 3] rfl rfl hl.1 rfl rfl (Nat.le_of_ble_eq_true rfl) ⟨Nat.le_of_ble_eq_true rfl, Nat.le_of_ble_eq_true rfl⟩ ⟨Nat.le_of_ble_eq_true rfl, Nat.le_of_ble_eq_true rfl⟩) hP hD hS hA [0, 1, 3] [2, 4, 5, 6] rfl rfl rfl (by decide) (fun r_3 u_2 H locs w_1 hP hD hS => ?_)
  have hP : va_P D vwCl [(pa, aiE cI 18 G), (le, elE e1), (rg, rgE o w z p r1 r2 r3), (p, elE ep), (h0, cfE co (nI n) pa wo ot le ri wk rg ta), (co, aiE cI 240 C), (wo, cubE (if isFormB n x then ldF C x.toNatClampNeg else f))] H := hP
  have hD : va_D AA [(pa, aiE cI 18 G), (le, elE e1), (rg, rgE o w z p r1 r2 r3), (p, elE ep), (h0, cfE co (nI n) pa wo ot le ri wk rg ta), (co, aiE cI 240 C), (wo, cubE (if isFormB n x then ldF C x.toNatClampNeg else f))] := hD
  subst w_1
  refine bb_eq (tgt := 24) X dX5_elementIndex_9 (by decide) (fun c_4 => ?_) (fun c_4 => ?_)
  · refine lc_X5_87 X dX5_elementIndex_24 ?_
    exact hret (-9223372036854775808) (if isFormB n x then ldF C x.toNatClampNeg else f, e1, ep) _ _ _ _ (by rw [if_neg (by rw [c_4]; decide)]) (hP.sub [4, 5, 0, 6, 1, 2, 3] rfl) (hD.sub [4, 5, 0, 6, 1, 2, 3] rfl rfl) hS dX5_elementIndex_27
  · rw [if_pos c_4] at hP hD
    refine lv_aload_n X.1 X.2.1 dX5_elementIndex_12 rfl (lv_at hl 0 rfl) ?_
    refine lv_iload_n X.1 X.2.1 dX5_elementIndex_13 rfl (lv_at hl 2 rfl) ?_
    refine lv_aload_n X.1 X.2.1 dX5_elementIndex_14 rfl (lv_at hl 0 rfl) ?_
    refine gf_X5_35 (v := .ref le) X hP 4 rfl rfl dX5_elementIndex_15 ?_
    refine fin_i (wr := [(rg, rgE o w z p r1 r2 r3), (p, elE ep), (co, aiE cI 240 C), (wo, cubE (ldF C x.toNatClampNeg))]) (cv_X5_133 X (c_CF_loadElement l D cI cJ h0 co pa wo ot le ri wk rg ta n G le e1 y  _) rfl rfl dX5_elementIndex_18 hP hD 4 rfl [4, 0, 1] rfl rfl hl.1 rfl rfl (Nat.le_of_ble_eq_true rfl) ⟨Nat.le_of_ble_eq_true rfl, Nat.le_of_ble_eq_true rfl⟩ ⟨Nat.le_of_ble_eq_true rfl, Nat.le_of_ble_eq_true rfl⟩) hP hD hS hA [4, 0, 1] [2, 3, 5, 6] rfl rfl rfl (by decide) (fun r_7 u_6 H locs w_5 hP hD hS => ?_)
    have hP : va_P D vwCl [(rg, rgE o w z p r1 r2 r3), (p, elE ep), (co, aiE cI 240 C), (wo, cubE (ldF C x.toNatClampNeg)), (h0, cfE co (nI n) pa wo ot le ri wk rg ta), (pa, aiE cI 18 G), (le, elE (if isRegB y then ldE G y.toNatClampNeg else e1))] H := hP
    have hD : va_D AA [(rg, rgE o w z p r1 r2 r3), (p, elE ep), (co, aiE cI 240 C), (wo, cubE (ldF C x.toNatClampNeg)), (h0, cfE co (nI n) pa wo ot le ri wk rg ta), (pa, aiE cI 18 G), (le, elE (if isRegB y then ldE G y.toNatClampNeg else e1))] := hD
    subst w_5
    refine bb_ne (tgt := 28) X dX5_elementIndex_21 (by decide) (fun c_8 => ?_) (fun c_8 => ?_)
    · rw [if_pos c_8] at hP hD
      refine lv_aload_n X.1 X.2.1 dX5_elementIndex_28 rfl (lv_at hl 0 rfl) ?_
      refine gf_X5_52 (v := .ref rg) X hP 4 rfl rfl dX5_elementIndex_29 ?_
      refine lv_aload_n X.1 X.2.1 dX5_elementIndex_32 rfl (lv_at hl 0 rfl) ?_
      refine gf_X5_25 (v := .ref wo) X hP 4 rfl rfl dX5_elementIndex_33 ?_
      refine lv_aload_n X.1 X.2.1 dX5_elementIndex_36 rfl (lv_at hl 0 rfl) ?_
      refine gf_X5_35 (v := .ref le) X hP 4 rfl rfl dX5_elementIndex_37 ?_
      refine fin_l (wr := [(co, aiE cI 240 C), (h0, cfE co (nI n) pa wo ot le ri wk rg ta), (pa, aiE cI 18 G)]) (cv_X5_168 X (c_Ring_indexOf l D cI cJ rg o w z p r1 r2 r3 ep wo (ldF C x.toNatClampNeg) le (ldE G y.toNatClampNeg)  _) rfl rfl dX5_elementIndex_40 hP hD 0 rfl [0, 1, 3, 6] rfl rfl hl.1 rfl rfl (Nat.le_of_ble_eq_true rfl) ⟨Nat.le_of_ble_eq_true rfl, Nat.le_of_ble_eq_true rfl⟩ ⟨Nat.le_of_ble_eq_true rfl, Nat.le_of_ble_eq_true rfl⟩) hP hD hS hA [0, 1, 3, 6] [2, 4, 5] rfl rfl rfl (by decide) (fun r_11 u_10 H locs w_9 hP hD hS => ?_)
      have hP : va_P D vwCl [(co, aiE cI 240 C), (h0, cfE co (nI n) pa wo ot le ri wk rg ta), (pa, aiE cI 18 G), (rg, rgE o w z p r1 r2 r3), (p, elE (prodE (ldF C x.toNatClampNeg) (ldE G y.toNatClampNeg) (ldE G y.toNatClampNeg))), (wo, cubE (ldF C x.toNatClampNeg)), (le, elE (ldE G y.toNatClampNeg))] H := hP
      have hD : va_D AA [(co, aiE cI 240 C), (h0, cfE co (nI n) pa wo ot le ri wk rg ta), (pa, aiE cI 18 G), (rg, rgE o w z p r1 r2 r3), (p, elE (prodE (ldF C x.toNatClampNeg) (ldE G y.toNatClampNeg) (ldE G y.toNatClampNeg))), (wo, cubE (ldF C x.toNatClampNeg)), (le, elE (ldE G y.toNatClampNeg))] := hD
      subst w_9
      exact hret (absL ((ldE G y.toNatClampNeg).2.1 * (prodE (ldF C x.toNatClampNeg) (ldE G y.toNatClampNeg) (ldE G y.toNatClampNeg)).2.2 - (ldE G y.toNatClampNeg).2.2 * (prodE (ldF C x.toNatClampNeg) (ldE G y.toNatClampNeg) (ldE G y.toNatClampNeg)).2.1)) ((ldF C x.toNatClampNeg), (ldE G y.toNatClampNeg), prodE (ldF C x.toNatClampNeg) (ldE G y.toNatClampNeg) (ldE G y.toNatClampNeg)) _ _ _ _ (by rw [if_pos c_4, if_pos c_8]) (hP.sub [1, 0, 2, 5, 6, 3, 4] rfl) (hD.sub [1, 0, 2, 5, 6, 3, 4] rfl rfl) hS dX5_elementIndex_43
    · refine lc_X5_87 X dX5_elementIndex_24 ?_
      exact hret (-9223372036854775808) ((ldF C x.toNatClampNeg), if isRegB y then ldE G y.toNatClampNeg else e1, ep) _ _ _ _ (by rw [if_pos c_4, if_neg (by rw [c_8]; decide)]) (hP.sub [4, 2, 5, 3, 6, 0, 1] rfl) (hD.sub [4, 2, 5, 3, 6, 0, 1] rfl rfl) hS dX5_elementIndex_27
set_option maxHeartbeats 4000000 in
set_option maxRecDepth 100000 in
theorem c_CF_splitting (l : Launch) (D : va_G) (cI cJ : ClassId) (h0 : Nat) (co : Nat) (pa : Nat) (wo : Nat) (ot : Nat) (le : Nat) (ri : Nat) (wk : Nat) (rg : Nat) (ta : Nat) (n : Nat) (C : Nat → Int32) (f : Fm) (sc : Nat) (cd : Nat) (w1 : Fm) (w2 : Fm) (x : Int32) (y : Int32) (hn : n ≤ 60) : CtI l yX5_splitting cX5_splitting 3 .int (rmk 3 77) D cI cJ [.ref h0, .int x, .int y] [(h0, cfE co (nI n) pa wo ot le ri wk rg ta), (co, aiE cI 240 C), (wo, cubE f), (wk, wkE sc cd), (sc, cubE w1), (cd, cubE w2)] (fun (u : Fm × Fm × Fm) => [(h0, cfE co (nI n) pa wo ot le ri wk rg ta), (co, aiE cI 240 C), (wo, cubE u.1), (wk, wkE sc cd), (sc, cubE u.2.1), (cd, cubE u.2.2)]) (fun (r : Int32) (u : Fm × Fm × Fm) => r = splR n C x y) := by
  refine CtI.of (own := RX5) (by decide +kernel) (Nat.le_of_ble_eq_true rfl) rfl ?_
  intro pr_ en_ sg_ me_ ar_ be_ mt_ co_ AA ls QQ X hA hP hD hS hl hret
  have hl : lv_has ls 3 [(0, .ref h0), (1, .int x), (2, .int y)] := hl
  refine lv_aload_n X.1 X.2.1 dX5_splitting_0 rfl (lv_at hl 0 rfl) ?_
  refine lv_iload_n X.1 X.2.1 dX5_splitting_1 rfl (lv_at hl 1 rfl) ?_
  refine lv_aload_n X.1 X.2.1 dX5_splitting_2 rfl (lv_at hl 0 rfl) ?_
  refine gf_X5_25 (v := .ref wo) X hP 0 rfl rfl dX5_splitting_3 ?_
  refine fin_i (wr := [(wk, wkE sc cd), (sc, cubE w1), (cd, cubE w2)]) (cv_X5_79 X (c_CF_load l D cI cJ h0 co pa wo ot le ri wk rg ta n C wo f x (by first | assumption | omega) _) rfl rfl dX5_splitting_6 hP hD 0 rfl [0, 1, 2] rfl rfl hl.1 rfl rfl (Nat.le_of_ble_eq_true rfl) ⟨Nat.le_of_ble_eq_true rfl, Nat.le_of_ble_eq_true rfl⟩ ⟨Nat.le_of_ble_eq_true rfl, Nat.le_of_ble_eq_true rfl⟩) hP hD hS hA [0, 1, 2] [3, 4, 5] rfl rfl rfl (by decide) (fun r_3 u_2 H locs w_1 hP hD hS => ?_)
  have hP : va_P D vwCl [(wk, wkE sc cd), (sc, cubE w1), (cd, cubE w2), (h0, cfE co (nI n) pa wo ot le ri wk rg ta), (co, aiE cI 240 C), (wo, cubE (if isFormB n x then ldF C x.toNatClampNeg else f))] H := hP
  have hD : va_D AA [(wk, wkE sc cd), (sc, cubE w1), (cd, cubE w2), (h0, cfE co (nI n) pa wo ot le ri wk rg ta), (co, aiE cI 240 C), (wo, cubE (if isFormB n x then ldF C x.toNatClampNeg else f))] := hD
  subst w_1
  refine bb_ne (tgt := 16) X dX5_splitting_9 (by decide) (fun c_4 => ?_) (fun c_4 => ?_)
  · rw [if_pos c_4] at hP hD
    refine lv_iload_n X.1 X.2.1 dX5_splitting_16 rfl (lv_at hl 2 rfl) ?_
    refine fin_i (wr := [(wk, wkE sc cd), (sc, cubE w1), (cd, cubE w2), (h0, cfE co (nI n) pa wo ot le ri wk rg ta), (co, aiE cI 240 C), (wo, cubE (ldF C x.toNatClampNeg))]) (cv_X5_171 X (c_isPrime l D cI cJ y  _) rfl rfl dX5_splitting_17 hP hD [] rfl rfl hl.1 rfl rfl (Nat.le_of_ble_eq_true rfl) ⟨Nat.le_of_ble_eq_true rfl, Nat.le_of_ble_eq_true rfl⟩ ⟨Nat.le_of_ble_eq_true rfl, Nat.le_of_ble_eq_true rfl⟩) hP hD hS hA [] [0, 1, 2, 3, 4, 5] rfl rfl rfl (by decide) (fun r_7 u_6 H locs w_5 hP hD hS => ?_)
    have hP : va_P D vwCl [(wk, wkE sc cd), (sc, cubE w1), (cd, cubE w2), (h0, cfE co (nI n) pa wo ot le ri wk rg ta), (co, aiE cI 240 C), (wo, cubE (ldF C x.toNatClampNeg))] H := hP
    have hD : va_D AA [(wk, wkE sc cd), (sc, cubE w1), (cd, cubE w2), (h0, cfE co (nI n) pa wo ot le ri wk rg ta), (co, aiE cI 240 C), (wo, cubE (ldF C x.toNatClampNeg))] := hD
    subst w_5
    refine bb_ne (tgt := 27) X dX5_splitting_20 (by decide) (fun c_8 => ?_) (fun c_8 => ?_)
    · obtain ⟨P, h2, h9, hy, hpr⟩ := primeB_out c_8
      have hyc : y.toNatClampNeg = P := by rw [hy]; exact nI_clamp (by omega)
      rw [hy] at hl
      refine lv_aload_n X.1 X.2.1 dX5_splitting_27 rfl (lv_at hl 0 rfl) ?_
      refine gf_X5_45 (v := .ref wk) X hP 3 rfl rfl dX5_splitting_28 ?_
      refine lv_aload_n X.1 X.2.1 dX5_splitting_31 rfl (lv_at hl 0 rfl) ?_
      refine gf_X5_25 (v := .ref wo) X hP 3 rfl rfl dX5_splitting_32 ?_
      refine lv_iload_n X.1 X.2.1 dX5_splitting_35 rfl (lv_at hl 2 rfl) ?_
      refine fin_i (wr := [(h0, cfE co (nI n) pa wo ot le ri wk rg ta), (co, aiE cI 240 C)]) (cv_X5_174 X (c_Wk_splittingCode l D cI cJ wk sc cd w1 w2 wo (ldF C x.toNatClampNeg) P (by first | assumption | omega) (by first | assumption | omega) _) rfl rfl dX5_splitting_36 hP hD 0 rfl [0, 1, 2, 5] rfl rfl hl.1 rfl rfl (Nat.le_of_ble_eq_true rfl) ⟨Nat.le_of_ble_eq_true rfl, Nat.le_of_ble_eq_true rfl⟩ ⟨Nat.le_of_ble_eq_true rfl, Nat.le_of_ble_eq_true rfl⟩) hP hD hS hA [0, 1, 2, 5] [3, 4] rfl rfl rfl (by decide) (fun r_11 u_10 H locs w_9 hP hD hS => ?_)
      have hP : va_P D vwCl [(h0, cfE co (nI n) pa wo ot le ri wk rg ta), (co, aiE cI 240 C), (wk, wkE sc cd), (sc, cubE w1), (cd, cubE u_10), (wo, cubE (ldF C x.toNatClampNeg))] H := hP
      have hD : va_D AA [(h0, cfE co (nI n) pa wo ot le ri wk rg ta), (co, aiE cI 240 C), (wk, wkE sc cd), (sc, cubE w1), (cd, cubE u_10), (wo, cubE (ldF C x.toNatClampNeg))] := hD
      subst w_9
      exact hret (splC (ldF C x.toNatClampNeg) P) ((ldF C x.toNatClampNeg), w1, u_10) _ _ _ _ (by rw [splR, if_pos c_4, if_pos c_8, hyc]) rfl (hP.sub [0, 1, 5, 2, 3, 4] rfl) (hD.sub [0, 1, 5, 2, 3, 4] rfl rfl) hS dX5_splitting_39
    · refine lv_sipush (v := (-10003)) X.1 X.2.1 dX5_splitting_23 (by decide) ?_
      exact hret (-10003) ((ldF C x.toNatClampNeg), w1, w2) _ _ _ _ (by rw [splR, if_pos c_4, if_neg (by rw [c_8]; decide)]) rfl (hP.sub [3, 4, 5, 0, 1, 2] rfl) (hD.sub [3, 4, 5, 0, 1, 2] rfl rfl) hS dX5_splitting_26
  · refine lv_sipush (v := (-10001)) X.1 X.2.1 dX5_splitting_12 (by decide) ?_
    exact hret (-10001) (if isFormB n x then ldF C x.toNatClampNeg else f, w1, w2) _ _ _ _ (by rw [splR, if_neg (by rw [c_4]; decide)]) rfl (hP.sub [3, 4, 5, 0, 1, 2] rfl) (hD.sub [3, 4, 5, 0, 1, 2] rfl rfl) hS dX5_splitting_15
set_option maxHeartbeats 4000000 in
set_option maxRecDepth 100000 in
theorem c_CF_isMaximalAt (l : Launch) (D : va_G) (cI cJ : ClassId) (h0 : Nat) (co : Nat) (pa : Nat) (wo : Nat) (ot : Nat) (le : Nat) (ri : Nat) (wk : Nat) (rg : Nat) (ta : Nat) (n : Nat) (C : Nat → Int32) (f : Fm) (sc : Nat) (cd : Nat) (w1 : Fm) (w2 : Fm) (x : Int32) (y : Int32) (hn : n ≤ 60) : CtI l yX5_isMaximalAt cX5_isMaximalAt 3 .int (rmk 4 99) D cI cJ [.ref h0, .int x, .int y] [(h0, cfE co (nI n) pa wo ot le ri wk rg ta), (co, aiE cI 240 C), (wo, cubE f), (wk, wkE sc cd), (sc, cubE w1), (cd, cubE w2)] (fun (u : Fm × Fm × Fm) => [(h0, cfE co (nI n) pa wo ot le ri wk rg ta), (co, aiE cI 240 C), (wo, cubE u.1), (wk, wkE sc cd), (sc, cubE u.2.1), (cd, cubE u.2.2)]) (fun (r : Int32) (u : Fm × Fm × Fm) => r = imxR n C x y) := by
  refine CtI.of (own := RX5) (by decide +kernel) (Nat.le_of_ble_eq_true rfl) rfl ?_
  intro pr_ en_ sg_ me_ ar_ be_ mt_ co_ AA ls QQ X hA hP hD hS hl hret
  have hl : lv_has ls 3 [(0, .ref h0), (1, .int x), (2, .int y)] := hl
  refine lv_aload_n X.1 X.2.1 dX5_isMaximalAt_0 rfl (lv_at hl 0 rfl) ?_
  refine lv_iload_n X.1 X.2.1 dX5_isMaximalAt_1 rfl (lv_at hl 1 rfl) ?_
  refine lv_aload_n X.1 X.2.1 dX5_isMaximalAt_2 rfl (lv_at hl 0 rfl) ?_
  refine gf_X5_25 (v := .ref wo) X hP 0 rfl rfl dX5_isMaximalAt_3 ?_
  refine fin_i (wr := [(wk, wkE sc cd), (sc, cubE w1), (cd, cubE w2)]) (cv_X5_79 X (c_CF_load l D cI cJ h0 co pa wo ot le ri wk rg ta n C wo f x (by first | assumption | omega) _) rfl rfl dX5_isMaximalAt_6 hP hD 0 rfl [0, 1, 2] rfl rfl hl.1 rfl rfl (Nat.le_of_ble_eq_true rfl) ⟨Nat.le_of_ble_eq_true rfl, Nat.le_of_ble_eq_true rfl⟩ ⟨Nat.le_of_ble_eq_true rfl, Nat.le_of_ble_eq_true rfl⟩) hP hD hS hA [0, 1, 2] [3, 4, 5] rfl rfl rfl (by decide) (fun r_3 u_2 H locs w_1 hP hD hS => ?_)
  have hP : va_P D vwCl [(wk, wkE sc cd), (sc, cubE w1), (cd, cubE w2), (h0, cfE co (nI n) pa wo ot le ri wk rg ta), (co, aiE cI 240 C), (wo, cubE (if isFormB n x then ldF C x.toNatClampNeg else f))] H := hP
  have hD : va_D AA [(wk, wkE sc cd), (sc, cubE w1), (cd, cubE w2), (h0, cfE co (nI n) pa wo ot le ri wk rg ta), (co, aiE cI 240 C), (wo, cubE (if isFormB n x then ldF C x.toNatClampNeg else f))] := hD
  subst w_1
  refine bb_ne (tgt := 16) X dX5_isMaximalAt_9 (by decide) (fun c_4 => ?_) (fun c_4 => ?_)
  · rw [if_pos c_4] at hP hD
    refine lv_iload_n X.1 X.2.1 dX5_isMaximalAt_16 rfl (lv_at hl 2 rfl) ?_
    refine fin_i (wr := [(wk, wkE sc cd), (sc, cubE w1), (cd, cubE w2), (h0, cfE co (nI n) pa wo ot le ri wk rg ta), (co, aiE cI 240 C), (wo, cubE (ldF C x.toNatClampNeg))]) (cv_X5_171 X (c_isPrime l D cI cJ y  _) rfl rfl dX5_isMaximalAt_17 hP hD [] rfl rfl hl.1 rfl rfl (Nat.le_of_ble_eq_true rfl) ⟨Nat.le_of_ble_eq_true rfl, Nat.le_of_ble_eq_true rfl⟩ ⟨Nat.le_of_ble_eq_true rfl, Nat.le_of_ble_eq_true rfl⟩) hP hD hS hA [] [0, 1, 2, 3, 4, 5] rfl rfl rfl (by decide) (fun r_7 u_6 H locs w_5 hP hD hS => ?_)
    have hP : va_P D vwCl [(wk, wkE sc cd), (sc, cubE w1), (cd, cubE w2), (h0, cfE co (nI n) pa wo ot le ri wk rg ta), (co, aiE cI 240 C), (wo, cubE (ldF C x.toNatClampNeg))] H := hP
    have hD : va_D AA [(wk, wkE sc cd), (sc, cubE w1), (cd, cubE w2), (h0, cfE co (nI n) pa wo ot le ri wk rg ta), (co, aiE cI 240 C), (wo, cubE (ldF C x.toNatClampNeg))] := hD
    subst w_5
    refine bb_ne (tgt := 27) X dX5_isMaximalAt_20 (by decide) (fun c_8 => ?_) (fun c_8 => ?_)
    · obtain ⟨P, h2, h9, hy, hpr⟩ := primeB_out c_8
      have hyc : y.toNatClampNeg = P := by rw [hy]; exact nI_clamp (by omega)
      rw [hy] at hl
      refine lv_aload_n X.1 X.2.1 dX5_isMaximalAt_27 rfl (lv_at hl 0 rfl) ?_
      refine gf_X5_45 (v := .ref wk) X hP 3 rfl rfl dX5_isMaximalAt_28 ?_
      refine lv_aload_n X.1 X.2.1 dX5_isMaximalAt_31 rfl (lv_at hl 0 rfl) ?_
      refine gf_X5_25 (v := .ref wo) X hP 3 rfl rfl dX5_isMaximalAt_32 ?_
      refine lv_iload_n X.1 X.2.1 dX5_isMaximalAt_35 rfl (lv_at hl 2 rfl) ?_
      refine fin_i (wr := [(h0, cfE co (nI n) pa wo ot le ri wk rg ta), (co, aiE cI 240 C)]) (cv_X5_178 X (c_Wk_growAt l D cI cJ wk sc cd w1 w2 wo (ldF C x.toNatClampNeg) P (by first | assumption | omega) (by first | assumption | omega) _) rfl rfl dX5_isMaximalAt_36 hP hD 0 rfl [0, 1, 2, 5] rfl rfl hl.1 rfl rfl (Nat.le_of_ble_eq_true rfl) ⟨Nat.le_of_ble_eq_true rfl, Nat.le_of_ble_eq_true rfl⟩ ⟨Nat.le_of_ble_eq_true rfl, Nat.le_of_ble_eq_true rfl⟩) hP hD hS hA [0, 1, 2, 5] [3, 4] rfl rfl rfl (by decide) (fun r_11 u_10 H locs w_9 hP hD hS => ?_)
      have hP : va_P D vwCl [(h0, cfE co (nI n) pa wo ot le ri wk rg ta), (co, aiE cI 240 C), (wk, wkE sc cd), (sc, cubE w1), (cd, cubE u_10), (wo, cubE ((ovC (ldF C x.toNatClampNeg) P).getD (ldF C x.toNatClampNeg)))] H := hP
      have hD : va_D AA [(h0, cfE co (nI n) pa wo ot le ri wk rg ta), (co, aiE cI 240 C), (wk, wkE sc cd), (sc, cubE w1), (cd, cubE u_10), (wo, cubE ((ovC (ldF C x.toNatClampNeg) P).getD (ldF C x.toNatClampNeg)))] := hD
      subst w_9
      refine bb_eq (tgt := 46) X dX5_isMaximalAt_39 (by decide) (fun c_12 => ?_) (fun c_12 => ?_)
      · refine lv_iconst (v := 1) X.1 X.2.1 dX5_isMaximalAt_46 (by decide) ?_
        exact hret 1 ((ovC (ldF C x.toNatClampNeg) P).getD (ldF C x.toNatClampNeg), w1, u_10) _ _ _ _ (by rw [imxR, if_pos c_4, if_pos c_8, hyc, if_neg (by rw [c_12]; decide)]) rfl (hP.sub [0, 1, 5, 2, 3, 4] rfl) (hD.sub [0, 1, 5, 2, 3, 4] rfl rfl) hS dX5_isMaximalAt_47
      · refine lv_iconst (v := 0) X.1 X.2.1 dX5_isMaximalAt_42 (by decide) ?_
        refine lv_goto (tgt := 47) X.1 X.2.1 dX5_isMaximalAt_43 (by decide) ?_
        exact hret 0 ((ovC (ldF C x.toNatClampNeg) P).getD (ldF C x.toNatClampNeg), w1, u_10) _ _ _ _ (by rw [imxR, if_pos c_4, if_pos c_8, hyc, if_pos c_12]) rfl (hP.sub [0, 1, 5, 2, 3, 4] rfl) (hD.sub [0, 1, 5, 2, 3, 4] rfl rfl) hS dX5_isMaximalAt_47
    · refine lv_sipush (v := (-10003)) X.1 X.2.1 dX5_isMaximalAt_23 (by decide) ?_
      exact hret (-10003) ((ldF C x.toNatClampNeg), w1, w2) _ _ _ _ (by rw [imxR, if_pos c_4, if_neg (by rw [c_8]; decide)]) rfl (hP.sub [3, 4, 5, 0, 1, 2] rfl) (hD.sub [3, 4, 5, 0, 1, 2] rfl rfl) hS dX5_isMaximalAt_26
  · refine lv_sipush (v := (-10001)) X.1 X.2.1 dX5_isMaximalAt_12 (by decide) ?_
    exact hret (-10001) (if isFormB n x then ldF C x.toNatClampNeg else f, w1, w2) _ _ _ _ (by rw [imxR, if_neg (by rw [c_4]; decide)]) rfl (hP.sub [3, 4, 5, 0, 1, 2] rfl) (hD.sub [3, 4, 5, 0, 1, 2] rfl rfl) hS dX5_isMaximalAt_15
set_option maxHeartbeats 4000000 in
set_option maxRecDepth 100000 in
theorem c_CF_overring (l : Launch) (D : va_G) (cI cJ : ClassId) (h0 : Nat) (co : Nat) (pa : Nat) (wo : Nat) (ot : Nat) (le : Nat) (ri : Nat) (wk : Nat) (rg : Nat) (ta : Nat) (n : Nat) (C : Nat → Int32) (f : Fm) (sc : Nat) (cd : Nat) (w1 : Fm) (w2 : Fm) (x : Int32) (y : Int32) (hn : n ≤ 60) : CtI l yX5_overring cX5_overring 3 .int (rmk 4 99) D cI cJ [.ref h0, .int x, .int y] [(h0, cfE co (nI n) pa wo ot le ri wk rg ta), (co, aiE cI 240 C), (wo, cubE f), (wk, wkE sc cd), (sc, cubE w1), (cd, cubE w2)] (fun (u : Fm × Fm × Fm) => [(h0, cfE co (nI (outS n C (ovO n C x y)).1) pa wo ot le ri wk rg ta), (co, aiE cI 240 ((outS n C (ovO n C x y)).2)), (wo, cubE u.1), (wk, wkE sc cd), (sc, cubE u.2.1), (cd, cubE u.2.2)]) (fun (r : Int32) (u : Fm × Fm × Fm) => r = outR n (ovO n C x y)) := by
  refine CtI.of (own := RX5) (by decide +kernel) (Nat.le_of_ble_eq_true rfl) rfl ?_
  intro pr_ en_ sg_ me_ ar_ be_ mt_ co_ AA ls QQ X hA hP hD hS hl hret
  have hl : lv_has ls 3 [(0, .ref h0), (1, .int x), (2, .int y)] := hl
  refine lv_aload_n X.1 X.2.1 dX5_overring_0 rfl (lv_at hl 0 rfl) ?_
  refine lv_iload_n X.1 X.2.1 dX5_overring_1 rfl (lv_at hl 1 rfl) ?_
  refine lv_aload_n X.1 X.2.1 dX5_overring_2 rfl (lv_at hl 0 rfl) ?_
  refine gf_X5_25 (v := .ref wo) X hP 0 rfl rfl dX5_overring_3 ?_
  refine fin_i (wr := [(wk, wkE sc cd), (sc, cubE w1), (cd, cubE w2)]) (cv_X5_79 X (c_CF_load l D cI cJ h0 co pa wo ot le ri wk rg ta n C wo f x (by first | assumption | omega) _) rfl rfl dX5_overring_6 hP hD 0 rfl [0, 1, 2] rfl rfl hl.1 rfl rfl (Nat.le_of_ble_eq_true rfl) ⟨Nat.le_of_ble_eq_true rfl, Nat.le_of_ble_eq_true rfl⟩ ⟨Nat.le_of_ble_eq_true rfl, Nat.le_of_ble_eq_true rfl⟩) hP hD hS hA [0, 1, 2] [3, 4, 5] rfl rfl rfl (by decide) (fun r_3 u_2 H locs w_1 hP hD hS => ?_)
  have hP : va_P D vwCl [(wk, wkE sc cd), (sc, cubE w1), (cd, cubE w2), (h0, cfE co (nI n) pa wo ot le ri wk rg ta), (co, aiE cI 240 C), (wo, cubE (if isFormB n x then ldF C x.toNatClampNeg else f))] H := hP
  have hD : va_D AA [(wk, wkE sc cd), (sc, cubE w1), (cd, cubE w2), (h0, cfE co (nI n) pa wo ot le ri wk rg ta), (co, aiE cI 240 C), (wo, cubE (if isFormB n x then ldF C x.toNatClampNeg else f))] := hD
  subst w_1
  refine bb_ne (tgt := 16) X dX5_overring_9 (by decide) (fun c_4 => ?_) (fun c_4 => ?_)
  · rw [if_pos c_4] at hP hD
    refine lv_iload_n X.1 X.2.1 dX5_overring_16 rfl (lv_at hl 2 rfl) ?_
    refine fin_i (wr := [(wk, wkE sc cd), (sc, cubE w1), (cd, cubE w2), (h0, cfE co (nI n) pa wo ot le ri wk rg ta), (co, aiE cI 240 C), (wo, cubE (ldF C x.toNatClampNeg))]) (cv_X5_171 X (c_isPrime l D cI cJ y  _) rfl rfl dX5_overring_17 hP hD [] rfl rfl hl.1 rfl rfl (Nat.le_of_ble_eq_true rfl) ⟨Nat.le_of_ble_eq_true rfl, Nat.le_of_ble_eq_true rfl⟩ ⟨Nat.le_of_ble_eq_true rfl, Nat.le_of_ble_eq_true rfl⟩) hP hD hS hA [] [0, 1, 2, 3, 4, 5] rfl rfl rfl (by decide) (fun r_7 u_6 H locs w_5 hP hD hS => ?_)
    have hP : va_P D vwCl [(wk, wkE sc cd), (sc, cubE w1), (cd, cubE w2), (h0, cfE co (nI n) pa wo ot le ri wk rg ta), (co, aiE cI 240 C), (wo, cubE (ldF C x.toNatClampNeg))] H := hP
    have hD : va_D AA [(wk, wkE sc cd), (sc, cubE w1), (cd, cubE w2), (h0, cfE co (nI n) pa wo ot le ri wk rg ta), (co, aiE cI 240 C), (wo, cubE (ldF C x.toNatClampNeg))] := hD
    subst w_5
    refine bb_ne (tgt := 27) X dX5_overring_20 (by decide) (fun c_8 => ?_) (fun c_8 => ?_)
    · obtain ⟨P, h2, h9, hy, hpr⟩ := primeB_out c_8
      have hyc : y.toNatClampNeg = P := by rw [hy]; exact nI_clamp (by omega)
      rw [hy] at hl
      refine lv_aload_n X.1 X.2.1 dX5_overring_27 rfl (lv_at hl 0 rfl) ?_
      refine gf_X5_45 (v := .ref wk) X hP 3 rfl rfl dX5_overring_28 ?_
      refine lv_aload_n X.1 X.2.1 dX5_overring_31 rfl (lv_at hl 0 rfl) ?_
      refine gf_X5_25 (v := .ref wo) X hP 3 rfl rfl dX5_overring_32 ?_
      refine lv_iload_n X.1 X.2.1 dX5_overring_35 rfl (lv_at hl 2 rfl) ?_
      refine fin_i (wr := [(h0, cfE co (nI n) pa wo ot le ri wk rg ta), (co, aiE cI 240 C)]) (cv_X5_178 X (c_Wk_growAt l D cI cJ wk sc cd w1 w2 wo (ldF C x.toNatClampNeg) P (by first | assumption | omega) (by first | assumption | omega) _) rfl rfl dX5_overring_36 hP hD 0 rfl [0, 1, 2, 5] rfl rfl hl.1 rfl rfl (Nat.le_of_ble_eq_true rfl) ⟨Nat.le_of_ble_eq_true rfl, Nat.le_of_ble_eq_true rfl⟩ ⟨Nat.le_of_ble_eq_true rfl, Nat.le_of_ble_eq_true rfl⟩) hP hD hS hA [0, 1, 2, 5] [3, 4] rfl rfl rfl (by decide) (fun r_11 u_10 H locs w_9 hP hD hS => ?_)
      have hP : va_P D vwCl [(h0, cfE co (nI n) pa wo ot le ri wk rg ta), (co, aiE cI 240 C), (wk, wkE sc cd), (sc, cubE w1), (cd, cubE u_10), (wo, cubE ((ovC (ldF C x.toNatClampNeg) P).getD (ldF C x.toNatClampNeg)))] H := hP
      have hD : va_D AA [(h0, cfE co (nI n) pa wo ot le ri wk rg ta), (co, aiE cI 240 C), (wk, wkE sc cd), (sc, cubE w1), (cd, cubE u_10), (wo, cubE ((ovC (ldF C x.toNatClampNeg) P).getD (ldF C x.toNatClampNeg)))] := hD
      subst w_9
      refine bb_ne (tgt := 46) X dX5_overring_39 (by decide) (fun c_12 => ?_) (fun c_12 => ?_)
      · refine lv_aload_n X.1 X.2.1 dX5_overring_46 rfl (lv_at hl 0 rfl) ?_
        refine lv_aload_n X.1 X.2.1 dX5_overring_47 rfl (lv_at hl 0 rfl) ?_
        refine gf_X5_25 (v := .ref wo) X hP 0 rfl rfl dX5_overring_48 ?_
        refine fin_i (wr := [(wk, wkE sc cd), (sc, cubE w1), (cd, cubE u_10)]) (cv_X5_116 X (c_CF_storeIfFits l D cI cJ h0 co pa wo ot le ri wk rg ta n C wo ((ovC (ldF C x.toNatClampNeg) P).getD (ldF C x.toNatClampNeg)) (by first | assumption | omega) _) rfl rfl dX5_overring_51 hP hD 0 rfl [0, 1, 5] rfl rfl hl.1 rfl rfl (Nat.le_of_ble_eq_true rfl) ⟨Nat.le_of_ble_eq_true rfl, Nat.le_of_ble_eq_true rfl⟩ ⟨Nat.le_of_ble_eq_true rfl, Nat.le_of_ble_eq_true rfl⟩) hP hD hS hA [0, 1, 5] [2, 3, 4] rfl rfl rfl (by decide) (fun r_15 u_14 H locs w_13 hP hD hS => ?_)
        have hP : va_P D vwCl [(wk, wkE sc cd), (sc, cubE w1), (cd, cubE u_10), (h0, cfE co (nI (sifS n C ((ovC (ldF C x.toNatClampNeg) P).getD (ldF C x.toNatClampNeg))).1) pa wo ot le ri wk rg ta), (co, aiE cI 240 ((sifS n C ((ovC (ldF C x.toNatClampNeg) P).getD (ldF C x.toNatClampNeg))).2)), (wo, cubE ((ovC (ldF C x.toNatClampNeg) P).getD (ldF C x.toNatClampNeg)))] H := hP
        have hD : va_D AA [(wk, wkE sc cd), (sc, cubE w1), (cd, cubE u_10), (h0, cfE co (nI (sifS n C ((ovC (ldF C x.toNatClampNeg) P).getD (ldF C x.toNatClampNeg))).1) pa wo ot le ri wk rg ta), (co, aiE cI 240 ((sifS n C ((ovC (ldF C x.toNatClampNeg) P).getD (ldF C x.toNatClampNeg))).2)), (wo, cubE ((ovC (ldF C x.toNatClampNeg) P).getD (ldF C x.toNatClampNeg)))] := hD
        subst w_13
        have eo : ovO n C x y = .inr ((ovC (ldF C x.toNatClampNeg) P).getD (ldF C x.toNatClampNeg)) := by rw [ovO, if_pos c_4, if_pos c_8, hyc, if_pos c_12]
        have hP : va_P D vwCl [(wk, wkE sc cd), (sc, cubE w1), (cd, cubE u_10), (h0, cfE co (nI (outS n C (ovO n C x y)).1) pa wo ot le ri wk rg ta), (co, aiE cI 240 ((outS n C (ovO n C x y)).2)), (wo, cubE ((ovC (ldF C x.toNatClampNeg) P).getD (ldF C x.toNatClampNeg)))] H := by rw [eo]; exact hP
        have hD : va_D AA [(wk, wkE sc cd), (sc, cubE w1), (cd, cubE u_10), (h0, cfE co (nI (outS n C (ovO n C x y)).1) pa wo ot le ri wk rg ta), (co, aiE cI 240 ((outS n C (ovO n C x y)).2)), (wo, cubE ((ovC (ldF C x.toNatClampNeg) P).getD (ldF C x.toNatClampNeg)))] := by rw [eo]; exact hD
        exact hret (sifR n ((ovC (ldF C x.toNatClampNeg) P).getD (ldF C x.toNatClampNeg))) ((ovC (ldF C x.toNatClampNeg) P).getD (ldF C x.toNatClampNeg), w1, u_10) _ _ _ _ (by rw [eo]; rfl) rfl (hP.sub [3, 4, 5, 0, 1, 2] rfl) (hD.sub [3, 4, 5, 0, 1, 2] rfl rfl) hS dX5_overring_54
      · have eo : ovO n C x y = .inl (-10008) := by rw [ovO, if_pos c_4, if_pos c_8, hyc, if_neg (by rw [c_12]; decide)]
        have hP : va_P D vwCl [(h0, cfE co (nI (outS n C (ovO n C x y)).1) pa wo ot le ri wk rg ta), (co, aiE cI 240 ((outS n C (ovO n C x y)).2)), (wk, wkE sc cd), (sc, cubE w1), (cd, cubE u_10), (wo, cubE ((ovC (ldF C x.toNatClampNeg) P).getD (ldF C x.toNatClampNeg)))] H := by rw [eo]; exact hP
        have hD : va_D AA [(h0, cfE co (nI (outS n C (ovO n C x y)).1) pa wo ot le ri wk rg ta), (co, aiE cI 240 ((outS n C (ovO n C x y)).2)), (wk, wkE sc cd), (sc, cubE w1), (cd, cubE u_10), (wo, cubE ((ovC (ldF C x.toNatClampNeg) P).getD (ldF C x.toNatClampNeg)))] := by rw [eo]; exact hD
        refine lv_sipush (v := (-10008)) X.1 X.2.1 dX5_overring_42 (by decide) ?_
        exact hret (-10008) ((ovC (ldF C x.toNatClampNeg) P).getD (ldF C x.toNatClampNeg), w1, u_10) _ _ _ _ (by rw [eo]; rfl) rfl (hP.sub [0, 1, 5, 2, 3, 4] rfl) (hD.sub [0, 1, 5, 2, 3, 4] rfl rfl) hS dX5_overring_45
    · have eo : ovO n C x y = .inl (-10003) := by rw [ovO, if_pos c_4, if_neg (by rw [c_8]; decide)]
      have hP : va_P D vwCl [(wk, wkE sc cd), (sc, cubE w1), (cd, cubE w2), (h0, cfE co (nI (outS n C (ovO n C x y)).1) pa wo ot le ri wk rg ta), (co, aiE cI 240 ((outS n C (ovO n C x y)).2)), (wo, cubE (ldF C x.toNatClampNeg))] H := by rw [eo]; exact hP
      have hD : va_D AA [(wk, wkE sc cd), (sc, cubE w1), (cd, cubE w2), (h0, cfE co (nI (outS n C (ovO n C x y)).1) pa wo ot le ri wk rg ta), (co, aiE cI 240 ((outS n C (ovO n C x y)).2)), (wo, cubE (ldF C x.toNatClampNeg))] := by rw [eo]; exact hD
      refine lv_sipush (v := (-10003)) X.1 X.2.1 dX5_overring_23 (by decide) ?_
      exact hret (-10003) ((ldF C x.toNatClampNeg), w1, w2) _ _ _ _ (by rw [eo]; rfl) rfl (hP.sub [3, 4, 5, 0, 1, 2] rfl) (hD.sub [3, 4, 5, 0, 1, 2] rfl rfl) hS dX5_overring_26
  · have eo : ovO n C x y = .inl (-10001) := by rw [ovO, if_neg (by rw [c_4]; decide)]
    have hP : va_P D vwCl [(wk, wkE sc cd), (sc, cubE w1), (cd, cubE w2), (h0, cfE co (nI (outS n C (ovO n C x y)).1) pa wo ot le ri wk rg ta), (co, aiE cI 240 ((outS n C (ovO n C x y)).2)), (wo, cubE (if isFormB n x then ldF C x.toNatClampNeg else f))] H := by rw [eo]; exact hP
    have hD : va_D AA [(wk, wkE sc cd), (sc, cubE w1), (cd, cubE w2), (h0, cfE co (nI (outS n C (ovO n C x y)).1) pa wo ot le ri wk rg ta), (co, aiE cI 240 ((outS n C (ovO n C x y)).2)), (wo, cubE (if isFormB n x then ldF C x.toNatClampNeg else f))] := by rw [eo]; exact hD
    refine lv_sipush (v := (-10001)) X.1 X.2.1 dX5_overring_12 (by decide) ?_
    exact hret (-10001) (if isFormB n x then ldF C x.toNatClampNeg else f, w1, w2) _ _ _ _ (by rw [eo]; rfl) rfl (hP.sub [3, 4, 5, 0, 1, 2] rfl) (hD.sub [3, 4, 5, 0, 1, 2] rfl rfl) hS dX5_overring_15
set_option maxHeartbeats 4000000 in
set_option maxRecDepth 100000 in
theorem c_CF_maximalOverring (l : Launch) (D : va_G) (cI cJ : ClassId) (h0 : Nat) (co : Nat) (pa : Nat) (wo : Nat) (ot : Nat) (le : Nat) (ri : Nat) (wk : Nat) (rg : Nat) (ta : Nat) (n : Nat) (C : Nat → Int32) (f : Fm) (sc : Nat) (cd : Nat) (w1 : Fm) (w2 : Fm) (x : Int32) (hn : n ≤ 60) (hC : rngC C) : CtI l yX5_maximalOverring cX5_maximalOverring 2 .int (rmk 5 123) D cI cJ [.ref h0, .int x] [(h0, cfE co (nI n) pa wo ot le ri wk rg ta), (co, aiE cI 240 C), (wo, cubE f), (wk, wkE sc cd), (sc, cubE w1), (cd, cubE w2)] (fun (u : Fm × Fm × Fm) => [(h0, cfE co (nI (outS n C (maxO n C x)).1) pa wo ot le ri wk rg ta), (co, aiE cI 240 ((outS n C (maxO n C x)).2)), (wo, cubE u.1), (wk, wkE sc cd), (sc, cubE u.2.1), (cd, cubE u.2.2)]) (fun (r : Int32) (u : Fm × Fm × Fm) => r = outR n (maxO n C x)) := by
  refine CtI.of (own := RX5) (by decide +kernel) (Nat.le_of_ble_eq_true rfl) rfl ?_
  intro pr_ en_ sg_ me_ ar_ be_ mt_ co_ AA ls QQ X hA hP hD hS hl hret
  have hl : lv_has ls 2 [(0, .ref h0), (1, .int x)] := hl
  refine lv_aload_n X.1 X.2.1 dX5_maximalOverring_0 rfl (lv_at hl 0 rfl) ?_
  refine lv_iload_n X.1 X.2.1 dX5_maximalOverring_1 rfl (lv_at hl 1 rfl) ?_
  refine lv_aload_n X.1 X.2.1 dX5_maximalOverring_2 rfl (lv_at hl 0 rfl) ?_
  refine gf_X5_25 (v := .ref wo) X hP 0 rfl rfl dX5_maximalOverring_3 ?_
  refine fin_i (wr := [(wk, wkE sc cd), (sc, cubE w1), (cd, cubE w2)]) (cv_X5_79 X (c_CF_load l D cI cJ h0 co pa wo ot le ri wk rg ta n C wo f x (by first | assumption | omega) _) rfl rfl dX5_maximalOverring_6 hP hD 0 rfl [0, 1, 2] rfl rfl hl.1 rfl rfl (Nat.le_of_ble_eq_true rfl) ⟨Nat.le_of_ble_eq_true rfl, Nat.le_of_ble_eq_true rfl⟩ ⟨Nat.le_of_ble_eq_true rfl, Nat.le_of_ble_eq_true rfl⟩) hP hD hS hA [0, 1, 2] [3, 4, 5] rfl rfl rfl (by decide) (fun r_3 u_2 H locs w_1 hP hD hS => ?_)
  have hP : va_P D vwCl [(wk, wkE sc cd), (sc, cubE w1), (cd, cubE w2), (h0, cfE co (nI n) pa wo ot le ri wk rg ta), (co, aiE cI 240 C), (wo, cubE (if isFormB n x then ldF C x.toNatClampNeg else f))] H := hP
  have hD : va_D AA [(wk, wkE sc cd), (sc, cubE w1), (cd, cubE w2), (h0, cfE co (nI n) pa wo ot le ri wk rg ta), (co, aiE cI 240 C), (wo, cubE (if isFormB n x then ldF C x.toNatClampNeg else f))] := hD
  subst w_1
  refine bb_ne (tgt := 16) X dX5_maximalOverring_9 (by decide) (fun c_4 => ?_) (fun c_4 => ?_)
  · rw [if_pos c_4] at hP hD
    refine lv_aload_n X.1 X.2.1 dX5_maximalOverring_16 rfl (lv_at hl 0 rfl) ?_
    refine gf_X5_25 (v := .ref wo) X hP 3 rfl rfl dX5_maximalOverring_17 ?_
    refine fin_l (wr := [(wk, wkE sc cd), (sc, cubE w1), (cd, cubE w2), (h0, cfE co (nI n) pa wo ot le ri wk rg ta), (co, aiE cI 240 C)]) (cv_X5_83 X (c_Cubic_disc l D cI cJ wo (ldF C x.toNatClampNeg)  _) rfl rfl dX5_maximalOverring_20 hP hD 5 rfl [5] rfl rfl hl.1 rfl rfl (Nat.le_of_ble_eq_true rfl) ⟨Nat.le_of_ble_eq_true rfl, Nat.le_of_ble_eq_true rfl⟩ ⟨Nat.le_of_ble_eq_true rfl, Nat.le_of_ble_eq_true rfl⟩) hP hD hS hA [5] [0, 1, 2, 3, 4] rfl rfl rfl (by decide) (fun r_7 u_6 H locs w_5 hP hD hS => ?_)
    have hP : va_P D vwCl [(wk, wkE sc cd), (sc, cubE w1), (cd, cubE w2), (h0, cfE co (nI n) pa wo ot le ri wk rg ta), (co, aiE cI 240 C), (wo, cubE (ldF C x.toNatClampNeg))] H := hP
    have hD : va_D AA [(wk, wkE sc cd), (sc, cubE w1), (cd, cubE w2), (h0, cfE co (nI n) pa wo ot le ri wk rg ta), (co, aiE cI 240 C), (wo, cubE (ldF C x.toNatClampNeg))] := hD
    subst w_5
    refine lv_lconst (v := 0) X.1 X.2.1 dX5_maximalOverring_23 (by decide) ?_
    refine bl_gt (tgt := 32) X dX5_maximalOverring_24 dX5_maximalOverring_25 (by decide) (fun c_8 => ?_) (fun c_8 => ?_)
    · refine lv_aload_n X.1 X.2.1 dX5_maximalOverring_32 rfl (lv_at hl 0 rfl) ?_
      refine gf_X5_25 (v := .ref wo) X hP 3 rfl rfl dX5_maximalOverring_33 ?_
      refine fin_i (wr := [(wk, wkE sc cd), (sc, cubE w1), (cd, cubE w2), (h0, cfE co (nI n) pa wo ot le ri wk rg ta), (co, aiE cI 240 C)]) (cv_X5_119 X (c_Cubic_hasRationalRoot l D cI cJ wo (ldF C x.toNatClampNeg) (anF (ldF C x.toNatClampNeg)) (dnF (ldF C x.toNatClampNeg)) ((ldF_a hC hn c_4).1) ((ldF_a hC hn c_4).2) ((ldF_d hC hn c_4).1) ((ldF_d hC hn c_4).2) _) rfl rfl dX5_maximalOverring_36 hP hD 5 rfl [5] rfl rfl hl.1 rfl rfl (Nat.le_of_ble_eq_true rfl) ⟨Nat.le_of_ble_eq_true rfl, Nat.le_of_ble_eq_true rfl⟩ ⟨Nat.le_of_ble_eq_true rfl, Nat.le_of_ble_eq_true rfl⟩) hP hD hS hA [5] [0, 1, 2, 3, 4] rfl rfl rfl (by decide) (fun r_11 u_10 H locs w_9 hP hD hS => ?_)
      have hP : va_P D vwCl [(wk, wkE sc cd), (sc, cubE w1), (cd, cubE w2), (h0, cfE co (nI n) pa wo ot le ri wk rg ta), (co, aiE cI 240 C), (wo, cubE (ldF C x.toNatClampNeg))] H := hP
      have hD : va_D AA [(wk, wkE sc cd), (sc, cubE w1), (cd, cubE w2), (h0, cfE co (nI n) pa wo ot le ri wk rg ta), (co, aiE cI 240 C), (wo, cubE (ldF C x.toNatClampNeg))] := hD
      subst w_9
      refine bb_eq (tgt := 46) X dX5_maximalOverring_39 (by decide) (fun c_12 => ?_) (fun c_12 => ?_)
      · refine lv_aload_n X.1 X.2.1 dX5_maximalOverring_46 rfl (lv_at hl 0 rfl) ?_
        refine gf_X5_45 (v := .ref wk) X hP 3 rfl rfl dX5_maximalOverring_47 ?_
        refine lv_aload_n X.1 X.2.1 dX5_maximalOverring_50 rfl (lv_at hl 0 rfl) ?_
        refine gf_X5_25 (v := .ref wo) X hP 3 rfl rfl dX5_maximalOverring_51 ?_
        refine fin_v (wr := [(h0, cfE co (nI n) pa wo ot le ri wk rg ta), (co, aiE cI 240 C)]) (cv_X5_182 X (c_Wk_makeMaximal l D cI cJ wk sc cd w1 w2 wo (ldF C x.toNatClampNeg)  _) rfl rfl dX5_maximalOverring_54 hP hD 0 rfl [0, 1, 2, 5] rfl rfl hl.1 rfl rfl (Nat.le_of_ble_eq_true rfl) ⟨Nat.le_of_ble_eq_true rfl, Nat.le_of_ble_eq_true rfl⟩ ⟨Nat.le_of_ble_eq_true rfl, Nat.le_of_ble_eq_true rfl⟩) hP hD hS hA [0, 1, 2, 5] [3, 4] rfl rfl rfl (by decide) (fun u_14 H locs w_13 hP hD hS => ?_)
        have hP : va_P D vwCl [(h0, cfE co (nI n) pa wo ot le ri wk rg ta), (co, aiE cI 240 C), (wk, wkE sc cd), (sc, cubE u_14.1), (cd, cubE u_14.2), (wo, cubE (sealM 0 (ldF C x.toNatClampNeg)))] H := hP
        have hD : va_D AA [(h0, cfE co (nI n) pa wo ot le ri wk rg ta), (co, aiE cI 240 C), (wk, wkE sc cd), (sc, cubE u_14.1), (cd, cubE u_14.2), (wo, cubE (sealM 0 (ldF C x.toNatClampNeg)))] := hD
        refine lv_aload_n X.1 X.2.1 dX5_maximalOverring_57 rfl (lv_at hl 0 rfl) ?_
        refine lv_aload_n X.1 X.2.1 dX5_maximalOverring_58 rfl (lv_at hl 0 rfl) ?_
        refine gf_X5_25 (v := .ref wo) X hP 0 rfl rfl dX5_maximalOverring_59 ?_
        refine fin_i (wr := [(wk, wkE sc cd), (sc, cubE u_14.1), (cd, cubE u_14.2)]) (cv_X5_116 X (c_CF_storeIfFits l D cI cJ h0 co pa wo ot le ri wk rg ta n C wo (sealM 0 (ldF C x.toNatClampNeg)) (by first | assumption | omega) _) rfl rfl dX5_maximalOverring_62 hP hD 0 rfl [0, 1, 5] rfl rfl hl.1 rfl rfl (Nat.le_of_ble_eq_true rfl) ⟨Nat.le_of_ble_eq_true rfl, Nat.le_of_ble_eq_true rfl⟩ ⟨Nat.le_of_ble_eq_true rfl, Nat.le_of_ble_eq_true rfl⟩) hP hD hS hA [0, 1, 5] [2, 3, 4] rfl rfl rfl (by decide) (fun r_18 u_17 H locs w_16 hP hD hS => ?_)
        have hP : va_P D vwCl [(wk, wkE sc cd), (sc, cubE u_14.1), (cd, cubE u_14.2), (h0, cfE co (nI (sifS n C (sealM 0 (ldF C x.toNatClampNeg))).1) pa wo ot le ri wk rg ta), (co, aiE cI 240 ((sifS n C (sealM 0 (ldF C x.toNatClampNeg))).2)), (wo, cubE (sealM 0 (ldF C x.toNatClampNeg)))] H := hP
        have hD : va_D AA [(wk, wkE sc cd), (sc, cubE u_14.1), (cd, cubE u_14.2), (h0, cfE co (nI (sifS n C (sealM 0 (ldF C x.toNatClampNeg))).1) pa wo ot le ri wk rg ta), (co, aiE cI 240 ((sifS n C (sealM 0 (ldF C x.toNatClampNeg))).2)), (wo, cubE (sealM 0 (ldF C x.toNatClampNeg)))] := hD
        subst w_16
        have eo : maxO n C x = .inr (sealM 0 (ldF C x.toNatClampNeg)) := by rw [maxO, if_pos c_4, if_pos c_8, if_neg (show ¬ rootF _ = true from by rw [show rootF _ = false from c_12]; decide)]
        have hP : va_P D vwCl [(wk, wkE sc cd), (sc, cubE u_14.1), (cd, cubE u_14.2), (h0, cfE co (nI (outS n C (maxO n C x)).1) pa wo ot le ri wk rg ta), (co, aiE cI 240 ((outS n C (maxO n C x)).2)), (wo, cubE (sealM 0 (ldF C x.toNatClampNeg)))] H := by rw [eo]; exact hP
        have hD : va_D AA [(wk, wkE sc cd), (sc, cubE u_14.1), (cd, cubE u_14.2), (h0, cfE co (nI (outS n C (maxO n C x)).1) pa wo ot le ri wk rg ta), (co, aiE cI 240 ((outS n C (maxO n C x)).2)), (wo, cubE (sealM 0 (ldF C x.toNatClampNeg)))] := by rw [eo]; exact hD
        exact hret (sifR n (sealM 0 (ldF C x.toNatClampNeg))) (sealM 0 (ldF C x.toNatClampNeg), u_14.1, u_14.2) _ _ _ _ (by rw [eo]; rfl) rfl (hP.sub [3, 4, 5, 0, 1, 2] rfl) (hD.sub [3, 4, 5, 0, 1, 2] rfl rfl) hS dX5_maximalOverring_65
      · have eo : maxO n C x = .inl (-10007) := by rw [maxO, if_pos c_4, if_pos c_8, if_pos (show rootF _ = true from c_12)]
        have hP : va_P D vwCl [(wk, wkE sc cd), (sc, cubE w1), (cd, cubE w2), (h0, cfE co (nI (outS n C (maxO n C x)).1) pa wo ot le ri wk rg ta), (co, aiE cI 240 ((outS n C (maxO n C x)).2)), (wo, cubE (ldF C x.toNatClampNeg))] H := by rw [eo]; exact hP
        have hD : va_D AA [(wk, wkE sc cd), (sc, cubE w1), (cd, cubE w2), (h0, cfE co (nI (outS n C (maxO n C x)).1) pa wo ot le ri wk rg ta), (co, aiE cI 240 ((outS n C (maxO n C x)).2)), (wo, cubE (ldF C x.toNatClampNeg))] := by rw [eo]; exact hD
        refine lv_sipush (v := (-10007)) X.1 X.2.1 dX5_maximalOverring_42 (by decide) ?_
        exact hret (-10007) ((ldF C x.toNatClampNeg), w1, w2) _ _ _ _ (by rw [eo]; rfl) rfl (hP.sub [3, 4, 5, 0, 1, 2] rfl) (hD.sub [3, 4, 5, 0, 1, 2] rfl rfl) hS dX5_maximalOverring_45
    · have eo : maxO n C x = .inl (-10006) := by rw [maxO, if_pos c_4, if_neg c_8]
      have hP : va_P D vwCl [(wk, wkE sc cd), (sc, cubE w1), (cd, cubE w2), (h0, cfE co (nI (outS n C (maxO n C x)).1) pa wo ot le ri wk rg ta), (co, aiE cI 240 ((outS n C (maxO n C x)).2)), (wo, cubE (ldF C x.toNatClampNeg))] H := by rw [eo]; exact hP
      have hD : va_D AA [(wk, wkE sc cd), (sc, cubE w1), (cd, cubE w2), (h0, cfE co (nI (outS n C (maxO n C x)).1) pa wo ot le ri wk rg ta), (co, aiE cI 240 ((outS n C (maxO n C x)).2)), (wo, cubE (ldF C x.toNatClampNeg))] := by rw [eo]; exact hD
      refine lv_sipush (v := (-10006)) X.1 X.2.1 dX5_maximalOverring_28 (by decide) ?_
      exact hret (-10006) ((ldF C x.toNatClampNeg), w1, w2) _ _ _ _ (by rw [eo]; rfl) rfl (hP.sub [3, 4, 5, 0, 1, 2] rfl) (hD.sub [3, 4, 5, 0, 1, 2] rfl rfl) hS dX5_maximalOverring_31
  · have eo : maxO n C x = .inl (-10001) := by rw [maxO, if_neg (by rw [c_4]; decide)]
    have hP : va_P D vwCl [(wk, wkE sc cd), (sc, cubE w1), (cd, cubE w2), (h0, cfE co (nI (outS n C (maxO n C x)).1) pa wo ot le ri wk rg ta), (co, aiE cI 240 ((outS n C (maxO n C x)).2)), (wo, cubE (if isFormB n x then ldF C x.toNatClampNeg else f))] H := by rw [eo]; exact hP
    have hD : va_D AA [(wk, wkE sc cd), (sc, cubE w1), (cd, cubE w2), (h0, cfE co (nI (outS n C (maxO n C x)).1) pa wo ot le ri wk rg ta), (co, aiE cI 240 ((outS n C (maxO n C x)).2)), (wo, cubE (if isFormB n x then ldF C x.toNatClampNeg else f))] := by rw [eo]; exact hD
    refine lv_sipush (v := (-10001)) X.1 X.2.1 dX5_maximalOverring_12 (by decide) ?_
    exact hret (-10001) (if isFormB n x then ldF C x.toNatClampNeg else f, w1, w2) _ _ _ _ (by rw [eo]; rfl) rfl (hP.sub [3, 4, 5, 0, 1, 2] rfl) (hD.sub [3, 4, 5, 0, 1, 2] rfl rfl) hS dX5_maximalOverring_15
set_option maxHeartbeats 4000000 in
set_option maxRecDepth 100000 in
theorem c_CF_countForms (l : Launch) (D : va_G) (cI cJ : ClassId) (h0 : Nat) (co : Nat) (pa : Nat) (wo : Nat) (ot : Nat) (le : Nat) (ri : Nat) (wk : Nat) (rg : Nat) (ta : Nat) (n : Nat) (fd : Nat) (gd : Nat) (fo : Nat) (lt : Nat) (fl : Int32) (T : Tab) (A : Nat → Int32) (B : Nat → Int32) (z1 : Fm) (z2 : Fm) (sc : Nat) (cd : Nat) (w1 : Fm) (w2 : Fm) (lim : Int32) (hst : tabSt fl T) (rA : repR A T.1) (rB : repR B T.2) (hf1 : (sealT 0).1.length ≤ 60) (hf2 : (sealT 0).2.length ≤ 60) : CtI l yX5_countForms cX5_countForms 2 .int (rmk 6 150) D cI cJ [.ref h0, .int lim] [(h0, cfE co (nI n) pa wo ot le ri wk rg ta), (ta, ftE fd (nI T.1.length) gd (nI T.2.length) fl fo lt), (fd, aiE cI 64 A), (gd, aiE cI 64 B), (fo, cubE z1), (lt, cubE z2), (wk, wkE sc cd), (sc, cubE w1), (cd, cubE w2)] (fun (u : Int32 × Tab × (Nat → Int32) × (Nat → Int32) × Fm × Fm × Fm × Fm) => [(h0, cfE co (nI n) pa wo ot le ri wk rg ta), (ta, ftE fd (nI u.2.1.1.length) gd (nI u.2.1.2.length) u.1 fo lt), (fd, aiE cI 64 u.2.2.1), (gd, aiE cI 64 u.2.2.2.1), (fo, cubE u.2.2.2.2.1), (lt, cubE u.2.2.2.2.2.1), (wk, wkE sc cd), (sc, cubE u.2.2.2.2.2.2.1), (cd, cubE u.2.2.2.2.2.2.2)]) (fun (r : Int32) (u : Int32 × Tab × (Nat → Int32) × (Nat → Int32) × Fm × Fm × Fm × Fm) => r = cfoR lim ∧ tabSt u.1 u.2.1 ∧ repR u.2.2.1 u.2.1.1 ∧ repR u.2.2.2.1 u.2.1.2) := by
  refine CtI.of (own := RX5) (by decide +kernel) (Nat.le_of_ble_eq_true rfl) rfl ?_
  intro pr_ en_ sg_ me_ ar_ be_ mt_ co_ AA ls QQ X hA hP hD hS hl hret
  have hl : lv_has ls 2 [(0, .ref h0), (1, .int lim)] := hl
  refine lv_iload_n X.1 X.2.1 dX5_countForms_0 rfl (lv_at hl 1 rfl) ?_
  refine lv_iconst (v := 1) X.1 X.2.1 dX5_countForms_1 (by decide) ?_
  refine bi_lt (tgt := 12) X dX5_countForms_2 (by decide) (fun c_1 => ?_) (fun c_1 => ?_)
  · refine lv_sipush (v := (-10003)) X.1 X.2.1 dX5_countForms_12 (by decide) ?_
    exact hret (-10003) (fl, T, A, B, z1, z2, w1, w2) _ _ _ _ (⟨by rw [cfoR, if_pos c_1], ⟨hst, rA, rB⟩⟩) rfl (hP.sub [0, 1, 2, 3, 4, 5, 6, 7, 8] rfl) (hD.sub [0, 1, 2, 3, 4, 5, 6, 7, 8] rfl rfl) hS dX5_countForms_15
  · refine lv_iload_n X.1 X.2.1 dX5_countForms_5 rfl (lv_at hl 1 rfl) ?_
    refine lv_sipush (v := 1000) X.1 X.2.1 dX5_countForms_6 (by decide) ?_
    refine bi_le (tgt := 16) X dX5_countForms_9 (by decide) (fun c_2 => ?_) (fun c_2 => ?_)
    · refine lv_aload_n X.1 X.2.1 dX5_countForms_16 rfl (lv_at hl 0 rfl) ?_
      refine gf_X5_59 (v := .ref ta) X hP 0 rfl rfl dX5_countForms_17 ?_
      refine lv_aload_n X.1 X.2.1 dX5_countForms_20 rfl (lv_at hl 0 rfl) ?_
      refine gf_X5_45 (v := .ref wk) X hP 0 rfl rfl dX5_countForms_21 ?_
      refine fin_v (wr := [(h0, cfE co (nI n) pa wo ot le ri wk rg ta)]) (cv_X5_185 X (c_FT_fillOnce l D cI cJ ta fd gd fo lt fl T A B z1 z2 w1 w2 wk sc cd hst rA rB hf1 hf2 _) rfl rfl dX5_countForms_24 hP hD 1 rfl [1, 2, 3, 4, 5, 6, 7, 8] rfl rfl hl.1 rfl rfl (Nat.le_of_ble_eq_true rfl) ⟨Nat.le_of_ble_eq_true rfl, Nat.le_of_ble_eq_true rfl⟩ ⟨Nat.le_of_ble_eq_true rfl, Nat.le_of_ble_eq_true rfl⟩) hP hD hS hA [1, 2, 3, 4, 5, 6, 7, 8] [0] rfl rfl rfl (by decide) (fun u_4 H locs w_3 hP hD hS => ?_)
      have hP : va_P D vwCl [(h0, cfE co (nI n) pa wo ot le ri wk rg ta), (ta, ftE fd (nI (sealT 0).1.length) gd (nI (sealT 0).2.length) 1 fo lt), (fd, aiE cI 64 u_4.1), (gd, aiE cI 64 u_4.2.1), (fo, cubE u_4.2.2.1), (lt, cubE u_4.2.2.2.1), (wk, wkE sc cd), (sc, cubE u_4.2.2.2.2.1), (cd, cubE u_4.2.2.2.2.2)] H := hP
      have hD : va_D AA [(h0, cfE co (nI n) pa wo ot le ri wk rg ta), (ta, ftE fd (nI (sealT 0).1.length) gd (nI (sealT 0).2.length) 1 fo lt), (fd, aiE cI 64 u_4.1), (gd, aiE cI 64 u_4.2.1), (fo, cubE u_4.2.2.1), (lt, cubE u_4.2.2.2.1), (wk, wkE sc cd), (sc, cubE u_4.2.2.2.2.1), (cd, cubE u_4.2.2.2.2.2)] := hD
      have wT := w_3
      refine lv_aload_n X.1 X.2.1 dX5_countForms_27 rfl (lv_at hl 0 rfl) ?_
      refine gf_X5_59 (v := .ref ta) X hP 0 rfl rfl dX5_countForms_28 ?_
      refine lv_iload_n X.1 X.2.1 dX5_countForms_31 rfl (lv_at hl 1 rfl) ?_
      refine fin_i (wr := [(h0, cfE co (nI n) pa wo ot le ri wk rg ta), (gd, aiE cI 64 u_4.2.1), (fo, cubE u_4.2.2.1), (lt, cubE u_4.2.2.2.1), (wk, wkE sc cd), (sc, cubE u_4.2.2.2.2.1), (cd, cubE u_4.2.2.2.2.2)]) (cv_X5_189 X (c_FT_countFormsTo l D cI cJ ta fd gd fo lt ((sealT 0).1.length) ((sealT 0).2.length) 1 u_4.1 lim (by omega) _) rfl rfl dX5_countForms_32 hP hD 1 rfl [1, 2] rfl rfl hl.1 rfl rfl (Nat.le_of_ble_eq_true rfl) ⟨Nat.le_of_ble_eq_true rfl, Nat.le_of_ble_eq_true rfl⟩ ⟨Nat.le_of_ble_eq_true rfl, Nat.le_of_ble_eq_true rfl⟩) hP hD hS hA [1, 2] [0, 3, 4, 5, 6, 7, 8] rfl rfl rfl (by decide) (fun r_8 u_7 H locs w_6 hP hD hS => ?_)
      have hP : va_P D vwCl [(h0, cfE co (nI n) pa wo ot le ri wk rg ta), (gd, aiE cI 64 u_4.2.1), (fo, cubE u_4.2.2.1), (lt, cubE u_4.2.2.2.1), (wk, wkE sc cd), (sc, cubE u_4.2.2.2.2.1), (cd, cubE u_4.2.2.2.2.2), (ta, ftE fd (nI ((sealT 0).1.length)) gd (nI ((sealT 0).2.length)) 1 fo lt), (fd, aiE cI 64 u_4.1)] H := hP
      have hD : va_D AA [(h0, cfE co (nI n) pa wo ot le ri wk rg ta), (gd, aiE cI 64 u_4.2.1), (fo, cubE u_4.2.2.1), (lt, cubE u_4.2.2.2.1), (wk, wkE sc cd), (sc, cubE u_4.2.2.2.2.1), (cd, cubE u_4.2.2.2.2.2), (ta, ftE fd (nI ((sealT 0).1.length)) gd (nI ((sealT 0).2.length)) 1 fo lt), (fd, aiE cI 64 u_4.1)] := hD
      subst w_6
      exact hret (nI (cntT u_4.1 lim ((sealT 0).1.length))) (1, sealT 0, u_4.1, u_4.2.1, u_4.2.2.1, u_4.2.2.2.1, u_4.2.2.2.2.1, u_4.2.2.2.2.2) _ _ _ _ (⟨by rw [cfoR, if_neg c_1, if_neg c_2, cntT_rep wT.1], ⟨Or.inr ⟨rfl, rfl⟩, wT.1, wT.2⟩⟩) rfl (hP.sub [0, 7, 8, 1, 2, 3, 4, 5, 6] rfl) (hD.sub [0, 7, 8, 1, 2, 3, 4, 5, 6] rfl rfl) hS dX5_countForms_35
    · refine lv_sipush (v := (-10003)) X.1 X.2.1 dX5_countForms_12 (by decide) ?_
      exact hret (-10003) (fl, T, A, B, z1, z2, w1, w2) _ _ _ _ (⟨by rw [cfoR, if_neg c_1, if_pos c_2], ⟨hst, rA, rB⟩⟩) rfl (hP.sub [0, 1, 2, 3, 4, 5, 6, 7, 8] rfl) (hD.sub [0, 1, 2, 3, 4, 5, 6, 7, 8] rfl rfl) hS dX5_countForms_15
set_option maxHeartbeats 4000000 in
set_option maxRecDepth 100000 in
theorem c_CF_countFields (l : Launch) (D : va_G) (cI cJ : ClassId) (h0 : Nat) (co : Nat) (pa : Nat) (wo : Nat) (ot : Nat) (le : Nat) (ri : Nat) (wk : Nat) (rg : Nat) (ta : Nat) (n : Nat) (fd : Nat) (gd : Nat) (fo : Nat) (lt : Nat) (fl : Int32) (T : Tab) (A : Nat → Int32) (B : Nat → Int32) (z1 : Fm) (z2 : Fm) (sc : Nat) (cd : Nat) (w1 : Fm) (w2 : Fm) (lim : Int32) (hst : tabSt fl T) (rA : repR A T.1) (rB : repR B T.2) (hf1 : (sealT 0).1.length ≤ 60) (hf2 : (sealT 0).2.length ≤ 60) : CtI l yX5_countFields cX5_countFields 2 .int (rmk 6 150) D cI cJ [.ref h0, .int lim] [(h0, cfE co (nI n) pa wo ot le ri wk rg ta), (ta, ftE fd (nI T.1.length) gd (nI T.2.length) fl fo lt), (fd, aiE cI 64 A), (gd, aiE cI 64 B), (fo, cubE z1), (lt, cubE z2), (wk, wkE sc cd), (sc, cubE w1), (cd, cubE w2)] (fun (u : Int32 × Tab × (Nat → Int32) × (Nat → Int32) × Fm × Fm × Fm × Fm) => [(h0, cfE co (nI n) pa wo ot le ri wk rg ta), (ta, ftE fd (nI u.2.1.1.length) gd (nI u.2.1.2.length) u.1 fo lt), (fd, aiE cI 64 u.2.2.1), (gd, aiE cI 64 u.2.2.2.1), (fo, cubE u.2.2.2.2.1), (lt, cubE u.2.2.2.2.2.1), (wk, wkE sc cd), (sc, cubE u.2.2.2.2.2.2.1), (cd, cubE u.2.2.2.2.2.2.2)]) (fun (r : Int32) (u : Int32 × Tab × (Nat → Int32) × (Nat → Int32) × Fm × Fm × Fm × Fm) => r = cfiR lim ∧ tabSt u.1 u.2.1 ∧ repR u.2.2.1 u.2.1.1 ∧ repR u.2.2.2.1 u.2.1.2) := by
  refine CtI.of (own := RX5) (by decide +kernel) (Nat.le_of_ble_eq_true rfl) rfl ?_
  intro pr_ en_ sg_ me_ ar_ be_ mt_ co_ AA ls QQ X hA hP hD hS hl hret
  have hl : lv_has ls 2 [(0, .ref h0), (1, .int lim)] := hl
  refine lv_iload_n X.1 X.2.1 dX5_countFields_0 rfl (lv_at hl 1 rfl) ?_
  refine lv_iconst (v := 1) X.1 X.2.1 dX5_countFields_1 (by decide) ?_
  refine bi_lt (tgt := 12) X dX5_countFields_2 (by decide) (fun c_1 => ?_) (fun c_1 => ?_)
  · refine lv_sipush (v := (-10003)) X.1 X.2.1 dX5_countFields_12 (by decide) ?_
    exact hret (-10003) (fl, T, A, B, z1, z2, w1, w2) _ _ _ _ (⟨by rw [cfiR, if_pos c_1], ⟨hst, rA, rB⟩⟩) rfl (hP.sub [0, 1, 2, 3, 4, 5, 6, 7, 8] rfl) (hD.sub [0, 1, 2, 3, 4, 5, 6, 7, 8] rfl rfl) hS dX5_countFields_15
  · refine lv_iload_n X.1 X.2.1 dX5_countFields_5 rfl (lv_at hl 1 rfl) ?_
    refine lv_sipush (v := 1000) X.1 X.2.1 dX5_countFields_6 (by decide) ?_
    refine bi_le (tgt := 16) X dX5_countFields_9 (by decide) (fun c_2 => ?_) (fun c_2 => ?_)
    · refine lv_aload_n X.1 X.2.1 dX5_countFields_16 rfl (lv_at hl 0 rfl) ?_
      refine gf_X5_59 (v := .ref ta) X hP 0 rfl rfl dX5_countFields_17 ?_
      refine lv_aload_n X.1 X.2.1 dX5_countFields_20 rfl (lv_at hl 0 rfl) ?_
      refine gf_X5_45 (v := .ref wk) X hP 0 rfl rfl dX5_countFields_21 ?_
      refine fin_v (wr := [(h0, cfE co (nI n) pa wo ot le ri wk rg ta)]) (cv_X5_185 X (c_FT_fillOnce l D cI cJ ta fd gd fo lt fl T A B z1 z2 w1 w2 wk sc cd hst rA rB hf1 hf2 _) rfl rfl dX5_countFields_24 hP hD 1 rfl [1, 2, 3, 4, 5, 6, 7, 8] rfl rfl hl.1 rfl rfl (Nat.le_of_ble_eq_true rfl) ⟨Nat.le_of_ble_eq_true rfl, Nat.le_of_ble_eq_true rfl⟩ ⟨Nat.le_of_ble_eq_true rfl, Nat.le_of_ble_eq_true rfl⟩) hP hD hS hA [1, 2, 3, 4, 5, 6, 7, 8] [0] rfl rfl rfl (by decide) (fun u_4 H locs w_3 hP hD hS => ?_)
      have hP : va_P D vwCl [(h0, cfE co (nI n) pa wo ot le ri wk rg ta), (ta, ftE fd (nI (sealT 0).1.length) gd (nI (sealT 0).2.length) 1 fo lt), (fd, aiE cI 64 u_4.1), (gd, aiE cI 64 u_4.2.1), (fo, cubE u_4.2.2.1), (lt, cubE u_4.2.2.2.1), (wk, wkE sc cd), (sc, cubE u_4.2.2.2.2.1), (cd, cubE u_4.2.2.2.2.2)] H := hP
      have hD : va_D AA [(h0, cfE co (nI n) pa wo ot le ri wk rg ta), (ta, ftE fd (nI (sealT 0).1.length) gd (nI (sealT 0).2.length) 1 fo lt), (fd, aiE cI 64 u_4.1), (gd, aiE cI 64 u_4.2.1), (fo, cubE u_4.2.2.1), (lt, cubE u_4.2.2.2.1), (wk, wkE sc cd), (sc, cubE u_4.2.2.2.2.1), (cd, cubE u_4.2.2.2.2.2)] := hD
      have wT := w_3
      refine lv_aload_n X.1 X.2.1 dX5_countFields_27 rfl (lv_at hl 0 rfl) ?_
      refine gf_X5_59 (v := .ref ta) X hP 0 rfl rfl dX5_countFields_28 ?_
      refine lv_iload_n X.1 X.2.1 dX5_countFields_31 rfl (lv_at hl 1 rfl) ?_
      refine fin_i (wr := [(h0, cfE co (nI n) pa wo ot le ri wk rg ta), (fd, aiE cI 64 u_4.1), (fo, cubE u_4.2.2.1), (lt, cubE u_4.2.2.2.1), (wk, wkE sc cd), (sc, cubE u_4.2.2.2.2.1), (cd, cubE u_4.2.2.2.2.2)]) (cv_X5_193 X (c_FT_countFieldsTo l D cI cJ ta fd gd fo lt ((sealT 0).1.length) ((sealT 0).2.length) 1 u_4.2.1 lim (by omega) _) rfl rfl dX5_countFields_32 hP hD 1 rfl [1, 3] rfl rfl hl.1 rfl rfl (Nat.le_of_ble_eq_true rfl) ⟨Nat.le_of_ble_eq_true rfl, Nat.le_of_ble_eq_true rfl⟩ ⟨Nat.le_of_ble_eq_true rfl, Nat.le_of_ble_eq_true rfl⟩) hP hD hS hA [1, 3] [0, 2, 4, 5, 6, 7, 8] rfl rfl rfl (by decide) (fun r_8 u_7 H locs w_6 hP hD hS => ?_)
      have hP : va_P D vwCl [(h0, cfE co (nI n) pa wo ot le ri wk rg ta), (fd, aiE cI 64 u_4.1), (fo, cubE u_4.2.2.1), (lt, cubE u_4.2.2.2.1), (wk, wkE sc cd), (sc, cubE u_4.2.2.2.2.1), (cd, cubE u_4.2.2.2.2.2), (ta, ftE fd (nI ((sealT 0).1.length)) gd (nI ((sealT 0).2.length)) 1 fo lt), (gd, aiE cI 64 u_4.2.1)] H := hP
      have hD : va_D AA [(h0, cfE co (nI n) pa wo ot le ri wk rg ta), (fd, aiE cI 64 u_4.1), (fo, cubE u_4.2.2.1), (lt, cubE u_4.2.2.2.1), (wk, wkE sc cd), (sc, cubE u_4.2.2.2.2.1), (cd, cubE u_4.2.2.2.2.2), (ta, ftE fd (nI ((sealT 0).1.length)) gd (nI ((sealT 0).2.length)) 1 fo lt), (gd, aiE cI 64 u_4.2.1)] := hD
      subst w_6
      exact hret (nI (cntT u_4.2.1 lim ((sealT 0).2.length))) (1, sealT 0, u_4.1, u_4.2.1, u_4.2.2.1, u_4.2.2.2.1, u_4.2.2.2.2.1, u_4.2.2.2.2.2) _ _ _ _ (⟨by rw [cfiR, if_neg c_1, if_neg c_2, cntT_rep wT.2], ⟨Or.inr ⟨rfl, rfl⟩, wT.1, wT.2⟩⟩) rfl (hP.sub [0, 7, 1, 8, 2, 3, 4, 5, 6] rfl) (hD.sub [0, 7, 1, 8, 2, 3, 4, 5, 6] rfl rfl) hS dX5_countFields_35
    · refine lv_sipush (v := (-10003)) X.1 X.2.1 dX5_countFields_12 (by decide) ?_
      exact hret (-10003) (fl, T, A, B, z1, z2, w1, w2) _ _ _ _ (⟨by rw [cfiR, if_neg c_1, if_pos c_2], ⟨hst, rA, rB⟩⟩) rfl (hP.sub [0, 1, 2, 3, 4, 5, 6, 7, 8] rfl) (hD.sub [0, 1, 2, 3, 4, 5, 6, 7, 8] rfl rfl) hS dX5_countFields_15
set_option maxHeartbeats 4000000 in
set_option maxRecDepth 100000 in
theorem c_CF_fieldDiscriminant (l : Launch) (D : va_G) (cI cJ : ClassId) (h0 : Nat) (co : Nat) (pa : Nat) (wo : Nat) (ot : Nat) (le : Nat) (ri : Nat) (wk : Nat) (rg : Nat) (ta : Nat) (n : Nat) (fd : Nat) (gd : Nat) (fo : Nat) (lt : Nat) (fl : Int32) (T : Tab) (A : Nat → Int32) (B : Nat → Int32) (z1 : Fm) (z2 : Fm) (sc : Nat) (cd : Nat) (w1 : Fm) (w2 : Fm) (x : Int32) (hst : tabSt fl T) (rA : repR A T.1) (rB : repR B T.2) (hf1 : (sealT 0).1.length ≤ 60) (hf2 : (sealT 0).2.length ≤ 60) : CtI l yX5_fieldDiscriminant cX5_fieldDiscriminant 2 .int (rmk 6 150) D cI cJ [.ref h0, .int x] [(h0, cfE co (nI n) pa wo ot le ri wk rg ta), (ta, ftE fd (nI T.1.length) gd (nI T.2.length) fl fo lt), (fd, aiE cI 64 A), (gd, aiE cI 64 B), (fo, cubE z1), (lt, cubE z2), (wk, wkE sc cd), (sc, cubE w1), (cd, cubE w2)] (fun (u : Int32 × Tab × (Nat → Int32) × (Nat → Int32) × Fm × Fm × Fm × Fm) => [(h0, cfE co (nI n) pa wo ot le ri wk rg ta), (ta, ftE fd (nI u.2.1.1.length) gd (nI u.2.1.2.length) u.1 fo lt), (fd, aiE cI 64 u.2.2.1), (gd, aiE cI 64 u.2.2.2.1), (fo, cubE u.2.2.2.2.1), (lt, cubE u.2.2.2.2.2.1), (wk, wkE sc cd), (sc, cubE u.2.2.2.2.2.2.1), (cd, cubE u.2.2.2.2.2.2.2)]) (fun (r : Int32) (u : Int32 × Tab × (Nat → Int32) × (Nat → Int32) × Fm × Fm × Fm × Fm) => r = fdiR x ∧ tabSt u.1 u.2.1 ∧ repR u.2.2.1 u.2.1.1 ∧ repR u.2.2.2.1 u.2.1.2) := by
  refine CtI.of (own := RX5) (by decide +kernel) (Nat.le_of_ble_eq_true rfl) rfl ?_
  intro pr_ en_ sg_ me_ ar_ be_ mt_ co_ AA ls QQ X hA hP hD hS hl hret
  have hl : lv_has ls 2 [(0, .ref h0), (1, .int x)] := hl
  refine lv_iload_n X.1 X.2.1 dX5_fieldDiscriminant_0 rfl (lv_at hl 1 rfl) ?_
  refine bz_ge (tgt := 8) X dX5_fieldDiscriminant_1 (by decide) (fun c_1 => ?_) (fun c_1 => ?_)
  · refine lv_aload_n X.1 X.2.1 dX5_fieldDiscriminant_8 rfl (lv_at hl 0 rfl) ?_
    refine gf_X5_59 (v := .ref ta) X hP 0 rfl rfl dX5_fieldDiscriminant_9 ?_
    refine lv_aload_n X.1 X.2.1 dX5_fieldDiscriminant_12 rfl (lv_at hl 0 rfl) ?_
    refine gf_X5_45 (v := .ref wk) X hP 0 rfl rfl dX5_fieldDiscriminant_13 ?_
    refine fin_v (wr := [(h0, cfE co (nI n) pa wo ot le ri wk rg ta)]) (cv_X5_185 X (c_FT_fillOnce l D cI cJ ta fd gd fo lt fl T A B z1 z2 w1 w2 wk sc cd hst rA rB hf1 hf2 _) rfl rfl dX5_fieldDiscriminant_16 hP hD 1 rfl [1, 2, 3, 4, 5, 6, 7, 8] rfl rfl hl.1 rfl rfl (Nat.le_of_ble_eq_true rfl) ⟨Nat.le_of_ble_eq_true rfl, Nat.le_of_ble_eq_true rfl⟩ ⟨Nat.le_of_ble_eq_true rfl, Nat.le_of_ble_eq_true rfl⟩) hP hD hS hA [1, 2, 3, 4, 5, 6, 7, 8] [0] rfl rfl rfl (by decide) (fun u_3 H locs w_2 hP hD hS => ?_)
    have hP : va_P D vwCl [(h0, cfE co (nI n) pa wo ot le ri wk rg ta), (ta, ftE fd (nI (sealT 0).1.length) gd (nI (sealT 0).2.length) 1 fo lt), (fd, aiE cI 64 u_3.1), (gd, aiE cI 64 u_3.2.1), (fo, cubE u_3.2.2.1), (lt, cubE u_3.2.2.2.1), (wk, wkE sc cd), (sc, cubE u_3.2.2.2.2.1), (cd, cubE u_3.2.2.2.2.2)] H := hP
    have hD : va_D AA [(h0, cfE co (nI n) pa wo ot le ri wk rg ta), (ta, ftE fd (nI (sealT 0).1.length) gd (nI (sealT 0).2.length) 1 fo lt), (fd, aiE cI 64 u_3.1), (gd, aiE cI 64 u_3.2.1), (fo, cubE u_3.2.2.1), (lt, cubE u_3.2.2.2.1), (wk, wkE sc cd), (sc, cubE u_3.2.2.2.2.1), (cd, cubE u_3.2.2.2.2.2)] := hD
    have wT := w_2
    refine lv_iload_n X.1 X.2.1 dX5_fieldDiscriminant_19 rfl (lv_at hl 1 rfl) ?_
    refine lv_aload_n X.1 X.2.1 dX5_fieldDiscriminant_20 rfl (lv_at hl 0 rfl) ?_
    refine gf_X5_59 (v := .ref ta) X hP 0 rfl rfl dX5_fieldDiscriminant_21 ?_
    refine gf_X5_196 (v := .int (nI (sealT 0).2.length)) X hP 1 rfl rfl dX5_fieldDiscriminant_24 ?_
    refine bi_ge (tgt := 42) X dX5_fieldDiscriminant_27 (by decide) (fun c_5 => ?_) (fun c_5 => ?_)
    · refine lv_sipush (v := (-10008)) X.1 X.2.1 dX5_fieldDiscriminant_42 (by decide) ?_
      exact hret (-10008) (1, sealT 0, u_3.1, u_3.2.1, u_3.2.2.1, u_3.2.2.2.1, u_3.2.2.2.2.1, u_3.2.2.2.2.2) _ _ _ _ (⟨by rw [fdiR, if_neg c_1, if_neg c_5], ⟨Or.inr ⟨rfl, rfl⟩, wT.1, wT.2⟩⟩) rfl (hP.sub [0, 1, 2, 3, 4, 5, 6, 7, 8] rfl) (hD.sub [0, 1, 2, 3, 4, 5, 6, 7, 8] rfl rfl) hS dX5_fieldDiscriminant_45
    · refine lv_aload_n X.1 X.2.1 dX5_fieldDiscriminant_30 rfl (lv_at hl 0 rfl) ?_
      refine gf_X5_59 (v := .ref ta) X hP 0 rfl rfl dX5_fieldDiscriminant_31 ?_
      refine gf_X5_199 (v := .ref gd) X hP 1 rfl rfl dX5_fieldDiscriminant_34 ?_
      refine lv_iload_n X.1 X.2.1 dX5_fieldDiscriminant_37 rfl (lv_at hl 1 rfl) ?_
      obtain ⟨k, hk, hx⟩ := nI_of c_1
      have hkl : k < (sealT 0).2.length := (nI_ltI hk (by omega)).mp (hx ▸ c_5)
      refine va_iald X.1 X.2.1 X.k hP 3 0 rfl rfl (by rw [hx]; exact vp_in_nI (by omega) (by omega)) dX5_fieldDiscriminant_38 ?_
      refine lv_goto (tgt := 45) X.1 X.2.1 dX5_fieldDiscriminant_39 (by decide) ?_
      exact hret (u_3.2.1 x.toNatClampNeg) (1, sealT 0, u_3.1, u_3.2.1, u_3.2.2.1, u_3.2.2.2.1, u_3.2.2.2.2.1, u_3.2.2.2.2.2) _ _ _ _ (⟨by rw [fdiR, if_neg c_1, if_pos c_5, hx, nI_clamp hk, nth_rep wT.2 hkl], ⟨Or.inr ⟨rfl, rfl⟩, wT.1, wT.2⟩⟩) rfl (hP.sub [0, 1, 2, 3, 4, 5, 6, 7, 8] rfl) (hD.sub [0, 1, 2, 3, 4, 5, 6, 7, 8] rfl rfl) hS dX5_fieldDiscriminant_45
  · refine lv_sipush (v := (-10003)) X.1 X.2.1 dX5_fieldDiscriminant_4 (by decide) ?_
    exact hret (-10003) (fl, T, A, B, z1, z2, w1, w2) _ _ _ _ (⟨by rw [fdiR, if_pos c_1], ⟨hst, rA, rB⟩⟩) rfl (hP.sub [0, 1, 2, 3, 4, 5, 6, 7, 8] rfl) (hD.sub [0, 1, 2, 3, 4, 5, 6, 7, 8] rfl rfl) hS dX5_fieldDiscriminant_7
