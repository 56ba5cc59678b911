set_option maxHeartbeats 4000000 in
set_option maxRecDepth 100000 in
theorem m_multiply (l : Launch) (D : va_G) (cI cJ : ClassId) (h0 : Nat) (st : Nat) (he : Nat) (ma : Nat) (tr : Nat) (fo : Nat) (gi : Nat) (n : Nat) (f : Fm) (k : Fm) (p : Em) (t : Fm) (tb : Int32) (C : Nat → Int32) (G : Nat → Int32) (x : Int32) (a : Int32) (b : Int32) (c : Int32) (hn : n ≤ 60) : CtI l yX6_multiply cX6_multiply 5 .int (rmk 2 46) D cI cJ [.ref h0, .int x, .int a, .int b, .int c] [(h0, moE (nI n) st f k he p ma tr t tb fo gi), (st, aiE cI 240 C), (he, aiE cI 18 G)] (fun (u : Fm × Em) => [(h0, moE (nI n) st u.1 k he u.2 ma tr t tb fo gi), (st, aiE cI 240 C), (he, aiE cI 18 (regS G c (mulO n C G x a b c)))]) (fun (r : Int32) (u : Fm × Em) => r = mulR (mulO n C G x a b c)) := by
  refine CtI.of (own := RX6) (by decide +kernel) (Nat.le_of_ble_eq_true rfl) rfl ?_
  intro pr_ en_ sg_ me_ ar_ be_ mt_ co_ AA ls QQ X hA hP hD hS hl hret
  have hl : lv_has ls 5 [(0, .ref h0), (1, .int x), (2, .int a), (3, .int b), (4, .int c)] := hl
  refine lv_aload_n X.1 X.2.1 dX6_multiply_0 rfl (lv_at hl 0 rfl) ?_
  refine lv_iload_n X.1 X.2.1 dX6_multiply_1 rfl (lv_at hl 1 rfl) ?_
  refine fin_i (wr := [(st, aiE cI 240 C), (he, aiE cI 18 G)]) (cv_X6_66 X (m_isForm l D cI cJ h0 st he ma tr fo gi n f k p t tb x (by first | assumption | omega) _) rfl rfl dX6_multiply_2 hP hD 0 rfl [0] rfl rfl hl.1 rfl rfl (Nat.le_of_ble_eq_true rfl) ⟨Nat.le_of_ble_eq_true rfl, Nat.le_of_ble_eq_true rfl⟩ ⟨Nat.le_of_ble_eq_true rfl, Nat.le_of_ble_eq_true rfl⟩) hP hD hS hA [0] [1, 2] rfl rfl rfl (by decide) (fun r_3 u_2 H locs w_1 hP hD hS => ?_)
  have hP : va_P D vwCl [(st, aiE cI 240 C), (he, aiE cI 18 G), (h0, moE (nI n) st f k he p ma tr t tb fo gi)] H := hP
  have hD : va_D AA [(st, aiE cI 240 C), (he, aiE cI 18 G), (h0, moE (nI n) st f k he p ma tr t tb fo gi)] := hD
  subst w_1
  refine bb_ne (tgt := 12) X dX6_multiply_5 (by decide) (fun c_4 => ?_) (fun c_4 => ?_)
  · refine lv_iload_n X.1 X.2.1 dX6_multiply_12 rfl (lv_at hl 2 rfl) ?_
    refine fin_i (wr := [(st, aiE cI 240 C), (he, aiE cI 18 G), (h0, moE (nI n) st f k he p ma tr t tb fo gi)]) (cv_X6_170 X (m_isRegister l D cI cJ a  _) rfl rfl dX6_multiply_13 hP hD [] rfl rfl hl.1 rfl rfl (Nat.le_of_ble_eq_true rfl) ⟨Nat.le_of_ble_eq_true rfl, Nat.le_of_ble_eq_true rfl⟩ ⟨Nat.le_of_ble_eq_true rfl, Nat.le_of_ble_eq_true rfl⟩) hP hD hS hA [] [0, 1, 2] rfl rfl rfl (by decide) (fun r_7 u_6 H locs w_5 hP hD hS => ?_)
    have hP : va_P D vwCl [(st, aiE cI 240 C), (he, aiE cI 18 G), (h0, moE (nI n) st f k he p ma tr t tb fo gi)] H := hP
    have hD : va_D AA [(st, aiE cI 240 C), (he, aiE cI 18 G), (h0, moE (nI n) st f k he p ma tr t tb fo gi)] := hD
    subst w_5
    refine bb_eq (tgt := 34) X dX6_multiply_16 (by decide) (fun c_8 => ?_) (fun c_8 => ?_)
    · have eo : mulO n C G x a b c = .inl (-10002) := by rw [mulO, if_pos c_4, if_neg (by rw [c_8]; decide)]
      have hP : va_P D vwCl [(st, aiE cI 240 C), (he, aiE cI 18 (regS G c (mulO n C G x a b c))), (h0, moE (nI n) st f k he p ma tr t tb fo gi)] H := by rw [eo]; exact hP
      have hD : va_D AA [(st, aiE cI 240 C), (he, aiE cI 18 (regS G c (mulO n C G x a b c))), (h0, moE (nI n) st f k he p ma tr t tb fo gi)] := by rw [eo]; exact hD
      refine lv_sipush (v := (-10002)) X.1 X.2.1 dX6_multiply_34 (by decide) ?_
      exact hret (-10002) (f, p) _ _ _ _ (by rw [eo]; rfl) rfl (hP.sub [2, 0, 1] rfl) (hD.sub [2, 0, 1] rfl rfl) hS dX6_multiply_37
    · refine lv_iload_n X.1 X.2.1 dX6_multiply_19 rfl (lv_at hl 3 rfl) ?_
      refine fin_i (wr := [(st, aiE cI 240 C), (he, aiE cI 18 G), (h0, moE (nI n) st f k he p ma tr t tb fo gi)]) (cv_X6_170 X (m_isRegister l D cI cJ b  _) rfl rfl dX6_multiply_20 hP hD [] rfl rfl hl.1 rfl rfl (Nat.le_of_ble_eq_true rfl) ⟨Nat.le_of_ble_eq_true rfl, Nat.le_of_ble_eq_true rfl⟩ ⟨Nat.le_of_ble_eq_true rfl, Nat.le_of_ble_eq_true rfl⟩) hP hD hS hA [] [0, 1, 2] rfl rfl rfl (by decide) (fun r_11 u_10 H locs w_9 hP hD hS => ?_)
      have hP : va_P D vwCl [(st, aiE cI 240 C), (he, aiE cI 18 G), (h0, moE (nI n) st f k he p ma tr t tb fo gi)] H := hP
      have hD : va_D AA [(st, aiE cI 240 C), (he, aiE cI 18 G), (h0, moE (nI n) st f k he p ma tr t tb fo gi)] := hD
      subst w_9
      refine bb_eq (tgt := 34) X dX6_multiply_23 (by decide) (fun c_12 => ?_) (fun c_12 => ?_)
      · have eo : mulO n C G x a b c = .inl (-10002) := by rw [mulO, if_pos c_4, if_pos c_8, if_neg (by rw [c_12]; decide)]
        have hP : va_P D vwCl [(st, aiE cI 240 C), (he, aiE cI 18 (regS G c (mulO n C G x a b c))), (h0, moE (nI n) st f k he p ma tr t tb fo gi)] H := by rw [eo]; exact hP
        have hD : va_D AA [(st, aiE cI 240 C), (he, aiE cI 18 (regS G c (mulO n C G x a b c))), (h0, moE (nI n) st f k he p ma tr t tb fo gi)] := by rw [eo]; exact hD
        refine lv_sipush (v := (-10002)) X.1 X.2.1 dX6_multiply_34 (by decide) ?_
        exact hret (-10002) (f, p) _ _ _ _ (by rw [eo]; rfl) rfl (hP.sub [2, 0, 1] rfl) (hD.sub [2, 0, 1] rfl rfl) hS dX6_multiply_37
      · refine lv_iload X.1 X.2.1 dX6_multiply_26 (lv_at hl 4 rfl) ?_
        refine fin_i (wr := [(st, aiE cI 240 C), (he, aiE cI 18 G), (h0, moE (nI n) st f k he p ma tr t tb fo gi)]) (cv_X6_170 X (m_isRegister l D cI cJ c  _) rfl rfl dX6_multiply_28 hP hD [] rfl rfl hl.1 rfl rfl (Nat.le_of_ble_eq_true rfl) ⟨Nat.le_of_ble_eq_true rfl, Nat.le_of_ble_eq_true rfl⟩ ⟨Nat.le_of_ble_eq_true rfl, Nat.le_of_ble_eq_true rfl⟩) hP hD hS hA [] [0, 1, 2] rfl rfl rfl (by decide) (fun r_15 u_14 H locs w_13 hP hD hS => ?_)
        have hP : va_P D vwCl [(st, aiE cI 240 C), (he, aiE cI 18 G), (h0, moE (nI n) st f k he p ma tr t tb fo gi)] H := hP
        have hD : va_D AA [(st, aiE cI 240 C), (he, aiE cI 18 G), (h0, moE (nI n) st f k he p ma tr t tb fo gi)] := hD
        subst w_13
        refine bb_ne (tgt := 38) X dX6_multiply_31 (by decide) (fun c_16 => ?_) (fun c_16 => ?_)
        · obtain ⟨k1, hk1, hxk1⟩ := isRegB_out c_8
          rw [hxk1] at hl
          have hck1 : a.toNatClampNeg = k1 := by rw [hxk1]; exact nI_clamp (by omega)
          obtain ⟨k2, hk2, hxk2⟩ := isRegB_out c_12
          rw [hxk2] at hl
          have hck2 : b.toNatClampNeg = k2 := by rw [hxk2]; exact nI_clamp (by omega)
          obtain ⟨k3, hk3, hxk3⟩ := isRegB_out c_16
          rw [hxk3] at hl
          have hck3 : c.toNatClampNeg = k3 := by rw [hxk3]; exact nI_clamp (by omega)
          refine lv_aload_n X.1 X.2.1 dX6_multiply_38 rfl (lv_at hl 0 rfl) ?_
          refine lv_iload_n X.1 X.2.1 dX6_multiply_39 rfl (lv_at hl 1 rfl) ?_
          refine fin_v (wr := [(he, aiE cI 18 G)]) (cv_X6_82 X (m_load l D cI cJ h0 st he ma tr fo gi n f k p t tb C x hn c_4 _) rfl rfl dX6_multiply_40 hP hD 2 rfl [2, 0] rfl rfl hl.1 rfl rfl (Nat.le_of_ble_eq_true rfl) ⟨Nat.le_of_ble_eq_true rfl, Nat.le_of_ble_eq_true rfl⟩ ⟨Nat.le_of_ble_eq_true rfl, Nat.le_of_ble_eq_true rfl⟩) hP hD hS hA [2, 0] [1] rfl rfl rfl (by decide) (fun u_18 H locs w_17 hP hD hS => ?_)
          have hP : va_P D vwCl [(he, aiE cI 18 G), (h0, moE (nI n) st (ldF C x.toNatClampNeg) k he p ma tr t tb fo gi), (st, aiE cI 240 C)] H := hP
          have hD : va_D AA [(he, aiE cI 18 G), (h0, moE (nI n) st (ldF C x.toNatClampNeg) k he p ma tr t tb fo gi), (st, aiE cI 240 C)] := hD
          refine lv_aload_n X.1 X.2.1 dX6_multiply_43 rfl (lv_at hl 0 rfl) ?_
          refine lv_aload_n X.1 X.2.1 dX6_multiply_44 rfl (lv_at hl 0 rfl) ?_
          refine gf_X6_13 (v := .ref he) X hP 1 rfl rfl dX6_multiply_45 ?_
          refine lv_iconst (v := 3) X.1 X.2.1 dX6_multiply_48 (by decide) ?_
          refine lv_iload_n X.1 X.2.1 dX6_multiply_49 rfl (lv_at hl 2 rfl) ?_
          refine lv_imul X.1 X.2.1 dX6_multiply_50 ?_
          rw [nI_3l]
          refine va_iald X.1 X.2.1 X.k hP 0 0 rfl rfl (vp_in_nI (by omega) (by omega)) dX6_multiply_51 ?_
          refine lv_i2l X.1 X.2.1 dX6_multiply_52 rfl ?_
          refine lv_aload_n X.1 X.2.1 dX6_multiply_53 rfl (lv_at hl 0 rfl) ?_
          refine gf_X6_13 (v := .ref he) X hP 1 rfl rfl dX6_multiply_54 ?_
          refine lv_iconst (v := 3) X.1 X.2.1 dX6_multiply_57 (by decide) ?_
          refine lv_iload_n X.1 X.2.1 dX6_multiply_58 rfl (lv_at hl 2 rfl) ?_
          refine lv_imul X.1 X.2.1 dX6_multiply_59 ?_
          refine lv_iconst (v := 1) X.1 X.2.1 dX6_multiply_60 (by decide) ?_
          refine lv_iadd X.1 X.2.1 dX6_multiply_61 ?_
          rw [nI_3l, nI_1]
          refine va_iald X.1 X.2.1 X.k hP 0 0 rfl rfl (vp_in_nI (by omega) (by omega)) dX6_multiply_62 ?_
          refine lv_i2l X.1 X.2.1 dX6_multiply_63 rfl ?_
          refine lv_aload_n X.1 X.2.1 dX6_multiply_64 rfl (lv_at hl 0 rfl) ?_
          refine gf_X6_13 (v := .ref he) X hP 1 rfl rfl dX6_multiply_65 ?_
          refine lv_iconst (v := 3) X.1 X.2.1 dX6_multiply_68 (by decide) ?_
          refine lv_iload_n X.1 X.2.1 dX6_multiply_69 rfl (lv_at hl 2 rfl) ?_
          refine lv_imul X.1 X.2.1 dX6_multiply_70 ?_
          refine lv_iconst (v := 2) X.1 X.2.1 dX6_multiply_71 (by decide) ?_
          refine lv_iadd X.1 X.2.1 dX6_multiply_72 ?_
          rw [nI_3l, nI_2]
          refine va_iald X.1 X.2.1 X.k hP 0 0 rfl rfl (vp_in_nI (by omega) (by omega)) dX6_multiply_73 ?_
          refine lv_i2l X.1 X.2.1 dX6_multiply_74 rfl ?_
          refine lv_aload_n X.1 X.2.1 dX6_multiply_75 rfl (lv_at hl 0 rfl) ?_
          refine gf_X6_13 (v := .ref he) X hP 1 rfl rfl dX6_multiply_76 ?_
          refine lv_iconst (v := 3) X.1 X.2.1 dX6_multiply_79 (by decide) ?_
          refine lv_iload_n X.1 X.2.1 dX6_multiply_80 rfl (lv_at hl 3 rfl) ?_
          refine lv_imul X.1 X.2.1 dX6_multiply_81 ?_
          rw [nI_3l]
          refine va_iald X.1 X.2.1 X.k hP 0 0 rfl rfl (vp_in_nI (by omega) (by omega)) dX6_multiply_82 ?_
          refine lv_i2l X.1 X.2.1 dX6_multiply_83 rfl ?_
          refine lv_aload_n X.1 X.2.1 dX6_multiply_84 rfl (lv_at hl 0 rfl) ?_
          refine gf_X6_13 (v := .ref he) X hP 1 rfl rfl dX6_multiply_85 ?_
          refine lv_iconst (v := 3) X.1 X.2.1 dX6_multiply_88 (by decide) ?_
          refine lv_iload_n X.1 X.2.1 dX6_multiply_89 rfl (lv_at hl 3 rfl) ?_
          refine lv_imul X.1 X.2.1 dX6_multiply_90 ?_
          refine lv_iconst (v := 1) X.1 X.2.1 dX6_multiply_91 (by decide) ?_
          refine lv_iadd X.1 X.2.1 dX6_multiply_92 ?_
          rw [nI_3l, nI_1]
          refine va_iald X.1 X.2.1 X.k hP 0 0 rfl rfl (vp_in_nI (by omega) (by omega)) dX6_multiply_93 ?_
          refine lv_i2l X.1 X.2.1 dX6_multiply_94 rfl ?_
          refine lv_aload_n X.1 X.2.1 dX6_multiply_95 rfl (lv_at hl 0 rfl) ?_
          refine gf_X6_13 (v := .ref he) X hP 1 rfl rfl dX6_multiply_96 ?_
          refine lv_iconst (v := 3) X.1 X.2.1 dX6_multiply_99 (by decide) ?_
          refine lv_iload_n X.1 X.2.1 dX6_multiply_100 rfl (lv_at hl 3 rfl) ?_
          refine lv_imul X.1 X.2.1 dX6_multiply_101 ?_
          refine lv_iconst (v := 2) X.1 X.2.1 dX6_multiply_102 (by decide) ?_
          refine lv_iadd X.1 X.2.1 dX6_multiply_103 ?_
          rw [nI_3l, nI_2]
          refine va_iald X.1 X.2.1 X.k hP 0 0 rfl rfl (vp_in_nI (by omega) (by omega)) dX6_multiply_104 ?_
          refine lv_i2l X.1 X.2.1 dX6_multiply_105 rfl ?_
          refine fin_v (wr := [(he, aiE cI 18 G), (st, aiE cI 240 C)]) (cv_X6_182 X (m_product l D cI cJ h0 st he ma tr fo gi n (ldF C x.toNatClampNeg) k p t tb ((G ((nI (3 * k1)).toNatClampNeg)).toInt64) ((G ((nI (3 * k1 + 1)).toNatClampNeg)).toInt64) ((G ((nI (3 * k1 + 2)).toNatClampNeg)).toInt64) ((G ((nI (3 * k2)).toNatClampNeg)).toInt64) ((G ((nI (3 * k2 + 1)).toNatClampNeg)).toInt64) ((G ((nI (3 * k2 + 2)).toNatClampNeg)).toInt64)  _) rfl rfl dX6_multiply_106 hP hD 1 rfl [1] rfl rfl hl.1 rfl rfl (Nat.le_of_ble_eq_true rfl) ⟨Nat.le_of_ble_eq_true rfl, Nat.le_of_ble_eq_true rfl⟩ ⟨Nat.le_of_ble_eq_true rfl, Nat.le_of_ble_eq_true rfl⟩) hP hD hS hA [1] [0, 2] rfl rfl rfl (by decide) (fun u_21 H locs w_20 hP hD hS => ?_)
          have hP : va_P D vwCl [(he, aiE cI 18 G), (st, aiE cI 240 C), (h0, moE (nI n) st (ldF C x.toNatClampNeg) k he (prodE (ldF C x.toNatClampNeg) (((G ((nI (3 * k1)).toNatClampNeg)).toInt64), ((G ((nI (3 * k1 + 1)).toNatClampNeg)).toInt64), ((G ((nI (3 * k1 + 2)).toNatClampNeg)).toInt64)) (((G ((nI (3 * k2)).toNatClampNeg)).toInt64), ((G ((nI (3 * k2 + 1)).toNatClampNeg)).toInt64), ((G ((nI (3 * k2 + 2)).toNatClampNeg)).toInt64))) ma tr t tb fo gi)] H := hP
          have hD : va_D AA [(he, aiE cI 18 G), (st, aiE cI 240 C), (h0, moE (nI n) st (ldF C x.toNatClampNeg) k he (prodE (ldF C x.toNatClampNeg) (((G ((nI (3 * k1)).toNatClampNeg)).toInt64), ((G ((nI (3 * k1 + 1)).toNatClampNeg)).toInt64), ((G ((nI (3 * k1 + 2)).toNatClampNeg)).toInt64)) (((G ((nI (3 * k2)).toNatClampNeg)).toInt64), ((G ((nI (3 * k2 + 1)).toNatClampNeg)).toInt64), ((G ((nI (3 * k2 + 2)).toNatClampNeg)).toInt64))) ma tr t tb fo gi)] := hD
          rw [nI_clamp (show 3 * k1 < 2 ^ 31 by omega), nI_clamp (show 3 * k1 + 1 < 2 ^ 31 by omega), nI_clamp (show 3 * k1 + 2 < 2 ^ 31 by omega), nI_clamp (show 3 * k2 < 2 ^ 31 by omega), nI_clamp (show 3 * k2 + 1 < 2 ^ 31 by omega), nI_clamp (show 3 * k2 + 2 < 2 ^ 31 by omega)] at hP hD
          have ep0 : prodE (ldF C x.toNatClampNeg) (ldE G a.toNatClampNeg) (ldE G b.toNatClampNeg) = prodE (ldF C x.toNatClampNeg) (((G ((3 * k1))).toInt64), ((G ((3 * k1 + 1))).toInt64), ((G ((3 * k1 + 2))).toInt64)) (((G ((3 * k2))).toInt64), ((G ((3 * k2 + 1))).toInt64), ((G ((3 * k2 + 2))).toInt64)) := by rw [hck1, hck2]; rfl
          rw [← ep0] at hP hD
          refine lv_aload_n X.1 X.2.1 dX6_multiply_109 rfl (lv_at hl 0 rfl) ?_
          refine gf_X6_173 (v := .long ((prodE (ldF C x.toNatClampNeg) (ldE G a.toNatClampNeg) (ldE G b.toNatClampNeg)).1)) X hP 2 rfl rfl dX6_multiply_110 ?_
          refine lc_X6_113 X dX6_multiply_113 ?_
          refine lc_X6_115 X dX6_multiply_116 ?_
          refine fin_i (wr := [(he, aiE cI 18 G), (st, aiE cI 240 C), (h0, moE (nI n) st (ldF C x.toNatClampNeg) k he (prodE (ldF C x.toNatClampNeg) (ldE G a.toNatClampNeg) (ldE G b.toNatClampNeg)) ma tr t tb fo gi)]) (cv_X6_33 X (m_isBetween l D cI cJ ((prodE (ldF C x.toNatClampNeg) (ldE G a.toNatClampNeg) (ldE G b.toNatClampNeg)).1) (-100) 100  _) rfl rfl dX6_multiply_119 hP hD [] rfl rfl hl.1 rfl rfl (Nat.le_of_ble_eq_true rfl) ⟨Nat.le_of_ble_eq_true rfl, Nat.le_of_ble_eq_true rfl⟩ ⟨Nat.le_of_ble_eq_true rfl, Nat.le_of_ble_eq_true rfl⟩) hP hD hS hA [] [0, 1, 2] rfl rfl rfl (by decide) (fun r_25 u_24 H locs w_23 hP hD hS => ?_)
          have hP : va_P D vwCl [(he, aiE cI 18 G), (st, aiE cI 240 C), (h0, moE (nI n) st (ldF C x.toNatClampNeg) k he (prodE (ldF C x.toNatClampNeg) (ldE G a.toNatClampNeg) (ldE G b.toNatClampNeg)) ma tr t tb fo gi)] H := hP
          have hD : va_D AA [(he, aiE cI 18 G), (st, aiE cI 240 C), (h0, moE (nI n) st (ldF C x.toNatClampNeg) k he (prodE (ldF C x.toNatClampNeg) (ldE G a.toNatClampNeg) (ldE G b.toNatClampNeg)) ma tr t tb fo gi)] := hD
          subst w_23
          refine bb_eq (tgt := 157) X dX6_multiply_122 (by decide) (fun c_26 => ?_) (fun c_26 => ?_)
          · have ef : fitsE (prodE (ldF C x.toNatClampNeg) (ldE G a.toNatClampNeg) (ldE G b.toNatClampNeg)) = false := by simp only [fitsE, ← btw_isW1, c_26, Bool.and_true, Bool.true_and, Bool.and_false, Bool.false_and]
            have eo : mulO n C G x a b c = .inl (-10005) := by rw [mulO, if_pos c_4, if_pos c_8, if_pos c_12, if_pos c_16, if_neg (by rw [ef]; decide)]
            have hP : va_P D vwCl [(he, aiE cI 18 (regS G c (mulO n C G x a b c))), (st, aiE cI 240 C), (h0, moE (nI n) st (ldF C x.toNatClampNeg) k he (prodE (ldF C x.toNatClampNeg) (ldE G a.toNatClampNeg) (ldE G b.toNatClampNeg)) ma tr t tb fo gi)] H := by rw [eo]; exact hP
            have hD : va_D AA [(he, aiE cI 18 (regS G c (mulO n C G x a b c))), (st, aiE cI 240 C), (h0, moE (nI n) st (ldF C x.toNatClampNeg) k he (prodE (ldF C x.toNatClampNeg) (ldE G a.toNatClampNeg) (ldE G b.toNatClampNeg)) ma tr t tb fo gi)] := by rw [eo]; exact hD
            refine lv_sipush (v := (-10005)) X.1 X.2.1 dX6_multiply_157 (by decide) ?_
            exact hret (-10005) (ldF C x.toNatClampNeg, prodE (ldF C x.toNatClampNeg) (ldE G a.toNatClampNeg) (ldE G b.toNatClampNeg)) _ _ _ _ (by rw [eo]; rfl) rfl (hP.sub [2, 1, 0] rfl) (hD.sub [2, 1, 0] rfl rfl) hS dX6_multiply_160
          · refine lv_aload_n X.1 X.2.1 dX6_multiply_125 rfl (lv_at hl 0 rfl) ?_
            refine gf_X6_176 (v := .long ((prodE (ldF C x.toNatClampNeg) (ldE G a.toNatClampNeg) (ldE G b.toNatClampNeg)).2.1)) X hP 2 rfl rfl dX6_multiply_126 ?_
            refine lc_X6_113 X dX6_multiply_129 ?_
            refine lc_X6_115 X dX6_multiply_132 ?_
            refine fin_i (wr := [(he, aiE cI 18 G), (st, aiE cI 240 C), (h0, moE (nI n) st (ldF C x.toNatClampNeg) k he (prodE (ldF C x.toNatClampNeg) (ldE G a.toNatClampNeg) (ldE G b.toNatClampNeg)) ma tr t tb fo gi)]) (cv_X6_33 X (m_isBetween l D cI cJ ((prodE (ldF C x.toNatClampNeg) (ldE G a.toNatClampNeg) (ldE G b.toNatClampNeg)).2.1) (-100) 100  _) rfl rfl dX6_multiply_135 hP hD [] rfl rfl hl.1 rfl rfl (Nat.le_of_ble_eq_true rfl) ⟨Nat.le_of_ble_eq_true rfl, Nat.le_of_ble_eq_true rfl⟩ ⟨Nat.le_of_ble_eq_true rfl, Nat.le_of_ble_eq_true rfl⟩) hP hD hS hA [] [0, 1, 2] rfl rfl rfl (by decide) (fun r_29 u_28 H locs w_27 hP hD hS => ?_)
            have hP : va_P D vwCl [(he, aiE cI 18 G), (st, aiE cI 240 C), (h0, moE (nI n) st (ldF C x.toNatClampNeg) k he (prodE (ldF C x.toNatClampNeg) (ldE G a.toNatClampNeg) (ldE G b.toNatClampNeg)) ma tr t tb fo gi)] H := hP
            have hD : va_D AA [(he, aiE cI 18 G), (st, aiE cI 240 C), (h0, moE (nI n) st (ldF C x.toNatClampNeg) k he (prodE (ldF C x.toNatClampNeg) (ldE G a.toNatClampNeg) (ldE G b.toNatClampNeg)) ma tr t tb fo gi)] := hD
            subst w_27
            refine bb_eq (tgt := 157) X dX6_multiply_138 (by decide) (fun c_30 => ?_) (fun c_30 => ?_)
            · have ef : fitsE (prodE (ldF C x.toNatClampNeg) (ldE G a.toNatClampNeg) (ldE G b.toNatClampNeg)) = false := by simp only [fitsE, ← btw_isW1, c_26, c_30, Bool.and_true, Bool.true_and, Bool.and_false, Bool.false_and]
              have eo : mulO n C G x a b c = .inl (-10005) := by rw [mulO, if_pos c_4, if_pos c_8, if_pos c_12, if_pos c_16, if_neg (by rw [ef]; decide)]
              have hP : va_P D vwCl [(he, aiE cI 18 (regS G c (mulO n C G x a b c))), (st, aiE cI 240 C), (h0, moE (nI n) st (ldF C x.toNatClampNeg) k he (prodE (ldF C x.toNatClampNeg) (ldE G a.toNatClampNeg) (ldE G b.toNatClampNeg)) ma tr t tb fo gi)] H := by rw [eo]; exact hP
              have hD : va_D AA [(he, aiE cI 18 (regS G c (mulO n C G x a b c))), (st, aiE cI 240 C), (h0, moE (nI n) st (ldF C x.toNatClampNeg) k he (prodE (ldF C x.toNatClampNeg) (ldE G a.toNatClampNeg) (ldE G b.toNatClampNeg)) ma tr t tb fo gi)] := by rw [eo]; exact hD
              refine lv_sipush (v := (-10005)) X.1 X.2.1 dX6_multiply_157 (by decide) ?_
              exact hret (-10005) (ldF C x.toNatClampNeg, prodE (ldF C x.toNatClampNeg) (ldE G a.toNatClampNeg) (ldE G b.toNatClampNeg)) _ _ _ _ (by rw [eo]; rfl) rfl (hP.sub [2, 1, 0] rfl) (hD.sub [2, 1, 0] rfl rfl) hS dX6_multiply_160
            · refine lv_aload_n X.1 X.2.1 dX6_multiply_141 rfl (lv_at hl 0 rfl) ?_
              refine gf_X6_179 (v := .long ((prodE (ldF C x.toNatClampNeg) (ldE G a.toNatClampNeg) (ldE G b.toNatClampNeg)).2.2)) X hP 2 rfl rfl dX6_multiply_142 ?_
              refine lc_X6_113 X dX6_multiply_145 ?_
              refine lc_X6_115 X dX6_multiply_148 ?_
              refine fin_i (wr := [(he, aiE cI 18 G), (st, aiE cI 240 C), (h0, moE (nI n) st (ldF C x.toNatClampNeg) k he (prodE (ldF C x.toNatClampNeg) (ldE G a.toNatClampNeg) (ldE G b.toNatClampNeg)) ma tr t tb fo gi)]) (cv_X6_33 X (m_isBetween l D cI cJ ((prodE (ldF C x.toNatClampNeg) (ldE G a.toNatClampNeg) (ldE G b.toNatClampNeg)).2.2) (-100) 100  _) rfl rfl dX6_multiply_151 hP hD [] rfl rfl hl.1 rfl rfl (Nat.le_of_ble_eq_true rfl) ⟨Nat.le_of_ble_eq_true rfl, Nat.le_of_ble_eq_true rfl⟩ ⟨Nat.le_of_ble_eq_true rfl, Nat.le_of_ble_eq_true rfl⟩) hP hD hS hA [] [0, 1, 2] rfl rfl rfl (by decide) (fun r_33 u_32 H locs w_31 hP hD hS => ?_)
              have hP : va_P D vwCl [(he, aiE cI 18 G), (st, aiE cI 240 C), (h0, moE (nI n) st (ldF C x.toNatClampNeg) k he (prodE (ldF C x.toNatClampNeg) (ldE G a.toNatClampNeg) (ldE G b.toNatClampNeg)) ma tr t tb fo gi)] H := hP
              have hD : va_D AA [(he, aiE cI 18 G), (st, aiE cI 240 C), (h0, moE (nI n) st (ldF C x.toNatClampNeg) k he (prodE (ldF C x.toNatClampNeg) (ldE G a.toNatClampNeg) (ldE G b.toNatClampNeg)) ma tr t tb fo gi)] := hD
              subst w_31
              refine bb_ne (tgt := 161) X dX6_multiply_154 (by decide) (fun c_34 => ?_) (fun c_34 => ?_)
              · refine lv_aload_n X.1 X.2.1 dX6_multiply_161 rfl (lv_at hl 0 rfl) ?_
                refine gf_X6_13 (v := .ref he) X hP 2 rfl rfl dX6_multiply_162 ?_
                refine lv_iconst (v := 3) X.1 X.2.1 dX6_multiply_165 (by decide) ?_
                refine lv_iload X.1 X.2.1 dX6_multiply_166 (lv_at hl 4 rfl) ?_
                refine lv_imul X.1 X.2.1 dX6_multiply_168 ?_
                rw [nI_3l]
                refine lv_aload_n X.1 X.2.1 dX6_multiply_169 rfl (lv_at hl 0 rfl) ?_
                refine gf_X6_173 (v := .long ((prodE (ldF C x.toNatClampNeg) (ldE G a.toNatClampNeg) (ldE G b.toNatClampNeg)).1)) X hP 2 rfl rfl dX6_multiply_170 ?_
                refine lv_l2i X.1 X.2.1 dX6_multiply_173 rfl ?_
                refine va_iast X.1 X.2.1 X.k hP hD hS 0 0 rfl rfl (vp_in_nI (by omega) (by omega)) dX6_multiply_174 (fun H locs hP hD hS => ?_)
                have hP : va_P D vwCl [(he, aiE cI 18 (upd G ((nI (3 * k3)).toNatClampNeg) (((prodE (ldF C x.toNatClampNeg) (ldE G a.toNatClampNeg) (ldE G b.toNatClampNeg)).1).toInt32))), (st, aiE cI 240 C), (h0, moE (nI n) st (ldF C x.toNatClampNeg) k he (prodE (ldF C x.toNatClampNeg) (ldE G a.toNatClampNeg) (ldE G b.toNatClampNeg)) ma tr t tb fo gi)] H := hP
                have hD : va_D AA [(he, aiE cI 18 (upd G ((nI (3 * k3)).toNatClampNeg) (((prodE (ldF C x.toNatClampNeg) (ldE G a.toNatClampNeg) (ldE G b.toNatClampNeg)).1).toInt32))), (st, aiE cI 240 C), (h0, moE (nI n) st (ldF C x.toNatClampNeg) k he (prodE (ldF C x.toNatClampNeg) (ldE G a.toNatClampNeg) (ldE G b.toNatClampNeg)) ma tr t tb fo gi)] := hD
                refine lv_aload_n X.1 X.2.1 dX6_multiply_175 rfl (lv_at hl 0 rfl) ?_
                refine gf_X6_13 (v := .ref he) X hP 2 rfl rfl dX6_multiply_176 ?_
                refine lv_iconst (v := 3) X.1 X.2.1 dX6_multiply_179 (by decide) ?_
                refine lv_iload X.1 X.2.1 dX6_multiply_180 (lv_at hl 4 rfl) ?_
                refine lv_imul X.1 X.2.1 dX6_multiply_182 ?_
                refine lv_iconst (v := 1) X.1 X.2.1 dX6_multiply_183 (by decide) ?_
                refine lv_iadd X.1 X.2.1 dX6_multiply_184 ?_
                rw [nI_3l, nI_1]
                refine lv_aload_n X.1 X.2.1 dX6_multiply_185 rfl (lv_at hl 0 rfl) ?_
                refine gf_X6_176 (v := .long ((prodE (ldF C x.toNatClampNeg) (ldE G a.toNatClampNeg) (ldE G b.toNatClampNeg)).2.1)) X hP 2 rfl rfl dX6_multiply_186 ?_
                refine lv_l2i X.1 X.2.1 dX6_multiply_189 rfl ?_
                refine va_iast X.1 X.2.1 X.k hP hD hS 0 0 rfl rfl (vp_in_nI (by omega) (by omega)) dX6_multiply_190 (fun H locs hP hD hS => ?_)
                have hP : va_P D vwCl [(he, aiE cI 18 (upd (upd G ((nI (3 * k3)).toNatClampNeg) (((prodE (ldF C x.toNatClampNeg) (ldE G a.toNatClampNeg) (ldE G b.toNatClampNeg)).1).toInt32)) ((nI (3 * k3 + 1)).toNatClampNeg) (((prodE (ldF C x.toNatClampNeg) (ldE G a.toNatClampNeg) (ldE G b.toNatClampNeg)).2.1).toInt32))), (st, aiE cI 240 C), (h0, moE (nI n) st (ldF C x.toNatClampNeg) k he (prodE (ldF C x.toNatClampNeg) (ldE G a.toNatClampNeg) (ldE G b.toNatClampNeg)) ma tr t tb fo gi)] H := hP
                have hD : va_D AA [(he, aiE cI 18 (upd (upd G ((nI (3 * k3)).toNatClampNeg) (((prodE (ldF C x.toNatClampNeg) (ldE G a.toNatClampNeg) (ldE G b.toNatClampNeg)).1).toInt32)) ((nI (3 * k3 + 1)).toNatClampNeg) (((prodE (ldF C x.toNatClampNeg) (ldE G a.toNatClampNeg) (ldE G b.toNatClampNeg)).2.1).toInt32))), (st, aiE cI 240 C), (h0, moE (nI n) st (ldF C x.toNatClampNeg) k he (prodE (ldF C x.toNatClampNeg) (ldE G a.toNatClampNeg) (ldE G b.toNatClampNeg)) ma tr t tb fo gi)] := hD
                refine lv_aload_n X.1 X.2.1 dX6_multiply_191 rfl (lv_at hl 0 rfl) ?_
                refine gf_X6_13 (v := .ref he) X hP 2 rfl rfl dX6_multiply_192 ?_
                refine lv_iconst (v := 3) X.1 X.2.1 dX6_multiply_195 (by decide) ?_
                refine lv_iload X.1 X.2.1 dX6_multiply_196 (lv_at hl 4 rfl) ?_
                refine lv_imul X.1 X.2.1 dX6_multiply_198 ?_
                refine lv_iconst (v := 2) X.1 X.2.1 dX6_multiply_199 (by decide) ?_
                refine lv_iadd X.1 X.2.1 dX6_multiply_200 ?_
                rw [nI_3l, nI_2]
                refine lv_aload_n X.1 X.2.1 dX6_multiply_201 rfl (lv_at hl 0 rfl) ?_
                refine gf_X6_179 (v := .long ((prodE (ldF C x.toNatClampNeg) (ldE G a.toNatClampNeg) (ldE G b.toNatClampNeg)).2.2)) X hP 2 rfl rfl dX6_multiply_202 ?_
                refine lv_l2i X.1 X.2.1 dX6_multiply_205 rfl ?_
                refine va_iast X.1 X.2.1 X.k hP hD hS 0 0 rfl rfl (vp_in_nI (by omega) (by omega)) dX6_multiply_206 (fun H locs hP hD hS => ?_)
                have hP : va_P D vwCl [(he, aiE cI 18 (upd (upd (upd G ((nI (3 * k3)).toNatClampNeg) (((prodE (ldF C x.toNatClampNeg) (ldE G a.toNatClampNeg) (ldE G b.toNatClampNeg)).1).toInt32)) ((nI (3 * k3 + 1)).toNatClampNeg) (((prodE (ldF C x.toNatClampNeg) (ldE G a.toNatClampNeg) (ldE G b.toNatClampNeg)).2.1).toInt32)) ((nI (3 * k3 + 2)).toNatClampNeg) (((prodE (ldF C x.toNatClampNeg) (ldE G a.toNatClampNeg) (ldE G b.toNatClampNeg)).2.2).toInt32))), (st, aiE cI 240 C), (h0, moE (nI n) st (ldF C x.toNatClampNeg) k he (prodE (ldF C x.toNatClampNeg) (ldE G a.toNatClampNeg) (ldE G b.toNatClampNeg)) ma tr t tb fo gi)] H := hP
                have hD : va_D AA [(he, aiE cI 18 (upd (upd (upd G ((nI (3 * k3)).toNatClampNeg) (((prodE (ldF C x.toNatClampNeg) (ldE G a.toNatClampNeg) (ldE G b.toNatClampNeg)).1).toInt32)) ((nI (3 * k3 + 1)).toNatClampNeg) (((prodE (ldF C x.toNatClampNeg) (ldE G a.toNatClampNeg) (ldE G b.toNatClampNeg)).2.1).toInt32)) ((nI (3 * k3 + 2)).toNatClampNeg) (((prodE (ldF C x.toNatClampNeg) (ldE G a.toNatClampNeg) (ldE G b.toNatClampNeg)).2.2).toInt32))), (st, aiE cI 240 C), (h0, moE (nI n) st (ldF C x.toNatClampNeg) k he (prodE (ldF C x.toNatClampNeg) (ldE G a.toNatClampNeg) (ldE G b.toNatClampNeg)) ma tr t tb fo gi)] := hD
                rw [nI_clamp (show 3 * k3 < 2 ^ 31 by omega), nI_clamp (show 3 * k3 + 1 < 2 ^ 31 by omega), nI_clamp (show 3 * k3 + 2 < 2 ^ 31 by omega)] at hP hD
                have ef : fitsE (prodE (ldF C x.toNatClampNeg) (ldE G a.toNatClampNeg) (ldE G b.toNatClampNeg)) = true := by simp only [fitsE, ← btw_isW1, c_26, c_30, c_34, Bool.and_true]
                have eo : mulO n C G x a b c = .inr (prodE (ldF C x.toNatClampNeg) (ldE G a.toNatClampNeg) (ldE G b.toNatClampNeg)) := by rw [mulO, if_pos c_4, if_pos c_8, if_pos c_12, if_pos c_16, if_pos ef]
                have er : regS G c (.inr (prodE (ldF C x.toNatClampNeg) (ldE G a.toNatClampNeg) (ldE G b.toNatClampNeg))) = stE G k3 (prodE (ldF C x.toNatClampNeg) (ldE G a.toNatClampNeg) (ldE G b.toNatClampNeg)) := by simp only [regS, hck3]
                have hP : va_P D vwCl [(he, aiE cI 18 (regS G c (mulO n C G x a b c))), (st, aiE cI 240 C), (h0, moE (nI n) st (ldF C x.toNatClampNeg) k he (prodE (ldF C x.toNatClampNeg) (ldE G a.toNatClampNeg) (ldE G b.toNatClampNeg)) ma tr t tb fo gi)] H := by rw [eo, er, stE]; exact hP
                have hD : va_D AA [(he, aiE cI 18 (regS G c (mulO n C G x a b c))), (st, aiE cI 240 C), (h0, moE (nI n) st (ldF C x.toNatClampNeg) k he (prodE (ldF C x.toNatClampNeg) (ldE G a.toNatClampNeg) (ldE G b.toNatClampNeg)) ma tr t tb fo gi)] := by rw [eo, er, stE]; exact hD
                refine lv_iconst (v := 1) X.1 X.2.1 dX6_multiply_207 (by decide) ?_
                exact hret 1 (ldF C x.toNatClampNeg, prodE (ldF C x.toNatClampNeg) (ldE G a.toNatClampNeg) (ldE G b.toNatClampNeg)) _ _ _ _ (by rw [eo]; rfl) rfl (hP.sub [2, 1, 0] rfl) (hD.sub [2, 1, 0] rfl rfl) hS dX6_multiply_208
              · have ef : fitsE (prodE (ldF C x.toNatClampNeg) (ldE G a.toNatClampNeg) (ldE G b.toNatClampNeg)) = false := by simp only [fitsE, ← btw_isW1, c_26, c_30, c_34, Bool.and_true, Bool.true_and, Bool.and_false, Bool.false_and]
                have eo : mulO n C G x a b c = .inl (-10005) := by rw [mulO, if_pos c_4, if_pos c_8, if_pos c_12, if_pos c_16, if_neg (by rw [ef]; decide)]
                have hP : va_P D vwCl [(he, aiE cI 18 (regS G c (mulO n C G x a b c))), (st, aiE cI 240 C), (h0, moE (nI n) st (ldF C x.toNatClampNeg) k he (prodE (ldF C x.toNatClampNeg) (ldE G a.toNatClampNeg) (ldE G b.toNatClampNeg)) ma tr t tb fo gi)] H := by rw [eo]; exact hP
                have hD : va_D AA [(he, aiE cI 18 (regS G c (mulO n C G x a b c))), (st, aiE cI 240 C), (h0, moE (nI n) st (ldF C x.toNatClampNeg) k he (prodE (ldF C x.toNatClampNeg) (ldE G a.toNatClampNeg) (ldE G b.toNatClampNeg)) ma tr t tb fo gi)] := by rw [eo]; exact hD
                refine lv_sipush (v := (-10005)) X.1 X.2.1 dX6_multiply_157 (by decide) ?_
                exact hret (-10005) (ldF C x.toNatClampNeg, prodE (ldF C x.toNatClampNeg) (ldE G a.toNatClampNeg) (ldE G b.toNatClampNeg)) _ _ _ _ (by rw [eo]; rfl) rfl (hP.sub [2, 1, 0] rfl) (hD.sub [2, 1, 0] rfl rfl) hS dX6_multiply_160
        · have eo : mulO n C G x a b c = .inl (-10002) := by rw [mulO, if_pos c_4, if_pos c_8, if_pos c_12, if_neg (by rw [c_16]; decide)]
          have hP : va_P D vwCl [(st, aiE cI 240 C), (he, aiE cI 18 (regS G c (mulO n C G x a b c))), (h0, moE (nI n) st f k he p ma tr t tb fo gi)] H := by rw [eo]; exact hP
          have hD : va_D AA [(st, aiE cI 240 C), (he, aiE cI 18 (regS G c (mulO n C G x a b c))), (h0, moE (nI n) st f k he p ma tr t tb fo gi)] := by rw [eo]; exact hD
          refine lv_sipush (v := (-10002)) X.1 X.2.1 dX6_multiply_34 (by decide) ?_
          exact hret (-10002) (f, p) _ _ _ _ (by rw [eo]; rfl) rfl (hP.sub [2, 0, 1] rfl) (hD.sub [2, 0, 1] rfl rfl) hS dX6_multiply_37
  · have eo : mulO n C G x a b c = .inl (-10001) := by rw [mulO, if_neg (by rw [c_4]; decide)]
    have hP : va_P D vwCl [(st, aiE cI 240 C), (he, aiE cI 18 (regS G c (mulO n C G x a b c))), (h0, moE (nI n) st f k he p ma tr t tb fo gi)] H := by rw [eo]; exact hP
    have hD : va_D AA [(st, aiE cI 240 C), (he, aiE cI 18 (regS G c (mulO n C G x a b c))), (h0, moE (nI n) st f k he p ma tr t tb fo gi)] := by rw [eo]; exact hD
    refine lv_sipush (v := (-10001)) X.1 X.2.1 dX6_multiply_8 (by decide) ?_
    exact hret (-10001) (f, p) _ _ _ _ (by rw [eo]; rfl) rfl (hP.sub [2, 0, 1] rfl) (hD.sub [2, 0, 1] rfl rfl) hS dX6_multiply_11
set_option maxHeartbeats 4000000 in
set_option maxRecDepth 100000 in
theorem m_layElement (l : Launch) (D : va_G) (cI cJ : ClassId) (h0 : Nat) (st : Nat) (he : Nat) (ma : Nat) (tr : Nat) (fo : Nat) (gi : Nat) (n : Nat) (f : Fm) (k : Fm) (p : Em) (t : Fm) (tb : Int32) (C : Nat → Int32) (G : Nat → Int32) (M : Nat → Int64) (x : Int32) (y : Int32) (hn : n ≤ 60) : CtI l yX6_layElement cX6_layElement 3 .boolean (rmk 2 59) D cI cJ [.ref h0, .int x, .int y] [(h0, moE (nI n) st f k he p ma tr t tb fo gi), (st, aiE cI 240 C), (he, aiE cI 18 G), (ma, alE cJ 9 M)] (fun (u : Fm × Em × (Nat → Int64)) => [(h0, moE (nI n) st u.1 k he u.2.1 ma tr t tb fo gi), (st, aiE cI 240 C), (he, aiE cI 18 G), (ma, alE cJ 9 u.2.2)]) (fun (r : Int32) (u : Fm × Em × (Nat → Int64)) => r = bI (isFormB n x && isRegB y) ∧ (isFormB n x = true → isRegB y = true → u.2.2 = layF (ldF C x.toNatClampNeg) (ldE G y.toNatClampNeg) M)) := by
  refine CtI.of (own := RX6) (by decide +kernel) (Nat.le_of_ble_eq_true rfl) rfl ?_
  intro pr_ en_ sg_ me_ ar_ be_ mt_ co_ AA ls QQ X hA hP hD hS hl hret
  have hl : lv_has ls 3 [(0, .ref h0), (1, .int x), (2, .int y)] := hl
  refine lv_aload_n X.1 X.2.1 dX6_layElement_0 rfl (lv_at hl 0 rfl) ?_
  refine lv_iload_n X.1 X.2.1 dX6_layElement_1 rfl (lv_at hl 1 rfl) ?_
  refine fin_i (wr := [(st, aiE cI 240 C), (he, aiE cI 18 G), (ma, alE cJ 9 M)]) (cv_X6_66 X (m_isForm l D cI cJ h0 st he ma tr fo gi n f k p t tb x (by first | assumption | omega) _) rfl rfl dX6_layElement_2 hP hD 0 rfl [0] rfl rfl hl.1 rfl rfl (Nat.le_of_ble_eq_true rfl) ⟨Nat.le_of_ble_eq_true rfl, Nat.le_of_ble_eq_true rfl⟩ ⟨Nat.le_of_ble_eq_true rfl, Nat.le_of_ble_eq_true rfl⟩) hP hD hS hA [0] [1, 2, 3] rfl rfl rfl (by decide) (fun r_3 u_2 H locs w_1 hP hD hS => ?_)
  have hP : va_P D vwCl [(st, aiE cI 240 C), (he, aiE cI 18 G), (ma, alE cJ 9 M), (h0, moE (nI n) st f k he p ma tr t tb fo gi)] H := hP
  have hD : va_D AA [(st, aiE cI 240 C), (he, aiE cI 18 G), (ma, alE cJ 9 M), (h0, moE (nI n) st f k he p ma tr t tb fo gi)] := hD
  subst w_1
  refine bb_eq (tgt := 15) X dX6_layElement_5 (by decide) (fun c_4 => ?_) (fun c_4 => ?_)
  · refine lv_iconst (v := 0) X.1 X.2.1 dX6_layElement_15 (by decide) ?_
    exact hret 0 (f, p, M) _ _ _ _ (⟨by rw [c_4]; rfl, fun q1 q2 => absurd q1 (by rw [c_4]; decide)⟩) rfl (hP.sub [3, 0, 1, 2] rfl) (hD.sub [3, 0, 1, 2] rfl rfl) hS dX6_layElement_16
  · refine lv_iload_n X.1 X.2.1 dX6_layElement_8 rfl (lv_at hl 2 rfl) ?_
    refine fin_i (wr := [(st, aiE cI 240 C), (he, aiE cI 18 G), (ma, alE cJ 9 M), (h0, moE (nI n) st f k he p ma tr t tb fo gi)]) (cv_X6_170 X (m_isRegister l D cI cJ y  _) rfl rfl dX6_layElement_9 hP hD [] rfl rfl hl.1 rfl rfl (Nat.le_of_ble_eq_true rfl) ⟨Nat.le_of_ble_eq_true rfl, Nat.le_of_ble_eq_true rfl⟩ ⟨Nat.le_of_ble_eq_true rfl, Nat.le_of_ble_eq_true rfl⟩) hP hD hS hA [] [0, 1, 2, 3] rfl rfl rfl (by decide) (fun r_7 u_6 H locs w_5 hP hD hS => ?_)
    have hP : va_P D vwCl [(st, aiE cI 240 C), (he, aiE cI 18 G), (ma, alE cJ 9 M), (h0, moE (nI n) st f k he p ma tr t tb fo gi)] H := hP
    have hD : va_D AA [(st, aiE cI 240 C), (he, aiE cI 18 G), (ma, alE cJ 9 M), (h0, moE (nI n) st f k he p ma tr t tb fo gi)] := hD
    subst w_5
    refine bb_ne (tgt := 17) X dX6_layElement_12 (by decide) (fun c_8 => ?_) (fun c_8 => ?_)
    · obtain ⟨k1, hk1, hxk1⟩ := isRegB_out c_8
      rw [hxk1] at hl
      have hck1 : y.toNatClampNeg = k1 := by rw [hxk1]; exact nI_clamp (by omega)
      refine lv_aload_n X.1 X.2.1 dX6_layElement_17 rfl (lv_at hl 0 rfl) ?_
      refine lv_iload_n X.1 X.2.1 dX6_layElement_18 rfl (lv_at hl 1 rfl) ?_
      refine fin_v (wr := [(he, aiE cI 18 G), (ma, alE cJ 9 M)]) (cv_X6_82 X (m_load l D cI cJ h0 st he ma tr fo gi n f k p t tb C x hn c_4 _) rfl rfl dX6_layElement_19 hP hD 3 rfl [3, 0] rfl rfl hl.1 rfl rfl (Nat.le_of_ble_eq_true rfl) ⟨Nat.le_of_ble_eq_true rfl, Nat.le_of_ble_eq_true rfl⟩ ⟨Nat.le_of_ble_eq_true rfl, Nat.le_of_ble_eq_true rfl⟩) hP hD hS hA [3, 0] [1, 2] rfl rfl rfl (by decide) (fun u_10 H locs w_9 hP hD hS => ?_)
      have hP : va_P D vwCl [(he, aiE cI 18 G), (ma, alE cJ 9 M), (h0, moE (nI n) st (ldF C x.toNatClampNeg) k he p ma tr t tb fo gi), (st, aiE cI 240 C)] H := hP
      have hD : va_D AA [(he, aiE cI 18 G), (ma, alE cJ 9 M), (h0, moE (nI n) st (ldF C x.toNatClampNeg) k he p ma tr t tb fo gi), (st, aiE cI 240 C)] := hD
      refine lv_aload_n X.1 X.2.1 dX6_layElement_22 rfl (lv_at hl 0 rfl) ?_
      refine lv_aload_n X.1 X.2.1 dX6_layElement_23 rfl (lv_at hl 0 rfl) ?_
      refine gf_X6_13 (v := .ref he) X hP 2 rfl rfl dX6_layElement_24 ?_
      refine lv_iconst (v := 3) X.1 X.2.1 dX6_layElement_27 (by decide) ?_
      refine lv_iload_n X.1 X.2.1 dX6_layElement_28 rfl (lv_at hl 2 rfl) ?_
      refine lv_imul X.1 X.2.1 dX6_layElement_29 ?_
      rw [nI_3l]
      refine va_iald X.1 X.2.1 X.k hP 0 0 rfl rfl (vp_in_nI (by omega) (by omega)) dX6_layElement_30 ?_
      refine lv_i2l X.1 X.2.1 dX6_layElement_31 rfl ?_
      refine lv_aload_n X.1 X.2.1 dX6_layElement_32 rfl (lv_at hl 0 rfl) ?_
      refine gf_X6_13 (v := .ref he) X hP 2 rfl rfl dX6_layElement_33 ?_
      refine lv_iconst (v := 3) X.1 X.2.1 dX6_layElement_36 (by decide) ?_
      refine lv_iload_n X.1 X.2.1 dX6_layElement_37 rfl (lv_at hl 2 rfl) ?_
      refine lv_imul X.1 X.2.1 dX6_layElement_38 ?_
      refine lv_iconst (v := 1) X.1 X.2.1 dX6_layElement_39 (by decide) ?_
      refine lv_iadd X.1 X.2.1 dX6_layElement_40 ?_
      rw [nI_3l, nI_1]
      refine va_iald X.1 X.2.1 X.k hP 0 0 rfl rfl (vp_in_nI (by omega) (by omega)) dX6_layElement_41 ?_
      refine lv_i2l X.1 X.2.1 dX6_layElement_42 rfl ?_
      refine lv_aload_n X.1 X.2.1 dX6_layElement_43 rfl (lv_at hl 0 rfl) ?_
      refine gf_X6_13 (v := .ref he) X hP 2 rfl rfl dX6_layElement_44 ?_
      refine lv_iconst (v := 3) X.1 X.2.1 dX6_layElement_47 (by decide) ?_
      refine lv_iload_n X.1 X.2.1 dX6_layElement_48 rfl (lv_at hl 2 rfl) ?_
      refine lv_imul X.1 X.2.1 dX6_layElement_49 ?_
      refine lv_iconst (v := 2) X.1 X.2.1 dX6_layElement_50 (by decide) ?_
      refine lv_iadd X.1 X.2.1 dX6_layElement_51 ?_
      rw [nI_3l, nI_2]
      refine va_iald X.1 X.2.1 X.k hP 0 0 rfl rfl (vp_in_nI (by omega) (by omega)) dX6_layElement_52 ?_
      refine lv_i2l X.1 X.2.1 dX6_layElement_53 rfl ?_
      refine fin_v (wr := [(he, aiE cI 18 G), (st, aiE cI 240 C)]) (cv_X6_186 X (m_layMatrix l D cI cJ h0 st he ma tr fo gi n (ldF C x.toNatClampNeg) k p t tb M ((G ((nI (3 * k1)).toNatClampNeg)).toInt64) ((G ((nI (3 * k1 + 1)).toNatClampNeg)).toInt64) ((G ((nI (3 * k1 + 2)).toNatClampNeg)).toInt64)  _) rfl rfl dX6_layElement_54 hP hD 2 rfl [2, 1] rfl rfl hl.1 rfl rfl (Nat.le_of_ble_eq_true rfl) ⟨Nat.le_of_ble_eq_true rfl, Nat.le_of_ble_eq_true rfl⟩ ⟨Nat.le_of_ble_eq_true rfl, Nat.le_of_ble_eq_true rfl⟩) hP hD hS hA [2, 1] [0, 3] rfl rfl rfl (by decide) (fun u_13 H locs w_12 hP hD hS => ?_)
      have hP : va_P D vwCl [(he, aiE cI 18 G), (st, aiE cI 240 C), (h0, moE (nI n) st (ldF C x.toNatClampNeg) k he u_13 ma tr t tb fo gi), (ma, alE cJ 9 (layF (ldF C x.toNatClampNeg) (((G ((nI (3 * k1)).toNatClampNeg)).toInt64), ((G ((nI (3 * k1 + 1)).toNatClampNeg)).toInt64), ((G ((nI (3 * k1 + 2)).toNatClampNeg)).toInt64)) M))] H := hP
      have hD : va_D AA [(he, aiE cI 18 G), (st, aiE cI 240 C), (h0, moE (nI n) st (ldF C x.toNatClampNeg) k he u_13 ma tr t tb fo gi), (ma, alE cJ 9 (layF (ldF C x.toNatClampNeg) (((G ((nI (3 * k1)).toNatClampNeg)).toInt64), ((G ((nI (3 * k1 + 1)).toNatClampNeg)).toInt64), ((G ((nI (3 * k1 + 2)).toNatClampNeg)).toInt64)) M))] := hD
      rw [nI_clamp (show 3 * k1 < 2 ^ 31 by omega), nI_clamp (show 3 * k1 + 1 < 2 ^ 31 by omega), nI_clamp (show 3 * k1 + 2 < 2 ^ 31 by omega)] at hP hD
      have ep0 : layF (ldF C x.toNatClampNeg) (ldE G y.toNatClampNeg) M = layF (ldF C x.toNatClampNeg) (((G ((3 * k1))).toInt64), ((G ((3 * k1 + 1))).toInt64), ((G ((3 * k1 + 2))).toInt64)) M := by rw [hck1]; rfl
      rw [← ep0] at hP hD
      refine lv_iconst (v := 1) X.1 X.2.1 dX6_layElement_57 (by decide) ?_
      exact hret 1 (ldF C x.toNatClampNeg, u_13, layF (ldF C x.toNatClampNeg) (ldE G y.toNatClampNeg) M) _ _ _ _ (⟨by rw [c_4, c_8]; rfl, fun q1 q2 => rfl⟩) rfl (hP.sub [2, 1, 0, 3] rfl) (hD.sub [2, 1, 0, 3] rfl rfl) hS dX6_layElement_58
    · refine lv_iconst (v := 0) X.1 X.2.1 dX6_layElement_15 (by decide) ?_
      exact hret 0 (f, p, M) _ _ _ _ (⟨by rw [c_4, c_8]; rfl, fun q1 q2 => absurd q2 (by rw [c_8]; decide)⟩) rfl (hP.sub [3, 0, 1, 2] rfl) (hD.sub [3, 0, 1, 2] rfl rfl) hS dX6_layElement_16
set_option maxHeartbeats 4000000 in
set_option maxRecDepth 100000 in
theorem m_trace (l : Launch) (D : va_G) (cI cJ : ClassId) (h0 : Nat) (st : Nat) (he : Nat) (ma : Nat) (tr : Nat) (fo : Nat) (gi : Nat) (n : Nat) (f : Fm) (k : Fm) (p : Em) (t : Fm) (tb : Int32) (C : Nat → Int32) (G : Nat → Int32) (M : Nat → Int64) (x : Int32) (y : Int32) (hn : n ≤ 60) : CtL l yX6_trace cX6_trace 3 (rmk 3 81) D cI cJ [.ref h0, .int x, .int y] [(h0, moE (nI n) st f k he p ma tr t tb fo gi), (st, aiE cI 240 C), (he, aiE cI 18 G), (ma, alE cJ 9 M)] (fun (u : Fm × Em × (Nat → Int64)) => [(h0, moE (nI n) st u.1 k he u.2.1 ma tr t tb fo gi), (st, aiE cI 240 C), (he, aiE cI 18 G), (ma, alE cJ 9 u.2.2)]) (fun (r : Int64) (u : Fm × Em × (Nat → Int64)) => r = if isFormB n x then (if isRegB y then traceE (ldE G y.toNatClampNeg) (ldF C x.toNatClampNeg) else (-9223372036854775808)) else (-9223372036854775808)) := by
  refine CtL.of (own := RX6) (by decide +kernel) (Nat.le_of_ble_eq_true rfl) rfl ?_
  intro pr_ en_ sg_ me_ ar_ be_ mt_ co_ AA ls QQ X hA hP hD hS hl hret
  have hl : lv_has ls 3 [(0, .ref h0), (1, .int x), (2, .int y)] := hl
  refine lv_aload_n X.1 X.2.1 dX6_trace_0 rfl (lv_at hl 0 rfl) ?_
  refine lv_iload_n X.1 X.2.1 dX6_trace_1 rfl (lv_at hl 1 rfl) ?_
  refine lv_iload_n X.1 X.2.1 dX6_trace_2 rfl (lv_at hl 2 rfl) ?_
  refine fin_i (wr := []) (cv_X6_190 X (m_layElement l D cI cJ h0 st he ma tr fo gi n f k p t tb C G M x y (by first | assumption | omega) _) rfl rfl dX6_trace_3 hP hD 0 rfl [0, 1, 2, 3] rfl rfl hl.1 rfl rfl (Nat.le_of_ble_eq_true rfl) ⟨Nat.le_of_ble_eq_true rfl, Nat.le_of_ble_eq_true rfl⟩ ⟨Nat.le_of_ble_eq_true rfl, Nat.le_of_ble_eq_true rfl⟩) hP hD hS hA [0, 1, 2, 3] [] rfl rfl rfl (by decide) (fun r_3 u_2 H locs w_1 hP hD hS => ?_)
  have hP : va_P D vwCl [(h0, moE (nI n) st u_2.1 k he u_2.2.1 ma tr t tb fo gi), (st, aiE cI 240 C), (he, aiE cI 18 G), (ma, alE cJ 9 u_2.2.2)] H := hP
  have hD : va_D AA [(h0, moE (nI n) st u_2.1 k he u_2.2.1 ma tr t tb fo gi), (st, aiE cI 240 C), (he, aiE cI 18 G), (ma, alE cJ 9 u_2.2.2)] := hD
  obtain ⟨rfl, w_1⟩ := w_1
  refine bb_eq (tgt := 16) X dX6_trace_6 (by decide) (fun c_4 => ?_) (fun c_4 => ?_)
  · refine lc_X6_80 X dX6_trace_16 ?_
    exact hret (-9223372036854775808) (u_2.1, u_2.2.1, u_2.2.2) _ _ _ _ (and_ff c_4) (hP.sub [0, 1, 2, 3] rfl) (hD.sub [0, 1, 2, 3] rfl rfl) hS dX6_trace_19
  · refine lv_aload_n X.1 X.2.1 dX6_trace_9 rfl (lv_at hl 0 rfl) ?_
    refine fin_l (wr := [(st, aiE cI 240 C), (he, aiE cI 18 G)]) (cv_X6_194 X (m_traceNow l D cI cJ h0 st he ma tr fo gi n u_2.1 k u_2.2.1 t tb u_2.2.2  _) rfl rfl dX6_trace_10 hP hD 0 rfl [0, 3] rfl rfl hl.1 rfl rfl (Nat.le_of_ble_eq_true rfl) ⟨Nat.le_of_ble_eq_true rfl, Nat.le_of_ble_eq_true rfl⟩ ⟨Nat.le_of_ble_eq_true rfl, Nat.le_of_ble_eq_true rfl⟩) hP hD hS hA [0, 3] [1, 2] rfl rfl rfl (by decide) (fun r_7 u_6 H locs w_5 hP hD hS => ?_)
    have hP : va_P D vwCl [(st, aiE cI 240 C), (he, aiE cI 18 G), (h0, moE (nI n) st u_2.1 k he u_2.2.1 ma tr t tb fo gi), (ma, alE cJ 9 u_2.2.2)] H := hP
    have hD : va_D AA [(st, aiE cI 240 C), (he, aiE cI 18 G), (h0, moE (nI n) st u_2.1 k he u_2.2.1 ma tr t tb fo gi), (ma, alE cJ 9 u_2.2.2)] := hD
    subst w_5
    refine lv_goto (tgt := 19) X.1 X.2.1 dX6_trace_13 (by decide) ?_
    exact hret (trM u_2.2.2) (u_2.1, u_2.2.1, u_2.2.2) _ _ _ _ (by
      obtain ⟨q1, q2⟩ := Bool.and_eq_true_iff.mp c_4
      rw [if_pos q1, if_pos q2, w_1 q1 q2, trM_lay]) (hP.sub [2, 0, 1, 3] rfl) (hD.sub [2, 0, 1, 3] rfl rfl) hS dX6_trace_19
set_option maxHeartbeats 4000000 in
set_option maxRecDepth 100000 in
theorem m_norm (l : Launch) (D : va_G) (cI cJ : ClassId) (h0 : Nat) (st : Nat) (he : Nat) (ma : Nat) (tr : Nat) (fo : Nat) (gi : Nat) (n : Nat) (f : Fm) (k : Fm) (p : Em) (t : Fm) (tb : Int32) (C : Nat → Int32) (G : Nat → Int32) (M : Nat → Int64) (x : Int32) (y : Int32) (hn : n ≤ 60) : CtL l yX6_norm cX6_norm 3 (rmk 3 81) D cI cJ [.ref h0, .int x, .int y] [(h0, moE (nI n) st f k he p ma tr t tb fo gi), (st, aiE cI 240 C), (he, aiE cI 18 G), (ma, alE cJ 9 M)] (fun (u : Fm × Em × (Nat → Int64)) => [(h0, moE (nI n) st u.1 k he u.2.1 ma tr t tb fo gi), (st, aiE cI 240 C), (he, aiE cI 18 G), (ma, alE cJ 9 u.2.2)]) (fun (r : Int64) (u : Fm × Em × (Nat → Int64)) => r = if isFormB n x then (if isRegB y then detE (prodE (ldF C x.toNatClampNeg) (ldE G y.toNatClampNeg) (1, 0, 0)) (prodE (ldF C x.toNatClampNeg) (ldE G y.toNatClampNeg) (0, 1, 0)) (prodE (ldF C x.toNatClampNeg) (ldE G y.toNatClampNeg) (0, 0, 1)) else (-9223372036854775808)) else (-9223372036854775808)) := by
  refine CtL.of (own := RX6) (by decide +kernel) (Nat.le_of_ble_eq_true rfl) rfl ?_
  intro pr_ en_ sg_ me_ ar_ be_ mt_ co_ AA ls QQ X hA hP hD hS hl hret
  have hl : lv_has ls 3 [(0, .ref h0), (1, .int x), (2, .int y)] := hl
  refine lv_aload_n X.1 X.2.1 dX6_norm_0 rfl (lv_at hl 0 rfl) ?_
  refine lv_iload_n X.1 X.2.1 dX6_norm_1 rfl (lv_at hl 1 rfl) ?_
  refine lv_iload_n X.1 X.2.1 dX6_norm_2 rfl (lv_at hl 2 rfl) ?_
  refine fin_i (wr := []) (cv_X6_190 X (m_layElement l D cI cJ h0 st he ma tr fo gi n f k p t tb C G M x y (by first | assumption | omega) _) rfl rfl dX6_norm_3 hP hD 0 rfl [0, 1, 2, 3] rfl rfl hl.1 rfl rfl (Nat.le_of_ble_eq_true rfl) ⟨Nat.le_of_ble_eq_true rfl, Nat.le_of_ble_eq_true rfl⟩ ⟨Nat.le_of_ble_eq_true rfl, Nat.le_of_ble_eq_true rfl⟩) hP hD hS hA [0, 1, 2, 3] [] rfl rfl rfl (by decide) (fun r_3 u_2 H locs w_1 hP hD hS => ?_)
  have hP : va_P D vwCl [(h0, moE (nI n) st u_2.1 k he u_2.2.1 ma tr t tb fo gi), (st, aiE cI 240 C), (he, aiE cI 18 G), (ma, alE cJ 9 u_2.2.2)] H := hP
  have hD : va_D AA [(h0, moE (nI n) st u_2.1 k he u_2.2.1 ma tr t tb fo gi), (st, aiE cI 240 C), (he, aiE cI 18 G), (ma, alE cJ 9 u_2.2.2)] := hD
  obtain ⟨rfl, w_1⟩ := w_1
  refine bb_eq (tgt := 16) X dX6_norm_6 (by decide) (fun c_4 => ?_) (fun c_4 => ?_)
  · refine lc_X6_80 X dX6_norm_16 ?_
    exact hret (-9223372036854775808) (u_2.1, u_2.2.1, u_2.2.2) _ _ _ _ (and_ff c_4) (hP.sub [0, 1, 2, 3] rfl) (hD.sub [0, 1, 2, 3] rfl rfl) hS dX6_norm_19
  · refine lv_aload_n X.1 X.2.1 dX6_norm_9 rfl (lv_at hl 0 rfl) ?_
    refine fin_l (wr := [(st, aiE cI 240 C), (he, aiE cI 18 G)]) (cv_X6_197 X (m_determinant l D cI cJ h0 st he ma tr fo gi n u_2.1 k u_2.2.1 t tb u_2.2.2  _) rfl rfl dX6_norm_10 hP hD 0 rfl [0, 3] rfl rfl hl.1 rfl rfl (Nat.le_of_ble_eq_true rfl) ⟨Nat.le_of_ble_eq_true rfl, Nat.le_of_ble_eq_true rfl⟩ ⟨Nat.le_of_ble_eq_true rfl, Nat.le_of_ble_eq_true rfl⟩) hP hD hS hA [0, 3] [1, 2] rfl rfl rfl (by decide) (fun r_7 u_6 H locs w_5 hP hD hS => ?_)
    have hP : va_P D vwCl [(st, aiE cI 240 C), (he, aiE cI 18 G), (h0, moE (nI n) st u_2.1 k he u_2.2.1 ma tr t tb fo gi), (ma, alE cJ 9 u_2.2.2)] H := hP
    have hD : va_D AA [(st, aiE cI 240 C), (he, aiE cI 18 G), (h0, moE (nI n) st u_2.1 k he u_2.2.1 ma tr t tb fo gi), (ma, alE cJ 9 u_2.2.2)] := hD
    subst w_5
    refine lv_goto (tgt := 19) X.1 X.2.1 dX6_norm_13 (by decide) ?_
    exact hret (detM u_2.2.2) (u_2.1, u_2.2.1, u_2.2.2) _ _ _ _ (by
      obtain ⟨q1, q2⟩ := Bool.and_eq_true_iff.mp c_4
      rw [if_pos q1, if_pos q2, w_1 q1 q2, detM_lay]) (hP.sub [2, 0, 1, 3] rfl) (hD.sub [2, 0, 1, 3] rfl rfl) hS dX6_norm_19
set_option maxHeartbeats 4000000 in
set_option maxRecDepth 100000 in
theorem m_elementIndex (l : Launch) (D : va_G) (cI cJ : ClassId) (h0 : Nat) (st : Nat) (he : Nat) (ma : Nat) (tr : Nat) (fo : Nat) (gi : Nat) (n : Nat) (f : Fm) (k : Fm) (p : Em) (t : Fm) (tb : Int32) (C : Nat → Int32) (G : Nat → Int32) (x : Int32) (y : Int32) (hn : n ≤ 60) : CtL l yX6_elementIndex cX6_elementIndex 9 (rmk 2 46) D cI cJ [.ref h0, .int x, .int y] [(h0, moE (nI n) st f k he p ma tr t tb fo gi), (st, aiE cI 240 C), (he, aiE cI 18 G)] (fun (u : Fm × Em) => [(h0, moE (nI n) st u.1 k he u.2 ma tr t tb fo gi), (st, aiE cI 240 C), (he, aiE cI 18 G)]) (fun (r : Int64) (u : Fm × Em) => r = if isFormB n x then (if isRegB y then absL ((ldE G y.toNatClampNeg).2.1 * (prodE (ldF C x.toNatClampNeg) (ldE G y.toNatClampNeg) (ldE G y.toNatClampNeg)).2.2 - (ldE G y.toNatClampNeg).2.2 * (prodE (ldF C x.toNatClampNeg) (ldE G y.toNatClampNeg) (ldE G y.toNatClampNeg)).2.1) else (-9223372036854775808)) else (-9223372036854775808)) := by
  refine CtL.of (own := RX6) (by decide +kernel) (Nat.le_of_ble_eq_true rfl) rfl ?_
  intro pr_ en_ sg_ me_ ar_ be_ mt_ co_ AA ls QQ X hA hP hD hS hl hret
  have hl : lv_has ls 9 [(0, .ref h0), (1, .int x), (2, .int y)] := hl
  refine lv_aload_n X.1 X.2.1 dX6_elementIndex_0 rfl (lv_at hl 0 rfl) ?_
  refine lv_iload_n X.1 X.2.1 dX6_elementIndex_1 rfl (lv_at hl 1 rfl) ?_
  refine fin_i (wr := [(st, aiE cI 240 C), (he, aiE cI 18 G)]) (cv_X6_66 X (m_isForm l D cI cJ h0 st he ma tr fo gi n f k p t tb x (by first | assumption | omega) _) rfl rfl dX6_elementIndex_2 hP hD 0 rfl [0] rfl rfl hl.1 rfl rfl (Nat.le_of_ble_eq_true rfl) ⟨Nat.le_of_ble_eq_true rfl, Nat.le_of_ble_eq_true rfl⟩ ⟨Nat.le_of_ble_eq_true rfl, Nat.le_of_ble_eq_true rfl⟩) hP hD hS hA [0] [1, 2] rfl rfl rfl (by decide) (fun r_3 u_2 H locs w_1 hP hD hS => ?_)
  have hP : va_P D vwCl [(st, aiE cI 240 C), (he, aiE cI 18 G), (h0, moE (nI n) st f k he p ma tr t tb fo gi)] H := hP
  have hD : va_D AA [(st, aiE cI 240 C), (he, aiE cI 18 G), (h0, moE (nI n) st f k he p ma tr t tb fo gi)] := hD
  subst w_1
  refine bb_eq (tgt := 15) X dX6_elementIndex_5 (by decide) (fun c_4 => ?_) (fun c_4 => ?_)
  · refine lc_X6_80 X dX6_elementIndex_15 ?_
    exact hret (-9223372036854775808) (f, p) _ _ _ _ (by rw [if_neg (by rw [c_4]; decide)]) (hP.sub [2, 0, 1] rfl) (hD.sub [2, 0, 1] rfl rfl) hS dX6_elementIndex_18
  · refine lv_iload_n X.1 X.2.1 dX6_elementIndex_8 rfl (lv_at hl 2 rfl) ?_
    refine fin_i (wr := [(st, aiE cI 240 C), (he, aiE cI 18 G), (h0, moE (nI n) st f k he p ma tr t tb fo gi)]) (cv_X6_170 X (m_isRegister l D cI cJ y  _) rfl rfl dX6_elementIndex_9 hP hD [] rfl rfl hl.1 rfl rfl (Nat.le_of_ble_eq_true rfl) ⟨Nat.le_of_ble_eq_true rfl, Nat.le_of_ble_eq_true rfl⟩ ⟨Nat.le_of_ble_eq_true rfl, Nat.le_of_ble_eq_true rfl⟩) hP hD hS hA [] [0, 1, 2] rfl rfl rfl (by decide) (fun r_7 u_6 H locs w_5 hP hD hS => ?_)
    have hP : va_P D vwCl [(st, aiE cI 240 C), (he, aiE cI 18 G), (h0, moE (nI n) st f k he p ma tr t tb fo gi)] H := hP
    have hD : va_D AA [(st, aiE cI 240 C), (he, aiE cI 18 G), (h0, moE (nI n) st f k he p ma tr t tb fo gi)] := hD
    subst w_5
    refine bb_ne (tgt := 19) X dX6_elementIndex_12 (by decide) (fun c_8 => ?_) (fun c_8 => ?_)
    · obtain ⟨k1, hk1, hxk1⟩ := isRegB_out c_8
      rw [hxk1] at hl
      have hck1 : y.toNatClampNeg = k1 := by rw [hxk1]; exact nI_clamp (by omega)
      refine lv_aload_n X.1 X.2.1 dX6_elementIndex_19 rfl (lv_at hl 0 rfl) ?_
      refine lv_iload_n X.1 X.2.1 dX6_elementIndex_20 rfl (lv_at hl 1 rfl) ?_
      refine fin_v (wr := [(he, aiE cI 18 G)]) (cv_X6_82 X (m_load l D cI cJ h0 st he ma tr fo gi n f k p t tb C x hn c_4 _) rfl rfl dX6_elementIndex_21 hP hD 2 rfl [2, 0] rfl rfl hl.1 rfl rfl (Nat.le_of_ble_eq_true rfl) ⟨Nat.le_of_ble_eq_true rfl, Nat.le_of_ble_eq_true rfl⟩ ⟨Nat.le_of_ble_eq_true rfl, Nat.le_of_ble_eq_true rfl⟩) hP hD hS hA [2, 0] [1] rfl rfl rfl (by decide) (fun u_10 H locs w_9 hP hD hS => ?_)
      have hP : va_P D vwCl [(he, aiE cI 18 G), (h0, moE (nI n) st (ldF C x.toNatClampNeg) k he p ma tr t tb fo gi), (st, aiE cI 240 C)] H := hP
      have hD : va_D AA [(he, aiE cI 18 G), (h0, moE (nI n) st (ldF C x.toNatClampNeg) k he p ma tr t tb fo gi), (st, aiE cI 240 C)] := hD
      refine lv_aload_n X.1 X.2.1 dX6_elementIndex_24 rfl (lv_at hl 0 rfl) ?_
      refine gf_X6_13 (v := .ref he) X hP 1 rfl rfl dX6_elementIndex_25 ?_
      refine lv_iconst (v := 3) X.1 X.2.1 dX6_elementIndex_28 (by decide) ?_
      refine lv_iload_n X.1 X.2.1 dX6_elementIndex_29 rfl (lv_at hl 2 rfl) ?_
      refine lv_imul X.1 X.2.1 dX6_elementIndex_30 ?_
      rw [nI_3l]
      refine va_iald X.1 X.2.1 X.k hP 0 0 rfl rfl (vp_in_nI (by omega) (by omega)) dX6_elementIndex_31 ?_
      refine lv_i2l X.1 X.2.1 dX6_elementIndex_32 rfl ?_
      refine lv_lstore_n (lv' := [(3, .long ((G ((nI (3 * k1)).toNatClampNeg)).toInt64)), (0, .ref h0), (1, .int x), (2, .int (nI k1))]) X.1 X.2.1 dX6_elementIndex_33 rfl hl (by decide) rfl (fun ls hl => ?_)
      refine lv_aload_n X.1 X.2.1 dX6_elementIndex_34 rfl (lv_at hl 1 rfl) ?_
      refine gf_X6_13 (v := .ref he) X hP 1 rfl rfl dX6_elementIndex_35 ?_
      refine lv_iconst (v := 3) X.1 X.2.1 dX6_elementIndex_38 (by decide) ?_
      refine lv_iload_n X.1 X.2.1 dX6_elementIndex_39 rfl (lv_at hl 3 rfl) ?_
      refine lv_imul X.1 X.2.1 dX6_elementIndex_40 ?_
      refine lv_iconst (v := 1) X.1 X.2.1 dX6_elementIndex_41 (by decide) ?_
      refine lv_iadd X.1 X.2.1 dX6_elementIndex_42 ?_
      rw [nI_3l, nI_1]
      refine va_iald X.1 X.2.1 X.k hP 0 0 rfl rfl (vp_in_nI (by omega) (by omega)) dX6_elementIndex_43 ?_
      refine lv_i2l X.1 X.2.1 dX6_elementIndex_44 rfl ?_
      refine lv_lstore (lv' := [(5, .long ((G ((nI (3 * k1 + 1)).toNatClampNeg)).toInt64)), (3, .long ((G ((nI (3 * k1)).toNatClampNeg)).toInt64)), (0, .ref h0), (1, .int x), (2, .int (nI k1))]) X.1 X.2.1 dX6_elementIndex_45 hl (by decide) rfl (fun ls hl => ?_)
      refine lv_aload_n X.1 X.2.1 dX6_elementIndex_47 rfl (lv_at hl 2 rfl) ?_
      refine gf_X6_13 (v := .ref he) X hP 1 rfl rfl dX6_elementIndex_48 ?_
      refine lv_iconst (v := 3) X.1 X.2.1 dX6_elementIndex_51 (by decide) ?_
      refine lv_iload_n X.1 X.2.1 dX6_elementIndex_52 rfl (lv_at hl 4 rfl) ?_
      refine lv_imul X.1 X.2.1 dX6_elementIndex_53 ?_
      refine lv_iconst (v := 2) X.1 X.2.1 dX6_elementIndex_54 (by decide) ?_
      refine lv_iadd X.1 X.2.1 dX6_elementIndex_55 ?_
      rw [nI_3l, nI_2]
      refine va_iald X.1 X.2.1 X.k hP 0 0 rfl rfl (vp_in_nI (by omega) (by omega)) dX6_elementIndex_56 ?_
      refine lv_i2l X.1 X.2.1 dX6_elementIndex_57 rfl ?_
      refine lv_lstore (lv' := [(7, .long ((G ((nI (3 * k1 + 2)).toNatClampNeg)).toInt64)), (5, .long ((G ((nI (3 * k1 + 1)).toNatClampNeg)).toInt64)), (3, .long ((G ((nI (3 * k1)).toNatClampNeg)).toInt64)), (0, .ref h0), (1, .int x), (2, .int (nI k1))]) X.1 X.2.1 dX6_elementIndex_58 hl (by decide) rfl (fun ls hl => ?_)
      refine lv_aload_n X.1 X.2.1 dX6_elementIndex_60 rfl (lv_at hl 3 rfl) ?_
      refine lv_lload_n X.1 X.2.1 dX6_elementIndex_61 rfl (lv_at hl 2 rfl) ?_
      refine lv_lload X.1 X.2.1 dX6_elementIndex_62 (lv_at hl 1 rfl) ?_
      refine lv_lload X.1 X.2.1 dX6_elementIndex_64 (lv_at hl 0 rfl) ?_
      refine lv_lload_n X.1 X.2.1 dX6_elementIndex_66 rfl (lv_at hl 2 rfl) ?_
      refine lv_lload X.1 X.2.1 dX6_elementIndex_67 (lv_at hl 1 rfl) ?_
      refine lv_lload X.1 X.2.1 dX6_elementIndex_69 (lv_at hl 0 rfl) ?_
      refine fin_v (wr := [(he, aiE cI 18 G), (st, aiE cI 240 C)]) (cv_X6_182 X (m_product l D cI cJ h0 st he ma tr fo gi n (ldF C x.toNatClampNeg) k p t tb ((G ((nI (3 * k1)).toNatClampNeg)).toInt64) ((G ((nI (3 * k1 + 1)).toNatClampNeg)).toInt64) ((G ((nI (3 * k1 + 2)).toNatClampNeg)).toInt64) ((G ((nI (3 * k1)).toNatClampNeg)).toInt64) ((G ((nI (3 * k1 + 1)).toNatClampNeg)).toInt64) ((G ((nI (3 * k1 + 2)).toNatClampNeg)).toInt64)  _) rfl rfl dX6_elementIndex_71 hP hD 1 rfl [1] rfl rfl hl.1 rfl rfl (Nat.le_of_ble_eq_true rfl) ⟨Nat.le_of_ble_eq_true rfl, Nat.le_of_ble_eq_true rfl⟩ ⟨Nat.le_of_ble_eq_true rfl, Nat.le_of_ble_eq_true rfl⟩) hP hD hS hA [1] [0, 2] rfl rfl rfl (by decide) (fun u_13 H locs w_12 hP hD hS => ?_)
      have hP : va_P D vwCl [(he, aiE cI 18 G), (st, aiE cI 240 C), (h0, moE (nI n) st (ldF C x.toNatClampNeg) k he (prodE (ldF C x.toNatClampNeg) (((G ((nI (3 * k1)).toNatClampNeg)).toInt64), ((G ((nI (3 * k1 + 1)).toNatClampNeg)).toInt64), ((G ((nI (3 * k1 + 2)).toNatClampNeg)).toInt64)) (((G ((nI (3 * k1)).toNatClampNeg)).toInt64), ((G ((nI (3 * k1 + 1)).toNatClampNeg)).toInt64), ((G ((nI (3 * k1 + 2)).toNatClampNeg)).toInt64))) ma tr t tb fo gi)] H := hP
      have hD : va_D AA [(he, aiE cI 18 G), (st, aiE cI 240 C), (h0, moE (nI n) st (ldF C x.toNatClampNeg) k he (prodE (ldF C x.toNatClampNeg) (((G ((nI (3 * k1)).toNatClampNeg)).toInt64), ((G ((nI (3 * k1 + 1)).toNatClampNeg)).toInt64), ((G ((nI (3 * k1 + 2)).toNatClampNeg)).toInt64)) (((G ((nI (3 * k1)).toNatClampNeg)).toInt64), ((G ((nI (3 * k1 + 1)).toNatClampNeg)).toInt64), ((G ((nI (3 * k1 + 2)).toNatClampNeg)).toInt64))) ma tr t tb fo gi)] := hD
      rw [nI_clamp (show 3 * k1 < 2 ^ 31 by omega), nI_clamp (show 3 * k1 + 1 < 2 ^ 31 by omega), nI_clamp (show 3 * k1 + 2 < 2 ^ 31 by omega)] at hP hD hl
      have ep0 : prodE (ldF C x.toNatClampNeg) (ldE G y.toNatClampNeg) (ldE G y.toNatClampNeg) = prodE (ldF C x.toNatClampNeg) (((G ((3 * k1))).toInt64), ((G ((3 * k1 + 1))).toInt64), ((G ((3 * k1 + 2))).toInt64)) (((G ((3 * k1))).toInt64), ((G ((3 * k1 + 1))).toInt64), ((G ((3 * k1 + 2))).toInt64)) := by rw [hck1]; rfl
      rw [← ep0] at hP hD
      have el1 : (ldE G y.toNatClampNeg).1 = (G (3 * k1)).toInt64 := by rw [hck1]; rfl
      have el2 : (ldE G y.toNatClampNeg).2.1 = (G (3 * k1 + 1)).toInt64 := by rw [hck1]; rfl
      have el3 : (ldE G y.toNatClampNeg).2.2 = (G (3 * k1 + 2)).toInt64 := by rw [hck1]; rfl
      rw [← el1, ← el2, ← el3] at hl
      refine lv_lload X.1 X.2.1 dX6_elementIndex_74 (lv_at hl 1 rfl) ?_
      refine lv_aload_n X.1 X.2.1 dX6_elementIndex_76 rfl (lv_at hl 3 rfl) ?_
      refine gf_X6_179 (v := .long ((prodE (ldF C x.toNatClampNeg) (ldE G y.toNatClampNeg) (ldE G y.toNatClampNeg)).2.2)) X hP 2 rfl rfl dX6_elementIndex_77 ?_
      refine lv_lmul X.1 X.2.1 dX6_elementIndex_80 ?_
      refine lv_lload X.1 X.2.1 dX6_elementIndex_81 (lv_at hl 0 rfl) ?_
      refine lv_aload_n X.1 X.2.1 dX6_elementIndex_83 rfl (lv_at hl 3 rfl) ?_
      refine gf_X6_176 (v := .long ((prodE (ldF C x.toNatClampNeg) (ldE G y.toNatClampNeg) (ldE G y.toNatClampNeg)).2.1)) X hP 2 rfl rfl dX6_elementIndex_84 ?_
      refine lv_lmul X.1 X.2.1 dX6_elementIndex_87 ?_
      refine lv_lsub X.1 X.2.1 dX6_elementIndex_88 ?_
      refine fin_l (wr := [(he, aiE cI 18 G), (st, aiE cI 240 C), (h0, moE (nI n) st (ldF C x.toNatClampNeg) k he (prodE (ldF C x.toNatClampNeg) (ldE G y.toNatClampNeg) (ldE G y.toNatClampNeg)) ma tr t tb fo gi)]) (cv_X6_109 X (m_size l D cI cJ ((((ldE G y.toNatClampNeg).2.1) * ((prodE (ldF C x.toNatClampNeg) (ldE G y.toNatClampNeg) (ldE G y.toNatClampNeg)).2.2)) - (((ldE G y.toNatClampNeg).2.2) * ((prodE (ldF C x.toNatClampNeg) (ldE G y.toNatClampNeg) (ldE G y.toNatClampNeg)).2.1)))  _) rfl rfl dX6_elementIndex_89 hP hD [] rfl rfl hl.1 rfl rfl (Nat.le_of_ble_eq_true rfl) ⟨Nat.le_of_ble_eq_true rfl, Nat.le_of_ble_eq_true rfl⟩ ⟨Nat.le_of_ble_eq_true rfl, Nat.le_of_ble_eq_true rfl⟩) hP hD hS hA [] [0, 1, 2] rfl rfl rfl (by decide) (fun r_17 u_16 H locs w_15 hP hD hS => ?_)
      have hP : va_P D vwCl [(he, aiE cI 18 G), (st, aiE cI 240 C), (h0, moE (nI n) st (ldF C x.toNatClampNeg) k he (prodE (ldF C x.toNatClampNeg) (ldE G y.toNatClampNeg) (ldE G y.toNatClampNeg)) ma tr t tb fo gi)] H := hP
      have hD : va_D AA [(he, aiE cI 18 G), (st, aiE cI 240 C), (h0, moE (nI n) st (ldF C x.toNatClampNeg) k he (prodE (ldF C x.toNatClampNeg) (ldE G y.toNatClampNeg) (ldE G y.toNatClampNeg)) ma tr t tb fo gi)] := hD
      subst w_15
      exact hret (sizeL ((((ldE G y.toNatClampNeg).2.1) * ((prodE (ldF C x.toNatClampNeg) (ldE G y.toNatClampNeg) (ldE G y.toNatClampNeg)).2.2)) - (((ldE G y.toNatClampNeg).2.2) * ((prodE (ldF C x.toNatClampNeg) (ldE G y.toNatClampNeg) (ldE G y.toNatClampNeg)).2.1)))) (ldF C x.toNatClampNeg, prodE (ldF C x.toNatClampNeg) (ldE G y.toNatClampNeg) (ldE G y.toNatClampNeg)) _ _ _ _ (by rw [if_pos c_4, if_pos c_8, sizeL_abs]) (hP.sub [2, 1, 0] rfl) (hD.sub [2, 1, 0] rfl rfl) hS dX6_elementIndex_92
    · refine lc_X6_80 X dX6_elementIndex_15 ?_
      exact hret (-9223372036854775808) (f, p) _ _ _ _ (by rw [if_pos c_4, if_neg (by rw [c_8]; decide)]) (hP.sub [2, 0, 1] rfl) (hD.sub [2, 0, 1] rfl rfl) hS dX6_elementIndex_18
set_option maxHeartbeats 4000000 in
set_option maxRecDepth 100000 in
theorem m_isPrime (l : Launch) (D : va_G) (cI cJ : ClassId) (x : Int32)  : CtI l yX6_isPrime cX6_isPrime 2 .boolean (rmk 1 25) D cI cJ [.int x] [] (fun (_ : Unit) => []) (fun (r : Int32) (_ : Unit) => r = bI (primeB x)) := by
  refine CtI.of (own := RX6) (by decide +kernel) (Nat.le_of_ble_eq_true rfl) rfl ?_
  intro pr_ en_ sg_ me_ ar_ be_ mt_ co_ AA ls QQ X hA hP hD hS hl hret
  have hl : lv_has ls 2 [(0, .int x)] := hl
  refine lv_iload_n X.1 X.2.1 dX6_isPrime_0 rfl (lv_at hl 0 rfl) ?_
  refine lv_i2l X.1 X.2.1 dX6_isPrime_1 rfl ?_
  refine lc_X6_90 X dX6_isPrime_2 ?_
  refine lc_X6_200 X dX6_isPrime_5 ?_
  refine fin_i (wr := []) (cv_X6_33 X (m_isBetween l D cI cJ x.toInt64 2 997  _) rfl rfl dX6_isPrime_8 hP hD [] rfl rfl hl.1 rfl rfl (Nat.le_of_ble_eq_true rfl) ⟨Nat.le_of_ble_eq_true rfl, Nat.le_of_ble_eq_true rfl⟩ ⟨Nat.le_of_ble_eq_true rfl, Nat.le_of_ble_eq_true rfl⟩) hP hD hS hA [] [] rfl rfl rfl (by decide) (fun r_3 u_2 H locs w_1 hP hD hS => ?_)
  have hP : va_P D vwCl [] H := hP
  have hD : va_D AA [] := hD
  subst w_1
  refine bb_ne (tgt := 16) X dX6_isPrime_11 (by decide) (fun c_4 => ?_) (fun c_4 => ?_)
  · obtain ⟨P, hP2, hP9, rfl⟩ := x_in3 c_4
    refine lv_iconst (v := 2) X.1 X.2.1 dX6_isPrime_16 (by decide) ?_
    refine lv_istore_n (lv' := [(1, .int 2), (0, .int (nI P))]) X.1 X.2.1 dX6_isPrime_17 rfl hl (by decide) rfl (fun ls hl => ?_)
    have loop18 : ∀ (n9 : Nat) (k : Nat), (2 ≤ k) → (k ≤ P + 1) → (∀ j, 2 ≤ j → j < k → P % j ≠ 0) → (P + 3 ≤ k + n9) → ∀ (H : Heap) (locs : List Loc) (ls : Array Slot), va_P D vwCl [] H → va_D AA [] → va_S AA sg_.heap H locs → lv_has ls 2 [(0, .int (nI P)), (1, .int (nI k))] → W pr_ l en_ (rmk 1 25) sg_ me_ ar_ be_ mt_ co_ H locs 0 0 QQ (F0 me_ 18 ls []) := by
      intro n9
      induction n9 with
      | zero =>
        intro k hk2 hkP hi hn9
        omega
      | succ n18 ih18 =>
        intro k hk2 hkP hi hn9 H locs ls hP hD hS hl
        refine lv_iload_n X.1 X.2.1 dX6_isPrime_18 rfl (lv_at hl 1 rfl) ?_
        refine lv_iload_n X.1 X.2.1 dX6_isPrime_19 rfl (lv_at hl 1 rfl) ?_
        refine lv_imul X.1 X.2.1 dX6_isPrime_20 ?_
        refine lv_iload_n X.1 X.2.1 dX6_isPrime_21 rfl (lv_at hl 0 rfl) ?_
        refine bi_gt (tgt := 39) X dX6_isPrime_22 (by decide) (fun c_5 => ?_) (fun c_5 => ?_)
        · refine lv_iconst (v := 1) X.1 X.2.1 dX6_isPrime_39 (by decide) ?_
          exact hret 1 () _ _ _ _ (by rw [primeB_of hP2 hP9, prB_yes hi ((nI_ltsq (by omega) (by omega)).mp c_5)]; rfl) rfl (hP.sub [] rfl) (hD.sub [] rfl rfl) hS dX6_isPrime_40
        · have hkk : ¬ P < k * k := fun q => c_5 ((nI_ltsq (by omega) (by omega)).mpr q)
          have hkP2 : k < P := by
            have := Nat.mul_le_mul_right k hk2
            omega
          refine lv_iload_n X.1 X.2.1 dX6_isPrime_25 rfl (lv_at hl 0 rfl) ?_
          refine lv_iload_n X.1 X.2.1 dX6_isPrime_26 rfl (lv_at hl 1 rfl) ?_
          refine lv_irem X.1 X.2.1 dX6_isPrime_27 (nI_ne0 (by omega) (by omega)) ?_
          refine bz_ne (tgt := 33) X dX6_isPrime_28 (by decide) (fun c_6 => ?_) (fun c_6 => ?_)
          · refine lv_iinc (v := nI (k + 1)) (lv' := [(1, .int (nI (k + 1))), (0, .int (nI P))]) X.1 X.2.1 dX6_isPrime_33 hl (k := 1) rfl (nI_1 k) (by decide) rfl (fun ls hl => ?_)
            refine lv_goto (tgt := 18) X.1 X.2.1 dX6_isPrime_36 (by decide) ?_
            exact ih18  (k + 1) (by omega) (by omega) (fun j h1 h2 => by
              rcases Nat.lt_or_ge j k with q | q
              · exact hi j h1 q
              · obtain rfl : j = k := by omega
                exact fun q => c_6 ((nI_rem0 (by omega) (by omega) (by omega)).mpr q)) (by omega) _ _ _ (hP.sub [] rfl) (hD.sub [] rfl rfl) hS (lv_sub hl [1, 0] rfl)
          · refine lv_iconst (v := 0) X.1 X.2.1 dX6_isPrime_31 (by decide) ?_
            exact hret 0 () _ _ _ _ (by rw [primeB_of hP2 hP9, prB_no hk2 (by omega) hP9 ((nI_rem0 (by omega) (by omega) (by omega)).mp c_6)]; rfl) rfl (hP.sub [] rfl) (hD.sub [] rfl rfl) hS dX6_isPrime_32
    exact loop18 (P + 1) 2 (Nat.le_refl 2) (by omega) (fun j h1 h2 => by omega) (by omega) _ _ _ (hP.sub [] rfl) (hD.sub [] rfl rfl) hS (lv_sub hl [1, 0] rfl)
  · refine lv_iconst (v := 0) X.1 X.2.1 dX6_isPrime_14 (by decide) ?_
    exact hret 0 () _ _ _ _ (by rw [primeB_f c_4]; rfl) rfl (hP.sub [] rfl) (hD.sub [] rfl rfl) hS dX6_isPrime_15
set_option maxHeartbeats 4000000 in
set_option maxRecDepth 100000 in
theorem m_dividesAll (l : Launch) (D : va_G) (cI cJ : ClassId) (h0 : Nat) (st : Nat) (he : Nat) (ma : Nat) (tr : Nat) (fo : Nat) (gi : Nat) (n : Nat) (f : Fm) (k : Fm) (p : Em) (t : Fm) (tb : Int32) (P : Nat) (h2 : 2 ≤ P) (h9 : P ≤ 997) : CtI l yX6_dividesAll cX6_dividesAll 3 .boolean (rmk 0 0) D cI cJ [.ref h0, .long (lN P)] [(h0, moE (nI n) st f k he p ma tr t tb fo gi)] (fun (_ : Unit) => [(h0, moE (nI n) st f k he p ma tr t tb fo gi)]) (fun (r : Int32) (_ : Unit) => r = bI (mulF f (lN P))) := by
  refine CtI.of (own := RX6) (by decide +kernel) (Nat.le_of_ble_eq_true rfl) rfl ?_
  intro pr_ en_ sg_ me_ ar_ be_ mt_ co_ AA ls QQ X hA hP hD hS hl hret
  have hl : lv_has ls 3 [(0, .ref h0), (1, .long (lN P))] := hl
  refine lv_aload_n X.1 X.2.1 dX6_dividesAll_0 rfl (lv_at hl 0 rfl) ?_
  refine gf_X6_41 (v := .long f.1) X hP 0 rfl rfl dX6_dividesAll_1 ?_
  refine lv_lload_n X.1 X.2.1 dX6_dividesAll_4 rfl (lv_at hl 1 rfl) ?_
  refine lv_lrem X.1 X.2.1 dX6_dividesAll_5 (lN_ne0 (by omega) (by omega)) ?_
  refine lv_lconst (v := 0) X.1 X.2.1 dX6_dividesAll_6 (by decide) ?_
  refine bl_ne (tgt := 48) X dX6_dividesAll_7 dX6_dividesAll_8 (by decide) (fun c_1 => ?_) (fun c_1 => ?_)
  · refine lv_iconst (v := 0) X.1 X.2.1 dX6_dividesAll_48 (by decide) ?_
    exact hret 0 () _ _ _ _ (by simp only [mulF, remL, bI, c_1, decide_true, decide_false, Bool.and_true, Bool.true_and, Bool.and_false, Bool.false_and, if_true, if_false]; rfl) rfl (hP.sub [0] rfl) (hD.sub [0] rfl rfl) hS dX6_dividesAll_49
  · refine lv_aload_n X.1 X.2.1 dX6_dividesAll_11 rfl (lv_at hl 0 rfl) ?_
    refine gf_X6_45 (v := .long f.2.1) X hP 0 rfl rfl dX6_dividesAll_12 ?_
    refine lv_lload_n X.1 X.2.1 dX6_dividesAll_15 rfl (lv_at hl 1 rfl) ?_
    refine lv_lrem X.1 X.2.1 dX6_dividesAll_16 (lN_ne0 (by omega) (by omega)) ?_
    refine lv_lconst (v := 0) X.1 X.2.1 dX6_dividesAll_17 (by decide) ?_
    refine bl_ne (tgt := 48) X dX6_dividesAll_18 dX6_dividesAll_19 (by decide) (fun c_2 => ?_) (fun c_2 => ?_)
    · refine lv_iconst (v := 0) X.1 X.2.1 dX6_dividesAll_48 (by decide) ?_
      exact hret 0 () _ _ _ _ (by simp only [mulF, remL, bI, c_1, c_2, decide_true, decide_false, Bool.and_true, Bool.true_and, Bool.and_false, Bool.false_and, if_true, if_false]; rfl) rfl (hP.sub [0] rfl) (hD.sub [0] rfl rfl) hS dX6_dividesAll_49
    · refine lv_aload_n X.1 X.2.1 dX6_dividesAll_22 rfl (lv_at hl 0 rfl) ?_
      refine gf_X6_48 (v := .long f.2.2.1) X hP 0 rfl rfl dX6_dividesAll_23 ?_
      refine lv_lload_n X.1 X.2.1 dX6_dividesAll_26 rfl (lv_at hl 1 rfl) ?_
      refine lv_lrem X.1 X.2.1 dX6_dividesAll_27 (lN_ne0 (by omega) (by omega)) ?_
      refine lv_lconst (v := 0) X.1 X.2.1 dX6_dividesAll_28 (by decide) ?_
      refine bl_ne (tgt := 48) X dX6_dividesAll_29 dX6_dividesAll_30 (by decide) (fun c_3 => ?_) (fun c_3 => ?_)
      · refine lv_iconst (v := 0) X.1 X.2.1 dX6_dividesAll_48 (by decide) ?_
        exact hret 0 () _ _ _ _ (by simp only [mulF, remL, bI, c_1, c_2, c_3, decide_true, decide_false, Bool.and_true, Bool.true_and, Bool.and_false, Bool.false_and, if_true, if_false]; rfl) rfl (hP.sub [0] rfl) (hD.sub [0] rfl rfl) hS dX6_dividesAll_49
      · refine lv_aload_n X.1 X.2.1 dX6_dividesAll_33 rfl (lv_at hl 0 rfl) ?_
        refine gf_X6_51 (v := .long f.2.2.2) X hP 0 rfl rfl dX6_dividesAll_34 ?_
        refine lv_lload_n X.1 X.2.1 dX6_dividesAll_37 rfl (lv_at hl 1 rfl) ?_
        refine lv_lrem X.1 X.2.1 dX6_dividesAll_38 (lN_ne0 (by omega) (by omega)) ?_
        refine lv_lconst (v := 0) X.1 X.2.1 dX6_dividesAll_39 (by decide) ?_
        refine bl_ne (tgt := 48) X dX6_dividesAll_40 dX6_dividesAll_41 (by decide) (fun c_4 => ?_) (fun c_4 => ?_)
        · refine lv_iconst (v := 0) X.1 X.2.1 dX6_dividesAll_48 (by decide) ?_
          exact hret 0 () _ _ _ _ (by simp only [mulF, remL, bI, c_1, c_2, c_3, c_4, decide_true, decide_false, Bool.and_true, Bool.true_and, Bool.and_false, Bool.false_and, if_true, if_false]; rfl) rfl (hP.sub [0] rfl) (hD.sub [0] rfl rfl) hS dX6_dividesAll_49
        · refine lv_iconst (v := 1) X.1 X.2.1 dX6_dividesAll_44 (by decide) ?_
          refine lv_goto (tgt := 49) X.1 X.2.1 dX6_dividesAll_45 (by decide) ?_
          exact hret 1 () _ _ _ _ (by simp only [mulF, remL, bI, c_1, c_2, c_3, c_4, decide_true, decide_false, Bool.and_true, Bool.true_and, Bool.and_false, Bool.false_and, if_true, if_false]) rfl (hP.sub [0] rfl) (hD.sub [0] rfl rfl) hS dX6_dividesAll_49
set_option maxHeartbeats 4000000 in
set_option maxRecDepth 100000 in
theorem m_layPoint (l : Launch) (D : va_G) (cI cJ : ClassId) (h0 : Nat) (st : Nat) (he : Nat) (ma : Nat) (tr : Nat) (fo : Nat) (gi : Nat) (n : Nat) (f : Fm) (k : Fm) (p : Em) (t : Fm) (tb : Int32) (t1 : Int64) (P1 : Int64)  : CtV l yX6_layPoint cX6_layPoint 5 (rmk 0 0) D cI cJ [.ref h0, .long t1, .long P1] [(h0, moE (nI n) st f k he p ma tr t tb fo gi)] (fun (_ : Unit) => [(h0, moE (nI n) st f k he p ma tr (ptF f P1 t1) tb fo gi)]) (fun (_ : Unit) => True) 0 0 := by
  refine CtV.of (own := RX6) (by decide +kernel) (Nat.le_of_ble_eq_true rfl) rfl ?_
  intro pr_ en_ sg_ me_ ar_ be_ mt_ co_ AA ls QQ X hin hA hP hD hS hl hret
  have hl : lv_has ls 5 [(0, .ref h0), (1, .long t1), (3, .long P1)] := hl
  refine lv_lload_n X.1 X.2.1 dX6_layPoint_0 rfl (lv_at hl 1 rfl) ?_
  refine lv_lload_n X.1 X.2.1 dX6_layPoint_1 rfl (lv_at hl 2 rfl) ?_
  refine bl_ne (tgt := 39) X dX6_layPoint_2 dX6_layPoint_3 (by decide) (fun c_1 => ?_) (fun c_1 => ?_)
  · refine lv_aload_n X.1 X.2.1 dX6_layPoint_39 rfl (lv_at hl 0 rfl) ?_
    refine lv_aload_n X.1 X.2.1 dX6_layPoint_40 rfl (lv_at hl 0 rfl) ?_
    refine gf_X6_41 (v := .long f.1) X hP 0 rfl rfl dX6_layPoint_41 ?_
    refine lv_aload_n X.1 X.2.1 dX6_layPoint_44 rfl (lv_at hl 0 rfl) ?_
    refine gf_X6_45 (v := .long f.2.1) X hP 0 rfl rfl dX6_layPoint_45 ?_
    refine lv_lload_n X.1 X.2.1 dX6_layPoint_48 rfl (lv_at hl 1 rfl) ?_
    refine lv_lmul X.1 X.2.1 dX6_layPoint_49 ?_
    refine lv_ladd X.1 X.2.1 dX6_layPoint_50 ?_
    refine lv_aload_n X.1 X.2.1 dX6_layPoint_51 rfl (lv_at hl 0 rfl) ?_
    refine gf_X6_48 (v := .long f.2.2.1) X hP 0 rfl rfl dX6_layPoint_52 ?_
    refine lv_lload_n X.1 X.2.1 dX6_layPoint_55 rfl (lv_at hl 1 rfl) ?_
    refine lv_lmul X.1 X.2.1 dX6_layPoint_56 ?_
    refine lv_lload_n X.1 X.2.1 dX6_layPoint_57 rfl (lv_at hl 1 rfl) ?_
    refine lv_lmul X.1 X.2.1 dX6_layPoint_58 ?_
    refine lv_ladd X.1 X.2.1 dX6_layPoint_59 ?_
    refine lv_aload_n X.1 X.2.1 dX6_layPoint_60 rfl (lv_at hl 0 rfl) ?_
    refine gf_X6_51 (v := .long f.2.2.2) X hP 0 rfl rfl dX6_layPoint_61 ?_
    refine lv_lload_n X.1 X.2.1 dX6_layPoint_64 rfl (lv_at hl 1 rfl) ?_
    refine lv_lmul X.1 X.2.1 dX6_layPoint_65 ?_
    refine lv_lload_n X.1 X.2.1 dX6_layPoint_66 rfl (lv_at hl 1 rfl) ?_
    refine lv_lmul X.1 X.2.1 dX6_layPoint_67 ?_
    refine lv_lload_n X.1 X.2.1 dX6_layPoint_68 rfl (lv_at hl 1 rfl) ?_
    refine lv_lmul X.1 X.2.1 dX6_layPoint_69 ?_
    refine lv_ladd X.1 X.2.1 dX6_layPoint_70 ?_
    refine pf_X6_202 X hP hD hS 0 rfl rfl rfl (Nat.le_of_ble_eq_true rfl) dX6_layPoint_71 (fun H locs hP hD hS => ?_)
    have hP : va_P D vwCl [(h0, moE (nI n) st f k he p ma tr (((f.1 + (f.2.1 * t1)) + ((f.2.2.1 * t1) * t1)) + (((f.2.2.2 * t1) * t1) * t1), t.2.1, t.2.2.1, t.2.2.2) tb fo gi)] H := hP
    have hD : va_D AA [(h0, moE (nI n) st f k he p ma tr (((f.1 + (f.2.1 * t1)) + ((f.2.2.1 * t1) * t1)) + (((f.2.2.2 * t1) * t1) * t1), t.2.1, t.2.2.1, t.2.2.2) tb fo gi)] := hD
    refine lv_aload_n X.1 X.2.1 dX6_layPoint_74 rfl (lv_at hl 0 rfl) ?_
    refine lv_aload_n X.1 X.2.1 dX6_layPoint_75 rfl (lv_at hl 0 rfl) ?_
    refine gf_X6_45 (v := .long f.2.1) X hP 0 rfl rfl dX6_layPoint_76 ?_
    refine lc_X6_90 X dX6_layPoint_79 ?_
    refine lv_aload_n X.1 X.2.1 dX6_layPoint_82 rfl (lv_at hl 0 rfl) ?_
    refine gf_X6_48 (v := .long f.2.2.1) X hP 0 rfl rfl dX6_layPoint_83 ?_
    refine lv_lmul X.1 X.2.1 dX6_layPoint_86 ?_
    refine lv_lload_n X.1 X.2.1 dX6_layPoint_87 rfl (lv_at hl 1 rfl) ?_
    refine lv_lmul X.1 X.2.1 dX6_layPoint_88 ?_
    refine lv_ladd X.1 X.2.1 dX6_layPoint_89 ?_
    refine lc_X6_70 X dX6_layPoint_90 ?_
    refine lv_aload_n X.1 X.2.1 dX6_layPoint_93 rfl (lv_at hl 0 rfl) ?_
    refine gf_X6_51 (v := .long f.2.2.2) X hP 0 rfl rfl dX6_layPoint_94 ?_
    refine lv_lmul X.1 X.2.1 dX6_layPoint_97 ?_
    refine lv_lload_n X.1 X.2.1 dX6_layPoint_98 rfl (lv_at hl 1 rfl) ?_
    refine lv_lmul X.1 X.2.1 dX6_layPoint_99 ?_
    refine lv_lload_n X.1 X.2.1 dX6_layPoint_100 rfl (lv_at hl 1 rfl) ?_
    refine lv_lmul X.1 X.2.1 dX6_layPoint_101 ?_
    refine lv_ladd X.1 X.2.1 dX6_layPoint_102 ?_
    refine pf_X6_205 X hP hD hS 0 rfl rfl rfl (Nat.le_of_ble_eq_true rfl) dX6_layPoint_103 (fun H locs hP hD hS => ?_)
    have hP : va_P D vwCl [(h0, moE (nI n) st f k he p ma tr (((f.1 + (f.2.1 * t1)) + ((f.2.2.1 * t1) * t1)) + (((f.2.2.2 * t1) * t1) * t1), (f.2.1 + ((2 * f.2.2.1) * t1)) + (((3 * f.2.2.2) * t1) * t1), t.2.2.1, t.2.2.2) tb fo gi)] H := hP
    have hD : va_D AA [(h0, moE (nI n) st f k he p ma tr (((f.1 + (f.2.1 * t1)) + ((f.2.2.1 * t1) * t1)) + (((f.2.2.2 * t1) * t1) * t1), (f.2.1 + ((2 * f.2.2.1) * t1)) + (((3 * f.2.2.2) * t1) * t1), t.2.2.1, t.2.2.2) tb fo gi)] := hD
    refine lv_aload_n X.1 X.2.1 dX6_layPoint_106 rfl (lv_at hl 0 rfl) ?_
    refine lv_aload_n X.1 X.2.1 dX6_layPoint_107 rfl (lv_at hl 0 rfl) ?_
    refine gf_X6_48 (v := .long f.2.2.1) X hP 0 rfl rfl dX6_layPoint_108 ?_
    refine lc_X6_70 X dX6_layPoint_111 ?_
    refine lv_aload_n X.1 X.2.1 dX6_layPoint_114 rfl (lv_at hl 0 rfl) ?_
    refine gf_X6_51 (v := .long f.2.2.2) X hP 0 rfl rfl dX6_layPoint_115 ?_
    refine lv_lmul X.1 X.2.1 dX6_layPoint_118 ?_
    refine lv_lload_n X.1 X.2.1 dX6_layPoint_119 rfl (lv_at hl 1 rfl) ?_
    refine lv_lmul X.1 X.2.1 dX6_layPoint_120 ?_
    refine lv_ladd X.1 X.2.1 dX6_layPoint_121 ?_
    refine pf_X6_208 X hP hD hS 0 rfl rfl rfl (Nat.le_of_ble_eq_true rfl) dX6_layPoint_122 (fun H locs hP hD hS => ?_)
    have hP : va_P D vwCl [(h0, moE (nI n) st f k he p ma tr (((f.1 + (f.2.1 * t1)) + ((f.2.2.1 * t1) * t1)) + (((f.2.2.2 * t1) * t1) * t1), (f.2.1 + ((2 * f.2.2.1) * t1)) + (((3 * f.2.2.2) * t1) * t1), f.2.2.1 + ((3 * f.2.2.2) * t1), t.2.2.2) tb fo gi)] H := hP
    have hD : va_D AA [(h0, moE (nI n) st f k he p ma tr (((f.1 + (f.2.1 * t1)) + ((f.2.2.1 * t1) * t1)) + (((f.2.2.2 * t1) * t1) * t1), (f.2.1 + ((2 * f.2.2.1) * t1)) + (((3 * f.2.2.2) * t1) * t1), f.2.2.1 + ((3 * f.2.2.2) * t1), t.2.2.2) tb fo gi)] := hD
    refine lv_aload_n X.1 X.2.1 dX6_layPoint_125 rfl (lv_at hl 0 rfl) ?_
    refine lv_aload_n X.1 X.2.1 dX6_layPoint_126 rfl (lv_at hl 0 rfl) ?_
    refine gf_X6_51 (v := .long f.2.2.2) X hP 0 rfl rfl dX6_layPoint_127 ?_
    refine pf_X6_211 X hP hD hS 0 rfl rfl rfl (Nat.le_of_ble_eq_true rfl) dX6_layPoint_130 (fun H locs hP hD hS => ?_)
    have hP : va_P D vwCl [(h0, moE (nI n) st f k he p ma tr (((f.1 + (f.2.1 * t1)) + ((f.2.2.1 * t1) * t1)) + (((f.2.2.2 * t1) * t1) * t1), (f.2.1 + ((2 * f.2.2.1) * t1)) + (((3 * f.2.2.2) * t1) * t1), f.2.2.1 + ((3 * f.2.2.2) * t1), f.2.2.2) tb fo gi)] H := hP
    have hD : va_D AA [(h0, moE (nI n) st f k he p ma tr (((f.1 + (f.2.1 * t1)) + ((f.2.2.1 * t1) * t1)) + (((f.2.2.2 * t1) * t1) * t1), (f.2.1 + ((2 * f.2.2.1) * t1)) + (((3 * f.2.2.2) * t1) * t1), f.2.2.1 + ((3 * f.2.2.2) * t1), f.2.2.2) tb fo gi)] := hD
    rw [show (((f.1 + (f.2.1 * t1)) + ((f.2.2.1 * t1) * t1)) + (((f.2.2.2 * t1) * t1) * t1), (f.2.1 + ((2 * f.2.2.1) * t1)) + (((3 * f.2.2.2) * t1) * t1), f.2.2.1 + ((3 * f.2.2.2) * t1), f.2.2.2) = ptF f P1 t1 from by rw [ptF, if_neg c_1, ptM]] at hP hD
    exact hret () _ _ _ _ (trivial) (hP.sub [0] rfl) (hD.sub [0] rfl rfl) hS dX6_layPoint_133
  · refine lv_aload_n X.1 X.2.1 dX6_layPoint_6 rfl (lv_at hl 0 rfl) ?_
    refine lv_aload_n X.1 X.2.1 dX6_layPoint_7 rfl (lv_at hl 0 rfl) ?_
    refine gf_X6_51 (v := .long f.2.2.2) X hP 0 rfl rfl dX6_layPoint_8 ?_
    refine pf_X6_202 X hP hD hS 0 rfl rfl rfl (Nat.le_of_ble_eq_true rfl) dX6_layPoint_11 (fun H locs hP hD hS => ?_)
    have hP : va_P D vwCl [(h0, moE (nI n) st f k he p ma tr (f.2.2.2, t.2.1, t.2.2.1, t.2.2.2) tb fo gi)] H := hP
    have hD : va_D AA [(h0, moE (nI n) st f k he p ma tr (f.2.2.2, t.2.1, t.2.2.1, t.2.2.2) tb fo gi)] := hD
    refine lv_aload_n X.1 X.2.1 dX6_layPoint_14 rfl (lv_at hl 0 rfl) ?_
    refine lv_aload_n X.1 X.2.1 dX6_layPoint_15 rfl (lv_at hl 0 rfl) ?_
    refine gf_X6_48 (v := .long f.2.2.1) X hP 0 rfl rfl dX6_layPoint_16 ?_
    refine pf_X6_205 X hP hD hS 0 rfl rfl rfl (Nat.le_of_ble_eq_true rfl) dX6_layPoint_19 (fun H locs hP hD hS => ?_)
    have hP : va_P D vwCl [(h0, moE (nI n) st f k he p ma tr (f.2.2.2, f.2.2.1, t.2.2.1, t.2.2.2) tb fo gi)] H := hP
    have hD : va_D AA [(h0, moE (nI n) st f k he p ma tr (f.2.2.2, f.2.2.1, t.2.2.1, t.2.2.2) tb fo gi)] := hD
    refine lv_aload_n X.1 X.2.1 dX6_layPoint_22 rfl (lv_at hl 0 rfl) ?_
    refine lv_aload_n X.1 X.2.1 dX6_layPoint_23 rfl (lv_at hl 0 rfl) ?_
    refine gf_X6_45 (v := .long f.2.1) X hP 0 rfl rfl dX6_layPoint_24 ?_
    refine pf_X6_208 X hP hD hS 0 rfl rfl rfl (Nat.le_of_ble_eq_true rfl) dX6_layPoint_27 (fun H locs hP hD hS => ?_)
    have hP : va_P D vwCl [(h0, moE (nI n) st f k he p ma tr (f.2.2.2, f.2.2.1, f.2.1, t.2.2.2) tb fo gi)] H := hP
    have hD : va_D AA [(h0, moE (nI n) st f k he p ma tr (f.2.2.2, f.2.2.1, f.2.1, t.2.2.2) tb fo gi)] := hD
    refine lv_aload_n X.1 X.2.1 dX6_layPoint_30 rfl (lv_at hl 0 rfl) ?_
    refine lv_aload_n X.1 X.2.1 dX6_layPoint_31 rfl (lv_at hl 0 rfl) ?_
    refine gf_X6_41 (v := .long f.1) X hP 0 rfl rfl dX6_layPoint_32 ?_
    refine pf_X6_211 X hP hD hS 0 rfl rfl rfl (Nat.le_of_ble_eq_true rfl) dX6_layPoint_35 (fun H locs hP hD hS => ?_)
    have hP : va_P D vwCl [(h0, moE (nI n) st f k he p ma tr (f.2.2.2, f.2.2.1, f.2.1, f.1) tb fo gi)] H := hP
    have hD : va_D AA [(h0, moE (nI n) st f k he p ma tr (f.2.2.2, f.2.2.1, f.2.1, f.1) tb fo gi)] := hD
    rw [show (f.2.2.2, f.2.2.1, f.2.1, f.1) = ptF f P1 t1 from by rw [ptF, if_pos c_1]] at hP hD
    exact hret () _ _ _ _ (trivial) (hP.sub [0] rfl) (hD.sub [0] rfl rfl) hS dX6_layPoint_38
set_option maxHeartbeats 4000000 in
set_option maxRecDepth 100000 in
theorem m_enlarge (l : Launch) (D : va_G) (cI cJ : ClassId) (h0 : Nat) (st : Nat) (he : Nat) (ma : Nat) (tr : Nat) (fo : Nat) (gi : Nat) (n : Nat) (f : Fm) (k : Fm) (p : Em) (t : Fm) (tb : Int32) (P : Nat) (h2 : 2 ≤ P) (h9 : P ≤ 997) : CtI l yX6_enlarge cX6_enlarge 5 .boolean (rmk 1 28) D cI cJ [.ref h0, .long (lN P)] [(h0, moE (nI n) st f k he p ma tr t tb fo gi)] (fun (u : Fm) => [(h0, moE (nI n) st ((ovM f P).getD f) k he p ma tr u tb fo gi)]) (fun (r : Int32) (u : Fm) => r = bI ((ovM f P).isSome)) := by
  refine CtI.of (own := RX6) (by decide +kernel) (Nat.le_of_ble_eq_true rfl) rfl ?_
  intro pr_ en_ sg_ me_ ar_ be_ mt_ co_ AA ls QQ X hA hP hD hS hl hret
  have hl : lv_has ls 5 [(0, .ref h0), (1, .long (lN P))] := hl
  refine lv_aload_n X.1 X.2.1 dX6_enlarge_0 rfl (lv_at hl 0 rfl) ?_
  refine lv_lload_n X.1 X.2.1 dX6_enlarge_1 rfl (lv_at hl 1 rfl) ?_
  refine fin_i (wr := []) (cv_X6_217 X (m_dividesAll l D cI cJ h0 st he ma tr fo gi n f k p t tb P (by first | assumption | omega) (by first | assumption | omega) _) rfl rfl dX6_enlarge_2 hP hD 0 rfl [0] rfl rfl hl.1 rfl rfl (Nat.le_of_ble_eq_true rfl) ⟨Nat.le_of_ble_eq_true rfl, Nat.le_of_ble_eq_true rfl⟩ ⟨Nat.le_of_ble_eq_true rfl, Nat.le_of_ble_eq_true rfl⟩) hP hD hS hA [0] [] rfl rfl rfl (by decide) (fun r_3 u_2 H locs w_1 hP hD hS => ?_)
  have hP : va_P D vwCl [(h0, moE (nI n) st f k he p ma tr t tb fo gi)] H := hP
  have hD : va_D AA [(h0, moE (nI n) st f k he p ma tr t tb fo gi)] := hD
  subst w_1
  refine bb_eq (tgt := 38) X dX6_enlarge_5 (by decide) (fun c_4 => ?_) (fun c_4 => ?_)
  · have e1 : ovM f P = ovGo f P (P + 1) 0 := by rw [ovM, if_neg (by rw [c_4]; decide)]
    refine lv_lconst (v := 0) X.1 X.2.1 dX6_enlarge_38 (by decide) ?_
    refine lv_lstore_n (lv' := [(3, .long 0), (0, .ref h0), (1, .long (lN P))]) X.1 X.2.1 dX6_enlarge_39 rfl hl (by decide) rfl (fun ls hl => ?_)
    have loop40 : ∀ (n9 : Nat) (t9 : Nat) (K : Nat) (z : Fm), (t9 + K = P + 1) → (ovM f P = ovGo f P K t9) → (K < n9) → ∀ (H : Heap) (locs : List Loc) (ls : Array Slot), va_P D vwCl [(h0, moE (nI n) st f k he p ma tr z tb fo gi)] H → va_D AA [(h0, moE (nI n) st f k he p ma tr z tb fo gi)] → va_S AA sg_.heap H locs → lv_has ls 5 [(0, .ref h0), (1, .long (lN P)), (3, .long (lN t9))] → W pr_ l en_ (rmk 1 28) sg_ me_ ar_ be_ mt_ co_ H locs 0 0 QQ (F0 me_ 40 ls []) := by
      intro n9
      induction n9 with
      | zero =>
        intro t9 K z hk hG hn9
        omega
      | succ n40 ih40 =>
        intro t9 K z hk hG hn9 H locs ls hP hD hS hl
        refine lv_lload_n X.1 X.2.1 dX6_enlarge_40 rfl (lv_at hl 2 rfl) ?_
        refine lv_lload_n X.1 X.2.1 dX6_enlarge_41 rfl (lv_at hl 1 rfl) ?_
        refine bl_gt (tgt := 113) X dX6_enlarge_42 dX6_enlarge_43 (by decide) (fun c_5 => ?_) (fun c_5 => ?_)
        · have e : ovM f P = none := by
            have ht : P < t9 := (lN_lt (by omega) (by omega)).mp c_5
            obtain rfl : K = 0 := by omega
            exact hG
          rw [show f = (ovM f P).getD f from by rw [e]; rfl] at hP hD
          refine lv_iconst (v := 0) X.1 X.2.1 dX6_enlarge_113 (by decide) ?_
          exact hret 0 z _ _ _ _ (by rw [e]; rfl) rfl (hP.sub [0] rfl) (hD.sub [0] rfl rfl) hS dX6_enlarge_114
        · have ht : ¬ P < t9 := fun q => c_5 ((lN_lt (by omega) (by omega)).mpr q)
          obtain ⟨K, rfl⟩ : ∃ z, K = z + 1 := ⟨K - 1, by omega⟩
          refine lv_aload_n X.1 X.2.1 dX6_enlarge_46 rfl (lv_at hl 0 rfl) ?_
          refine lv_lload_n X.1 X.2.1 dX6_enlarge_47 rfl (lv_at hl 2 rfl) ?_
          refine lv_lload_n X.1 X.2.1 dX6_enlarge_48 rfl (lv_at hl 1 rfl) ?_
          refine fin_v (wr := []) (cv_X6_220 X (m_layPoint l D cI cJ h0 st he ma tr fo gi n f k p z tb (lN t9) (lN P)  _) rfl rfl dX6_enlarge_49 hP hD 0 rfl [0] rfl rfl hl.1 rfl rfl (Nat.le_of_ble_eq_true rfl) ⟨Nat.le_of_ble_eq_true rfl, Nat.le_of_ble_eq_true rfl⟩ ⟨Nat.le_of_ble_eq_true rfl, Nat.le_of_ble_eq_true rfl⟩) hP hD hS hA [0] [] rfl rfl rfl (by decide) (fun u_7 H locs w_6 hP hD hS => ?_)
          have hP : va_P D vwCl [(h0, moE (nI n) st f k he p ma tr (ptF f (lN P) (lN t9)) tb fo gi)] H := hP
          have hD : va_D AA [(h0, moE (nI n) st f k he p ma tr (ptF f (lN P) (lN t9)) tb fo gi)] := hD
          refine lv_aload_n X.1 X.2.1 dX6_enlarge_52 rfl (lv_at hl 0 rfl) ?_
          refine gf_X6_202 (v := .long ((ptF f (lN P) (lN t9)).1)) X hP 0 rfl rfl dX6_enlarge_53 ?_
          refine lv_lload_n X.1 X.2.1 dX6_enlarge_56 rfl (lv_at hl 1 rfl) ?_
          refine lv_lload_n X.1 X.2.1 dX6_enlarge_57 rfl (lv_at hl 1 rfl) ?_
          refine lv_lmul X.1 X.2.1 dX6_enlarge_58 ?_
          refine lv_lrem X.1 X.2.1 dX6_enlarge_59 (lN_sq0 (by omega) (by omega)) ?_
          refine lv_lconst (v := 0) X.1 X.2.1 dX6_enlarge_60 (by decide) ?_
          refine bl_ne (tgt := 106) X dX6_enlarge_61 dX6_enlarge_62 (by decide) (fun c_9 => ?_) (fun c_9 => ?_)
          · refine lv_lload_n X.1 X.2.1 dX6_enlarge_106 rfl (lv_at hl 2 rfl) ?_
            refine lv_lconst (v := 1) X.1 X.2.1 dX6_enlarge_107 (by decide) ?_
            refine lv_ladd X.1 X.2.1 dX6_enlarge_108 ?_
            rw [lN_1]
            refine lv_lstore_n (lv' := [(3, .long (lN (t9 + 1))), (0, .ref h0), (1, .long (lN P))]) X.1 X.2.1 dX6_enlarge_109 rfl hl (by decide) rfl (fun ls hl => ?_)
            refine lv_goto (tgt := 40) X.1 X.2.1 dX6_enlarge_110 (by decide) ?_
            exact ih40  (t9 + 1) K (ptF f (lN P) (lN t9)) (by omega) (by rw [hG, ovGo, if_neg (show ¬ remL _ _ = 0 from c_9)]) (by omega) _ _ _ (hP.sub [0] rfl) (hD.sub [0] rfl rfl) hS (lv_sub hl [1, 2, 0] rfl)
          · refine lv_aload_n X.1 X.2.1 dX6_enlarge_65 rfl (lv_at hl 0 rfl) ?_
            refine gf_X6_205 (v := .long ((ptF f (lN P) (lN t9)).2.1)) X hP 0 rfl rfl dX6_enlarge_66 ?_
            refine lv_lload_n X.1 X.2.1 dX6_enlarge_69 rfl (lv_at hl 1 rfl) ?_
            refine lv_lrem X.1 X.2.1 dX6_enlarge_70 (lN_ne0 (by omega) (by omega)) ?_
            refine lv_lconst (v := 0) X.1 X.2.1 dX6_enlarge_71 (by decide) ?_
            refine bl_ne (tgt := 106) X dX6_enlarge_72 dX6_enlarge_73 (by decide) (fun c_10 => ?_) (fun c_10 => ?_)
            · refine lv_lload_n X.1 X.2.1 dX6_enlarge_106 rfl (lv_at hl 2 rfl) ?_
              refine lv_lconst (v := 1) X.1 X.2.1 dX6_enlarge_107 (by decide) ?_
              refine lv_ladd X.1 X.2.1 dX6_enlarge_108 ?_
              rw [lN_1]
              refine lv_lstore_n (lv' := [(3, .long (lN (t9 + 1))), (0, .ref h0), (1, .long (lN P))]) X.1 X.2.1 dX6_enlarge_109 rfl hl (by decide) rfl (fun ls hl => ?_)
              refine lv_goto (tgt := 40) X.1 X.2.1 dX6_enlarge_110 (by decide) ?_
              exact ih40  (t9 + 1) K (ptF f (lN P) (lN t9)) (by omega) (by rw [hG, ovGo, if_pos (show remL _ _ = 0 from c_9), if_neg (show ¬ remL _ _ = 0 from c_10)]) (by omega) _ _ _ (hP.sub [0] rfl) (hD.sub [0] rfl rfl) hS (lv_sub hl [1, 2, 0] rfl)
            · refine lv_aload_n X.1 X.2.1 dX6_enlarge_76 rfl (lv_at hl 0 rfl) ?_
              refine lv_aload_n X.1 X.2.1 dX6_enlarge_77 rfl (lv_at hl 0 rfl) ?_
              refine gf_X6_202 (v := .long ((ptF f (lN P) (lN t9)).1)) X hP 0 rfl rfl dX6_enlarge_78 ?_
              refine lv_lload_n X.1 X.2.1 dX6_enlarge_81 rfl (lv_at hl 1 rfl) ?_
              refine lv_lload_n X.1 X.2.1 dX6_enlarge_82 rfl (lv_at hl 1 rfl) ?_
              refine lv_lmul X.1 X.2.1 dX6_enlarge_83 ?_
              refine lv_ldiv X.1 X.2.1 dX6_enlarge_84 (lN_sq0 (by omega) (by omega)) ?_
              refine lv_aload_n X.1 X.2.1 dX6_enlarge_85 rfl (lv_at hl 0 rfl) ?_
              refine gf_X6_205 (v := .long ((ptF f (lN P) (lN t9)).2.1)) X hP 0 rfl rfl dX6_enlarge_86 ?_
              refine lv_lload_n X.1 X.2.1 dX6_enlarge_89 rfl (lv_at hl 1 rfl) ?_
              refine lv_ldiv X.1 X.2.1 dX6_enlarge_90 (lN_ne0 (by omega) (by omega)) ?_
              refine lv_aload_n X.1 X.2.1 dX6_enlarge_91 rfl (lv_at hl 0 rfl) ?_
              refine gf_X6_208 (v := .long ((ptF f (lN P) (lN t9)).2.2.1)) X hP 0 rfl rfl dX6_enlarge_92 ?_
              refine lv_aload_n X.1 X.2.1 dX6_enlarge_95 rfl (lv_at hl 0 rfl) ?_
              refine gf_X6_211 (v := .long ((ptF f (lN P) (lN t9)).2.2.2)) X hP 0 rfl rfl dX6_enlarge_96 ?_
              refine lv_lload_n X.1 X.2.1 dX6_enlarge_99 rfl (lv_at hl 1 rfl) ?_
              refine lv_lmul X.1 X.2.1 dX6_enlarge_100 ?_
              refine fin_v (wr := []) (cv_X6_58 X (m_set l D cI cJ h0 st he ma tr fo gi n f k p (ptF f (lN P) (lN t9)) tb (((ptF f (lN P) (lN t9)).1) / ((lN P) * (lN P))) (((ptF f (lN P) (lN t9)).2.1) / (lN P)) ((ptF f (lN P) (lN t9)).2.2.1) (((ptF f (lN P) (lN t9)).2.2.2) * (lN P))  _) rfl rfl dX6_enlarge_101 hP hD 0 rfl [0] rfl rfl hl.1 rfl rfl (Nat.le_of_ble_eq_true rfl) ⟨Nat.le_of_ble_eq_true rfl, Nat.le_of_ble_eq_true rfl⟩ ⟨Nat.le_of_ble_eq_true rfl, Nat.le_of_ble_eq_true rfl⟩) hP hD hS hA [0] [] rfl rfl rfl (by decide) (fun u_12 H locs w_11 hP hD hS => ?_)
              have hP : va_P D vwCl [(h0, moE (nI n) st ((((ptF f (lN P) (lN t9)).1) / ((lN P) * (lN P))), (((ptF f (lN P) (lN t9)).2.1) / (lN P)), ((ptF f (lN P) (lN t9)).2.2.1), (((ptF f (lN P) (lN t9)).2.2.2) * (lN P))) k he p ma tr (ptF f (lN P) (lN t9)) tb fo gi)] H := hP
              have hD : va_D AA [(h0, moE (nI n) st ((((ptF f (lN P) (lN t9)).1) / ((lN P) * (lN P))), (((ptF f (lN P) (lN t9)).2.1) / (lN P)), ((ptF f (lN P) (lN t9)).2.2.1), (((ptF f (lN P) (lN t9)).2.2.2) * (lN P))) k he p ma tr (ptF f (lN P) (lN t9)) tb fo gi)] := hD
              have e : ovM f P = some (((((ptF f (lN P) (lN t9)).1) / ((lN P) * (lN P))), (((ptF f (lN P) (lN t9)).2.1) / (lN P)), ((ptF f (lN P) (lN t9)).2.2.1), (((ptF f (lN P) (lN t9)).2.2.2) * (lN P)))) := by rw [hG, ovGo, if_pos (show remL _ _ = 0 from c_9), if_pos (show remL _ _ = 0 from c_10)]
              rw [show ((((ptF f (lN P) (lN t9)).1) / ((lN P) * (lN P))), (((ptF f (lN P) (lN t9)).2.1) / (lN P)), ((ptF f (lN P) (lN t9)).2.2.1), (((ptF f (lN P) (lN t9)).2.2.2) * (lN P))) = (ovM f P).getD f from by rw [e]; rfl] at hP hD
              refine lv_iconst (v := 1) X.1 X.2.1 dX6_enlarge_104 (by decide) ?_
              exact hret 1 (ptF f (lN P) (lN t9)) _ _ _ _ (by rw [e]; rfl) rfl (hP.sub [0] rfl) (hD.sub [0] rfl rfl) hS dX6_enlarge_105
    exact loop40 (P + 2) 0 (P + 1) t (by omega) e1 (by omega) _ _ _ (hP.sub [0] rfl) (hD.sub [0] rfl rfl) hS (lv_sub hl [1, 2, 0] rfl)
  · refine lv_aload_n X.1 X.2.1 dX6_enlarge_8 rfl (lv_at hl 0 rfl) ?_
    refine lv_aload_n X.1 X.2.1 dX6_enlarge_9 rfl (lv_at hl 0 rfl) ?_
    refine gf_X6_41 (v := .long f.1) X hP 0 rfl rfl dX6_enlarge_10 ?_
    refine lv_lload_n X.1 X.2.1 dX6_enlarge_13 rfl (lv_at hl 1 rfl) ?_
    refine lv_ldiv X.1 X.2.1 dX6_enlarge_14 (lN_ne0 (by omega) (by omega)) ?_
    refine lv_aload_n X.1 X.2.1 dX6_enlarge_15 rfl (lv_at hl 0 rfl) ?_
    refine gf_X6_45 (v := .long f.2.1) X hP 0 rfl rfl dX6_enlarge_16 ?_
    refine lv_lload_n X.1 X.2.1 dX6_enlarge_19 rfl (lv_at hl 1 rfl) ?_
    refine lv_ldiv X.1 X.2.1 dX6_enlarge_20 (lN_ne0 (by omega) (by omega)) ?_
    refine lv_aload_n X.1 X.2.1 dX6_enlarge_21 rfl (lv_at hl 0 rfl) ?_
    refine gf_X6_48 (v := .long f.2.2.1) X hP 0 rfl rfl dX6_enlarge_22 ?_
    refine lv_lload_n X.1 X.2.1 dX6_enlarge_25 rfl (lv_at hl 1 rfl) ?_
    refine lv_ldiv X.1 X.2.1 dX6_enlarge_26 (lN_ne0 (by omega) (by omega)) ?_
    refine lv_aload_n X.1 X.2.1 dX6_enlarge_27 rfl (lv_at hl 0 rfl) ?_
    refine gf_X6_51 (v := .long f.2.2.2) X hP 0 rfl rfl dX6_enlarge_28 ?_
    refine lv_lload_n X.1 X.2.1 dX6_enlarge_31 rfl (lv_at hl 1 rfl) ?_
    refine lv_ldiv X.1 X.2.1 dX6_enlarge_32 (lN_ne0 (by omega) (by omega)) ?_
    refine fin_v (wr := []) (cv_X6_58 X (m_set l D cI cJ h0 st he ma tr fo gi n f k p t tb (f.1 / (lN P)) (f.2.1 / (lN P)) (f.2.2.1 / (lN P)) (f.2.2.2 / (lN P))  _) rfl rfl dX6_enlarge_33 hP hD 0 rfl [0] rfl rfl hl.1 rfl rfl (Nat.le_of_ble_eq_true rfl) ⟨Nat.le_of_ble_eq_true rfl, Nat.le_of_ble_eq_true rfl⟩ ⟨Nat.le_of_ble_eq_true rfl, Nat.le_of_ble_eq_true rfl⟩) hP hD hS hA [0] [] rfl rfl rfl (by decide) (fun u_15 H locs w_14 hP hD hS => ?_)
    have hP : va_P D vwCl [(h0, moE (nI n) st ((f.1 / (lN P)), (f.2.1 / (lN P)), (f.2.2.1 / (lN P)), (f.2.2.2 / (lN P))) k he p ma tr t tb fo gi)] H := hP
    have hD : va_D AA [(h0, moE (nI n) st ((f.1 / (lN P)), (f.2.1 / (lN P)), (f.2.2.1 / (lN P)), (f.2.2.2 / (lN P))) k he p ma tr t tb fo gi)] := hD
    have e : ovM f P = some (f.1 / lN P, f.2.1 / lN P, f.2.2.1 / lN P, f.2.2.2 / lN P) := by rw [ovM, if_pos c_4]
    rw [show ((f.1 / (lN P)), (f.2.1 / (lN P)), (f.2.2.1 / (lN P)), (f.2.2.2 / (lN P))) = (ovM f P).getD f from by rw [e]; rfl] at hP hD
    refine lv_iconst (v := 1) X.1 X.2.1 dX6_enlarge_36 (by decide) ?_
    exact hret 1 t _ _ _ _ (by rw [e]; rfl) rfl (hP.sub [0] rfl) (hD.sub [0] rfl rfl) hS dX6_enlarge_37
set_option maxHeartbeats 4000000 in
set_option maxRecDepth 100000 in
theorem m_isMaximalAt (l : Launch) (D : va_G) (cI cJ : ClassId) (h0 : Nat) (st : Nat) (he : Nat) (ma : Nat) (tr : Nat) (fo : Nat) (gi : Nat) (n : Nat) (f : Fm) (k : Fm) (p : Em) (t : Fm) (tb : Int32) (C : Nat → Int32) (x : Int32) (y : Int32) (hn : n ≤ 60) (hov : isFormB n x = true → primeB y = true → ovM (ldF C x.toNatClampNeg) y.toNatClampNeg = ovC (ldF C x.toNatClampNeg) y.toNatClampNeg) : CtI l yX6_isMaximalAt cX6_isMaximalAt 3 .int (rmk 2 52) D cI cJ [.ref h0, .int x, .int y] [(h0, moE (nI n) st f k he p ma tr t tb fo gi), (st, aiE cI 240 C)] (fun (u : Fm × Fm) => [(h0, moE (nI n) st u.1 k he p ma tr u.2 tb fo gi), (st, aiE cI 240 C)]) (fun (r : Int32) (u : Fm × Fm) => r = imxR n C x y) := by
  refine CtI.of (own := RX6) (by decide +kernel) (Nat.le_of_ble_eq_true rfl) rfl ?_
  intro pr_ en_ sg_ me_ ar_ be_ mt_ co_ AA ls QQ X hA hP hD hS hl hret
  have hl : lv_has ls 3 [(0, .ref h0), (1, .int x), (2, .int y)] := hl
  refine lv_aload_n X.1 X.2.1 dX6_isMaximalAt_0 rfl (lv_at hl 0 rfl) ?_
  refine lv_iload_n X.1 X.2.1 dX6_isMaximalAt_1 rfl (lv_at hl 1 rfl) ?_
  refine fin_i (wr := [(st, aiE cI 240 C)]) (cv_X6_66 X (m_isForm l D cI cJ h0 st he ma tr fo gi n f k p t tb x (by first | assumption | omega) _) rfl rfl dX6_isMaximalAt_2 hP hD 0 rfl [0] rfl rfl hl.1 rfl rfl (Nat.le_of_ble_eq_true rfl) ⟨Nat.le_of_ble_eq_true rfl, Nat.le_of_ble_eq_true rfl⟩ ⟨Nat.le_of_ble_eq_true rfl, Nat.le_of_ble_eq_true rfl⟩) hP hD hS hA [0] [1] rfl rfl rfl (by decide) (fun r_3 u_2 H locs w_1 hP hD hS => ?_)
  have hP : va_P D vwCl [(st, aiE cI 240 C), (h0, moE (nI n) st f k he p ma tr t tb fo gi)] H := hP
  have hD : va_D AA [(st, aiE cI 240 C), (h0, moE (nI n) st f k he p ma tr t tb fo gi)] := hD
  subst w_1
  refine bb_ne (tgt := 12) X dX6_isMaximalAt_5 (by decide) (fun c_4 => ?_) (fun c_4 => ?_)
  · refine lv_iload_n X.1 X.2.1 dX6_isMaximalAt_12 rfl (lv_at hl 2 rfl) ?_
    refine fin_i (wr := [(st, aiE cI 240 C), (h0, moE (nI n) st f k he p ma tr t tb fo gi)]) (cv_X6_214 X (m_isPrime l D cI cJ y  _) rfl rfl dX6_isMaximalAt_13 hP hD [] rfl rfl hl.1 rfl rfl (Nat.le_of_ble_eq_true rfl) ⟨Nat.le_of_ble_eq_true rfl, Nat.le_of_ble_eq_true rfl⟩ ⟨Nat.le_of_ble_eq_true rfl, Nat.le_of_ble_eq_true rfl⟩) hP hD hS hA [] [0, 1] rfl rfl rfl (by decide) (fun r_7 u_6 H locs w_5 hP hD hS => ?_)
    have hP : va_P D vwCl [(st, aiE cI 240 C), (h0, moE (nI n) st f k he p ma tr t tb fo gi)] H := hP
    have hD : va_D AA [(st, aiE cI 240 C), (h0, moE (nI n) st f k he p ma tr t tb fo gi)] := hD
    subst w_5
    refine bb_ne (tgt := 23) X dX6_isMaximalAt_16 (by decide) (fun c_8 => ?_) (fun c_8 => ?_)
    · obtain ⟨P, h2, h9, hy, hpr⟩ := primeB_out c_8
      have hyc : y.toNatClampNeg = P := by rw [hy]; exact nI_clamp (by omega)
      rw [hy] at hl
      refine lv_aload_n X.1 X.2.1 dX6_isMaximalAt_23 rfl (lv_at hl 0 rfl) ?_
      refine lv_iload_n X.1 X.2.1 dX6_isMaximalAt_24 rfl (lv_at hl 1 rfl) ?_
      refine fin_v (wr := []) (cv_X6_82 X (m_load l D cI cJ h0 st he ma tr fo gi n f k p t tb C x hn c_4 _) rfl rfl dX6_isMaximalAt_25 hP hD 1 rfl [1, 0] rfl rfl hl.1 rfl rfl (Nat.le_of_ble_eq_true rfl) ⟨Nat.le_of_ble_eq_true rfl, Nat.le_of_ble_eq_true rfl⟩ ⟨Nat.le_of_ble_eq_true rfl, Nat.le_of_ble_eq_true rfl⟩) hP hD hS hA [1, 0] [] rfl rfl rfl (by decide) (fun u_10 H locs w_9 hP hD hS => ?_)
      have hP : va_P D vwCl [(h0, moE (nI n) st (ldF C x.toNatClampNeg) k he p ma tr t tb fo gi), (st, aiE cI 240 C)] H := hP
      have hD : va_D AA [(h0, moE (nI n) st (ldF C x.toNatClampNeg) k he p ma tr t tb fo gi), (st, aiE cI 240 C)] := hD
      refine lv_aload_n X.1 X.2.1 dX6_isMaximalAt_28 rfl (lv_at hl 0 rfl) ?_
      refine lv_iload_n X.1 X.2.1 dX6_isMaximalAt_29 rfl (lv_at hl 2 rfl) ?_
      refine lv_i2l (v := lN P) X.1 X.2.1 dX6_isMaximalAt_30 (nI_l (by omega)) ?_
      refine fin_i (wr := [(st, aiE cI 240 C)]) (cv_X6_224 X (m_enlarge l D cI cJ h0 st he ma tr fo gi n (ldF C x.toNatClampNeg) k p t tb P (by first | assumption | omega) (by first | assumption | omega) _) rfl rfl dX6_isMaximalAt_31 hP hD 0 rfl [0] rfl rfl hl.1 rfl rfl (Nat.le_of_ble_eq_true rfl) ⟨Nat.le_of_ble_eq_true rfl, Nat.le_of_ble_eq_true rfl⟩ ⟨Nat.le_of_ble_eq_true rfl, Nat.le_of_ble_eq_true rfl⟩) hP hD hS hA [0] [1] rfl rfl rfl (by decide) (fun r_14 u_13 H locs w_12 hP hD hS => ?_)
      have hP : va_P D vwCl [(st, aiE cI 240 C), (h0, moE (nI n) st ((ovM (ldF C x.toNatClampNeg) P).getD (ldF C x.toNatClampNeg)) k he p ma tr u_13 tb fo gi)] H := hP
      have hD : va_D AA [(st, aiE cI 240 C), (h0, moE (nI n) st ((ovM (ldF C x.toNatClampNeg) P).getD (ldF C x.toNatClampNeg)) k he p ma tr u_13 tb fo gi)] := hD
      subst w_12
      refine bb_eq (tgt := 41) X dX6_isMaximalAt_34 (by decide) (fun c_15 => ?_) (fun c_15 => ?_)
      · refine lv_iconst (v := 1) X.1 X.2.1 dX6_isMaximalAt_41 (by decide) ?_
        exact hret 1 ((ovM (ldF C x.toNatClampNeg) P).getD (ldF C x.toNatClampNeg), u_13) _ _ _ _ (by rw [imxR, if_pos c_4, if_pos c_8, ← hov c_4 c_8, hyc, if_neg (by rw [c_15]; decide)]) rfl (hP.sub [1, 0] rfl) (hD.sub [1, 0] rfl rfl) hS dX6_isMaximalAt_42
      · refine lv_iconst (v := 0) X.1 X.2.1 dX6_isMaximalAt_37 (by decide) ?_
        refine lv_goto (tgt := 42) X.1 X.2.1 dX6_isMaximalAt_38 (by decide) ?_
        exact hret 0 ((ovM (ldF C x.toNatClampNeg) P).getD (ldF C x.toNatClampNeg), u_13) _ _ _ _ (by rw [imxR, if_pos c_4, if_pos c_8, ← hov c_4 c_8, hyc, if_pos c_15]) rfl (hP.sub [1, 0] rfl) (hD.sub [1, 0] rfl rfl) hS dX6_isMaximalAt_42
    · refine lv_sipush (v := (-10003)) X.1 X.2.1 dX6_isMaximalAt_19 (by decide) ?_
      exact hret (-10003) (f, t) _ _ _ _ (by rw [imxR, if_pos c_4, if_neg (by rw [c_8]; decide)]) rfl (hP.sub [1, 0] rfl) (hD.sub [1, 0] rfl rfl) hS dX6_isMaximalAt_22
  · refine lv_sipush (v := (-10001)) X.1 X.2.1 dX6_isMaximalAt_8 (by decide) ?_
    exact hret (-10001) (f, t) _ _ _ _ (by rw [imxR, if_neg (by rw [c_4]; decide)]) rfl (hP.sub [1, 0] rfl) (hD.sub [1, 0] rfl rfl) hS dX6_isMaximalAt_11
set_option maxHeartbeats 4000000 in
set_option maxRecDepth 100000 in
theorem m_overring (l : Launch) (D : va_G) (cI cJ : ClassId) (h0 : Nat) (st : Nat) (he : Nat) (ma : Nat) (tr : Nat) (fo : Nat) (gi : Nat) (n : Nat) (f : Fm) (k : Fm) (p : Em) (t : Fm) (tb : Int32) (C : Nat → Int32) (x : Int32) (y : Int32) (hn : n ≤ 60) (hov : isFormB n x = true → primeB y = true → ovM (ldF C x.toNatClampNeg) y.toNatClampNeg = ovC (ldF C x.toNatClampNeg) y.toNatClampNeg) : CtI l yX6_overring cX6_overring 3 .int (rmk 3 66) D cI cJ [.ref h0, .int x, .int y] [(h0, moE (nI n) st f k he p ma tr t tb fo gi), (st, aiE cI 240 C)] (fun (u : Fm × Fm) => [(h0, moE (nI (outS n C (ovO n C x y)).1) st u.1 k he p ma tr u.2 tb fo gi), (st, aiE cI 240 ((outS n C (ovO n C x y)).2))]) (fun (r : Int32) (u : Fm × Fm) => r = outR n (ovO n C x y)) := by
  refine CtI.of (own := RX6) (by decide +kernel) (Nat.le_of_ble_eq_true rfl) rfl ?_
  intro pr_ en_ sg_ me_ ar_ be_ mt_ co_ AA ls QQ X hA hP hD hS hl hret
  have hl : lv_has ls 3 [(0, .ref h0), (1, .int x), (2, .int y)] := hl
  refine lv_aload_n X.1 X.2.1 dX6_overring_0 rfl (lv_at hl 0 rfl) ?_
  refine lv_iload_n X.1 X.2.1 dX6_overring_1 rfl (lv_at hl 1 rfl) ?_
  refine fin_i (wr := [(st, aiE cI 240 C)]) (cv_X6_66 X (m_isForm l D cI cJ h0 st he ma tr fo gi n f k p t tb x (by first | assumption | omega) _) rfl rfl dX6_overring_2 hP hD 0 rfl [0] rfl rfl hl.1 rfl rfl (Nat.le_of_ble_eq_true rfl) ⟨Nat.le_of_ble_eq_true rfl, Nat.le_of_ble_eq_true rfl⟩ ⟨Nat.le_of_ble_eq_true rfl, Nat.le_of_ble_eq_true rfl⟩) hP hD hS hA [0] [1] rfl rfl rfl (by decide) (fun r_3 u_2 H locs w_1 hP hD hS => ?_)
  have hP : va_P D vwCl [(st, aiE cI 240 C), (h0, moE (nI n) st f k he p ma tr t tb fo gi)] H := hP
  have hD : va_D AA [(st, aiE cI 240 C), (h0, moE (nI n) st f k he p ma tr t tb fo gi)] := hD
  subst w_1
  refine bb_ne (tgt := 12) X dX6_overring_5 (by decide) (fun c_4 => ?_) (fun c_4 => ?_)
  · refine lv_iload_n X.1 X.2.1 dX6_overring_12 rfl (lv_at hl 2 rfl) ?_
    refine fin_i (wr := [(st, aiE cI 240 C), (h0, moE (nI n) st f k he p ma tr t tb fo gi)]) (cv_X6_214 X (m_isPrime l D cI cJ y  _) rfl rfl dX6_overring_13 hP hD [] rfl rfl hl.1 rfl rfl (Nat.le_of_ble_eq_true rfl) ⟨Nat.le_of_ble_eq_true rfl, Nat.le_of_ble_eq_true rfl⟩ ⟨Nat.le_of_ble_eq_true rfl, Nat.le_of_ble_eq_true rfl⟩) hP hD hS hA [] [0, 1] rfl rfl rfl (by decide) (fun r_7 u_6 H locs w_5 hP hD hS => ?_)
    have hP : va_P D vwCl [(st, aiE cI 240 C), (h0, moE (nI n) st f k he p ma tr t tb fo gi)] H := hP
    have hD : va_D AA [(st, aiE cI 240 C), (h0, moE (nI n) st f k he p ma tr t tb fo gi)] := hD
    subst w_5
    refine bb_ne (tgt := 23) X dX6_overring_16 (by decide) (fun c_8 => ?_) (fun c_8 => ?_)
    · obtain ⟨P, h2, h9, hy, hpr⟩ := primeB_out c_8
      have hyc : y.toNatClampNeg = P := by rw [hy]; exact nI_clamp (by omega)
      rw [hy] at hl
      refine lv_aload_n X.1 X.2.1 dX6_overring_23 rfl (lv_at hl 0 rfl) ?_
      refine lv_iload_n X.1 X.2.1 dX6_overring_24 rfl (lv_at hl 1 rfl) ?_
      refine fin_v (wr := []) (cv_X6_82 X (m_load l D cI cJ h0 st he ma tr fo gi n f k p t tb C x hn c_4 _) rfl rfl dX6_overring_25 hP hD 1 rfl [1, 0] rfl rfl hl.1 rfl rfl (Nat.le_of_ble_eq_true rfl) ⟨Nat.le_of_ble_eq_true rfl, Nat.le_of_ble_eq_true rfl⟩ ⟨Nat.le_of_ble_eq_true rfl, Nat.le_of_ble_eq_true rfl⟩) hP hD hS hA [1, 0] [] rfl rfl rfl (by decide) (fun u_10 H locs w_9 hP hD hS => ?_)
      have hP : va_P D vwCl [(h0, moE (nI n) st (ldF C x.toNatClampNeg) k he p ma tr t tb fo gi), (st, aiE cI 240 C)] H := hP
      have hD : va_D AA [(h0, moE (nI n) st (ldF C x.toNatClampNeg) k he p ma tr t tb fo gi), (st, aiE cI 240 C)] := hD
      refine lv_aload_n X.1 X.2.1 dX6_overring_28 rfl (lv_at hl 0 rfl) ?_
      refine lv_iload_n X.1 X.2.1 dX6_overring_29 rfl (lv_at hl 2 rfl) ?_
      refine lv_i2l (v := lN P) X.1 X.2.1 dX6_overring_30 (nI_l (by omega)) ?_
      refine fin_i (wr := [(st, aiE cI 240 C)]) (cv_X6_224 X (m_enlarge l D cI cJ h0 st he ma tr fo gi n (ldF C x.toNatClampNeg) k p t tb P (by first | assumption | omega) (by first | assumption | omega) _) rfl rfl dX6_overring_31 hP hD 0 rfl [0] rfl rfl hl.1 rfl rfl (Nat.le_of_ble_eq_true rfl) ⟨Nat.le_of_ble_eq_true rfl, Nat.le_of_ble_eq_true rfl⟩ ⟨Nat.le_of_ble_eq_true rfl, Nat.le_of_ble_eq_true rfl⟩) hP hD hS hA [0] [1] rfl rfl rfl (by decide) (fun r_14 u_13 H locs w_12 hP hD hS => ?_)
      have hP : va_P D vwCl [(st, aiE cI 240 C), (h0, moE (nI n) st ((ovM (ldF C x.toNatClampNeg) P).getD (ldF C x.toNatClampNeg)) k he p ma tr u_13 tb fo gi)] H := hP
      have hD : va_D AA [(st, aiE cI 240 C), (h0, moE (nI n) st ((ovM (ldF C x.toNatClampNeg) P).getD (ldF C x.toNatClampNeg)) k he p ma tr u_13 tb fo gi)] := hD
      subst w_12
      refine bb_eq (tgt := 44) X dX6_overring_34 (by decide) (fun c_15 => ?_) (fun c_15 => ?_)
      · refine lv_sipush (v := (-10008)) X.1 X.2.1 dX6_overring_44 (by decide) ?_
        have eo : ovO n C x y = .inl (-10008) := by rw [ovO, if_pos c_4, if_pos c_8, ← hov c_4 c_8, hyc, if_neg (by rw [c_15]; decide)]
        have hP : va_P D vwCl [(st, aiE cI 240 ((outS n C (ovO n C x y)).2)), (h0, moE (nI (outS n C (ovO n C x y)).1) st ((ovM (ldF C x.toNatClampNeg) P).getD (ldF C x.toNatClampNeg)) k he p ma tr u_13 tb fo gi)] H := by rw [eo]; exact hP
        have hD : va_D AA [(st, aiE cI 240 ((outS n C (ovO n C x y)).2)), (h0, moE (nI (outS n C (ovO n C x y)).1) st ((ovM (ldF C x.toNatClampNeg) P).getD (ldF C x.toNatClampNeg)) k he p ma tr u_13 tb fo gi)] := by rw [eo]; exact hD
        exact hret (-10008) ((ovM (ldF C x.toNatClampNeg) P).getD (ldF C x.toNatClampNeg), u_13) _ _ _ _ (by rw [eo]; rfl) rfl (hP.sub [1, 0] rfl) (hD.sub [1, 0] rfl rfl) hS dX6_overring_47
      · refine lv_aload_n X.1 X.2.1 dX6_overring_37 rfl (lv_at hl 0 rfl) ?_
        refine fin_i (wr := []) (cv_X6_62 X (m_store l D cI cJ h0 st he ma tr fo gi n ((ovM (ldF C x.toNatClampNeg) P).getD (ldF C x.toNatClampNeg)) k p u_13 tb C (by first | assumption | omega) _) rfl rfl dX6_overring_38 hP hD 1 rfl [1, 0] rfl rfl hl.1 rfl rfl (Nat.le_of_ble_eq_true rfl) ⟨Nat.le_of_ble_eq_true rfl, Nat.le_of_ble_eq_true rfl⟩ ⟨Nat.le_of_ble_eq_true rfl, Nat.le_of_ble_eq_true rfl⟩) hP hD hS hA [1, 0] [] rfl rfl rfl (by decide) (fun r_18 u_17 H locs w_16 hP hD hS => ?_)
        have hP : va_P D vwCl [(h0, moE (nI (sifS n C ((ovM (ldF C x.toNatClampNeg) P).getD (ldF C x.toNatClampNeg))).1) st ((ovM (ldF C x.toNatClampNeg) P).getD (ldF C x.toNatClampNeg)) k he p ma tr u_13 tb fo gi), (st, aiE cI 240 ((sifS n C ((ovM (ldF C x.toNatClampNeg) P).getD (ldF C x.toNatClampNeg))).2))] H := hP
        have hD : va_D AA [(h0, moE (nI (sifS n C ((ovM (ldF C x.toNatClampNeg) P).getD (ldF C x.toNatClampNeg))).1) st ((ovM (ldF C x.toNatClampNeg) P).getD (ldF C x.toNatClampNeg)) k he p ma tr u_13 tb fo gi), (st, aiE cI 240 ((sifS n C ((ovM (ldF C x.toNatClampNeg) P).getD (ldF C x.toNatClampNeg))).2))] := hD
        subst w_16
        refine lv_goto (tgt := 47) X.1 X.2.1 dX6_overring_41 (by decide) ?_
        have eo : ovO n C x y = .inr ((ovM (ldF C x.toNatClampNeg) P).getD (ldF C x.toNatClampNeg)) := by rw [ovO, if_pos c_4, if_pos c_8, ← hov c_4 c_8, hyc, if_pos c_15]
        have hP : va_P D vwCl [(h0, moE (nI (outS n C (ovO n C x y)).1) st ((ovM (ldF C x.toNatClampNeg) P).getD (ldF C x.toNatClampNeg)) k he p ma tr u_13 tb fo gi), (st, aiE cI 240 ((outS n C (ovO n C x y)).2))] H := by rw [eo]; exact hP
        have hD : va_D AA [(h0, moE (nI (outS n C (ovO n C x y)).1) st ((ovM (ldF C x.toNatClampNeg) P).getD (ldF C x.toNatClampNeg)) k he p ma tr u_13 tb fo gi), (st, aiE cI 240 ((outS n C (ovO n C x y)).2))] := by rw [eo]; exact hD
        exact hret (sifR n ((ovM (ldF C x.toNatClampNeg) P).getD (ldF C x.toNatClampNeg))) ((ovM (ldF C x.toNatClampNeg) P).getD (ldF C x.toNatClampNeg), u_13) _ _ _ _ (by rw [eo]; rfl) rfl (hP.sub [0, 1] rfl) (hD.sub [0, 1] rfl rfl) hS dX6_overring_47
    · have eo : ovO n C x y = .inl (-10003) := by rw [ovO, if_pos c_4, if_neg (by rw [c_8]; decide)]
      have hP : va_P D vwCl [(st, aiE cI 240 ((outS n C (ovO n C x y)).2)), (h0, moE (nI (outS n C (ovO n C x y)).1) st f k he p ma tr t tb fo gi)] H := by rw [eo]; exact hP
      have hD : va_D AA [(st, aiE cI 240 ((outS n C (ovO n C x y)).2)), (h0, moE (nI (outS n C (ovO n C x y)).1) st f k he p ma tr t tb fo gi)] := by rw [eo]; exact hD
      refine lv_sipush (v := (-10003)) X.1 X.2.1 dX6_overring_19 (by decide) ?_
      exact hret (-10003) (f, t) _ _ _ _ (by rw [eo]; rfl) rfl (hP.sub [1, 0] rfl) (hD.sub [1, 0] rfl rfl) hS dX6_overring_22
  · have eo : ovO n C x y = .inl (-10001) := by rw [ovO, if_neg (by rw [c_4]; decide)]
    have hP : va_P D vwCl [(st, aiE cI 240 ((outS n C (ovO n C x y)).2)), (h0, moE (nI (outS n C (ovO n C x y)).1) st f k he p ma tr t tb fo gi)] H := by rw [eo]; exact hP
    have hD : va_D AA [(st, aiE cI 240 ((outS n C (ovO n C x y)).2)), (h0, moE (nI (outS n C (ovO n C x y)).1) st f k he p ma tr t tb fo gi)] := by rw [eo]; exact hD
    refine lv_sipush (v := (-10001)) X.1 X.2.1 dX6_overring_8 (by decide) ?_
    exact hret (-10001) (f, t) _ _ _ _ (by rw [eo]; rfl) rfl (hP.sub [1, 0] rfl) (hD.sub [1, 0] rfl rfl) hS dX6_overring_11
set_option maxHeartbeats 4000000 in
set_option maxRecDepth 100000 in
theorem m_enlargeSomewhere (l : Launch) (D : va_G) (cI cJ : ClassId) (h0 : Nat) (st : Nat) (he : Nat) (ma : Nat) (tr : Nat) (fo : Nat) (gi : Nat) (n : Nat) (f : Fm) (k : Fm) (p : Em) (t : Fm) (tb : Int32)  : CtI l yX6_enlargeSomewhere cX6_enlargeSomewhere 4 .boolean (rmk 2 52) D cI cJ [.ref h0] [(h0, moE (nI n) st f k he p ma tr t tb fo gi)] (fun (u : Fm) => [(h0, moE (nI n) st ((sealG 0 f).getD f) k he p ma tr u tb fo gi)]) (fun (r : Int32) (u : Fm) => r = bI ((sealG 0 f).isSome)) := by
  refine CtI.of (own := RX6) (by decide +kernel) (Nat.le_of_ble_eq_true rfl) rfl ?_
  intro pr_ en_ sg_ me_ ar_ be_ mt_ co_ AA ls QQ X hA hP hD hS hl hret
  have hl : lv_has ls 4 [(0, .ref h0)] := hl
  refine lv_aload_n X.1 X.2.1 dX6_enlargeSomewhere_0 rfl (lv_at hl 0 rfl) ?_
  refine fin_l (wr := []) (cv_X6_86 X (m_discriminantNow l D cI cJ h0 st he ma tr fo gi n f k p t tb  _) rfl rfl dX6_enlargeSomewhere_1 hP hD 0 rfl [0] rfl rfl hl.1 rfl rfl (Nat.le_of_ble_eq_true rfl) ⟨Nat.le_of_ble_eq_true rfl, Nat.le_of_ble_eq_true rfl⟩ ⟨Nat.le_of_ble_eq_true rfl, Nat.le_of_ble_eq_true rfl⟩) hP hD hS hA [0] [] rfl rfl rfl (by decide) (fun r_3 u_2 H locs w_1 hP hD hS => ?_)
  have hP : va_P D vwCl [(h0, moE (nI n) st f k he p ma tr t tb fo gi)] H := hP
  have hD : va_D AA [(h0, moE (nI n) st f k he p ma tr t tb fo gi)] := hD
  subst w_1
  refine lv_lstore_n (lv' := [(1, .long (discF f)), (0, .ref h0)]) X.1 X.2.1 dX6_enlargeSomewhere_4 rfl hl (by decide) rfl (fun ls hl => ?_)
  refine lv_iconst (v := 2) X.1 X.2.1 dX6_enlargeSomewhere_5 (by decide) ?_
  refine lv_istore_n (lv' := [(3, .int 2), (1, .long (discF f)), (0, .ref h0)]) X.1 X.2.1 dX6_enlargeSomewhere_6 rfl hl (by decide) rfl (fun ls hl => ?_)
  have loop7 : ∀ (n9 : Nat) (P : Nat) (K : Nat) (z : Fm), (P + K = 998) → (2 ≤ P) → (glpMGo f K P = sealG 0 f) → (K < n9) → ∀ (H : Heap) (locs : List Loc) (ls : Array Slot), va_P D vwCl [(h0, moE (nI n) st f k he p ma tr z tb fo gi)] H → va_D AA [(h0, moE (nI n) st f k he p ma tr z tb fo gi)] → va_S AA sg_.heap H locs → lv_has ls 4 [(0, .ref h0), (1, .long (discF f)), (3, .int (nI P))] → W pr_ l en_ (rmk 2 52) sg_ me_ ar_ be_ mt_ co_ H locs 0 0 QQ (F0 me_ 7 ls []) := by
    intro n9
    induction n9 with
    | zero =>
      intro P K z hk hP2 hG hn9
      omega
    | succ n7 ih7 =>
      intro P K z hk hP2 hG hn9 H locs ls hP hD hS hl
      refine lv_iload_n X.1 X.2.1 dX6_enlargeSomewhere_7 rfl (lv_at hl 2 rfl) ?_
      refine lv_sipush (v := 997) X.1 X.2.1 dX6_enlargeSomewhere_8 (by decide) ?_
      refine bi_gt (tgt := 50) X dX6_enlargeSomewhere_11 (by decide) (fun c_4 => ?_) (fun c_4 => ?_)
      · have hp : 997 < P := (nI_ltI (a := 997) (by decide) (by omega)).mp c_4
        obtain rfl : K = 0 := by omega
        have eg : sealG 0 f = none := hG.symm
        rw [show f = (sealG 0 f).getD f from by rw [eg]; rfl] at hP hD
        refine lv_iconst (v := 0) X.1 X.2.1 dX6_enlargeSomewhere_50 (by decide) ?_
        exact hret 0 z _ _ _ _ (by rw [eg]; rfl) rfl (hP.sub [0] rfl) (hD.sub [0] rfl rfl) hS dX6_enlargeSomewhere_51
      · have hp : ¬ 997 < P := fun q => c_4 ((nI_ltI (a := 997) (by decide) (by omega)).mpr q)
        obtain ⟨K, rfl⟩ : ∃ z, K = z + 1 := ⟨K - 1, by omega⟩
        refine lv_lload_n X.1 X.2.1 dX6_enlargeSomewhere_14 rfl (lv_at hl 1 rfl) ?_
        refine lv_iload_n X.1 X.2.1 dX6_enlargeSomewhere_15 rfl (lv_at hl 2 rfl) ?_
        refine lv_i2l (v := lN P) X.1 X.2.1 dX6_enlargeSomewhere_16 (nI_l (by omega)) ?_
        refine lv_iload_n X.1 X.2.1 dX6_enlargeSomewhere_17 rfl (lv_at hl 2 rfl) ?_
        refine lv_i2l (v := lN P) X.1 X.2.1 dX6_enlargeSomewhere_18 (nI_l (by omega)) ?_
        refine lv_lmul X.1 X.2.1 dX6_enlargeSomewhere_19 ?_
        refine lv_lrem X.1 X.2.1 dX6_enlargeSomewhere_20 (lN_sq0 (by omega) (by omega)) ?_
        refine lv_lconst (v := 0) X.1 X.2.1 dX6_enlargeSomewhere_21 (by decide) ?_
        refine bl_ne (tgt := 44) X dX6_enlargeSomewhere_22 dX6_enlargeSomewhere_23 (by decide) (fun c_5 => ?_) (fun c_5 => ?_)
        · refine lv_iinc (v := nI (P + 1)) (lv' := [(3, .int (nI (P + 1))), (0, .ref h0), (1, .long (discF f))]) X.1 X.2.1 dX6_enlargeSomewhere_44 hl (k := 2) rfl (nI_1 P) (by decide) rfl (fun ls hl => ?_)
          refine lv_goto (tgt := 7) X.1 X.2.1 dX6_enlargeSomewhere_47 (by decide) ?_
          exact ih7  (P + 1) K z (by omega) (by omega) (by rw [← hG, glpMGo, if_neg (show ¬ remL _ _ = 0 from c_5)]) (by omega) _ _ _ (hP.sub [0] rfl) (hD.sub [0] rfl rfl) hS (lv_sub hl [1, 2, 0] rfl)
        · refine lv_iload_n X.1 X.2.1 dX6_enlargeSomewhere_26 rfl (lv_at hl 2 rfl) ?_
          refine fin_i (wr := [(h0, moE (nI n) st f k he p ma tr z tb fo gi)]) (cv_X6_214 X (m_isPrime l D cI cJ (nI P)  _) rfl rfl dX6_enlargeSomewhere_27 hP hD [] rfl rfl hl.1 rfl rfl (Nat.le_of_ble_eq_true rfl) ⟨Nat.le_of_ble_eq_true rfl, Nat.le_of_ble_eq_true rfl⟩ ⟨Nat.le_of_ble_eq_true rfl, Nat.le_of_ble_eq_true rfl⟩) hP hD hS hA [] [0] rfl rfl rfl (by decide) (fun r_8 u_7 H locs w_6 hP hD hS => ?_)
          have hP : va_P D vwCl [(h0, moE (nI n) st f k he p ma tr z tb fo gi)] H := hP
          have hD : va_D AA [(h0, moE (nI n) st f k he p ma tr z tb fo gi)] := hD
          subst w_6
          refine bb_eq (tgt := 44) X dX6_enlargeSomewhere_30 (by decide) (fun c_9 => ?_) (fun c_9 => ?_)
          · refine lv_iinc (v := nI (P + 1)) (lv' := [(3, .int (nI (P + 1))), (0, .ref h0), (1, .long (discF f))]) X.1 X.2.1 dX6_enlargeSomewhere_44 hl (k := 2) rfl (nI_1 P) (by decide) rfl (fun ls hl => ?_)
            refine lv_goto (tgt := 7) X.1 X.2.1 dX6_enlargeSomewhere_47 (by decide) ?_
            exact ih7  (P + 1) K z (by omega) (by omega) (by rw [← hG, glpMGo, if_pos (show remL _ _ = 0 from c_5), if_neg (by rw [c_9]; decide)]) (by omega) _ _ _ (hP.sub [0] rfl) (hD.sub [0] rfl rfl) hS (lv_sub hl [1, 2, 0] rfl)
          · refine lv_aload_n X.1 X.2.1 dX6_enlargeSomewhere_33 rfl (lv_at hl 0 rfl) ?_
            refine lv_iload_n X.1 X.2.1 dX6_enlargeSomewhere_34 rfl (lv_at hl 2 rfl) ?_
            refine lv_i2l (v := lN P) X.1 X.2.1 dX6_enlargeSomewhere_35 (nI_l (by omega)) ?_
            refine fin_i (wr := []) (cv_X6_224 X (m_enlarge l D cI cJ h0 st he ma tr fo gi n f k p z tb P hP2 (by omega) _) rfl rfl dX6_enlargeSomewhere_36 hP hD 0 rfl [0] rfl rfl hl.1 rfl rfl (Nat.le_of_ble_eq_true rfl) ⟨Nat.le_of_ble_eq_true rfl, Nat.le_of_ble_eq_true rfl⟩ ⟨Nat.le_of_ble_eq_true rfl, Nat.le_of_ble_eq_true rfl⟩) hP hD hS hA [0] [] rfl rfl rfl (by decide) (fun r_12 u_11 H locs w_10 hP hD hS => ?_)
            have hP : va_P D vwCl [(h0, moE (nI n) st ((ovM f P).getD f) k he p ma tr u_11 tb fo gi)] H := hP
            have hD : va_D AA [(h0, moE (nI n) st ((ovM f P).getD f) k he p ma tr u_11 tb fo gi)] := hD
            subst w_10
            refine bb_eq (tgt := 44) X dX6_enlargeSomewhere_39 (by decide) (fun c_13 => ?_) (fun c_13 => ?_)
            · rw [show (ovM f P).getD f = f from by rw [isSome_f c_13]; rfl] at hP hD
              refine lv_iinc (v := nI (P + 1)) (lv' := [(3, .int (nI (P + 1))), (0, .ref h0), (1, .long (discF f))]) X.1 X.2.1 dX6_enlargeSomewhere_44 hl (k := 2) rfl (nI_1 P) (by decide) rfl (fun ls hl => ?_)
              refine lv_goto (tgt := 7) X.1 X.2.1 dX6_enlargeSomewhere_47 (by decide) ?_
              exact ih7  (P + 1) K u_11 (by omega) (by omega) (by rw [← hG, glpMGo, if_pos (show remL _ _ = 0 from c_5), if_pos c_9, ovC_M (show remL _ _ = 0 from c_5), if_neg (by rw [c_13]; decide)]) (by omega) _ _ _ (hP.sub [0] rfl) (hD.sub [0] rfl rfl) hS (lv_sub hl [1, 2, 0] rfl)
            · have eg : sealG 0 f = ovM f P := by rw [← hG, glpMGo, if_pos (show remL _ _ = 0 from c_5), if_pos c_9, ovC_M (show remL _ _ = 0 from c_5), if_pos c_13]
              rw [show (ovM f P).getD f = (sealG 0 f).getD f from by rw [eg]] at hP hD
              refine lv_iconst (v := 1) X.1 X.2.1 dX6_enlargeSomewhere_42 (by decide) ?_
              exact hret 1 u_11 _ _ _ _ (by rw [eg, c_13]; rfl) rfl (hP.sub [0] rfl) (hD.sub [0] rfl rfl) hS dX6_enlargeSomewhere_43
  exact loop7 997 2 996 t rfl (Nat.le_refl 2) ((sealG_eq f).symm) (by decide) _ _ _ (hP.sub [0] rfl) (hD.sub [0] rfl rfl) hS (lv_sub hl [2, 1, 0] rfl)
