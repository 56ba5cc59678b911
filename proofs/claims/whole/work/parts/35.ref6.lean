set_option maxHeartbeats 4000000 in
set_option maxRecDepth 100000 in
theorem m_tabulateNow (l : Launch) (D : va_G) (cI cJ : ClassId) (h0 : Nat) (st : Nat) (he : Nat) (ma : Nat) (tr : Nat) (fo : Nat) (gi : Nat) (n : Nat) (f : Fm) (k : Fm) (p : Em) (t : Fm) (tb : Int32) (T : Tab) (F1 : Nat → Int32) (F2 : Nat → Int32) (An : Nat) (Dn : Nat) (ha : absL f.1 = lN An) (hA1 : An ≤ 300) (hd : absL f.2.2.2 = lN Dn) (hD1 : Dn ≤ 300) (r1 : repC F1 T.1) (r2 : repC F2 T.2) (hcS : 0 < discF f → reduM f = true → canOK f) (hgS : 0 < discF f → (sealG 0 f).isSome = (glpC f).isSome) : CtV l yX6_tabulateNow cX6_tabulateNow 3 (rmk 5 146) D cI cJ [.ref h0] [(h0, moE (nI n) st f k he p ma tr t tb fo gi), (fo, aiE cI 1001 F1), (gi, aiE cI 1001 F2)] (fun (u : Fm × Fm × Fm × (Nat → Int32) × (Nat → Int32)) => [(h0, moE (nI n) st u.1 u.2.1 he p ma tr u.2.2.1 tb fo gi), (fo, aiE cI 1001 u.2.2.2.1), (gi, aiE cI 1001 u.2.2.2.2)]) (fun (u : Fm × Fm × Fm × (Nat → Int32) × (Nat → Int32)) => repC u.2.2.2.1 (stepM f An Dn T).1 ∧ repC u.2.2.2.2 (stepM f An Dn T).2) 0 0 := by
  refine CtV.of (own := RX6) (by decide +kernel) (Nat.le_of_ble_eq_true rfl) rfl ?_
  intro pr_ en_ sg_ me_ ar_ be_ mt_ co_ AA ls QQ X hin hA hP hD hS hl hret
  have hl : lv_has ls 3 [(0, .ref h0)] := hl
  refine lv_aload_n X.1 X.2.1 dX6_tabulateNow_0 rfl (lv_at hl 0 rfl) ?_
  refine fin_l (wr := [(fo, aiE cI 1001 F1), (gi, aiE cI 1001 F2)]) (cv_X6_86 X (m_discriminantNow l D cI cJ h0 st he ma tr fo gi n f k p t tb  _) rfl rfl dX6_tabulateNow_1 hP hD 0 rfl [0] rfl rfl hl.1 rfl rfl (Nat.le_of_ble_eq_true rfl) ⟨Nat.le_of_ble_eq_true rfl, Nat.le_of_ble_eq_true rfl⟩ ⟨Nat.le_of_ble_eq_true rfl, Nat.le_of_ble_eq_true rfl⟩) hP hD hS hA [0] [1, 2] rfl rfl rfl (by decide) (fun r_3 u_2 H locs w_1 hP hD hS => ?_)
  have hP : va_P D vwCl [(fo, aiE cI 1001 F1), (gi, aiE cI 1001 F2), (h0, moE (nI n) st f k he p ma tr t tb fo gi)] H := hP
  have hD : va_D AA [(fo, aiE cI 1001 F1), (gi, aiE cI 1001 F2), (h0, moE (nI n) st f k he p ma tr t tb fo gi)] := hD
  subst w_1
  refine lv_lstore_n (lv' := [(1, .long (discF f)), (0, .ref h0)]) X.1 X.2.1 dX6_tabulateNow_4 rfl hl (by decide) rfl (fun ls hl => ?_)
  refine lv_lload_n X.1 X.2.1 dX6_tabulateNow_5 rfl (lv_at hl 0 rfl) ?_
  refine lv_lconst (v := 1) X.1 X.2.1 dX6_tabulateNow_6 (by decide) ?_
  refine lc_X6_103 X dX6_tabulateNow_7 ?_
  refine fin_i (wr := [(fo, aiE cI 1001 F1), (gi, aiE cI 1001 F2), (h0, moE (nI n) st f k he p ma tr t tb fo gi)]) (cv_X6_33 X (m_isBetween l D cI cJ (discF f) 1 1000  _) rfl rfl dX6_tabulateNow_10 hP hD [] rfl rfl hl.1 rfl rfl (Nat.le_of_ble_eq_true rfl) ⟨Nat.le_of_ble_eq_true rfl, Nat.le_of_ble_eq_true rfl⟩ ⟨Nat.le_of_ble_eq_true rfl, Nat.le_of_ble_eq_true rfl⟩) hP hD hS hA [] [0, 1, 2] rfl rfl rfl (by decide) (fun r_6 u_5 H locs w_4 hP hD hS => ?_)
  have hP : va_P D vwCl [(fo, aiE cI 1001 F1), (gi, aiE cI 1001 F2), (h0, moE (nI n) st f k he p ma tr t tb fo gi)] H := hP
  have hD : va_D AA [(fo, aiE cI 1001 F1), (gi, aiE cI 1001 F2), (h0, moE (nI n) st f k he p ma tr t tb fo gi)] := hD
  subst w_4
  refine bb_eq (tgt := 63) X dX6_tabulateNow_13 (by decide) (fun c_7 => ?_) (fun c_7 => ?_)
  · exact hret (f, k, t, F1, F2) _ _ _ _ (by rw [show stepM f An Dn T = T from by rw [stepM, if_neg (by rw [show tabM f An Dn = false from by simp only [tabM, c_7, Bool.and_true, Bool.true_and, Bool.and_false, Bool.false_and, Bool.not_true]]; decide)]]; exact ⟨r1, r2⟩) (hP.sub [2, 0, 1] rfl) (hD.sub [2, 0, 1] rfl rfl) hS dX6_tabulateNow_63
  · have hdd := btw_d c_7
    have ec : (nI (dN f)).toNatClampNeg = dN f := nI_clamp (by have := hdd.2.2; omega)
    refine lv_aload_n X.1 X.2.1 dX6_tabulateNow_16 rfl (lv_at hl 1 rfl) ?_
    refine fin_i (wr := [(fo, aiE cI 1001 F1), (gi, aiE cI 1001 F2)]) (cv_X6_230 X (m_isCanonicalNow l D cI cJ h0 st he ma tr fo gi n f k p t tb (hcS hdd.1) _) rfl rfl dX6_tabulateNow_17 hP hD 2 rfl [2] rfl rfl hl.1 rfl rfl (Nat.le_of_ble_eq_true rfl) ⟨Nat.le_of_ble_eq_true rfl, Nat.le_of_ble_eq_true rfl⟩ ⟨Nat.le_of_ble_eq_true rfl, Nat.le_of_ble_eq_true rfl⟩) hP hD hS hA [2] [0, 1] rfl rfl rfl (by decide) (fun r_10 u_9 H locs w_8 hP hD hS => ?_)
    have hP : va_P D vwCl [(fo, aiE cI 1001 F1), (gi, aiE cI 1001 F2), (h0, moE (nI n) st f u_9 he p ma tr t tb fo gi)] H := hP
    have hD : va_D AA [(fo, aiE cI 1001 F1), (gi, aiE cI 1001 F2), (h0, moE (nI n) st f u_9 he p ma tr t tb fo gi)] := hD
    subst w_8
    refine bb_eq (tgt := 63) X dX6_tabulateNow_20 (by decide) (fun c_11 => ?_) (fun c_11 => ?_)
    · exact hret (f, u_9, t, F1, F2) _ _ _ _ (by rw [show stepM f An Dn T = T from by rw [stepM, if_neg (by rw [show tabM f An Dn = false from by simp only [tabM, c_7, c_11, Bool.and_true, Bool.true_and, Bool.and_false, Bool.false_and, Bool.not_true]]; decide)]]; exact ⟨r1, r2⟩) (hP.sub [2, 0, 1] rfl) (hD.sub [2, 0, 1] rfl rfl) hS dX6_tabulateNow_63
    · refine lv_aload_n X.1 X.2.1 dX6_tabulateNow_23 rfl (lv_at hl 1 rfl) ?_
      refine fin_i (wr := [(fo, aiE cI 1001 F1), (gi, aiE cI 1001 F2)]) (cv_X6_127 X (m_isReducibleNow l D cI cJ h0 st he ma tr fo gi n f u_9 p t tb An Dn ha hA1 hd hD1 _) rfl rfl dX6_tabulateNow_24 hP hD 2 rfl [2] rfl rfl hl.1 rfl rfl (Nat.le_of_ble_eq_true rfl) ⟨Nat.le_of_ble_eq_true rfl, Nat.le_of_ble_eq_true rfl⟩ ⟨Nat.le_of_ble_eq_true rfl, Nat.le_of_ble_eq_true rfl⟩) hP hD hS hA [2] [0, 1] rfl rfl rfl (by decide) (fun r_14 u_13 H locs w_12 hP hD hS => ?_)
      have hP : va_P D vwCl [(fo, aiE cI 1001 F1), (gi, aiE cI 1001 F2), (h0, moE (nI n) st f u_9 he p ma tr t tb fo gi)] H := hP
      have hD : va_D AA [(fo, aiE cI 1001 F1), (gi, aiE cI 1001 F2), (h0, moE (nI n) st f u_9 he p ma tr t tb fo gi)] := hD
      subst w_12
      refine bb_ne (tgt := 63) X dX6_tabulateNow_27 (by decide) (fun c_15 => ?_) (fun c_15 => ?_)
      · exact hret (f, u_9, t, F1, F2) _ _ _ _ (by rw [show stepM f An Dn T = T from by rw [stepM, if_neg (by rw [show tabM f An Dn = false from by simp only [tabM, c_7, c_11, c_15, Bool.and_true, Bool.true_and, Bool.and_false, Bool.false_and, Bool.not_true]]; decide)]]; exact ⟨r1, r2⟩) (hP.sub [2, 0, 1] rfl) (hD.sub [2, 0, 1] rfl rfl) hS dX6_tabulateNow_63
      · have em : tabM f An Dn = true := by simp only [tabM, c_7, c_11, c_15, Bool.and_true, Bool.not_false]
        refine lv_aload_n X.1 X.2.1 dX6_tabulateNow_30 rfl (lv_at hl 1 rfl) ?_
        refine gf_X6_23 (v := .ref fo) X hP 2 rfl rfl dX6_tabulateNow_31 ?_
        refine lv_lload_n X.1 X.2.1 dX6_tabulateNow_34 rfl (lv_at hl 0 rfl) ?_
        refine lv_l2i X.1 X.2.1 dX6_tabulateNow_35 rfl ?_
        rw [hdd.2.1, lN_i]
        refine lv_dup2_11 X.1 X.2.1 dX6_tabulateNow_36 rfl rfl ?_
        refine va_iald X.1 X.2.1 X.k hP 0 0 rfl rfl (vp_in_nI (by have := hdd.2.2; omega) (by decide)) dX6_tabulateNow_37 ?_
        refine lv_iconst (v := 1) X.1 X.2.1 dX6_tabulateNow_38 (by decide) ?_
        refine lv_iadd X.1 X.2.1 dX6_tabulateNow_39 ?_
        refine va_iast X.1 X.2.1 X.k hP hD hS 0 0 rfl rfl (vp_in_nI (by have := hdd.2.2; omega) (by decide)) dX6_tabulateNow_40 (fun H locs hP hD hS => ?_)
        have hP : va_P D vwCl [(fo, aiE cI 1001 (upd F1 ((nI (dN f)).toNatClampNeg) ((F1 ((nI (dN f)).toNatClampNeg)) + 1))), (gi, aiE cI 1001 F2), (h0, moE (nI n) st f u_9 he p ma tr t tb fo gi)] H := hP
        have hD : va_D AA [(fo, aiE cI 1001 (upd F1 ((nI (dN f)).toNatClampNeg) ((F1 ((nI (dN f)).toNatClampNeg)) + 1))), (gi, aiE cI 1001 F2), (h0, moE (nI n) st f u_9 he p ma tr t tb fo gi)] := hD
        refine lv_aload_n X.1 X.2.1 dX6_tabulateNow_41 rfl (lv_at hl 1 rfl) ?_
        refine gf_X6_26 (v := .ref gi) X hP 2 rfl rfl dX6_tabulateNow_42 ?_
        refine lv_lload_n X.1 X.2.1 dX6_tabulateNow_45 rfl (lv_at hl 0 rfl) ?_
        refine lv_l2i X.1 X.2.1 dX6_tabulateNow_46 rfl ?_
        rw [hdd.2.1, lN_i]
        refine lv_dup2_11 X.1 X.2.1 dX6_tabulateNow_47 rfl rfl ?_
        refine va_iald X.1 X.2.1 X.k hP 1 0 rfl rfl (vp_in_nI (by have := hdd.2.2; omega) (by decide)) dX6_tabulateNow_48 ?_
        refine lv_aload_n X.1 X.2.1 dX6_tabulateNow_49 rfl (lv_at hl 1 rfl) ?_
        refine fin_i (wr := [(fo, aiE cI 1001 (upd F1 ((nI (dN f)).toNatClampNeg) ((F1 ((nI (dN f)).toNatClampNeg)) + 1))), (gi, aiE cI 1001 F2)]) (cv_X6_227 X (m_enlargeSomewhere l D cI cJ h0 st he ma tr fo gi n f u_9 p t tb  _) rfl rfl dX6_tabulateNow_50 hP hD 2 rfl [2] rfl rfl hl.1 rfl rfl (Nat.le_of_ble_eq_true rfl) ⟨Nat.le_of_ble_eq_true rfl, Nat.le_of_ble_eq_true rfl⟩ ⟨Nat.le_of_ble_eq_true rfl, Nat.le_of_ble_eq_true rfl⟩) hP hD hS hA [2] [0, 1] rfl rfl rfl (by decide) (fun r_18 u_17 H locs w_16 hP hD hS => ?_)
        have hP : va_P D vwCl [(fo, aiE cI 1001 (upd F1 ((nI (dN f)).toNatClampNeg) ((F1 ((nI (dN f)).toNatClampNeg)) + 1))), (gi, aiE cI 1001 F2), (h0, moE (nI n) st ((sealG 0 f).getD f) u_9 he p ma tr u_17 tb fo gi)] H := hP
        have hD : va_D AA [(fo, aiE cI 1001 (upd F1 ((nI (dN f)).toNatClampNeg) ((F1 ((nI (dN f)).toNatClampNeg)) + 1))), (gi, aiE cI 1001 F2), (h0, moE (nI n) st ((sealG 0 f).getD f) u_9 he p ma tr u_17 tb fo gi)] := hD
        subst w_16
        refine bb_eq (tgt := 60) X dX6_tabulateNow_53 (by decide) (fun c_19 => ?_) (fun c_19 => ?_)
        · refine lv_iconst (v := 1) X.1 X.2.1 dX6_tabulateNow_60 (by decide) ?_
          refine lv_iadd X.1 X.2.1 dX6_tabulateNow_61 ?_
          refine va_iast X.1 X.2.1 X.k hP hD hS 1 0 rfl rfl (vp_in_nI (by have := hdd.2.2; omega) (by decide)) dX6_tabulateNow_62 (fun H locs hP hD hS => ?_)
          have hP : va_P D vwCl [(fo, aiE cI 1001 (upd F1 ((nI (dN f)).toNatClampNeg) ((F1 ((nI (dN f)).toNatClampNeg)) + 1))), (gi, aiE cI 1001 (upd F2 ((nI (dN f)).toNatClampNeg) ((F2 ((nI (dN f)).toNatClampNeg)) + 1))), (h0, moE (nI n) st ((sealG 0 f).getD f) u_9 he p ma tr u_17 tb fo gi)] H := hP
          have hD : va_D AA [(fo, aiE cI 1001 (upd F1 ((nI (dN f)).toNatClampNeg) ((F1 ((nI (dN f)).toNatClampNeg)) + 1))), (gi, aiE cI 1001 (upd F2 ((nI (dN f)).toNatClampNeg) ((F2 ((nI (dN f)).toNatClampNeg)) + 1))), (h0, moE (nI n) st ((sealG 0 f).getD f) u_9 he p ma tr u_17 tb fo gi)] := hD
          exact hret ((sealG 0 f).getD f, u_9, u_17, upd F1 ((nI (dN f)).toNatClampNeg) ((F1 ((nI (dN f)).toNatClampNeg)) + 1), upd F2 ((nI (dN f)).toNatClampNeg) ((F2 ((nI (dN f)).toNatClampNeg)) + 1)) _ _ _ _ (by
            rw [show stepM f An Dn T = addT f T from by rw [stepM, if_pos em]]
            refine ⟨by rw [ec]; exact repC_ins r1 hdd.2.2, ?_⟩
            have hg2 := hgS hdd.1
            rw [c_19] at hg2
            show repC _ (if (glpC f).isSome then T.2 else insRev T.2 (dN f))
            rw [← hg2, ec]
            exact repC_ins r2 hdd.2.2) (hP.sub [2, 0, 1] rfl) (hD.sub [2, 0, 1] rfl rfl) hS dX6_tabulateNow_63
        · refine lv_iconst (v := 0) X.1 X.2.1 dX6_tabulateNow_56 (by decide) ?_
          refine lv_goto (tgt := 61) X.1 X.2.1 dX6_tabulateNow_57 (by decide) ?_
          refine lv_iadd X.1 X.2.1 dX6_tabulateNow_61 ?_
          refine va_iast X.1 X.2.1 X.k hP hD hS 1 0 rfl rfl (vp_in_nI (by have := hdd.2.2; omega) (by decide)) dX6_tabulateNow_62 (fun H locs hP hD hS => ?_)
          have hP : va_P D vwCl [(fo, aiE cI 1001 (upd F1 ((nI (dN f)).toNatClampNeg) ((F1 ((nI (dN f)).toNatClampNeg)) + 1))), (gi, aiE cI 1001 (upd F2 ((nI (dN f)).toNatClampNeg) ((F2 ((nI (dN f)).toNatClampNeg)) + 0))), (h0, moE (nI n) st ((sealG 0 f).getD f) u_9 he p ma tr u_17 tb fo gi)] H := hP
          have hD : va_D AA [(fo, aiE cI 1001 (upd F1 ((nI (dN f)).toNatClampNeg) ((F1 ((nI (dN f)).toNatClampNeg)) + 1))), (gi, aiE cI 1001 (upd F2 ((nI (dN f)).toNatClampNeg) ((F2 ((nI (dN f)).toNatClampNeg)) + 0))), (h0, moE (nI n) st ((sealG 0 f).getD f) u_9 he p ma tr u_17 tb fo gi)] := hD
          exact hret ((sealG 0 f).getD f, u_9, u_17, upd F1 ((nI (dN f)).toNatClampNeg) ((F1 ((nI (dN f)).toNatClampNeg)) + 1), upd F2 ((nI (dN f)).toNatClampNeg) ((F2 ((nI (dN f)).toNatClampNeg)) + 0)) _ _ _ _ (by
            rw [show stepM f An Dn T = addT f T from by rw [stepM, if_pos em]]
            refine ⟨by rw [ec]; exact repC_ins r1 hdd.2.2, ?_⟩
            have hg2 := hgS hdd.1
            rw [c_19] at hg2
            show repC _ (if (glpC f).isSome then T.2 else insRev T.2 (dN f))
            rw [← hg2, ec]
            exact repC_0 r2 hdd.2.2) (hP.sub [2, 0, 1] rfl) (hD.sub [2, 0, 1] rfl rfl) hS dX6_tabulateNow_63
set_option maxHeartbeats 4000000 in
set_option maxRecDepth 100000 in
theorem m_tabulate (l : Launch) (D : va_G) (cI cJ : ClassId) (h0 : Nat) (st : Nat) (he : Nat) (ma : Nat) (tr : Nat) (fo : Nat) (gi : Nat) (n : Nat) (f : Fm) (k : Fm) (p : Em) (t : Fm) (tb : Int32) (T : Tab) (F1 : Nat → Int32) (F2 : Nat → Int32) (hst : tabSt tb T) (r1 : repC F1 T.1) (r2 : repC F2 T.2) (hcS : ∀ m, m < 130321 → 0 < discF (frq m) → reduM (frq m) = true → canOK (frq m)) (hgS : ∀ m, m < 130321 → 0 < discF (frq m) → (sealG 0 (frq m)).isSome = (glpC (frq m)).isSome) (hTM : tM 130321 0 ([], []) = sealT 0) : CtV l yX6_tabulate cX6_tabulate 2 (rmk 6 168) D cI cJ [.ref h0] [(h0, moE (nI n) st f k he p ma tr t tb fo gi), (fo, aiE cI 1001 F1), (gi, aiE cI 1001 F2)] (fun (u : Fm × Fm × Fm × (Nat → Int32) × (Nat → Int32)) => [(h0, moE (nI n) st u.1 u.2.1 he p ma tr u.2.2.1 1 fo gi), (fo, aiE cI 1001 u.2.2.2.1), (gi, aiE cI 1001 u.2.2.2.2)]) (fun (u : Fm × Fm × Fm × (Nat → Int32) × (Nat → Int32)) => repC u.2.2.2.1 (sealT 0).1 ∧ repC u.2.2.2.2 (sealT 0).2) 0 0 := by
  refine CtV.of (own := RX6) (by decide +kernel) (Nat.le_of_ble_eq_true rfl) rfl ?_
  intro pr_ en_ sg_ me_ ar_ be_ mt_ co_ AA ls QQ X hin hA hP hD hS hl hret
  have hl : lv_has ls 2 [(0, .ref h0)] := hl
  refine lv_iconst (v := 0) X.1 X.2.1 dX6_tabulate_0 (by decide) ?_
  refine lv_istore_n (lv' := [(1, .int 0), (0, .ref h0)]) X.1 X.2.1 dX6_tabulate_1 rfl hl (by decide) rfl (fun ls hl => ?_)
  have loop2 : ∀ (n9 : Nat) (m : Nat) (K : Nat) (T : Tab) (F1 : Nat → Int32) (F2 : Nat → Int32) (z1 : Fm) (z2 : Fm) (z3 : Fm), (m + K = 130321) → ((tb = 1 ∧ T = sealT 0) ∨ (tb = 0 ∧ tM K m T = sealT 0)) → (K < n9) → (repC F1 T.1) → (repC F2 T.2) → ∀ (H : Heap) (locs : List Loc) (ls : Array Slot), va_P D vwCl [(h0, moE (nI n) st z1 z2 he p ma tr z3 tb fo gi), (fo, aiE cI 1001 F1), (gi, aiE cI 1001 F2)] H → va_D AA [(h0, moE (nI n) st z1 z2 he p ma tr z3 tb fo gi), (fo, aiE cI 1001 F1), (gi, aiE cI 1001 F2)] → va_S AA sg_.heap H locs → lv_has ls 2 [(0, .ref h0), (1, .int (nI m))] → W pr_ l en_ (rmk 6 168) sg_ me_ ar_ be_ mt_ co_ H locs 0 0 QQ (F0 me_ 2 ls []) := by
    intro n9
    induction n9 with
    | zero =>
      intro m K T F1 F2 z1 z2 z3 hk hG hn9 r1 r2
      omega
    | succ n2 ih2 =>
      intro m K T F1 F2 z1 z2 z3 hk hG hn9 r1 r2 H locs ls hP hD hS hl
      refine lv_iload_n X.1 X.2.1 dX6_tabulate_2 rfl (lv_at hl 1 rfl) ?_
      refine lc_X6_233 X dX6_tabulate_3 ?_
      refine bi_ge (tgt := 69) X dX6_tabulate_5 (by decide) (fun c_1 => ?_) (fun c_1 => ?_)
      · have hT : T = sealT 0 := by
          rcases hG with q | q
          · exact q.2
          · have hm : ¬ m < 130321 := fun z => c_1 ((nI_ltn (by omega) (by decide) rfl).mpr z)
            obtain rfl : K = 0 := by omega
            exact q.2
        rw [hT] at r1 r2
        refine lv_aload_n X.1 X.2.1 dX6_tabulate_69 rfl (lv_at hl 0 rfl) ?_
        refine lv_iconst (v := 1) X.1 X.2.1 dX6_tabulate_70 (by decide) ?_
        refine pf_X6_234 X hP hD hS 0 rfl rfl rfl (Nat.le_of_ble_eq_true rfl) dX6_tabulate_71 (fun H locs hP hD hS => ?_)
        have hP : va_P D vwCl [(h0, moE (nI n) st z1 z2 he p ma tr z3 1 fo gi), (fo, aiE cI 1001 F1), (gi, aiE cI 1001 F2)] H := hP
        have hD : va_D AA [(h0, moE (nI n) st z1 z2 he p ma tr z3 1 fo gi), (fo, aiE cI 1001 F1), (gi, aiE cI 1001 F2)] := hD
        exact hret (z1, z2, z3, F1, F2) _ _ _ _ (⟨r1, r2⟩) (hP.sub [0, 1, 2] rfl) (hD.sub [0, 1, 2] rfl rfl) hS dX6_tabulate_74
      · refine lv_aload_n X.1 X.2.1 dX6_tabulate_8 rfl (lv_at hl 0 rfl) ?_
        refine gf_X6_234 (v := .int tb) X hP 0 rfl rfl dX6_tabulate_9 ?_
        refine bz_ne (tgt := 69) X dX6_tabulate_12 (by decide) (fun c_2 => ?_) (fun c_2 => ?_)
        · have hT : T = sealT 0 := by
            rcases hG with q | q
            · exact q.2
            · exact absurd q.1 c_2
          rw [hT] at r1 r2
          refine lv_aload_n X.1 X.2.1 dX6_tabulate_69 rfl (lv_at hl 0 rfl) ?_
          refine lv_iconst (v := 1) X.1 X.2.1 dX6_tabulate_70 (by decide) ?_
          refine pf_X6_234 X hP hD hS 0 rfl rfl rfl (Nat.le_of_ble_eq_true rfl) dX6_tabulate_71 (fun H locs hP hD hS => ?_)
          have hP : va_P D vwCl [(h0, moE (nI n) st z1 z2 he p ma tr z3 1 fo gi), (fo, aiE cI 1001 F1), (gi, aiE cI 1001 F2)] H := hP
          have hD : va_D AA [(h0, moE (nI n) st z1 z2 he p ma tr z3 1 fo gi), (fo, aiE cI 1001 F1), (gi, aiE cI 1001 F2)] := hD
          exact hret (z1, z2, z3, F1, F2) _ _ _ _ (⟨r1, r2⟩) (hP.sub [0, 1, 2] rfl) (hD.sub [0, 1, 2] rfl rfl) hS dX6_tabulate_74
        · have hm : m < 130321 := (nI_ltn (by omega) (by decide) rfl).mp c_1
          obtain ⟨K, rfl⟩ : ∃ z, K = z + 1 := ⟨K - 1, by omega⟩
          have hG : tb = 0 ∧ tM (K + 1) m T = sealT 0 := by
            rcases hG with q | q
            · exact absurd (q.1.symm.trans c_2) (by decide)
            · exact q
          refine lv_aload_n X.1 X.2.1 dX6_tabulate_15 rfl (lv_at hl 0 rfl) ?_
          refine lv_iload_n X.1 X.2.1 dX6_tabulate_16 rfl (lv_at hl 1 rfl) ?_
          refine lv_sipush (v := 6859) X.1 X.2.1 dX6_tabulate_17 (by decide) ?_
          refine lv_idiv X.1 X.2.1 dX6_tabulate_20 (by decide) ?_
          refine lv_bipush (v := 9) X.1 X.2.1 dX6_tabulate_21 (by decide) ?_
          refine lv_isub X.1 X.2.1 dX6_tabulate_23 ?_
          rw [dq_1 hm]
          refine lv_i2l X.1 X.2.1 dX6_tabulate_24 rfl ?_
          refine lv_iload_n X.1 X.2.1 dX6_tabulate_25 rfl (lv_at hl 1 rfl) ?_
          refine lv_sipush (v := 361) X.1 X.2.1 dX6_tabulate_26 (by decide) ?_
          refine lv_idiv X.1 X.2.1 dX6_tabulate_29 (by decide) ?_
          refine lv_bipush (v := 19) X.1 X.2.1 dX6_tabulate_30 (by decide) ?_
          refine lv_irem X.1 X.2.1 dX6_tabulate_32 (by decide) ?_
          refine lv_bipush (v := 9) X.1 X.2.1 dX6_tabulate_33 (by decide) ?_
          refine lv_isub X.1 X.2.1 dX6_tabulate_35 ?_
          rw [dq_2 hm]
          refine lv_i2l X.1 X.2.1 dX6_tabulate_36 rfl ?_
          refine lv_iload_n X.1 X.2.1 dX6_tabulate_37 rfl (lv_at hl 1 rfl) ?_
          refine lv_bipush (v := 19) X.1 X.2.1 dX6_tabulate_38 (by decide) ?_
          refine lv_idiv X.1 X.2.1 dX6_tabulate_40 (by decide) ?_
          refine lv_bipush (v := 19) X.1 X.2.1 dX6_tabulate_41 (by decide) ?_
          refine lv_irem X.1 X.2.1 dX6_tabulate_43 (by decide) ?_
          refine lv_bipush (v := 9) X.1 X.2.1 dX6_tabulate_44 (by decide) ?_
          refine lv_isub X.1 X.2.1 dX6_tabulate_46 ?_
          rw [dq_3 hm]
          refine lv_i2l X.1 X.2.1 dX6_tabulate_47 rfl ?_
          refine lv_iload_n X.1 X.2.1 dX6_tabulate_48 rfl (lv_at hl 1 rfl) ?_
          refine lv_bipush (v := 19) X.1 X.2.1 dX6_tabulate_49 (by decide) ?_
          refine lv_irem X.1 X.2.1 dX6_tabulate_51 (by decide) ?_
          refine lv_bipush (v := 9) X.1 X.2.1 dX6_tabulate_52 (by decide) ?_
          refine lv_isub X.1 X.2.1 dX6_tabulate_54 ?_
          rw [dq_4 hm]
          refine lv_i2l X.1 X.2.1 dX6_tabulate_55 rfl ?_
          refine fin_v (wr := [(fo, aiE cI 1001 F1), (gi, aiE cI 1001 F2)]) (cv_X6_58 X (m_set l D cI cJ h0 st he ma tr fo gi n z1 z2 p z3 tb ((sI (m / 6859)).toInt64) ((sI (m / 361 % 19)).toInt64) ((sI (m / 19 % 19)).toInt64) ((sI (m % 19)).toInt64)  _) rfl rfl dX6_tabulate_56 hP hD 0 rfl [0] rfl rfl hl.1 rfl rfl (Nat.le_of_ble_eq_true rfl) ⟨Nat.le_of_ble_eq_true rfl, Nat.le_of_ble_eq_true rfl⟩ ⟨Nat.le_of_ble_eq_true rfl, Nat.le_of_ble_eq_true rfl⟩) hP hD hS hA [0] [1, 2] rfl rfl rfl (by decide) (fun u_4 H locs w_3 hP hD hS => ?_)
          have hP : va_P D vwCl [(fo, aiE cI 1001 F1), (gi, aiE cI 1001 F2), (h0, moE (nI n) st (((sI (m / 6859)).toInt64), ((sI (m / 361 % 19)).toInt64), ((sI (m / 19 % 19)).toInt64), ((sI (m % 19)).toInt64)) z2 he p ma tr z3 tb fo gi)] H := hP
          have hD : va_D AA [(fo, aiE cI 1001 F1), (gi, aiE cI 1001 F2), (h0, moE (nI n) st (((sI (m / 6859)).toInt64), ((sI (m / 361 % 19)).toInt64), ((sI (m / 19 % 19)).toInt64), ((sI (m % 19)).toInt64)) z2 he p ma tr z3 tb fo gi)] := hD
          have hP : va_P D vwCl [(fo, aiE cI 1001 F1), (gi, aiE cI 1001 F2), (h0, moE (nI n) st (frq m) z2 he p ma tr z3 tb fo gi)] H := hP
          have hD : va_D AA [(fo, aiE cI 1001 F1), (gi, aiE cI 1001 F2), (h0, moE (nI n) st (frq m) z2 he p ma tr z3 tb fo gi)] := hD
          refine lv_aload_n X.1 X.2.1 dX6_tabulate_59 rfl (lv_at hl 0 rfl) ?_
          refine fin_v (wr := []) (cv_X6_238 X (m_tabulateNow l D cI cJ h0 st he ma tr fo gi n (frq m) z2 p z3 tb T F1 F2 (aN (m / 6859)) (aN (m % 19)) ((sI_abs _ (by omega)).1) ((sI_abs _ (by omega)).2) ((sI_abs _ (by omega)).1) ((sI_abs _ (by omega)).2) r1 r2 (hcS m hm) (hgS m hm) _) rfl rfl dX6_tabulate_60 hP hD 2 rfl [2, 0, 1] rfl rfl hl.1 rfl rfl (Nat.le_of_ble_eq_true rfl) ⟨Nat.le_of_ble_eq_true rfl, Nat.le_of_ble_eq_true rfl⟩ ⟨Nat.le_of_ble_eq_true rfl, Nat.le_of_ble_eq_true rfl⟩) hP hD hS hA [2, 0, 1] [] rfl rfl rfl (by decide) (fun u_7 H locs w_6 hP hD hS => ?_)
          have hP : va_P D vwCl [(h0, moE (nI n) st u_7.1 u_7.2.1 he p ma tr u_7.2.2.1 tb fo gi), (fo, aiE cI 1001 u_7.2.2.2.1), (gi, aiE cI 1001 u_7.2.2.2.2)] H := hP
          have hD : va_D AA [(h0, moE (nI n) st u_7.1 u_7.2.1 he p ma tr u_7.2.2.1 tb fo gi), (fo, aiE cI 1001 u_7.2.2.2.1), (gi, aiE cI 1001 u_7.2.2.2.2)] := hD
          refine lv_iinc (v := nI (m + 1)) (lv' := [(1, .int (nI (m + 1))), (0, .ref h0)]) X.1 X.2.1 dX6_tabulate_63 hl (k := 1) rfl (nI_1 m) (by decide) rfl (fun ls hl => ?_)
          refine lv_goto (tgt := 2) X.1 X.2.1 dX6_tabulate_66 (by decide) ?_
          exact ih2  (m + 1) K (stepM (frq m) (aN (m / 6859)) (aN (m % 19)) T) u_7.2.2.2.1 u_7.2.2.2.2 u_7.1 u_7.2.1 u_7.2.2.1 (by omega) (Or.inr ⟨hG.1, by rw [← hG.2, tM]⟩) (by omega) w_6.1 w_6.2 _ _ _ (hP.sub [0, 1, 2] rfl) (hD.sub [0, 1, 2] rfl rfl) hS (lv_sub hl [1, 0] rfl)
  exact loop2 130322 0 130321 T F1 F2 f k t rfl (by
    rcases hst with q | q
    · exact Or.inr ⟨q.1, by rw [q.2]; exact hTM⟩
    · exact Or.inl q) (Nat.lt_succ_self _) r1 r2 _ _ _ (hP.sub [0, 1, 2] rfl) (hD.sub [0, 1, 2] rfl rfl) hS (lv_sub hl [1, 0] rfl)
set_option maxHeartbeats 4000000 in
set_option maxRecDepth 100000 in
theorem m_countForms (l : Launch) (D : va_G) (cI cJ : ClassId) (h0 : Nat) (st : Nat) (he : Nat) (ma : Nat) (tr : Nat) (fo : Nat) (gi : Nat) (n : Nat) (f : Fm) (k : Fm) (p : Em) (t : Fm) (tb : Int32) (T : Tab) (F1 : Nat → Int32) (F2 : Nat → Int32) (lim : Int32) (hst : tabSt tb T) (r1 : repC F1 T.1) (r2 : repC F2 T.2) (hcS : ∀ m, m < 130321 → 0 < discF (frq m) → reduM (frq m) = true → canOK (frq m)) (hgS : ∀ m, m < 130321 → 0 < discF (frq m) → (sealG 0 (frq m)).isSome = (glpC (frq m)).isSome) (hTM : tM 130321 0 ([], []) = sealT 0) (hpos : posR (sealT 0).1) (hlen : (sealT 0).1.length ≤ 60) : CtI l yX6_countForms cX6_countForms 4 .int (rmk 7 189) D cI cJ [.ref h0, .int lim] [(h0, moE (nI n) st f k he p ma tr t tb fo gi), (fo, aiE cI 1001 F1), (gi, aiE cI 1001 F2)] (fun (u : Int32 × Tab × Fm × Fm × Fm × (Nat → Int32) × (Nat → Int32)) => [(h0, moE (nI n) st u.2.2.1 u.2.2.2.1 he p ma tr u.2.2.2.2.1 u.1 fo gi), (fo, aiE cI 1001 u.2.2.2.2.2.1), (gi, aiE cI 1001 u.2.2.2.2.2.2)]) (fun (r : Int32) (u : Int32 × Tab × Fm × Fm × Fm × (Nat → Int32) × (Nat → Int32)) => r = cfoR lim ∧ tabSt u.1 u.2.1 ∧ repC u.2.2.2.2.2.1 u.2.1.1 ∧ repC u.2.2.2.2.2.2 u.2.1.2) := by
  refine CtI.of (own := RX6) (by decide +kernel) (Nat.le_of_ble_eq_true rfl) rfl ?_
  intro pr_ en_ sg_ me_ ar_ be_ mt_ co_ AA ls QQ X hA hP hD hS hl hret
  have hl : lv_has ls 4 [(0, .ref h0), (1, .int lim)] := hl
  refine lv_iload_n X.1 X.2.1 dX6_countForms_0 rfl (lv_at hl 1 rfl) ?_
  refine lv_i2l X.1 X.2.1 dX6_countForms_1 rfl ?_
  refine lv_lconst (v := 1) X.1 X.2.1 dX6_countForms_2 (by decide) ?_
  refine lc_X6_103 X dX6_countForms_3 ?_
  refine fin_i (wr := [(h0, moE (nI n) st f k he p ma tr t tb fo gi), (fo, aiE cI 1001 F1), (gi, aiE cI 1001 F2)]) (cv_X6_33 X (m_isBetween l D cI cJ lim.toInt64 1 1000  _) rfl rfl dX6_countForms_6 hP hD [] rfl rfl hl.1 rfl rfl (Nat.le_of_ble_eq_true rfl) ⟨Nat.le_of_ble_eq_true rfl, Nat.le_of_ble_eq_true rfl⟩ ⟨Nat.le_of_ble_eq_true rfl, Nat.le_of_ble_eq_true rfl⟩) hP hD hS hA [] [0, 1, 2] rfl rfl rfl (by decide) (fun r_3 u_2 H locs w_1 hP hD hS => ?_)
  have hP : va_P D vwCl [(h0, moE (nI n) st f k he p ma tr t tb fo gi), (fo, aiE cI 1001 F1), (gi, aiE cI 1001 F2)] H := hP
  have hD : va_D AA [(h0, moE (nI n) st f k he p ma tr t tb fo gi), (fo, aiE cI 1001 F1), (gi, aiE cI 1001 F2)] := hD
  subst w_1
  refine bb_ne (tgt := 16) X dX6_countForms_9 (by decide) (fun c_4 => ?_) (fun c_4 => ?_)
  · have hcb := c_4
    obtain ⟨L, hL1, hL2, hL⟩ := limB_o hcb
    rw [hL] at hl
    refine lv_aload_n X.1 X.2.1 dX6_countForms_16 rfl (lv_at hl 0 rfl) ?_
    refine fin_v (wr := []) (cv_X6_241 X (m_tabulate l D cI cJ h0 st he ma tr fo gi n f k p t tb T F1 F2 hst r1 r2 hcS hgS hTM _) rfl rfl dX6_countForms_17 hP hD 0 rfl [0, 1, 2] rfl rfl hl.1 rfl rfl (Nat.le_of_ble_eq_true rfl) ⟨Nat.le_of_ble_eq_true rfl, Nat.le_of_ble_eq_true rfl⟩ ⟨Nat.le_of_ble_eq_true rfl, Nat.le_of_ble_eq_true rfl⟩) hP hD hS hA [0, 1, 2] [] rfl rfl rfl (by decide) (fun u_6 H locs w_5 hP hD hS => ?_)
    have hP : va_P D vwCl [(h0, moE (nI n) st u_6.1 u_6.2.1 he p ma tr u_6.2.2.1 1 fo gi), (fo, aiE cI 1001 u_6.2.2.2.1), (gi, aiE cI 1001 u_6.2.2.2.2)] H := hP
    have hD : va_D AA [(h0, moE (nI n) st u_6.1 u_6.2.1 he p ma tr u_6.2.2.1 1 fo gi), (fo, aiE cI 1001 u_6.2.2.2.1), (gi, aiE cI 1001 u_6.2.2.2.2)] := hD
    have wT := w_5
    obtain ⟨v1, v2, v3, A1, A2⟩ := u_6
    have wT : repC A1 (sealT 0).1 ∧ repC A2 (sealT 0).2 := wT
    have hP : va_P D vwCl [(h0, moE (nI n) st v1 v2 he p ma tr v3 1 fo gi), (fo, aiE cI 1001 A1), (gi, aiE cI 1001 A2)] H := hP
    have hD : va_D AA [(h0, moE (nI n) st v1 v2 he p ma tr v3 1 fo gi), (fo, aiE cI 1001 A1), (gi, aiE cI 1001 A2)] := hD
    refine lv_iconst (v := 0) X.1 X.2.1 dX6_countForms_20 (by decide) ?_
    refine lv_istore_n (lv' := [(2, .int 0), (0, .ref h0), (1, .int (nI L))]) X.1 X.2.1 dX6_countForms_21 rfl hl (by decide) rfl (fun ls hl => ?_)
    refine lv_iconst (v := 1) X.1 X.2.1 dX6_countForms_22 (by decide) ?_
    refine lv_istore_n (lv' := [(3, .int 1), (2, .int 0), (0, .ref h0), (1, .int (nI L))]) X.1 X.2.1 dX6_countForms_23 rfl hl (by decide) rfl (fun ls hl => ?_)
    have loop24 : ∀ (n9 : Nat) (j : Nat), (1 ≤ j) → (j ≤ L + 1) → (L + 2 ≤ j + n9) → ∀ (H : Heap) (locs : List Loc) (ls : Array Slot), va_P D vwCl [(h0, moE (nI n) st v1 v2 he p ma tr v3 1 fo gi), (fo, aiE cI 1001 A1), (gi, aiE cI 1001 A2)] H → va_D AA [(h0, moE (nI n) st v1 v2 he p ma tr v3 1 fo gi), (fo, aiE cI 1001 A1), (gi, aiE cI 1001 A2)] → va_S AA sg_.heap H locs → lv_has ls 4 [(0, .ref h0), (1, .int (nI L)), (2, .int (nI (sumC (sealT 0).1 (j - 1)))), (3, .int (nI j))] → W pr_ l en_ (rmk 7 189) sg_ me_ ar_ be_ mt_ co_ H locs 0 0 QQ (F0 me_ 24 ls []) := by
      intro n9
      induction n9 with
      | zero =>
        intro j hj1 hj2 hn9
        omega
      | succ n24 ih24 =>
        intro j hj1 hj2 hn9 H locs ls hP hD hS hl
        refine lv_iload_n X.1 X.2.1 dX6_countForms_24 rfl (lv_at hl 3 rfl) ?_
        refine lv_iload_n X.1 X.2.1 dX6_countForms_25 rfl (lv_at hl 1 rfl) ?_
        refine bi_gt (tgt := 44) X dX6_countForms_26 (by decide) (fun c_8 => ?_) (fun c_8 => ?_)
        · have hjL : L < j := (nI_ltI (by omega) (by omega)).mp c_8
          have hje : j = L + 1 := by omega
          refine lv_iload_n X.1 X.2.1 dX6_countForms_44 rfl (lv_at hl 2 rfl) ?_
          exact hret (nI (sumC (sealT 0).1 (j - 1))) (1, sealT 0, v1, v2, v3, A1, A2) _ _ _ _ (⟨by rw [cfoR_g hcb, hL, cntL_sum hpos hL2, hje]; rfl, ⟨Or.inr ⟨rfl, rfl⟩, wT.1, wT.2⟩⟩) rfl (hP.sub [0, 1, 2] rfl) (hD.sub [0, 1, 2] rfl rfl) hS dX6_countForms_45
        · have hjL : ¬ L < j := fun q => c_8 ((nI_ltI (by omega) (by omega)).mpr q)
          refine lv_iload_n X.1 X.2.1 dX6_countForms_29 rfl (lv_at hl 2 rfl) ?_
          refine lv_aload_n X.1 X.2.1 dX6_countForms_30 rfl (lv_at hl 0 rfl) ?_
          refine gf_X6_23 (v := .ref fo) X hP 0 rfl rfl dX6_countForms_31 ?_
          refine lv_iload_n X.1 X.2.1 dX6_countForms_34 rfl (lv_at hl 3 rfl) ?_
          refine va_iald X.1 X.2.1 X.k hP 1 0 rfl rfl (vp_in_nI (by omega) (by decide)) dX6_countForms_35 ?_
          refine lv_iadd X.1 X.2.1 dX6_countForms_36 ?_
          rw [nI_clamp (show j < 2 ^ 31 by omega), wT.1 j (by omega), nI_add, sumC_st hj1]
          refine lv_istore_n (lv' := [(2, .int (nI (sumC (sealT 0).1 (j + 1 - 1)))), (0, .ref h0), (1, .int (nI L)), (3, .int (nI j))]) X.1 X.2.1 dX6_countForms_37 rfl hl (by decide) rfl (fun ls hl => ?_)
          refine lv_iinc (v := nI (j + 1)) (lv' := [(3, .int (nI (j + 1))), (2, .int (nI (sumC (sealT 0).1 (j + 1 - 1)))), (0, .ref h0), (1, .int (nI L))]) X.1 X.2.1 dX6_countForms_38 hl (k := 3) rfl (nI_1 j) (by decide) rfl (fun ls hl => ?_)
          refine lv_goto (tgt := 24) X.1 X.2.1 dX6_countForms_41 (by decide) ?_
          exact ih24  (j + 1) (by omega) (by omega) (by omega) _ _ _ (hP.sub [0, 1, 2] rfl) (hD.sub [0, 1, 2] rfl rfl) hS (lv_sub hl [2, 3, 1, 0] rfl)
    exact loop24 (L + 1) 1 (Nat.le_refl 1) (by omega) (by omega) _ _ _ (hP.sub [0, 1, 2] rfl) (hD.sub [0, 1, 2] rfl rfl) hS (lv_sub hl [2, 3, 1, 0] rfl)
  · refine lv_sipush (v := (-10003)) X.1 X.2.1 dX6_countForms_12 (by decide) ?_
    exact hret (-10003) (tb, T, f, k, t, F1, F2) _ _ _ _ (⟨cfoR_b c_4, ⟨hst, r1, r2⟩⟩) rfl (hP.sub [0, 1, 2] rfl) (hD.sub [0, 1, 2] rfl rfl) hS dX6_countForms_15
set_option maxHeartbeats 4000000 in
set_option maxRecDepth 100000 in
theorem m_countFields (l : Launch) (D : va_G) (cI cJ : ClassId) (h0 : Nat) (st : Nat) (he : Nat) (ma : Nat) (tr : Nat) (fo : Nat) (gi : Nat) (n : Nat) (f : Fm) (k : Fm) (p : Em) (t : Fm) (tb : Int32) (T : Tab) (F1 : Nat → Int32) (F2 : Nat → Int32) (lim : Int32) (hst : tabSt tb T) (r1 : repC F1 T.1) (r2 : repC F2 T.2) (hcS : ∀ m, m < 130321 → 0 < discF (frq m) → reduM (frq m) = true → canOK (frq m)) (hgS : ∀ m, m < 130321 → 0 < discF (frq m) → (sealG 0 (frq m)).isSome = (glpC (frq m)).isSome) (hTM : tM 130321 0 ([], []) = sealT 0) (hpos : posR (sealT 0).2) (hlen : (sealT 0).2.length ≤ 60) : CtI l yX6_countFields cX6_countFields 4 .int (rmk 7 189) D cI cJ [.ref h0, .int lim] [(h0, moE (nI n) st f k he p ma tr t tb fo gi), (fo, aiE cI 1001 F1), (gi, aiE cI 1001 F2)] (fun (u : Int32 × Tab × Fm × Fm × Fm × (Nat → Int32) × (Nat → Int32)) => [(h0, moE (nI n) st u.2.2.1 u.2.2.2.1 he p ma tr u.2.2.2.2.1 u.1 fo gi), (fo, aiE cI 1001 u.2.2.2.2.2.1), (gi, aiE cI 1001 u.2.2.2.2.2.2)]) (fun (r : Int32) (u : Int32 × Tab × Fm × Fm × Fm × (Nat → Int32) × (Nat → Int32)) => r = cfiR lim ∧ tabSt u.1 u.2.1 ∧ repC u.2.2.2.2.2.1 u.2.1.1 ∧ repC u.2.2.2.2.2.2 u.2.1.2) := by
  refine CtI.of (own := RX6) (by decide +kernel) (Nat.le_of_ble_eq_true rfl) rfl ?_
  intro pr_ en_ sg_ me_ ar_ be_ mt_ co_ AA ls QQ X hA hP hD hS hl hret
  have hl : lv_has ls 4 [(0, .ref h0), (1, .int lim)] := hl
  refine lv_iload_n X.1 X.2.1 dX6_countFields_0 rfl (lv_at hl 1 rfl) ?_
  refine lv_i2l X.1 X.2.1 dX6_countFields_1 rfl ?_
  refine lv_lconst (v := 1) X.1 X.2.1 dX6_countFields_2 (by decide) ?_
  refine lc_X6_103 X dX6_countFields_3 ?_
  refine fin_i (wr := [(h0, moE (nI n) st f k he p ma tr t tb fo gi), (fo, aiE cI 1001 F1), (gi, aiE cI 1001 F2)]) (cv_X6_33 X (m_isBetween l D cI cJ lim.toInt64 1 1000  _) rfl rfl dX6_countFields_6 hP hD [] rfl rfl hl.1 rfl rfl (Nat.le_of_ble_eq_true rfl) ⟨Nat.le_of_ble_eq_true rfl, Nat.le_of_ble_eq_true rfl⟩ ⟨Nat.le_of_ble_eq_true rfl, Nat.le_of_ble_eq_true rfl⟩) hP hD hS hA [] [0, 1, 2] rfl rfl rfl (by decide) (fun r_3 u_2 H locs w_1 hP hD hS => ?_)
  have hP : va_P D vwCl [(h0, moE (nI n) st f k he p ma tr t tb fo gi), (fo, aiE cI 1001 F1), (gi, aiE cI 1001 F2)] H := hP
  have hD : va_D AA [(h0, moE (nI n) st f k he p ma tr t tb fo gi), (fo, aiE cI 1001 F1), (gi, aiE cI 1001 F2)] := hD
  subst w_1
  refine bb_ne (tgt := 16) X dX6_countFields_9 (by decide) (fun c_4 => ?_) (fun c_4 => ?_)
  · have hcb := c_4
    obtain ⟨L, hL1, hL2, hL⟩ := limB_o hcb
    rw [hL] at hl
    refine lv_aload_n X.1 X.2.1 dX6_countFields_16 rfl (lv_at hl 0 rfl) ?_
    refine fin_v (wr := []) (cv_X6_241 X (m_tabulate l D cI cJ h0 st he ma tr fo gi n f k p t tb T F1 F2 hst r1 r2 hcS hgS hTM _) rfl rfl dX6_countFields_17 hP hD 0 rfl [0, 1, 2] rfl rfl hl.1 rfl rfl (Nat.le_of_ble_eq_true rfl) ⟨Nat.le_of_ble_eq_true rfl, Nat.le_of_ble_eq_true rfl⟩ ⟨Nat.le_of_ble_eq_true rfl, Nat.le_of_ble_eq_true rfl⟩) hP hD hS hA [0, 1, 2] [] rfl rfl rfl (by decide) (fun u_6 H locs w_5 hP hD hS => ?_)
    have hP : va_P D vwCl [(h0, moE (nI n) st u_6.1 u_6.2.1 he p ma tr u_6.2.2.1 1 fo gi), (fo, aiE cI 1001 u_6.2.2.2.1), (gi, aiE cI 1001 u_6.2.2.2.2)] H := hP
    have hD : va_D AA [(h0, moE (nI n) st u_6.1 u_6.2.1 he p ma tr u_6.2.2.1 1 fo gi), (fo, aiE cI 1001 u_6.2.2.2.1), (gi, aiE cI 1001 u_6.2.2.2.2)] := hD
    have wT := w_5
    obtain ⟨v1, v2, v3, A1, A2⟩ := u_6
    have wT : repC A1 (sealT 0).1 ∧ repC A2 (sealT 0).2 := wT
    have hP : va_P D vwCl [(h0, moE (nI n) st v1 v2 he p ma tr v3 1 fo gi), (fo, aiE cI 1001 A1), (gi, aiE cI 1001 A2)] H := hP
    have hD : va_D AA [(h0, moE (nI n) st v1 v2 he p ma tr v3 1 fo gi), (fo, aiE cI 1001 A1), (gi, aiE cI 1001 A2)] := hD
    refine lv_iconst (v := 0) X.1 X.2.1 dX6_countFields_20 (by decide) ?_
    refine lv_istore_n (lv' := [(2, .int 0), (0, .ref h0), (1, .int (nI L))]) X.1 X.2.1 dX6_countFields_21 rfl hl (by decide) rfl (fun ls hl => ?_)
    refine lv_iconst (v := 1) X.1 X.2.1 dX6_countFields_22 (by decide) ?_
    refine lv_istore_n (lv' := [(3, .int 1), (2, .int 0), (0, .ref h0), (1, .int (nI L))]) X.1 X.2.1 dX6_countFields_23 rfl hl (by decide) rfl (fun ls hl => ?_)
    have loop24 : ∀ (n9 : Nat) (j : Nat), (1 ≤ j) → (j ≤ L + 1) → (L + 2 ≤ j + n9) → ∀ (H : Heap) (locs : List Loc) (ls : Array Slot), va_P D vwCl [(h0, moE (nI n) st v1 v2 he p ma tr v3 1 fo gi), (fo, aiE cI 1001 A1), (gi, aiE cI 1001 A2)] H → va_D AA [(h0, moE (nI n) st v1 v2 he p ma tr v3 1 fo gi), (fo, aiE cI 1001 A1), (gi, aiE cI 1001 A2)] → va_S AA sg_.heap H locs → lv_has ls 4 [(0, .ref h0), (1, .int (nI L)), (2, .int (nI (sumC (sealT 0).2 (j - 1)))), (3, .int (nI j))] → W pr_ l en_ (rmk 7 189) sg_ me_ ar_ be_ mt_ co_ H locs 0 0 QQ (F0 me_ 24 ls []) := by
      intro n9
      induction n9 with
      | zero =>
        intro j hj1 hj2 hn9
        omega
      | succ n24 ih24 =>
        intro j hj1 hj2 hn9 H locs ls hP hD hS hl
        refine lv_iload_n X.1 X.2.1 dX6_countFields_24 rfl (lv_at hl 3 rfl) ?_
        refine lv_iload_n X.1 X.2.1 dX6_countFields_25 rfl (lv_at hl 1 rfl) ?_
        refine bi_gt (tgt := 44) X dX6_countFields_26 (by decide) (fun c_8 => ?_) (fun c_8 => ?_)
        · have hjL : L < j := (nI_ltI (by omega) (by omega)).mp c_8
          have hje : j = L + 1 := by omega
          refine lv_iload_n X.1 X.2.1 dX6_countFields_44 rfl (lv_at hl 2 rfl) ?_
          exact hret (nI (sumC (sealT 0).2 (j - 1))) (1, sealT 0, v1, v2, v3, A1, A2) _ _ _ _ (⟨by rw [cfiR_g hcb, hL, cntL_sum hpos hL2, hje]; rfl, ⟨Or.inr ⟨rfl, rfl⟩, wT.1, wT.2⟩⟩) rfl (hP.sub [0, 1, 2] rfl) (hD.sub [0, 1, 2] rfl rfl) hS dX6_countFields_45
        · have hjL : ¬ L < j := fun q => c_8 ((nI_ltI (by omega) (by omega)).mpr q)
          refine lv_iload_n X.1 X.2.1 dX6_countFields_29 rfl (lv_at hl 2 rfl) ?_
          refine lv_aload_n X.1 X.2.1 dX6_countFields_30 rfl (lv_at hl 0 rfl) ?_
          refine gf_X6_26 (v := .ref gi) X hP 0 rfl rfl dX6_countFields_31 ?_
          refine lv_iload_n X.1 X.2.1 dX6_countFields_34 rfl (lv_at hl 3 rfl) ?_
          refine va_iald X.1 X.2.1 X.k hP 2 0 rfl rfl (vp_in_nI (by omega) (by decide)) dX6_countFields_35 ?_
          refine lv_iadd X.1 X.2.1 dX6_countFields_36 ?_
          rw [nI_clamp (show j < 2 ^ 31 by omega), wT.2 j (by omega), nI_add, sumC_st hj1]
          refine lv_istore_n (lv' := [(2, .int (nI (sumC (sealT 0).2 (j + 1 - 1)))), (0, .ref h0), (1, .int (nI L)), (3, .int (nI j))]) X.1 X.2.1 dX6_countFields_37 rfl hl (by decide) rfl (fun ls hl => ?_)
          refine lv_iinc (v := nI (j + 1)) (lv' := [(3, .int (nI (j + 1))), (2, .int (nI (sumC (sealT 0).2 (j + 1 - 1)))), (0, .ref h0), (1, .int (nI L))]) X.1 X.2.1 dX6_countFields_38 hl (k := 3) rfl (nI_1 j) (by decide) rfl (fun ls hl => ?_)
          refine lv_goto (tgt := 24) X.1 X.2.1 dX6_countFields_41 (by decide) ?_
          exact ih24  (j + 1) (by omega) (by omega) (by omega) _ _ _ (hP.sub [0, 1, 2] rfl) (hD.sub [0, 1, 2] rfl rfl) hS (lv_sub hl [2, 3, 1, 0] rfl)
    exact loop24 (L + 1) 1 (Nat.le_refl 1) (by omega) (by omega) _ _ _ (hP.sub [0, 1, 2] rfl) (hD.sub [0, 1, 2] rfl rfl) hS (lv_sub hl [2, 3, 1, 0] rfl)
  · refine lv_sipush (v := (-10003)) X.1 X.2.1 dX6_countFields_12 (by decide) ?_
    exact hret (-10003) (tb, T, f, k, t, F1, F2) _ _ _ _ (⟨cfiR_b c_4, ⟨hst, r1, r2⟩⟩) rfl (hP.sub [0, 1, 2] rfl) (hD.sub [0, 1, 2] rfl rfl) hS dX6_countFields_15
set_option maxHeartbeats 4000000 in
set_option maxRecDepth 100000 in
theorem m_fieldDiscriminant (l : Launch) (D : va_G) (cI cJ : ClassId) (h0 : Nat) (st : Nat) (he : Nat) (ma : Nat) (tr : Nat) (fo : Nat) (gi : Nat) (n : Nat) (f : Fm) (k : Fm) (p : Em) (t : Fm) (tb : Int32) (T : Tab) (F1 : Nat → Int32) (F2 : Nat → Int32) (x : Int32) (hst : tabSt tb T) (r1 : repC F1 T.1) (r2 : repC F2 T.2) (hcS : ∀ m, m < 130321 → 0 < discF (frq m) → reduM (frq m) = true → canOK (frq m)) (hgS : ∀ m, m < 130321 → 0 < discF (frq m) → (sealG 0 (frq m)).isSome = (glpC (frq m)).isSome) (hTM : tM 130321 0 ([], []) = sealT 0) (hpos : posR (sealT 0).2) (hsor : sorR (sealT 0).2) (hlen : (sealT 0).2.length ≤ 60) : CtI l yX6_fieldDiscriminant cX6_fieldDiscriminant 4 .int (rmk 7 189) D cI cJ [.ref h0, .int x] [(h0, moE (nI n) st f k he p ma tr t tb fo gi), (fo, aiE cI 1001 F1), (gi, aiE cI 1001 F2)] (fun (u : Int32 × Tab × Fm × Fm × Fm × (Nat → Int32) × (Nat → Int32)) => [(h0, moE (nI n) st u.2.2.1 u.2.2.2.1 he p ma tr u.2.2.2.2.1 u.1 fo gi), (fo, aiE cI 1001 u.2.2.2.2.2.1), (gi, aiE cI 1001 u.2.2.2.2.2.2)]) (fun (r : Int32) (u : Int32 × Tab × Fm × Fm × Fm × (Nat → Int32) × (Nat → Int32)) => r = fdiR x ∧ tabSt u.1 u.2.1 ∧ repC u.2.2.2.2.2.1 u.2.1.1 ∧ repC u.2.2.2.2.2.2 u.2.1.2) := by
  refine CtI.of (own := RX6) (by decide +kernel) (Nat.le_of_ble_eq_true rfl) rfl ?_
  intro pr_ en_ sg_ me_ ar_ be_ mt_ co_ AA ls QQ X hA hP hD hS hl hret
  have hl : lv_has ls 4 [(0, .ref h0), (1, .int x)] := hl
  refine lv_iload_n X.1 X.2.1 dX6_fieldDiscriminant_0 rfl (lv_at hl 1 rfl) ?_
  refine bz_ge (tgt := 8) X dX6_fieldDiscriminant_1 (by decide) (fun c_1 => ?_) (fun c_1 => ?_)
  · have hx0 := c_1
    obtain ⟨k9, hk9, hx⟩ := nI_of hx0
    rw [hx] at hl
    refine lv_aload_n X.1 X.2.1 dX6_fieldDiscriminant_8 rfl (lv_at hl 0 rfl) ?_
    refine fin_v (wr := []) (cv_X6_241 X (m_tabulate l D cI cJ h0 st he ma tr fo gi n f k p t tb T F1 F2 hst r1 r2 hcS hgS hTM _) rfl rfl dX6_fieldDiscriminant_9 hP hD 0 rfl [0, 1, 2] rfl rfl hl.1 rfl rfl (Nat.le_of_ble_eq_true rfl) ⟨Nat.le_of_ble_eq_true rfl, Nat.le_of_ble_eq_true rfl⟩ ⟨Nat.le_of_ble_eq_true rfl, Nat.le_of_ble_eq_true rfl⟩) hP hD hS hA [0, 1, 2] [] rfl rfl rfl (by decide) (fun u_3 H locs w_2 hP hD hS => ?_)
    have hP : va_P D vwCl [(h0, moE (nI n) st u_3.1 u_3.2.1 he p ma tr u_3.2.2.1 1 fo gi), (fo, aiE cI 1001 u_3.2.2.2.1), (gi, aiE cI 1001 u_3.2.2.2.2)] H := hP
    have hD : va_D AA [(h0, moE (nI n) st u_3.1 u_3.2.1 he p ma tr u_3.2.2.1 1 fo gi), (fo, aiE cI 1001 u_3.2.2.2.1), (gi, aiE cI 1001 u_3.2.2.2.2)] := hD
    have wT := w_2
    obtain ⟨v1, v2, v3, A1, A2⟩ := u_3
    have wT : repC A1 (sealT 0).1 ∧ repC A2 (sealT 0).2 := wT
    have hP : va_P D vwCl [(h0, moE (nI n) st v1 v2 he p ma tr v3 1 fo gi), (fo, aiE cI 1001 A1), (gi, aiE cI 1001 A2)] H := hP
    have hD : va_D AA [(h0, moE (nI n) st v1 v2 he p ma tr v3 1 fo gi), (fo, aiE cI 1001 A1), (gi, aiE cI 1001 A2)] := hD
    refine lv_iload_n X.1 X.2.1 dX6_fieldDiscriminant_12 rfl (lv_at hl 1 rfl) ?_
    refine lv_istore_n (lv' := [(2, .int (nI k9)), (0, .ref h0), (1, .int (nI k9))]) X.1 X.2.1 dX6_fieldDiscriminant_13 rfl hl (by decide) rfl (fun ls hl => ?_)
    refine lv_iconst (v := 1) X.1 X.2.1 dX6_fieldDiscriminant_14 (by decide) ?_
    refine lv_istore_n (lv' := [(3, .int 1), (2, .int (nI k9)), (0, .ref h0), (1, .int (nI k9))]) X.1 X.2.1 dX6_fieldDiscriminant_15 rfl hl (by decide) rfl (fun ls hl => ?_)
    have loop16 : ∀ (n9 : Nat) (j : Nat) (a9 : Nat), (1 ≤ j) → (j ≤ 1001) → (a9 + sumC (sealT 0).2 (j - 1) = k9) → (1002 ≤ j + n9) → ∀ (H : Heap) (locs : List Loc) (ls : Array Slot), va_P D vwCl [(h0, moE (nI n) st v1 v2 he p ma tr v3 1 fo gi), (fo, aiE cI 1001 A1), (gi, aiE cI 1001 A2)] H → va_D AA [(h0, moE (nI n) st v1 v2 he p ma tr v3 1 fo gi), (fo, aiE cI 1001 A1), (gi, aiE cI 1001 A2)] → va_S AA sg_.heap H locs → lv_has ls 4 [(0, .ref h0), (2, .int (nI a9)), (3, .int (nI j))] → W pr_ l en_ (rmk 7 189) sg_ me_ ar_ be_ mt_ co_ H locs 0 0 QQ (F0 me_ 16 ls []) := by
      intro n9
      induction n9 with
      | zero =>
        intro j a9 hj1 hj2 ha9 hn9
        omega
      | succ n16 ih16 =>
        intro j a9 hj1 hj2 ha9 hn9 H locs ls hP hD hS hl
        refine lv_iload_n X.1 X.2.1 dX6_fieldDiscriminant_16 rfl (lv_at hl 2 rfl) ?_
        refine lv_sipush (v := 1000) X.1 X.2.1 dX6_fieldDiscriminant_17 (by decide) ?_
        refine bi_gt (tgt := 50) X dX6_fieldDiscriminant_20 (by decide) (fun c_5 => ?_) (fun c_5 => ?_)
        · refine lv_sipush (v := (-10008)) X.1 X.2.1 dX6_fieldDiscriminant_50 (by decide) ?_
          exact hret (-10008) (1, sealT 0, v1, v2, v3, A1, A2) _ _ _ _ (⟨by
            have hj3 := (nI_ltI (a := 1000) (by decide) (by omega)).mp c_5
            have ej : j = 1001 := by omega
            rw [ej, show 1001 - 1 = 1000 from rfl, sumC_full hpos] at ha9
            rw [fdiR, if_neg hx0, if_neg (by rw [hx]; exact fun q => by have := (nI_ltI hk9 (by omega)).mp q; omega)], ⟨Or.inr ⟨rfl, rfl⟩, wT.1, wT.2⟩⟩) rfl (hP.sub [0, 1, 2] rfl) (hD.sub [0, 1, 2] rfl rfl) hS dX6_fieldDiscriminant_53
        · have hj3 : ¬ 1000 < j := fun q => c_5 ((nI_ltI (a := 1000) (by decide) (by omega)).mpr q)
          have hcl : (sealT 0).2.count j ≤ 60 := Nat.le_trans List.count_le_length hlen
          refine lv_iload_n X.1 X.2.1 dX6_fieldDiscriminant_23 rfl (lv_at hl 1 rfl) ?_
          refine lv_aload_n X.1 X.2.1 dX6_fieldDiscriminant_24 rfl (lv_at hl 0 rfl) ?_
          refine gf_X6_26 (v := .ref gi) X hP 0 rfl rfl dX6_fieldDiscriminant_25 ?_
          refine lv_iload_n X.1 X.2.1 dX6_fieldDiscriminant_28 rfl (lv_at hl 2 rfl) ?_
          refine va_iald X.1 X.2.1 X.k hP 2 0 rfl rfl (vp_in_nI (by omega) (by decide)) dX6_fieldDiscriminant_29 ?_
          rw [nI_clamp (show j < 2 ^ 31 by omega), wT.2 j (by omega)]
          refine bi_ge (tgt := 35) X dX6_fieldDiscriminant_30 (by decide) (fun c_6 => ?_) (fun c_6 => ?_)
          · have hge : (sealT 0).2.count j ≤ a9 := by
              rcases Nat.lt_or_ge a9 ((sealT 0).2.count j) with q | q
              · exact absurd ((nI_ltI (by omega) (by omega)).mpr q) c_6
              · exact q
            refine lv_iload_n X.1 X.2.1 dX6_fieldDiscriminant_35 rfl (lv_at hl 1 rfl) ?_
            refine lv_aload_n X.1 X.2.1 dX6_fieldDiscriminant_36 rfl (lv_at hl 0 rfl) ?_
            refine gf_X6_26 (v := .ref gi) X hP 0 rfl rfl dX6_fieldDiscriminant_37 ?_
            refine lv_iload_n X.1 X.2.1 dX6_fieldDiscriminant_40 rfl (lv_at hl 2 rfl) ?_
            refine va_iald X.1 X.2.1 X.k hP 2 0 rfl rfl (vp_in_nI (by omega) (by decide)) dX6_fieldDiscriminant_41 ?_
            refine lv_isub X.1 X.2.1 dX6_fieldDiscriminant_42 ?_
            rw [nI_clamp (show j < 2 ^ 31 by omega), wT.2 j (by omega), pk_sub hge]
            refine lv_istore_n (lv' := [(2, .int (nI (a9 - (sealT 0).2.count j))), (0, .ref h0), (3, .int (nI j))]) X.1 X.2.1 dX6_fieldDiscriminant_43 rfl hl (by decide) rfl (fun ls hl => ?_)
            refine lv_iinc (v := nI (j + 1)) (lv' := [(3, .int (nI (j + 1))), (2, .int (nI (a9 - (sealT 0).2.count j))), (0, .ref h0)]) X.1 X.2.1 dX6_fieldDiscriminant_44 hl (k := 2) rfl (nI_1 j) (by decide) rfl (fun ls hl => ?_)
            refine lv_goto (tgt := 16) X.1 X.2.1 dX6_fieldDiscriminant_47 (by decide) ?_
            exact ih16  (j + 1) (a9 - (sealT 0).2.count j) (by omega) (by omega) (by rw [← sumC_st hj1]; omega) (by omega) _ _ _ (hP.sub [0, 1, 2] rfl) (hD.sub [0, 1, 2] rfl rfl) hS (lv_sub hl [2, 1, 0] rfl)
          · refine lv_iload_n X.1 X.2.1 dX6_fieldDiscriminant_33 rfl (lv_at hl 2 rfl) ?_
            exact hret (nI j) (1, sealT 0, v1, v2, v3, A1, A2) _ _ _ _ (⟨by
              have hlt := (nI_ltI (by omega) (by omega)).mp c_6
              have hsm := sumC_st (R := (sealT 0).2) hj1
              have hkl : k9 < (sealT 0).2.length := by
                have := sumC_len (sealT 0).2 (j + 1 - 1)
                omega
              rw [fdiR, if_neg hx0, if_pos (by rw [hx]; exact (nI_ltI hk9 (by omega)).mpr hkl), hx, nI_clamp hk9, nthL_sum (d := j) hj1 hpos hsor (by omega) (by rw [show j + 1 - 1 = j from rfl] at hsm; omega)], ⟨Or.inr ⟨rfl, rfl⟩, wT.1, wT.2⟩⟩) rfl (hP.sub [0, 1, 2] rfl) (hD.sub [0, 1, 2] rfl rfl) hS dX6_fieldDiscriminant_34
    exact loop16 1001 1 k9 (Nat.le_refl 1) (by omega) rfl (by omega) _ _ _ (hP.sub [0, 1, 2] rfl) (hD.sub [0, 1, 2] rfl rfl) hS (lv_sub hl [2, 1, 0] rfl)
  · refine lv_sipush (v := (-10003)) X.1 X.2.1 dX6_fieldDiscriminant_4 (by decide) ?_
    exact hret (-10003) (tb, T, f, k, t, F1, F2) _ _ _ _ (⟨by rw [fdiR, if_pos c_1], ⟨hst, r1, r2⟩⟩) rfl (hP.sub [0, 1, 2] rfl) (hD.sub [0, 1, 2] rfl rfl) hS dX6_fieldDiscriminant_7
