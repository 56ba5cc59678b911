set_option maxRecDepth 20000 in
theorem nwi_0 : (.fieldLinkNest RX4 60 "CubicForms$Cubic" "a" "J" "CubicForms" : Cond) ∈ lw_tbl := List.mem_of_getElem? (i := 104) rfl
set_option maxRecDepth 20000 in
theorem nwi_1 : (.fieldLinkNest RX3 37 "CubicForms$Cubic" "a" "J" "CubicForms" : Cond) ∈ lw_tbl := List.mem_of_getElem? (i := 105) rfl
set_option maxRecDepth 20000 in
theorem nwi_2 : (.fieldLinkNest RX5 209 "CubicForms$Cubic" "a" "J" "CubicForms" : Cond) ∈ lw_tbl := List.mem_of_getElem? (i := 106) rfl
set_option maxRecDepth 20000 in
theorem nwi_3 : (.fieldLinkNest RX3 29 "CubicForms$Cubic" "b" "J" "CubicForms" : Cond) ∈ lw_tbl := List.mem_of_getElem? (i := 108) rfl
set_option maxRecDepth 20000 in
theorem nwi_4 : (.fieldLinkNest RX4 64 "CubicForms$Cubic" "b" "J" "CubicForms" : Cond) ∈ lw_tbl := List.mem_of_getElem? (i := 109) rfl
set_option maxRecDepth 20000 in
theorem nwi_5 : (.fieldLinkNest RX5 213 "CubicForms$Cubic" "b" "J" "CubicForms" : Cond) ∈ lw_tbl := List.mem_of_getElem? (i := 110) rfl
set_option maxRecDepth 20000 in
theorem nwi_6 : (.fieldLinkNest RX3 34 "CubicForms$Cubic" "c" "J" "CubicForms" : Cond) ∈ lw_tbl := List.mem_of_getElem? (i := 112) rfl
set_option maxRecDepth 20000 in
theorem nwi_7 : (.fieldLinkNest RX5 216 "CubicForms$Cubic" "c" "J" "CubicForms" : Cond) ∈ lw_tbl := List.mem_of_getElem? (i := 113) rfl
set_option maxRecDepth 20000 in
theorem nwi_8 : (.fieldLinkNest RX3 40 "CubicForms$Cubic" "d" "J" "CubicForms" : Cond) ∈ lw_tbl := List.mem_of_getElem? (i := 115) rfl
set_option maxRecDepth 20000 in
theorem nwi_9 : (.fieldLinkNest RX5 219 "CubicForms$Cubic" "d" "J" "CubicForms" : Cond) ∈ lw_tbl := List.mem_of_getElem? (i := 116) rfl
set_option maxRecDepth 20000 in
theorem nwi_10 : (.fieldLinkNest RX2 34 "CubicForms$RingElement" "u" "J" "CubicForms" : Cond) ∈ lw_tbl := List.mem_of_getElem? (i := 133) rfl
set_option maxRecDepth 20000 in
theorem nwi_11 : (.fieldLinkNest RX5 222 "CubicForms$RingElement" "u" "J" "CubicForms" : Cond) ∈ lw_tbl := List.mem_of_getElem? (i := 135) rfl
set_option maxRecDepth 20000 in
theorem nwi_12 : (.fieldLinkNest RX2 38 "CubicForms$RingElement" "v" "J" "CubicForms" : Cond) ∈ lw_tbl := List.mem_of_getElem? (i := 136) rfl
set_option maxRecDepth 20000 in
theorem nwi_13 : (.fieldLinkNest RX5 225 "CubicForms$RingElement" "v" "J" "CubicForms" : Cond) ∈ lw_tbl := List.mem_of_getElem? (i := 138) rfl
set_option maxRecDepth 20000 in
theorem nwi_14 : (.fieldLinkNest RX2 41 "CubicForms$RingElement" "t" "J" "CubicForms" : Cond) ∈ lw_tbl := List.mem_of_getElem? (i := 139) rfl
set_option maxRecDepth 20000 in
theorem nwi_15 : (.fieldLinkNest RX5 228 "CubicForms$RingElement" "t" "J" "CubicForms" : Cond) ∈ lw_tbl := List.mem_of_getElem? (i := 141) rfl
set_option maxRecDepth 20000 in
theorem nwi_16 : (.fieldLinkNest RX5 199 "CubicForms$FieldTable" "fieldDiscs" "[I" "CubicForms" : Cond) ∈ lw_tbl := List.mem_of_getElem? (i := 205) rfl
set_option maxRecDepth 20000 in
theorem nwi_17 : (.fieldLinkNest RX5 196 "CubicForms$FieldTable" "fieldCount" "I" "CubicForms" : Cond) ∈ lw_tbl := List.mem_of_getElem? (i := 207) rfl
set_option maxRecDepth 20000 in
theorem nwi_18 : (.methodLinkNest RX5 24 yX0_init "CubicForms" : Cond) ∈ lw_tbl := List.mem_of_getElem? (i := 99) rfl
set_option maxRecDepth 20000 in
theorem nwi_19 : (.methodLinkNest RX5 34 yX3_init "CubicForms" : Cond) ∈ lw_tbl := List.mem_of_getElem? (i := 129) rfl
set_option maxRecDepth 20000 in
theorem nwi_20 : (.methodLinkNest RX5 44 yX4_init "CubicForms" : Cond) ∈ lw_tbl := List.mem_of_getElem? (i := 151) rfl
set_option maxRecDepth 20000 in
theorem nwi_21 : (.methodLinkNest RX4 11 yX0_init "CubicForms" : Cond) ∈ lw_tbl := List.mem_of_getElem? (i := 156) rfl
set_option maxRecDepth 20000 in
theorem nwi_22 : (.methodLinkNest RX5 51 yX2_init "CubicForms" : Cond) ∈ lw_tbl := List.mem_of_getElem? (i := 166) rfl
set_option maxRecDepth 20000 in
theorem nwi_23 : (.methodLinkNest RX2 9 yX3_init "CubicForms" : Cond) ∈ lw_tbl := List.mem_of_getElem? (i := 171) rfl
set_option maxRecDepth 20000 in
theorem nwi_24 : (.methodLinkNest RX5 58 yX1_init "CubicForms" : Cond) ∈ lw_tbl := List.mem_of_getElem? (i := 196) rfl
set_option maxRecDepth 20000 in
theorem nwi_25 : (.methodLinkNest RX1 29 yX0_init "CubicForms" : Cond) ∈ lw_tbl := List.mem_of_getElem? (i := 201) rfl
set_option maxRecDepth 20000 in
theorem nwi_26 : (.methodLinkNest RX5 63 yX0_set "CubicForms" : Cond) ∈ lw_tbl := List.mem_of_getElem? (i := 261) rfl
set_option maxRecDepth 20000 in
theorem nwi_27 : (.methodLinkNest RX5 67 yX0_fitsStore "CubicForms" : Cond) ∈ lw_tbl := List.mem_of_getElem? (i := 265) rfl
set_option maxRecDepth 20000 in
theorem nwi_28 : (.methodLinkNest RX0 30 yX5_isWithin "CubicForms" : Cond) ∈ lw_tbl := List.mem_of_getElem? (i := 270) rfl
set_option maxRecDepth 20000 in
theorem nwi_29 : (.methodLinkNest RX5 83 yX0_disc "CubicForms" : Cond) ∈ lw_tbl := List.mem_of_getElem? (i := 297) rfl
set_option maxRecDepth 20000 in
theorem nwi_30 : (.methodLinkNest RX5 89 yX0_hessianP "CubicForms" : Cond) ∈ lw_tbl := List.mem_of_getElem? (i := 309) rfl
set_option maxRecDepth 20000 in
theorem nwi_31 : (.methodLinkNest RX5 92 yX0_hessianQ "CubicForms" : Cond) ∈ lw_tbl := List.mem_of_getElem? (i := 314) rfl
set_option maxRecDepth 20000 in
theorem nwi_32 : (.methodLinkNest RX5 95 yX0_hessianR "CubicForms" : Cond) ∈ lw_tbl := List.mem_of_getElem? (i := 319) rfl
set_option maxRecDepth 20000 in
theorem nwi_33 : (.methodLinkNest RX5 104 yX0_valueAt "CubicForms" : Cond) ∈ lw_tbl := List.mem_of_getElem? (i := 329) rfl
set_option maxRecDepth 20000 in
theorem nwi_34 : (.methodLinkNest RX5 112 yX0_becomeSubstituted "CubicForms" : Cond) ∈ lw_tbl := List.mem_of_getElem? (i := 344) rfl
set_option maxRecDepth 20000 in
theorem nwi_35 : (.methodLinkNest RX5 119 yX0_hasRationalRoot "CubicForms" : Cond) ∈ lw_tbl := List.mem_of_getElem? (i := 358) rfl
set_option maxRecDepth 20000 in
theorem nwi_36 : (.methodLinkNest RX5 122 yX4_makeCanonical "CubicForms" : Cond) ∈ lw_tbl := List.mem_of_getElem? (i := 377) rfl
set_option maxRecDepth 20000 in
theorem nwi_37 : (.methodLinkNest RX4 21 yX0_reduceHessian "CubicForms" : Cond) ∈ lw_tbl := List.mem_of_getElem? (i := 381) rfl
set_option maxRecDepth 20000 in
theorem nwi_38 : (.methodLinkNest RX4 24 yX0_copyFrom "CubicForms" : Cond) ∈ lw_tbl := List.mem_of_getElem? (i := 400) rfl
set_option maxRecDepth 20000 in
theorem nwi_39 : (.methodLinkNest RX4 49 yX0_becomeSubstituted "CubicForms" : Cond) ∈ lw_tbl := List.mem_of_getElem? (i := 409) rfl
set_option maxRecDepth 20000 in
theorem nwi_40 : (.methodLinkNest RX4 32 yX0_hasReducedHessian "CubicForms" : Cond) ∈ lw_tbl := List.mem_of_getElem? (i := 410) rfl
set_option maxRecDepth 20000 in
theorem nwi_41 : (.methodLinkNest RX4 36 yX0_isBefore "CubicForms" : Cond) ∈ lw_tbl := List.mem_of_getElem? (i := 414) rfl
set_option maxRecDepth 20000 in
theorem nwi_42 : (.methodLinkNest RX5 126 yX0_isSameAs "CubicForms" : Cond) ∈ lw_tbl := List.mem_of_getElem? (i := 422) rfl
set_option maxRecDepth 20000 in
theorem nwi_43 : (.methodLinkNest RX5 130 yX4_countAutomorphisms "CubicForms" : Cond) ∈ lw_tbl := List.mem_of_getElem? (i := 430) rfl
set_option maxRecDepth 20000 in
theorem nwi_44 : (.methodLinkNest RX4 40 yX0_isSameAs "CubicForms" : Cond) ∈ lw_tbl := List.mem_of_getElem? (i := 434) rfl
set_option maxRecDepth 20000 in
theorem nwi_45 : (.methodLinkNest RX5 137 yX3_set "CubicForms" : Cond) ∈ lw_tbl := List.mem_of_getElem? (i := 446) rfl
set_option maxRecDepth 20000 in
theorem nwi_46 : (.methodLinkNest RX5 140 yX3_fitsRegister "CubicForms" : Cond) ∈ lw_tbl := List.mem_of_getElem? (i := 450) rfl
set_option maxRecDepth 20000 in
theorem nwi_47 : (.methodLinkNest RX3 23 yX5_isWithin "CubicForms" : Cond) ∈ lw_tbl := List.mem_of_getElem? (i := 455) rfl
set_option maxRecDepth 20000 in
theorem nwi_48 : (.methodLinkNest RX5 147 yX3_isSameAs "CubicForms" : Cond) ∈ lw_tbl := List.mem_of_getElem? (i := 460) rfl
set_option maxRecDepth 20000 in
theorem nwi_49 : (.methodLinkNest RX5 153 yX2_productOf "CubicForms" : Cond) ∈ lw_tbl := List.mem_of_getElem? (i := 472) rfl
set_option maxRecDepth 20000 in
theorem nwi_50 : (.methodLinkNest RX2 44 yX3_becomeProduct "CubicForms" : Cond) ∈ lw_tbl := List.mem_of_getElem? (i := 476) rfl
set_option maxRecDepth 20000 in
theorem nwi_51 : (.methodLinkNest RX5 157 yX3_traceIn "CubicForms" : Cond) ∈ lw_tbl := List.mem_of_getElem? (i := 485) rfl
set_option maxRecDepth 20000 in
theorem nwi_52 : (.methodLinkNest RX5 161 yX2_normOf "CubicForms" : Cond) ∈ lw_tbl := List.mem_of_getElem? (i := 494) rfl
set_option maxRecDepth 20000 in
theorem nwi_53 : (.methodLinkNest RX5 165 yX2_determinantOfTraces "CubicForms" : Cond) ∈ lw_tbl := List.mem_of_getElem? (i := 506) rfl
set_option maxRecDepth 20000 in
theorem nwi_54 : (.methodLinkNest RX2 59 yX3_traceIn "CubicForms" : Cond) ∈ lw_tbl := List.mem_of_getElem? (i := 515) rfl
set_option maxRecDepth 20000 in
theorem nwi_55 : (.methodLinkNest RX2 63 yX3_set "CubicForms" : Cond) ∈ lw_tbl := List.mem_of_getElem? (i := 516) rfl
set_option maxRecDepth 20000 in
theorem nwi_56 : (.methodLinkNest RX5 168 yX2_indexOf "CubicForms" : Cond) ∈ lw_tbl := List.mem_of_getElem? (i := 521) rfl
set_option maxRecDepth 20000 in
theorem nwi_57 : (.methodLinkNest RX5 174 yX4_splittingCode "CubicForms" : Cond) ∈ lw_tbl := List.mem_of_getElem? (i := 533) rfl
set_option maxRecDepth 20000 in
theorem nwi_58 : (.methodLinkNest RX4 53 yX0_isMultipleOf "CubicForms" : Cond) ∈ lw_tbl := List.mem_of_getElem? (i := 537) rfl
set_option maxRecDepth 20000 in
theorem nwi_59 : (.methodLinkNest RX4 56 yX0_becomeAtPoint "CubicForms" : Cond) ∈ lw_tbl := List.mem_of_getElem? (i := 541) rfl
set_option maxRecDepth 20000 in
theorem nwi_60 : (.methodLinkNest RX5 178 yX4_growAt "CubicForms" : Cond) ∈ lw_tbl := List.mem_of_getElem? (i := 549) rfl
set_option maxRecDepth 20000 in
theorem nwi_61 : (.methodLinkNest RX4 67 yX0_becomeOverring "CubicForms" : Cond) ∈ lw_tbl := List.mem_of_getElem? (i := 553) rfl
set_option maxRecDepth 20000 in
theorem nwi_62 : (.methodLinkNest RX5 182 yX4_makeMaximal "CubicForms" : Cond) ∈ lw_tbl := List.mem_of_getElem? (i := 568) rfl
set_option maxRecDepth 20000 in
theorem nwi_63 : (.methodLinkNest RX4 71 yX0_disc "CubicForms" : Cond) ∈ lw_tbl := List.mem_of_getElem? (i := 577) rfl
set_option maxRecDepth 20000 in
theorem nwi_64 : (.methodLinkNest RX4 75 yX5_isPrime "CubicForms" : Cond) ∈ lw_tbl := List.mem_of_getElem? (i := 578) rfl
set_option maxRecDepth 20000 in
theorem nwi_65 : (.methodLinkNest RX5 185 yX1_fillOnce "CubicForms" : Cond) ∈ lw_tbl := List.mem_of_getElem? (i := 583) rfl
set_option maxRecDepth 20000 in
theorem nwi_66 : (.methodLinkNest RX1 41 yX0_set "CubicForms" : Cond) ∈ lw_tbl := List.mem_of_getElem? (i := 587) rfl
set_option maxRecDepth 20000 in
theorem nwi_67 : (.methodLinkNest RX1 53 yX0_hasReducedHessian "CubicForms" : Cond) ∈ lw_tbl := List.mem_of_getElem? (i := 592) rfl
set_option maxRecDepth 20000 in
theorem nwi_68 : (.methodLinkNest RX1 57 yX0_disc "CubicForms" : Cond) ∈ lw_tbl := List.mem_of_getElem? (i := 593) rfl
set_option maxRecDepth 20000 in
theorem nwi_69 : (.methodLinkNest RX1 63 yX0_hasRationalRoot "CubicForms" : Cond) ∈ lw_tbl := List.mem_of_getElem? (i := 595) rfl
set_option maxRecDepth 20000 in
theorem nwi_70 : (.methodLinkNest RX1 66 yX0_copyFrom "CubicForms" : Cond) ∈ lw_tbl := List.mem_of_getElem? (i := 596) rfl
set_option maxRecDepth 20000 in
theorem nwi_71 : (.methodLinkNest RX1 70 yX4_makeCanonical "CubicForms" : Cond) ∈ lw_tbl := List.mem_of_getElem? (i := 597) rfl
set_option maxRecDepth 20000 in
theorem nwi_72 : (.methodLinkNest RX1 75 yX0_isSameAs "CubicForms" : Cond) ∈ lw_tbl := List.mem_of_getElem? (i := 598) rfl
set_option maxRecDepth 20000 in
theorem nwi_73 : (.methodLinkNest RX1 83 yX4_growAtLeastPrime "CubicForms" : Cond) ∈ lw_tbl := List.mem_of_getElem? (i := 606) rfl
set_option maxRecDepth 20000 in
theorem nwi_74 : (.methodLinkNest RX5 189 yX1_countFormsTo "CubicForms" : Cond) ∈ lw_tbl := List.mem_of_getElem? (i := 607) rfl
set_option maxRecDepth 20000 in
theorem nwi_75 : (.methodLinkNest RX5 193 yX1_countFieldsTo "CubicForms" : Cond) ∈ lw_tbl := List.mem_of_getElem? (i := 618) rfl
set_option maxRecDepth 20000 in
theorem nw_in : ∀ w ∈ nwL, w ∈ lw_tbl := (List.forall_mem_cons.mpr ⟨nwi_0, (List.forall_mem_cons.mpr ⟨nwi_1, (List.forall_mem_cons.mpr ⟨nwi_2, (List.forall_mem_cons.mpr ⟨nwi_3, (List.forall_mem_cons.mpr ⟨nwi_4, (List.forall_mem_cons.mpr ⟨nwi_5, (List.forall_mem_cons.mpr ⟨nwi_6, (List.forall_mem_cons.mpr ⟨nwi_7, (List.forall_mem_cons.mpr ⟨nwi_8, (List.forall_mem_cons.mpr ⟨nwi_9, (List.forall_mem_cons.mpr ⟨nwi_10, (List.forall_mem_cons.mpr ⟨nwi_11, (List.forall_mem_cons.mpr ⟨nwi_12, (List.forall_mem_cons.mpr ⟨nwi_13, (List.forall_mem_cons.mpr ⟨nwi_14, (List.forall_mem_cons.mpr ⟨nwi_15, (List.forall_mem_cons.mpr ⟨nwi_16, (List.forall_mem_cons.mpr ⟨nwi_17, (List.forall_mem_cons.mpr ⟨nwi_18, (List.forall_mem_cons.mpr ⟨nwi_19, (List.forall_mem_cons.mpr ⟨nwi_20, (List.forall_mem_cons.mpr ⟨nwi_21, (List.forall_mem_cons.mpr ⟨nwi_22, (List.forall_mem_cons.mpr ⟨nwi_23, (List.forall_mem_cons.mpr ⟨nwi_24, (List.forall_mem_cons.mpr ⟨nwi_25, (List.forall_mem_cons.mpr ⟨nwi_26, (List.forall_mem_cons.mpr ⟨nwi_27, (List.forall_mem_cons.mpr ⟨nwi_28, (List.forall_mem_cons.mpr ⟨nwi_29, (List.forall_mem_cons.mpr ⟨nwi_30, (List.forall_mem_cons.mpr ⟨nwi_31, (List.forall_mem_cons.mpr ⟨nwi_32, (List.forall_mem_cons.mpr ⟨nwi_33, (List.forall_mem_cons.mpr ⟨nwi_34, (List.forall_mem_cons.mpr ⟨nwi_35, (List.forall_mem_cons.mpr ⟨nwi_36, (List.forall_mem_cons.mpr ⟨nwi_37, (List.forall_mem_cons.mpr ⟨nwi_38, (List.forall_mem_cons.mpr ⟨nwi_39, (List.forall_mem_cons.mpr ⟨nwi_40, (List.forall_mem_cons.mpr ⟨nwi_41, (List.forall_mem_cons.mpr ⟨nwi_42, (List.forall_mem_cons.mpr ⟨nwi_43, (List.forall_mem_cons.mpr ⟨nwi_44, (List.forall_mem_cons.mpr ⟨nwi_45, (List.forall_mem_cons.mpr ⟨nwi_46, (List.forall_mem_cons.mpr ⟨nwi_47, (List.forall_mem_cons.mpr ⟨nwi_48, (List.forall_mem_cons.mpr ⟨nwi_49, (List.forall_mem_cons.mpr ⟨nwi_50, (List.forall_mem_cons.mpr ⟨nwi_51, (List.forall_mem_cons.mpr ⟨nwi_52, (List.forall_mem_cons.mpr ⟨nwi_53, (List.forall_mem_cons.mpr ⟨nwi_54, (List.forall_mem_cons.mpr ⟨nwi_55, (List.forall_mem_cons.mpr ⟨nwi_56, (List.forall_mem_cons.mpr ⟨nwi_57, (List.forall_mem_cons.mpr ⟨nwi_58, (List.forall_mem_cons.mpr ⟨nwi_59, (List.forall_mem_cons.mpr ⟨nwi_60, (List.forall_mem_cons.mpr ⟨nwi_61, (List.forall_mem_cons.mpr ⟨nwi_62, (List.forall_mem_cons.mpr ⟨nwi_63, (List.forall_mem_cons.mpr ⟨nwi_64, (List.forall_mem_cons.mpr ⟨nwi_65, (List.forall_mem_cons.mpr ⟨nwi_66, (List.forall_mem_cons.mpr ⟨nwi_67, (List.forall_mem_cons.mpr ⟨nwi_68, (List.forall_mem_cons.mpr ⟨nwi_69, (List.forall_mem_cons.mpr ⟨nwi_70, (List.forall_mem_cons.mpr ⟨nwi_71, (List.forall_mem_cons.mpr ⟨nwi_72, (List.forall_mem_cons.mpr ⟨nwi_73, (List.forall_mem_cons.mpr ⟨nwi_74, (List.forall_mem_cons.mpr ⟨nwi_75, (fun _ h => absurd h List.not_mem_nil)⟩)⟩)⟩)⟩)⟩)⟩)⟩)⟩)⟩)⟩)⟩)⟩)⟩)⟩)⟩)⟩)⟩)⟩)⟩)⟩)⟩)⟩)⟩)⟩)⟩)⟩)⟩)⟩)⟩)⟩)⟩)⟩)⟩)⟩)⟩)⟩)⟩)⟩)⟩)⟩)⟩)⟩)⟩)⟩)⟩)⟩)⟩)⟩)⟩)⟩)⟩)⟩)⟩)⟩)⟩)⟩)⟩)⟩)⟩)⟩)⟩)⟩)⟩)⟩)⟩)⟩)⟩)⟩)⟩)⟩)⟩)⟩)⟩)⟩)⟩)⟩)
theorem NW.of {args : Array Value} {s : State} (hts : ∀ w ∈ lw_tbl, w.before args s = true) : NW s := fun w hw => by
  have h1 := List.all_eq_true.mp nw_all w hw
  have h2 := hts w (nw_in w hw)
  cases w with
  | fieldLinkNest a i b n d h => exact va_Nw.of rfl h2
  | methodLinkNest a i x h => exact va_Nw.of rfl h2
  | _ => exact absurd h1 (by simp [nw_is])
theorem K_of {args : Array Value} {s : State} (htsW : ∀ w ∈ WL, w.before args s = true) : ∃ (D : va_G) (cI cJ : ClassId), va_K D vwCl [(cI, .int), (cJ, .long)] s := by
  obtain ⟨c0, iS0, hKn0⟩ := u_known (C := RX0) (T := TX0) (N := 4) (n := 4) htsW inlX0 (htsW _ wq_17)
  obtain ⟨c1, iS1, hKn1⟩ := u_known (C := RX1) (T := TX1) (N := 7) (n := 7) htsW inlX1 (htsW _ wq_35)
  obtain ⟨c2, iS2, hKn2⟩ := u_known (C := RX2) (T := TX2) (N := 7) (n := 7) htsW inlX2 (htsW _ wq_31)
  obtain ⟨c3, iS3, hKn3⟩ := u_known (C := RX3) (T := TX3) (N := 3) (n := 3) htsW inlX3 (htsW _ wq_22)
  obtain ⟨c4, iS4, hKn4⟩ := u_known (C := RX4) (T := TX4) (N := 2) (n := 2) htsW inlX4 (htsW _ wq_27)
  obtain ⟨c5, iS5, hKn5⟩ := u_known (C := RX5) (T := TX5) (N := 10) (n := 10) htsW inlX5 (htsW _ wq_1)
  obtain ⟨c6, iS6, hKn6⟩ := u_known (C := RX6) (T := TX6) (N := 23) (n := 23) htsW inlX6 (htsW _ wq_4)
  obtain ⟨cI, kI, compI, hcI, hkI, hkindI⟩ := Cond.arrayClass_spec (htsW _ wq_12)
  obtain ⟨cJ, kJ, compJ, hcJ, hkJ, hkindJ⟩ := Cond.arrayClass_spec (htsW _ wq_78)
  refine ⟨(fun k => if k = 0 then c0 else if k = 1 then c1 else if k = 2 then c2 else if k = 3 then c3 else if k = 4 then c4 else if k = 5 then c5 else c6, fun k => if k = 0 then iS0 else if k = 1 then iS1 else if k = 2 then iS2 else if k = 3 then iS3 else if k = 4 then iS4 else if k = 5 then iS5 else iS6), cI, cJ, ⟨?_, ?_⟩⟩
  · intro k q hq
    match k, hq with
    | 0, hq => cases hq; exact hKn0
    | 1, hq => cases hq; exact hKn1
    | 2, hq => cases hq; exact hKn2
    | 3, hq => cases hq; exact hKn3
    | 4, hq => cases hq; exact hKn4
    | 5, hq => cases hq; exact hKn5
    | 6, hq => cases hq; exact hKn6
    | k + 7, hq => simp [vwCl] at hq
  · intro k q hq
    match k, hq with
    | 0, hq => cases hq; exact ⟨fun n z => ⟨fun k h => (by cases h), kI, hkI, compI, hkindI⟩, hcI⟩
    | 1, hq => cases hq; exact ⟨fun n z => ⟨fun k h => (by cases h), kJ, hkJ, compJ, hkindJ⟩, hcJ⟩
    | k + 2, hq => simp at hq
theorem rng0 : rngC (fun _ => 0) := fun k _ => show -300 ≤ (0 : Int32).toInt ∧ (0 : Int32).toInt ≤ 300 from by decide
theorem repC0 : repC (fun _ => 0) [] := fun d _ => rfl
set_option maxHeartbeats 8000000 in
set_option maxRecDepth 100000 in
theorem start_open {pr_ : Program} {en_ : Env} {sg_ : State} {me_ : MethodId} {be_ : List Frame} {mt_ : Method} {co_ : Code} (l : Launch) {b L : Nat} {xs : Nat → Int32} (hcan : ∀ f : Fm, rngF f → 0 < discF f → canOK f) (haut : ∀ f : Fm, rngF f → 0 < discF f → autOK f) (hov : ∀ (f : Fm) (P : Nat), rngF f → 2 ≤ P → P ≤ 997 → prB P = true → ovM f P = ovC f P) (hmx : ∀ f : Fm, rngF f → 0 < discF f → rootF f = false → ∃ N0, canOK f ∧ mxRel N0 (sealC 0 f) (sealM 0 f)) (hcS : ∀ m, m < 130321 → 0 < discF (frq m) → reduM (frq m) = true → canOK (frq m)) (hgS : ∀ m, m < 130321 → 0 < discF (frq m) → (sealG 0 (frq m)).isSome = (glpC (frq m)).isSome) (hTM : tM 130321 0 ([], []) = sealT 0) (hf1 : (sealT 0).1.length ≤ 60) (hf2 : (sealT 0).2.length ≤ 60) (hp1 : posR (sealT 0).1) (hp2 : posR (sealT 0).2) (hs2 : sorR (sealT 0).2)
    (hL : L ≤ 3072) (C0 : lw_At pr_ sg_ me_ mt_ co_ b L xs) : W pr_ l en_ room_1 sg_ me_ #[Value.ref b] be_ mt_ co_ sg_.heap [] 0 0 (lw_Z be_ #[Value.ref b] sg_) (entryFrame me_ ([Value.ref b] : List Value).toArray 4) := by
  obtain ⟨hx, hb, hr, hml, hown, hts, hX, hbl, hlocks, hgv⟩ := id C0
  have htsW : ∀ w ∈ WL, w.before #[Value.ref b] sg_ = true := fun w h => hts w (List.mem_filter.mp h).1
  obtain ⟨D, cI, cJ, hK⟩ := K_of htsW
  have X : Cx pr_ sg_ me_ #[Value.ref b] co_ cL_law 4 RL D cI cJ := ⟨hx, hb, hml, hown, htsW, hK, NW.of hts⟩
  have hA : ∀ q : Nat, sg_.heap.size ≤ q → (fun q : Nat => sg_.heap.size ≤ q) q := fun _ h => h
  have hS : va_S (fun q : Nat => sg_.heap.size ≤ q) sg_.heap sg_.heap [] := va_S.rf
  have hP : va_P D vwCl [] sg_.heap := fun k q h => by simp at h
  have hD : va_D (fun q : Nat => sg_.heap.size ≤ q) [] := ⟨fun i j p q h => by simp at h, fun k q h => by simp at h⟩
  have hend : ∀ (H : Heap) (locs : List Loc) (pc : Nat) (ls : Array Slot), (∀ q ∈ locs, sg_.heap.size ≤ q.base) → decode cL_law pc = .ok (.ireturn, 1) → W pr_ l en_ room_1 sg_ me_ #[Value.ref b] be_ mt_ co_ H locs 30 2764 (lw_Z be_ #[Value.ref b] sg_) (F0 me_ pc ls [.int 1]) := fun H locs pc ls hf hdg => va_forget hf (lw_ret hx hb hr hlocks hdg)
  have hl := lv_entry ([.ref b]) (n := 4) (Nat.le_of_ble_eq_true rfl)
  rw [lg_entry_eq]
  generalize (lg_sl ([.ref b]) ++ List.replicate (4 - (lg_sl ([.ref b])).length) Slot.unset).toArray = ls at hl ⊢
  have hl : lv_has ls 4 [(0, .ref b)] := hl
  refine va_new (ci := 5) (fs := [.null, .int 0, .null, .null, .null, .null, .null, .null, .null, .null]) (C := RX5) (T := TX5) (N := 10) X.1 X.2.1 X.2.2.2.2.1 inlX5 tyX5 tyX5_ok X.2.2.2.1 (X.w wq_0) (X.w wq_1) (X.w wq_2) X.k hP hD hS hA rfl (fun j hj => by rcases (show j = 0 ∨ j = 1 ∨ j = 2 ∨ j = 3 ∨ j = 4 ∨ j = 5 ∨ j = 6 ∨ j = 7 ∨ j = 8 ∨ j = 9 by omega) with rfl | rfl | rfl | rfl | rfl | rfl | rfl | rfl | rfl | rfl <;> rfl) (Nat.le_of_ble_eq_true rfl) (Nat.le_of_ble_eq_true rfl) dL_law_0 (fun q_1 H hP hD hS => ?_)
  have hP : va_P D vwCl [(q_1, .inr (5, [.null, .int 0, .null, .null, .null, .null, .null, .null, .null, .null]))] H := hP
  have hD : va_D (fun q : Nat => sg_.heap.size ≤ q) [(q_1, .inr (5, [.null, .int 0, .null, .null, .null, .null, .null, .null, .null, .null]))] := hD
  refine lv_dup X.1 X.2.1 dL_law_3 rfl ?_
  refine fin_v (wr := []) (cv_L_9 X (i_Cf l D cI cJ q_1  _) rfl rfl dL_law_4 hP hD [0] rfl rfl hl.1 rfl rfl (Nat.le_of_ble_eq_true rfl) ⟨Nat.le_of_ble_eq_true rfl, Nat.le_of_ble_eq_true rfl⟩ ⟨Nat.le_of_ble_eq_true rfl, Nat.le_of_ble_eq_true rfl⟩) hP hD hS hA [0] [] rfl rfl rfl (by decide) (fun u_3 H locs w_2 hP hD hS => ?_)
  have hP : va_P D vwCl [(q_1, cfE u_3.1 0 u_3.2.1 u_3.2.2.1 u_3.2.2.2.1 u_3.2.2.2.2.1 u_3.2.2.2.2.2.1 u_3.2.2.2.2.2.2.1 u_3.2.2.2.2.2.2.2.1 u_3.2.2.2.2.2.2.2.2.1), (u_3.1, aiE cI 240 (fun _ => 0)), (u_3.2.1, aiE cI 18 (fun _ => 0)), (u_3.2.2.1, cubE (0, 0, 0, 0)), (u_3.2.2.2.1, cubE (0, 0, 0, 0)), (u_3.2.2.2.2.1, elE (0, 0, 0)), (u_3.2.2.2.2.2.1, elE (0, 0, 0)), (u_3.2.2.2.2.2.2.1, wkE u_3.2.2.2.2.2.2.2.2.2.1 u_3.2.2.2.2.2.2.2.2.2.2.1), (u_3.2.2.2.2.2.2.2.2.2.1, cubE (0, 0, 0, 0)), (u_3.2.2.2.2.2.2.2.2.2.2.1, cubE (0, 0, 0, 0)), (u_3.2.2.2.2.2.2.2.1, rgE u_3.2.2.2.2.2.2.2.2.2.2.2.1 u_3.2.2.2.2.2.2.2.2.2.2.2.2.1 u_3.2.2.2.2.2.2.2.2.2.2.2.2.2.1 u_3.2.2.2.2.2.2.2.2.2.2.2.2.2.2.1 u_3.2.2.2.2.2.2.2.2.2.2.2.2.2.2.2.1 u_3.2.2.2.2.2.2.2.2.2.2.2.2.2.2.2.2.1 u_3.2.2.2.2.2.2.2.2.2.2.2.2.2.2.2.2.2.1), (u_3.2.2.2.2.2.2.2.2.2.2.2.1, elE (1, 0, 0)), (u_3.2.2.2.2.2.2.2.2.2.2.2.2.1, elE (0, 1, 0)), (u_3.2.2.2.2.2.2.2.2.2.2.2.2.2.1, elE (0, 0, 1)), (u_3.2.2.2.2.2.2.2.2.2.2.2.2.2.2.1, elE (0, 0, 0)), (u_3.2.2.2.2.2.2.2.2.2.2.2.2.2.2.2.1, elE (0, 0, 0)), (u_3.2.2.2.2.2.2.2.2.2.2.2.2.2.2.2.2.1, elE (0, 0, 0)), (u_3.2.2.2.2.2.2.2.2.2.2.2.2.2.2.2.2.2.1, elE (0, 0, 0)), (u_3.2.2.2.2.2.2.2.2.1, ftE u_3.2.2.2.2.2.2.2.2.2.2.2.2.2.2.2.2.2.2.1 0 u_3.2.2.2.2.2.2.2.2.2.2.2.2.2.2.2.2.2.2.2.1 0 0 u_3.2.2.2.2.2.2.2.2.2.2.2.2.2.2.2.2.2.2.2.2.1 u_3.2.2.2.2.2.2.2.2.2.2.2.2.2.2.2.2.2.2.2.2.2), (u_3.2.2.2.2.2.2.2.2.2.2.2.2.2.2.2.2.2.2.1, aiE cI 64 (fun _ => 0)), (u_3.2.2.2.2.2.2.2.2.2.2.2.2.2.2.2.2.2.2.2.1, aiE cI 64 (fun _ => 0)), (u_3.2.2.2.2.2.2.2.2.2.2.2.2.2.2.2.2.2.2.2.2.1, cubE (0, 0, 0, 0)), (u_3.2.2.2.2.2.2.2.2.2.2.2.2.2.2.2.2.2.2.2.2.2, cubE (0, 0, 0, 0))] H := hP
  have hD : va_D (fun q : Nat => sg_.heap.size ≤ q) [(q_1, cfE u_3.1 0 u_3.2.1 u_3.2.2.1 u_3.2.2.2.1 u_3.2.2.2.2.1 u_3.2.2.2.2.2.1 u_3.2.2.2.2.2.2.1 u_3.2.2.2.2.2.2.2.1 u_3.2.2.2.2.2.2.2.2.1), (u_3.1, aiE cI 240 (fun _ => 0)), (u_3.2.1, aiE cI 18 (fun _ => 0)), (u_3.2.2.1, cubE (0, 0, 0, 0)), (u_3.2.2.2.1, cubE (0, 0, 0, 0)), (u_3.2.2.2.2.1, elE (0, 0, 0)), (u_3.2.2.2.2.2.1, elE (0, 0, 0)), (u_3.2.2.2.2.2.2.1, wkE u_3.2.2.2.2.2.2.2.2.2.1 u_3.2.2.2.2.2.2.2.2.2.2.1), (u_3.2.2.2.2.2.2.2.2.2.1, cubE (0, 0, 0, 0)), (u_3.2.2.2.2.2.2.2.2.2.2.1, cubE (0, 0, 0, 0)), (u_3.2.2.2.2.2.2.2.1, rgE u_3.2.2.2.2.2.2.2.2.2.2.2.1 u_3.2.2.2.2.2.2.2.2.2.2.2.2.1 u_3.2.2.2.2.2.2.2.2.2.2.2.2.2.1 u_3.2.2.2.2.2.2.2.2.2.2.2.2.2.2.1 u_3.2.2.2.2.2.2.2.2.2.2.2.2.2.2.2.1 u_3.2.2.2.2.2.2.2.2.2.2.2.2.2.2.2.2.1 u_3.2.2.2.2.2.2.2.2.2.2.2.2.2.2.2.2.2.1), (u_3.2.2.2.2.2.2.2.2.2.2.2.1, elE (1, 0, 0)), (u_3.2.2.2.2.2.2.2.2.2.2.2.2.1, elE (0, 1, 0)), (u_3.2.2.2.2.2.2.2.2.2.2.2.2.2.1, elE (0, 0, 1)), (u_3.2.2.2.2.2.2.2.2.2.2.2.2.2.2.1, elE (0, 0, 0)), (u_3.2.2.2.2.2.2.2.2.2.2.2.2.2.2.2.1, elE (0, 0, 0)), (u_3.2.2.2.2.2.2.2.2.2.2.2.2.2.2.2.2.1, elE (0, 0, 0)), (u_3.2.2.2.2.2.2.2.2.2.2.2.2.2.2.2.2.2.1, elE (0, 0, 0)), (u_3.2.2.2.2.2.2.2.2.1, ftE u_3.2.2.2.2.2.2.2.2.2.2.2.2.2.2.2.2.2.2.1 0 u_3.2.2.2.2.2.2.2.2.2.2.2.2.2.2.2.2.2.2.2.1 0 0 u_3.2.2.2.2.2.2.2.2.2.2.2.2.2.2.2.2.2.2.2.2.1 u_3.2.2.2.2.2.2.2.2.2.2.2.2.2.2.2.2.2.2.2.2.2), (u_3.2.2.2.2.2.2.2.2.2.2.2.2.2.2.2.2.2.2.1, aiE cI 64 (fun _ => 0)), (u_3.2.2.2.2.2.2.2.2.2.2.2.2.2.2.2.2.2.2.2.1, aiE cI 64 (fun _ => 0)), (u_3.2.2.2.2.2.2.2.2.2.2.2.2.2.2.2.2.2.2.2.2.1, cubE (0, 0, 0, 0)), (u_3.2.2.2.2.2.2.2.2.2.2.2.2.2.2.2.2.2.2.2.2.2, cubE (0, 0, 0, 0))] := hD
  refine lv_astore_n (lv' := [(1, .ref q_1), (0, .ref b)]) X.1 X.2.1 dL_law_7 rfl hl (by decide) rfl (fun ls hl => ?_)
  refine va_new (ci := 6) (fs := [.int 0, .null, .long 0, .long 0, .long 0, .long 0, .long 0, .long 0, .long 0, .long 0, .null, .long 0, .long 0, .long 0, .null, .null, .long 0, .long 0, .long 0, .long 0, .int 0, .null, .null]) (C := RX6) (T := TX6) (N := 23) X.1 X.2.1 X.2.2.2.2.1 inlX6 tyX6 tyX6_ok X.2.2.2.1 (X.w wq_3) (X.w wq_4) (X.w wq_5) X.k hP hD hS hA rfl (fun j hj => by rcases (show j = 0 ∨ j = 1 ∨ j = 2 ∨ j = 3 ∨ j = 4 ∨ j = 5 ∨ j = 6 ∨ j = 7 ∨ j = 8 ∨ j = 9 ∨ j = 10 ∨ j = 11 ∨ j = 12 ∨ j = 13 ∨ j = 14 ∨ j = 15 ∨ j = 16 ∨ j = 17 ∨ j = 18 ∨ j = 19 ∨ j = 20 ∨ j = 21 ∨ j = 22 by omega) with rfl | rfl | rfl | rfl | rfl | rfl | rfl | rfl | rfl | rfl | rfl | rfl | rfl | rfl | rfl | rfl | rfl | rfl | rfl | rfl | rfl | rfl | rfl <;> rfl) (Nat.le_of_ble_eq_true rfl) (Nat.le_of_ble_eq_true rfl) dL_law_8 (fun q_5 H hP hD hS => ?_)
  have hP : va_P D vwCl [(q_1, cfE u_3.1 0 u_3.2.1 u_3.2.2.1 u_3.2.2.2.1 u_3.2.2.2.2.1 u_3.2.2.2.2.2.1 u_3.2.2.2.2.2.2.1 u_3.2.2.2.2.2.2.2.1 u_3.2.2.2.2.2.2.2.2.1), (u_3.1, aiE cI 240 (fun _ => 0)), (u_3.2.1, aiE cI 18 (fun _ => 0)), (u_3.2.2.1, cubE (0, 0, 0, 0)), (u_3.2.2.2.1, cubE (0, 0, 0, 0)), (u_3.2.2.2.2.1, elE (0, 0, 0)), (u_3.2.2.2.2.2.1, elE (0, 0, 0)), (u_3.2.2.2.2.2.2.1, wkE u_3.2.2.2.2.2.2.2.2.2.1 u_3.2.2.2.2.2.2.2.2.2.2.1), (u_3.2.2.2.2.2.2.2.2.2.1, cubE (0, 0, 0, 0)), (u_3.2.2.2.2.2.2.2.2.2.2.1, cubE (0, 0, 0, 0)), (u_3.2.2.2.2.2.2.2.1, rgE u_3.2.2.2.2.2.2.2.2.2.2.2.1 u_3.2.2.2.2.2.2.2.2.2.2.2.2.1 u_3.2.2.2.2.2.2.2.2.2.2.2.2.2.1 u_3.2.2.2.2.2.2.2.2.2.2.2.2.2.2.1 u_3.2.2.2.2.2.2.2.2.2.2.2.2.2.2.2.1 u_3.2.2.2.2.2.2.2.2.2.2.2.2.2.2.2.2.1 u_3.2.2.2.2.2.2.2.2.2.2.2.2.2.2.2.2.2.1), (u_3.2.2.2.2.2.2.2.2.2.2.2.1, elE (1, 0, 0)), (u_3.2.2.2.2.2.2.2.2.2.2.2.2.1, elE (0, 1, 0)), (u_3.2.2.2.2.2.2.2.2.2.2.2.2.2.1, elE (0, 0, 1)), (u_3.2.2.2.2.2.2.2.2.2.2.2.2.2.2.1, elE (0, 0, 0)), (u_3.2.2.2.2.2.2.2.2.2.2.2.2.2.2.2.1, elE (0, 0, 0)), (u_3.2.2.2.2.2.2.2.2.2.2.2.2.2.2.2.2.1, elE (0, 0, 0)), (u_3.2.2.2.2.2.2.2.2.2.2.2.2.2.2.2.2.2.1, elE (0, 0, 0)), (u_3.2.2.2.2.2.2.2.2.1, ftE u_3.2.2.2.2.2.2.2.2.2.2.2.2.2.2.2.2.2.2.1 0 u_3.2.2.2.2.2.2.2.2.2.2.2.2.2.2.2.2.2.2.2.1 0 0 u_3.2.2.2.2.2.2.2.2.2.2.2.2.2.2.2.2.2.2.2.2.1 u_3.2.2.2.2.2.2.2.2.2.2.2.2.2.2.2.2.2.2.2.2.2), (u_3.2.2.2.2.2.2.2.2.2.2.2.2.2.2.2.2.2.2.1, aiE cI 64 (fun _ => 0)), (u_3.2.2.2.2.2.2.2.2.2.2.2.2.2.2.2.2.2.2.2.1, aiE cI 64 (fun _ => 0)), (u_3.2.2.2.2.2.2.2.2.2.2.2.2.2.2.2.2.2.2.2.2.1, cubE (0, 0, 0, 0)), (u_3.2.2.2.2.2.2.2.2.2.2.2.2.2.2.2.2.2.2.2.2.2, cubE (0, 0, 0, 0)), (q_5, .inr (6, [.int 0, .null, .long 0, .long 0, .long 0, .long 0, .long 0, .long 0, .long 0, .long 0, .null, .long 0, .long 0, .long 0, .null, .null, .long 0, .long 0, .long 0, .long 0, .int 0, .null, .null]))] H := hP
  have hD : va_D (fun q : Nat => sg_.heap.size ≤ q) [(q_1, cfE u_3.1 0 u_3.2.1 u_3.2.2.1 u_3.2.2.2.1 u_3.2.2.2.2.1 u_3.2.2.2.2.2.1 u_3.2.2.2.2.2.2.1 u_3.2.2.2.2.2.2.2.1 u_3.2.2.2.2.2.2.2.2.1), (u_3.1, aiE cI 240 (fun _ => 0)), (u_3.2.1, aiE cI 18 (fun _ => 0)), (u_3.2.2.1, cubE (0, 0, 0, 0)), (u_3.2.2.2.1, cubE (0, 0, 0, 0)), (u_3.2.2.2.2.1, elE (0, 0, 0)), (u_3.2.2.2.2.2.1, elE (0, 0, 0)), (u_3.2.2.2.2.2.2.1, wkE u_3.2.2.2.2.2.2.2.2.2.1 u_3.2.2.2.2.2.2.2.2.2.2.1), (u_3.2.2.2.2.2.2.2.2.2.1, cubE (0, 0, 0, 0)), (u_3.2.2.2.2.2.2.2.2.2.2.1, cubE (0, 0, 0, 0)), (u_3.2.2.2.2.2.2.2.1, rgE u_3.2.2.2.2.2.2.2.2.2.2.2.1 u_3.2.2.2.2.2.2.2.2.2.2.2.2.1 u_3.2.2.2.2.2.2.2.2.2.2.2.2.2.1 u_3.2.2.2.2.2.2.2.2.2.2.2.2.2.2.1 u_3.2.2.2.2.2.2.2.2.2.2.2.2.2.2.2.1 u_3.2.2.2.2.2.2.2.2.2.2.2.2.2.2.2.2.1 u_3.2.2.2.2.2.2.2.2.2.2.2.2.2.2.2.2.2.1), (u_3.2.2.2.2.2.2.2.2.2.2.2.1, elE (1, 0, 0)), (u_3.2.2.2.2.2.2.2.2.2.2.2.2.1, elE (0, 1, 0)), (u_3.2.2.2.2.2.2.2.2.2.2.2.2.2.1, elE (0, 0, 1)), (u_3.2.2.2.2.2.2.2.2.2.2.2.2.2.2.1, elE (0, 0, 0)), (u_3.2.2.2.2.2.2.2.2.2.2.2.2.2.2.2.1, elE (0, 0, 0)), (u_3.2.2.2.2.2.2.2.2.2.2.2.2.2.2.2.2.1, elE (0, 0, 0)), (u_3.2.2.2.2.2.2.2.2.2.2.2.2.2.2.2.2.2.1, elE (0, 0, 0)), (u_3.2.2.2.2.2.2.2.2.1, ftE u_3.2.2.2.2.2.2.2.2.2.2.2.2.2.2.2.2.2.2.1 0 u_3.2.2.2.2.2.2.2.2.2.2.2.2.2.2.2.2.2.2.2.1 0 0 u_3.2.2.2.2.2.2.2.2.2.2.2.2.2.2.2.2.2.2.2.2.1 u_3.2.2.2.2.2.2.2.2.2.2.2.2.2.2.2.2.2.2.2.2.2), (u_3.2.2.2.2.2.2.2.2.2.2.2.2.2.2.2.2.2.2.1, aiE cI 64 (fun _ => 0)), (u_3.2.2.2.2.2.2.2.2.2.2.2.2.2.2.2.2.2.2.2.1, aiE cI 64 (fun _ => 0)), (u_3.2.2.2.2.2.2.2.2.2.2.2.2.2.2.2.2.2.2.2.2.1, cubE (0, 0, 0, 0)), (u_3.2.2.2.2.2.2.2.2.2.2.2.2.2.2.2.2.2.2.2.2.2, cubE (0, 0, 0, 0)), (q_5, .inr (6, [.int 0, .null, .long 0, .long 0, .long 0, .long 0, .long 0, .long 0, .long 0, .long 0, .null, .long 0, .long 0, .long 0, .null, .null, .long 0, .long 0, .long 0, .long 0, .int 0, .null, .null]))] := hD
  refine lv_dup X.1 X.2.1 dL_law_11 rfl ?_
  refine fin_v (wr := [(q_1, cfE u_3.1 0 u_3.2.1 u_3.2.2.1 u_3.2.2.2.1 u_3.2.2.2.2.1 u_3.2.2.2.2.2.1 u_3.2.2.2.2.2.2.1 u_3.2.2.2.2.2.2.2.1 u_3.2.2.2.2.2.2.2.2.1), (u_3.1, aiE cI 240 (fun _ => 0)), (u_3.2.1, aiE cI 18 (fun _ => 0)), (u_3.2.2.1, cubE (0, 0, 0, 0)), (u_3.2.2.2.1, cubE (0, 0, 0, 0)), (u_3.2.2.2.2.1, elE (0, 0, 0)), (u_3.2.2.2.2.2.1, elE (0, 0, 0)), (u_3.2.2.2.2.2.2.1, wkE u_3.2.2.2.2.2.2.2.2.2.1 u_3.2.2.2.2.2.2.2.2.2.2.1), (u_3.2.2.2.2.2.2.2.2.2.1, cubE (0, 0, 0, 0)), (u_3.2.2.2.2.2.2.2.2.2.2.1, cubE (0, 0, 0, 0)), (u_3.2.2.2.2.2.2.2.1, rgE u_3.2.2.2.2.2.2.2.2.2.2.2.1 u_3.2.2.2.2.2.2.2.2.2.2.2.2.1 u_3.2.2.2.2.2.2.2.2.2.2.2.2.2.1 u_3.2.2.2.2.2.2.2.2.2.2.2.2.2.2.1 u_3.2.2.2.2.2.2.2.2.2.2.2.2.2.2.2.1 u_3.2.2.2.2.2.2.2.2.2.2.2.2.2.2.2.2.1 u_3.2.2.2.2.2.2.2.2.2.2.2.2.2.2.2.2.2.1), (u_3.2.2.2.2.2.2.2.2.2.2.2.1, elE (1, 0, 0)), (u_3.2.2.2.2.2.2.2.2.2.2.2.2.1, elE (0, 1, 0)), (u_3.2.2.2.2.2.2.2.2.2.2.2.2.2.1, elE (0, 0, 1)), (u_3.2.2.2.2.2.2.2.2.2.2.2.2.2.2.1, elE (0, 0, 0)), (u_3.2.2.2.2.2.2.2.2.2.2.2.2.2.2.2.1, elE (0, 0, 0)), (u_3.2.2.2.2.2.2.2.2.2.2.2.2.2.2.2.2.1, elE (0, 0, 0)), (u_3.2.2.2.2.2.2.2.2.2.2.2.2.2.2.2.2.2.1, elE (0, 0, 0)), (u_3.2.2.2.2.2.2.2.2.1, ftE u_3.2.2.2.2.2.2.2.2.2.2.2.2.2.2.2.2.2.2.1 0 u_3.2.2.2.2.2.2.2.2.2.2.2.2.2.2.2.2.2.2.2.1 0 0 u_3.2.2.2.2.2.2.2.2.2.2.2.2.2.2.2.2.2.2.2.2.1 u_3.2.2.2.2.2.2.2.2.2.2.2.2.2.2.2.2.2.2.2.2.2), (u_3.2.2.2.2.2.2.2.2.2.2.2.2.2.2.2.2.2.2.1, aiE cI 64 (fun _ => 0)), (u_3.2.2.2.2.2.2.2.2.2.2.2.2.2.2.2.2.2.2.2.1, aiE cI 64 (fun _ => 0)), (u_3.2.2.2.2.2.2.2.2.2.2.2.2.2.2.2.2.2.2.2.2.1, cubE (0, 0, 0, 0)), (u_3.2.2.2.2.2.2.2.2.2.2.2.2.2.2.2.2.2.2.2.2.2, cubE (0, 0, 0, 0))]) (cv_L_12 X (i_Mo l D cI cJ q_5  _) rfl rfl dL_law_12 hP hD [23] rfl rfl hl.1 rfl rfl (Nat.le_of_ble_eq_true rfl) ⟨Nat.le_of_ble_eq_true rfl, Nat.le_of_ble_eq_true rfl⟩ ⟨Nat.le_of_ble_eq_true rfl, Nat.le_of_ble_eq_true rfl⟩) hP hD hS hA [23] [0, 1, 2, 3, 4, 5, 6, 7, 8, 9, 10, 11, 12, 13, 14, 15, 16, 17, 18, 19, 20, 21, 22] rfl rfl rfl (by decide) (fun u_7 H locs w_6 hP hD hS => ?_)
  have hP : va_P D vwCl [(q_1, cfE u_3.1 0 u_3.2.1 u_3.2.2.1 u_3.2.2.2.1 u_3.2.2.2.2.1 u_3.2.2.2.2.2.1 u_3.2.2.2.2.2.2.1 u_3.2.2.2.2.2.2.2.1 u_3.2.2.2.2.2.2.2.2.1), (u_3.1, aiE cI 240 (fun _ => 0)), (u_3.2.1, aiE cI 18 (fun _ => 0)), (u_3.2.2.1, cubE (0, 0, 0, 0)), (u_3.2.2.2.1, cubE (0, 0, 0, 0)), (u_3.2.2.2.2.1, elE (0, 0, 0)), (u_3.2.2.2.2.2.1, elE (0, 0, 0)), (u_3.2.2.2.2.2.2.1, wkE u_3.2.2.2.2.2.2.2.2.2.1 u_3.2.2.2.2.2.2.2.2.2.2.1), (u_3.2.2.2.2.2.2.2.2.2.1, cubE (0, 0, 0, 0)), (u_3.2.2.2.2.2.2.2.2.2.2.1, cubE (0, 0, 0, 0)), (u_3.2.2.2.2.2.2.2.1, rgE u_3.2.2.2.2.2.2.2.2.2.2.2.1 u_3.2.2.2.2.2.2.2.2.2.2.2.2.1 u_3.2.2.2.2.2.2.2.2.2.2.2.2.2.1 u_3.2.2.2.2.2.2.2.2.2.2.2.2.2.2.1 u_3.2.2.2.2.2.2.2.2.2.2.2.2.2.2.2.1 u_3.2.2.2.2.2.2.2.2.2.2.2.2.2.2.2.2.1 u_3.2.2.2.2.2.2.2.2.2.2.2.2.2.2.2.2.2.1), (u_3.2.2.2.2.2.2.2.2.2.2.2.1, elE (1, 0, 0)), (u_3.2.2.2.2.2.2.2.2.2.2.2.2.1, elE (0, 1, 0)), (u_3.2.2.2.2.2.2.2.2.2.2.2.2.2.1, elE (0, 0, 1)), (u_3.2.2.2.2.2.2.2.2.2.2.2.2.2.2.1, elE (0, 0, 0)), (u_3.2.2.2.2.2.2.2.2.2.2.2.2.2.2.2.1, elE (0, 0, 0)), (u_3.2.2.2.2.2.2.2.2.2.2.2.2.2.2.2.2.1, elE (0, 0, 0)), (u_3.2.2.2.2.2.2.2.2.2.2.2.2.2.2.2.2.2.1, elE (0, 0, 0)), (u_3.2.2.2.2.2.2.2.2.1, ftE u_3.2.2.2.2.2.2.2.2.2.2.2.2.2.2.2.2.2.2.1 0 u_3.2.2.2.2.2.2.2.2.2.2.2.2.2.2.2.2.2.2.2.1 0 0 u_3.2.2.2.2.2.2.2.2.2.2.2.2.2.2.2.2.2.2.2.2.1 u_3.2.2.2.2.2.2.2.2.2.2.2.2.2.2.2.2.2.2.2.2.2), (u_3.2.2.2.2.2.2.2.2.2.2.2.2.2.2.2.2.2.2.1, aiE cI 64 (fun _ => 0)), (u_3.2.2.2.2.2.2.2.2.2.2.2.2.2.2.2.2.2.2.2.1, aiE cI 64 (fun _ => 0)), (u_3.2.2.2.2.2.2.2.2.2.2.2.2.2.2.2.2.2.2.2.2.1, cubE (0, 0, 0, 0)), (u_3.2.2.2.2.2.2.2.2.2.2.2.2.2.2.2.2.2.2.2.2.2, cubE (0, 0, 0, 0)), (q_5, moE 0 u_7.1 (0, 0, 0, 0) (0, 0, 0, 0) u_7.2.1 (0, 0, 0) u_7.2.2.1 u_7.2.2.2.1 (0, 0, 0, 0) 0 u_7.2.2.2.2.1 u_7.2.2.2.2.2), (u_7.1, aiE cI 240 (fun _ => 0)), (u_7.2.1, aiE cI 18 (fun _ => 0)), (u_7.2.2.1, alE cJ 9 (fun _ => 0)), (u_7.2.2.2.1, alE cJ 9 (fun _ => 0)), (u_7.2.2.2.2.1, aiE cI 1001 (fun _ => 0)), (u_7.2.2.2.2.2, aiE cI 1001 (fun _ => 0))] H := hP
  have hD : va_D (fun q : Nat => sg_.heap.size ≤ q) [(q_1, cfE u_3.1 0 u_3.2.1 u_3.2.2.1 u_3.2.2.2.1 u_3.2.2.2.2.1 u_3.2.2.2.2.2.1 u_3.2.2.2.2.2.2.1 u_3.2.2.2.2.2.2.2.1 u_3.2.2.2.2.2.2.2.2.1), (u_3.1, aiE cI 240 (fun _ => 0)), (u_3.2.1, aiE cI 18 (fun _ => 0)), (u_3.2.2.1, cubE (0, 0, 0, 0)), (u_3.2.2.2.1, cubE (0, 0, 0, 0)), (u_3.2.2.2.2.1, elE (0, 0, 0)), (u_3.2.2.2.2.2.1, elE (0, 0, 0)), (u_3.2.2.2.2.2.2.1, wkE u_3.2.2.2.2.2.2.2.2.2.1 u_3.2.2.2.2.2.2.2.2.2.2.1), (u_3.2.2.2.2.2.2.2.2.2.1, cubE (0, 0, 0, 0)), (u_3.2.2.2.2.2.2.2.2.2.2.1, cubE (0, 0, 0, 0)), (u_3.2.2.2.2.2.2.2.1, rgE u_3.2.2.2.2.2.2.2.2.2.2.2.1 u_3.2.2.2.2.2.2.2.2.2.2.2.2.1 u_3.2.2.2.2.2.2.2.2.2.2.2.2.2.1 u_3.2.2.2.2.2.2.2.2.2.2.2.2.2.2.1 u_3.2.2.2.2.2.2.2.2.2.2.2.2.2.2.2.1 u_3.2.2.2.2.2.2.2.2.2.2.2.2.2.2.2.2.1 u_3.2.2.2.2.2.2.2.2.2.2.2.2.2.2.2.2.2.1), (u_3.2.2.2.2.2.2.2.2.2.2.2.1, elE (1, 0, 0)), (u_3.2.2.2.2.2.2.2.2.2.2.2.2.1, elE (0, 1, 0)), (u_3.2.2.2.2.2.2.2.2.2.2.2.2.2.1, elE (0, 0, 1)), (u_3.2.2.2.2.2.2.2.2.2.2.2.2.2.2.1, elE (0, 0, 0)), (u_3.2.2.2.2.2.2.2.2.2.2.2.2.2.2.2.1, elE (0, 0, 0)), (u_3.2.2.2.2.2.2.2.2.2.2.2.2.2.2.2.2.1, elE (0, 0, 0)), (u_3.2.2.2.2.2.2.2.2.2.2.2.2.2.2.2.2.2.1, elE (0, 0, 0)), (u_3.2.2.2.2.2.2.2.2.1, ftE u_3.2.2.2.2.2.2.2.2.2.2.2.2.2.2.2.2.2.2.1 0 u_3.2.2.2.2.2.2.2.2.2.2.2.2.2.2.2.2.2.2.2.1 0 0 u_3.2.2.2.2.2.2.2.2.2.2.2.2.2.2.2.2.2.2.2.2.1 u_3.2.2.2.2.2.2.2.2.2.2.2.2.2.2.2.2.2.2.2.2.2), (u_3.2.2.2.2.2.2.2.2.2.2.2.2.2.2.2.2.2.2.1, aiE cI 64 (fun _ => 0)), (u_3.2.2.2.2.2.2.2.2.2.2.2.2.2.2.2.2.2.2.2.1, aiE cI 64 (fun _ => 0)), (u_3.2.2.2.2.2.2.2.2.2.2.2.2.2.2.2.2.2.2.2.2.1, cubE (0, 0, 0, 0)), (u_3.2.2.2.2.2.2.2.2.2.2.2.2.2.2.2.2.2.2.2.2.2, cubE (0, 0, 0, 0)), (q_5, moE 0 u_7.1 (0, 0, 0, 0) (0, 0, 0, 0) u_7.2.1 (0, 0, 0) u_7.2.2.1 u_7.2.2.2.1 (0, 0, 0, 0) 0 u_7.2.2.2.2.1 u_7.2.2.2.2.2), (u_7.1, aiE cI 240 (fun _ => 0)), (u_7.2.1, aiE cI 18 (fun _ => 0)), (u_7.2.2.1, alE cJ 9 (fun _ => 0)), (u_7.2.2.2.1, alE cJ 9 (fun _ => 0)), (u_7.2.2.2.2.1, aiE cI 1001 (fun _ => 0)), (u_7.2.2.2.2.2, aiE cI 1001 (fun _ => 0))] := hD
  refine lv_astore_n (lv' := [(2, .ref q_5), (1, .ref q_1), (0, .ref b)]) X.1 X.2.1 dL_law_15 rfl hl (by decide) rfl (fun ls hl => ?_)
  refine lv_iconst (v := 0) X.1 X.2.1 dL_law_16 (by decide) ?_
  refine lv_istore_n (lv' := [(3, .int 0), (2, .ref q_5), (1, .ref q_1), (0, .ref b)]) X.1 X.2.1 dL_law_17 rfl hl (by decide) rfl (fun ls hl => ?_)
  refine W.widen (k := 30) (n := 2764) (Nat.le_of_ble_eq_true rfl) (Nat.le_of_ble_eq_true rfl) ?_
  exact law_loop_open hcan haut hov hmx hcS hgS hTM hf1 hf2 hp1 hp2 hs2 hL X hX hbl q_1 u_3.1 u_3.2.1 u_3.2.2.1 u_3.2.2.2.1 u_3.2.2.2.2.1 u_3.2.2.2.2.2.1 u_3.2.2.2.2.2.2.1 u_3.2.2.2.2.2.2.2.1 u_3.2.2.2.2.2.2.2.2.1 u_3.2.2.2.2.2.2.2.2.2.1 u_3.2.2.2.2.2.2.2.2.2.2.1 u_3.2.2.2.2.2.2.2.2.2.2.2.1 u_3.2.2.2.2.2.2.2.2.2.2.2.2.1 u_3.2.2.2.2.2.2.2.2.2.2.2.2.2.1 u_3.2.2.2.2.2.2.2.2.2.2.2.2.2.2.1 u_3.2.2.2.2.2.2.2.2.2.2.2.2.2.2.2.1 u_3.2.2.2.2.2.2.2.2.2.2.2.2.2.2.2.2.1 u_3.2.2.2.2.2.2.2.2.2.2.2.2.2.2.2.2.2.1 u_3.2.2.2.2.2.2.2.2.2.2.2.2.2.2.2.2.2.2.1 u_3.2.2.2.2.2.2.2.2.2.2.2.2.2.2.2.2.2.2.2.1 u_3.2.2.2.2.2.2.2.2.2.2.2.2.2.2.2.2.2.2.2.2.1 u_3.2.2.2.2.2.2.2.2.2.2.2.2.2.2.2.2.2.2.2.2.2 q_5 u_7.1 u_7.2.1 u_7.2.2.1 u_7.2.2.2.1 u_7.2.2.2.2.1 u_7.2.2.2.2.2 hend (L + 12) 0 0 (fun _ => 0) (fun _ => 0) 0 ([], []) (fun _ => 0) (fun _ => 0) 0 ([], []) (fun _ => 0) (fun _ => 0) (fun _ => 0) (fun _ => 0) (0, 0, 0, 0) (0, 0, 0, 0) (0, 0, 0, 0) (0, 0, 0, 0) (0, 0, 0, 0) (0, 0, 0, 0) (0, 0, 0, 0) (0, 0, 0, 0) (0, 0, 0, 0) (0, 0, 0) (0, 0, 0) (0, 0, 0) (0, 0, 0) (0, 0, 0) (0, 0, 0) (0, 0, 0) (by omega) (by omega) (by decide) rng0 (Or.inl ⟨rfl, rfl⟩) trivial trivial (Or.inl ⟨rfl, rfl⟩) repC0 repC0 _ _ _ (hP.sub [0, 1, 2, 3, 4, 5, 6, 7, 8, 9, 10, 11, 12, 13, 14, 15, 16, 17, 18, 19, 20, 21, 22, 23, 24, 25, 26, 27, 28, 29] rfl) (hD.sub [0, 1, 2, 3, 4, 5, 6, 7, 8, 9, 10, 11, 12, 13, 14, 15, 16, 17, 18, 19, 20, 21, 22, 23, 24, 25, 26, 27, 28, 29] rfl rfl) hS (lv_sub hl [3, 2, 1, 0] rfl)
