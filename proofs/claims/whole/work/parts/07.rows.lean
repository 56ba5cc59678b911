set_option maxRecDepth 20000 in
theorem wq_0 : Cond.classLink RL 7 RX5 ∈ WL := List.mem_filter.mpr ⟨List.mem_of_getElem? (i := 89) rfl, rfl⟩
set_option maxRecDepth 20000 in
theorem wq_1 : Cond.instantiable RX5 10 ∈ WL := List.mem_filter.mpr ⟨List.mem_of_getElem? (i := 90) rfl, rfl⟩
set_option maxRecDepth 20000 in
theorem wq_2 : Cond.initialized RX5 ∈ WL := List.mem_filter.mpr ⟨List.mem_of_getElem? (i := 81) rfl, rfl⟩
set_option maxRecDepth 20000 in
theorem wq_3 : Cond.classLink RL 10 RX6 ∈ WL := List.mem_filter.mpr ⟨List.mem_of_getElem? (i := 626) rfl, rfl⟩
set_option maxRecDepth 20000 in
theorem wq_4 : Cond.instantiable RX6 23 ∈ WL := List.mem_filter.mpr ⟨List.mem_of_getElem? (i := 627) rfl, rfl⟩
set_option maxRecDepth 20000 in
theorem wq_5 : Cond.initialized RX6 ∈ WL := List.mem_filter.mpr ⟨List.mem_of_getElem? (i := 87) rfl, rfl⟩
set_option maxRecDepth 20000 in
theorem wq_6 : Cond.methodLink RL 9 yX5_init ∈ WL := List.mem_filter.mpr ⟨List.mem_of_getElem? (i := 91) rfl, rfl⟩
set_option maxRecDepth 20000 in
theorem wq_7 : Cond.instanceMethod yX5_init ∈ WL := List.mem_filter.mpr ⟨List.mem_of_getElem? (i := 92) rfl, rfl⟩
set_option maxRecDepth 20000 in
theorem wq_8 : Cond.code yX5_init cX5_init 1 none ∈ WL := List.mem_filter.mpr ⟨List.mem_of_getElem? (i := 93) rfl, rfl⟩
set_option maxRecDepth 20000 in
theorem wq_9 : Cond.methodLink RX5 3 objectInit ∈ WL := List.mem_filter.mpr ⟨List.mem_of_getElem? (i := 94) rfl, rfl⟩
set_option maxRecDepth 20000 in
theorem wq_10 : Cond.instanceMethod objectInit ∈ WL := List.mem_filter.mpr ⟨List.mem_of_getElem? (i := 95) rfl, rfl⟩
set_option maxRecDepth 20000 in
theorem wq_11 : Cond.code objectInit ⟨#[0xb1]⟩ 1 none ∈ WL := List.mem_filter.mpr ⟨List.mem_of_getElem? (i := 96) rfl, rfl⟩
set_option maxRecDepth 20000 in
theorem wq_12 : Cond.arrayClass .int ∈ WL := List.mem_filter.mpr ⟨List.mem_of_getElem? (i := 126) rfl, rfl⟩
set_option maxRecDepth 20000 in
theorem wq_13 : Cond.fieldLink RX5 11 "CubicForms" "coefficients" "[I" ∈ WL := List.mem_filter.mpr ⟨List.mem_of_getElem? (i := 226) rfl, rfl⟩
set_option maxRecDepth 20000 in
theorem wq_14 : Cond.fieldLink RX5 15 "CubicForms" "formCount" "I" ∈ WL := List.mem_filter.mpr ⟨List.mem_of_getElem? (i := 227) rfl, rfl⟩
set_option maxRecDepth 20000 in
theorem wq_15 : Cond.fieldLink RX5 19 "CubicForms" "parts" "[I" ∈ WL := List.mem_filter.mpr ⟨List.mem_of_getElem? (i := 228) rfl, rfl⟩
set_option maxRecDepth 20000 in
theorem wq_16 : Cond.classLink RX5 22 RX0 ∈ WL := List.mem_filter.mpr ⟨List.mem_of_getElem? (i := 97) rfl, rfl⟩
set_option maxRecDepth 20000 in
theorem wq_17 : Cond.instantiable RX0 4 ∈ WL := List.mem_filter.mpr ⟨List.mem_of_getElem? (i := 98) rfl, rfl⟩
set_option maxRecDepth 20000 in
theorem wq_18 : Cond.initialized RX0 ∈ WL := List.mem_filter.mpr ⟨List.mem_of_getElem? (i := 82) rfl, rfl⟩
set_option maxRecDepth 20000 in
theorem wq_19 : Cond.fieldLink RX5 25 "CubicForms" "work" "LCubicForms$Cubic;" ∈ WL := List.mem_filter.mpr ⟨List.mem_of_getElem? (i := 229) rfl, rfl⟩
set_option maxRecDepth 20000 in
theorem wq_20 : Cond.fieldLink RX5 29 "CubicForms" "other" "LCubicForms$Cubic;" ∈ WL := List.mem_filter.mpr ⟨List.mem_of_getElem? (i := 230) rfl, rfl⟩
set_option maxRecDepth 20000 in
theorem wq_21 : Cond.classLink RX5 32 RX3 ∈ WL := List.mem_filter.mpr ⟨List.mem_of_getElem? (i := 127) rfl, rfl⟩
set_option maxRecDepth 20000 in
theorem wq_22 : Cond.instantiable RX3 3 ∈ WL := List.mem_filter.mpr ⟨List.mem_of_getElem? (i := 128) rfl, rfl⟩
set_option maxRecDepth 20000 in
theorem wq_23 : Cond.initialized RX3 ∈ WL := List.mem_filter.mpr ⟨List.mem_of_getElem? (i := 83) rfl, rfl⟩
set_option maxRecDepth 20000 in
theorem wq_24 : Cond.fieldLink RX5 35 "CubicForms" "left" "LCubicForms$RingElement;" ∈ WL := List.mem_filter.mpr ⟨List.mem_of_getElem? (i := 231) rfl, rfl⟩
set_option maxRecDepth 20000 in
theorem wq_25 : Cond.fieldLink RX5 39 "CubicForms" "right" "LCubicForms$RingElement;" ∈ WL := List.mem_filter.mpr ⟨List.mem_of_getElem? (i := 232) rfl, rfl⟩
set_option maxRecDepth 20000 in
theorem wq_26 : Cond.classLink RX5 42 RX4 ∈ WL := List.mem_filter.mpr ⟨List.mem_of_getElem? (i := 149) rfl, rfl⟩
set_option maxRecDepth 20000 in
theorem wq_27 : Cond.instantiable RX4 2 ∈ WL := List.mem_filter.mpr ⟨List.mem_of_getElem? (i := 150) rfl, rfl⟩
set_option maxRecDepth 20000 in
theorem wq_28 : Cond.initialized RX4 ∈ WL := List.mem_filter.mpr ⟨List.mem_of_getElem? (i := 84) rfl, rfl⟩
set_option maxRecDepth 20000 in
theorem wq_29 : Cond.fieldLink RX5 45 "CubicForms" "workshop" "LCubicForms$Workshop;" ∈ WL := List.mem_filter.mpr ⟨List.mem_of_getElem? (i := 233) rfl, rfl⟩
set_option maxRecDepth 20000 in
theorem wq_30 : Cond.classLink RX5 49 RX2 ∈ WL := List.mem_filter.mpr ⟨List.mem_of_getElem? (i := 164) rfl, rfl⟩
set_option maxRecDepth 20000 in
theorem wq_31 : Cond.instantiable RX2 7 ∈ WL := List.mem_filter.mpr ⟨List.mem_of_getElem? (i := 165) rfl, rfl⟩
set_option maxRecDepth 20000 in
theorem wq_32 : Cond.initialized RX2 ∈ WL := List.mem_filter.mpr ⟨List.mem_of_getElem? (i := 85) rfl, rfl⟩
set_option maxRecDepth 20000 in
theorem wq_33 : Cond.fieldLink RX5 52 "CubicForms" "ring" "LCubicForms$Ring;" ∈ WL := List.mem_filter.mpr ⟨List.mem_of_getElem? (i := 234) rfl, rfl⟩
set_option maxRecDepth 20000 in
theorem wq_34 : Cond.classLink RX5 56 RX1 ∈ WL := List.mem_filter.mpr ⟨List.mem_of_getElem? (i := 194) rfl, rfl⟩
set_option maxRecDepth 20000 in
theorem wq_35 : Cond.instantiable RX1 7 ∈ WL := List.mem_filter.mpr ⟨List.mem_of_getElem? (i := 195) rfl, rfl⟩
set_option maxRecDepth 20000 in
theorem wq_36 : Cond.initialized RX1 ∈ WL := List.mem_filter.mpr ⟨List.mem_of_getElem? (i := 86) rfl, rfl⟩
set_option maxRecDepth 20000 in
theorem wq_37 : Cond.fieldLink RX5 59 "CubicForms" "table" "LCubicForms$FieldTable;" ∈ WL := List.mem_filter.mpr ⟨List.mem_of_getElem? (i := 235) rfl, rfl⟩
set_option maxRecDepth 20000 in
theorem wq_38 : Cond.instanceMethod yX0_init ∈ WL := List.mem_filter.mpr ⟨List.mem_of_getElem? (i := 100) rfl, rfl⟩
set_option maxRecDepth 20000 in
theorem wq_39 : Cond.code yX0_init cX0_init 1 none ∈ WL := List.mem_filter.mpr ⟨List.mem_of_getElem? (i := 101) rfl, rfl⟩
set_option maxRecDepth 20000 in
theorem wq_40 : Cond.methodLink RX0 3 objectInit ∈ WL := List.mem_filter.mpr ⟨List.mem_of_getElem? (i := 102) rfl, rfl⟩
set_option maxRecDepth 20000 in
theorem wq_41 : Cond.instanceMethod yX3_init ∈ WL := List.mem_filter.mpr ⟨List.mem_of_getElem? (i := 130) rfl, rfl⟩
set_option maxRecDepth 20000 in
theorem wq_42 : Cond.code yX3_init cX3_init 1 none ∈ WL := List.mem_filter.mpr ⟨List.mem_of_getElem? (i := 131) rfl, rfl⟩
set_option maxRecDepth 20000 in
theorem wq_43 : Cond.methodLink RX3 3 objectInit ∈ WL := List.mem_filter.mpr ⟨List.mem_of_getElem? (i := 132) rfl, rfl⟩
set_option maxRecDepth 20000 in
theorem wq_44 : Cond.instanceMethod yX4_init ∈ WL := List.mem_filter.mpr ⟨List.mem_of_getElem? (i := 152) rfl, rfl⟩
set_option maxRecDepth 20000 in
theorem wq_45 : Cond.code yX4_init cX4_init 1 none ∈ WL := List.mem_filter.mpr ⟨List.mem_of_getElem? (i := 153) rfl, rfl⟩
set_option maxRecDepth 20000 in
theorem wq_46 : Cond.methodLink RX4 3 objectInit ∈ WL := List.mem_filter.mpr ⟨List.mem_of_getElem? (i := 154) rfl, rfl⟩
set_option maxRecDepth 20000 in
theorem wq_47 : Cond.classLink RX4 9 RX0 ∈ WL := List.mem_filter.mpr ⟨List.mem_of_getElem? (i := 155) rfl, rfl⟩
set_option maxRecDepth 20000 in
theorem wq_48 : Cond.fieldLink RX4 12 "CubicForms$Workshop" "source" "LCubicForms$Cubic;" ∈ WL := List.mem_filter.mpr ⟨List.mem_of_getElem? (i := 157) rfl, rfl⟩
set_option maxRecDepth 20000 in
theorem wq_49 : Cond.fieldLink RX4 18 "CubicForms$Workshop" "candidate" "LCubicForms$Cubic;" ∈ WL := List.mem_filter.mpr ⟨List.mem_of_getElem? (i := 158) rfl, rfl⟩
set_option maxRecDepth 20000 in
theorem wq_50 : Cond.instanceMethod yX2_init ∈ WL := List.mem_filter.mpr ⟨List.mem_of_getElem? (i := 167) rfl, rfl⟩
set_option maxRecDepth 20000 in
theorem wq_51 : Cond.code yX2_init cX2_init 1 none ∈ WL := List.mem_filter.mpr ⟨List.mem_of_getElem? (i := 168) rfl, rfl⟩
set_option maxRecDepth 20000 in
theorem wq_52 : Cond.methodLink RX2 1 objectInit ∈ WL := List.mem_filter.mpr ⟨List.mem_of_getElem? (i := 169) rfl, rfl⟩
set_option maxRecDepth 20000 in
theorem wq_53 : Cond.classLink RX2 7 RX3 ∈ WL := List.mem_filter.mpr ⟨List.mem_of_getElem? (i := 170) rfl, rfl⟩
set_option maxRecDepth 20000 in
theorem wq_54 : Cond.fieldLink RX2 10 "CubicForms$Ring" "one" "LCubicForms$RingElement;" ∈ WL := List.mem_filter.mpr ⟨List.mem_of_getElem? (i := 172) rfl, rfl⟩
set_option maxRecDepth 20000 in
theorem wq_55 : Cond.fieldLink RX2 16 "CubicForms$Ring" "w" "LCubicForms$RingElement;" ∈ WL := List.mem_filter.mpr ⟨List.mem_of_getElem? (i := 173) rfl, rfl⟩
set_option maxRecDepth 20000 in
theorem wq_56 : Cond.fieldLink RX2 19 "CubicForms$Ring" "z" "LCubicForms$RingElement;" ∈ WL := List.mem_filter.mpr ⟨List.mem_of_getElem? (i := 174) rfl, rfl⟩
set_option maxRecDepth 20000 in
theorem wq_57 : Cond.fieldLink RX2 22 "CubicForms$Ring" "product" "LCubicForms$RingElement;" ∈ WL := List.mem_filter.mpr ⟨List.mem_of_getElem? (i := 175) rfl, rfl⟩
set_option maxRecDepth 20000 in
theorem wq_58 : Cond.fieldLink RX2 25 "CubicForms$Ring" "rowOne" "LCubicForms$RingElement;" ∈ WL := List.mem_filter.mpr ⟨List.mem_of_getElem? (i := 176) rfl, rfl⟩
set_option maxRecDepth 20000 in
theorem wq_59 : Cond.fieldLink RX2 28 "CubicForms$Ring" "rowW" "LCubicForms$RingElement;" ∈ WL := List.mem_filter.mpr ⟨List.mem_of_getElem? (i := 177) rfl, rfl⟩
set_option maxRecDepth 20000 in
theorem wq_60 : Cond.fieldLink RX2 31 "CubicForms$Ring" "rowZ" "LCubicForms$RingElement;" ∈ WL := List.mem_filter.mpr ⟨List.mem_of_getElem? (i := 178) rfl, rfl⟩
set_option maxRecDepth 20000 in
theorem wq_61 : Cond.instanceMethod yX1_init ∈ WL := List.mem_filter.mpr ⟨List.mem_of_getElem? (i := 197) rfl, rfl⟩
set_option maxRecDepth 20000 in
theorem wq_62 : Cond.code yX1_init cX1_init 1 none ∈ WL := List.mem_filter.mpr ⟨List.mem_of_getElem? (i := 198) rfl, rfl⟩
set_option maxRecDepth 20000 in
theorem wq_63 : Cond.methodLink RX1 1 objectInit ∈ WL := List.mem_filter.mpr ⟨List.mem_of_getElem? (i := 199) rfl, rfl⟩
set_option maxRecDepth 20000 in
theorem wq_64 : Cond.fieldLink RX1 9 "CubicForms$FieldTable" "formDiscs" "[I" ∈ WL := List.mem_filter.mpr ⟨List.mem_of_getElem? (i := 202) rfl, rfl⟩
set_option maxRecDepth 20000 in
theorem wq_65 : Cond.fieldLink RX1 13 "CubicForms$FieldTable" "tabulatedCount" "I" ∈ WL := List.mem_filter.mpr ⟨List.mem_of_getElem? (i := 203) rfl, rfl⟩
set_option maxRecDepth 20000 in
theorem wq_66 : Cond.fieldLink RX1 17 "CubicForms$FieldTable" "fieldDiscs" "[I" ∈ WL := List.mem_filter.mpr ⟨List.mem_of_getElem? (i := 204) rfl, rfl⟩
set_option maxRecDepth 20000 in
theorem wq_67 : Cond.fieldLink RX1 20 "CubicForms$FieldTable" "fieldCount" "I" ∈ WL := List.mem_filter.mpr ⟨List.mem_of_getElem? (i := 206) rfl, rfl⟩
set_option maxRecDepth 20000 in
theorem wq_68 : Cond.fieldLink RX1 23 "CubicForms$FieldTable" "filled" "Z" ∈ WL := List.mem_filter.mpr ⟨List.mem_of_getElem? (i := 208) rfl, rfl⟩
set_option maxRecDepth 20000 in
theorem wq_69 : Cond.classLink RX1 27 RX0 ∈ WL := List.mem_filter.mpr ⟨List.mem_of_getElem? (i := 200) rfl, rfl⟩
set_option maxRecDepth 20000 in
theorem wq_70 : Cond.fieldLink RX1 30 "CubicForms$FieldTable" "form" "LCubicForms$Cubic;" ∈ WL := List.mem_filter.mpr ⟨List.mem_of_getElem? (i := 209) rfl, rfl⟩
set_option maxRecDepth 20000 in
theorem wq_71 : Cond.fieldLink RX1 34 "CubicForms$FieldTable" "least" "LCubicForms$Cubic;" ∈ WL := List.mem_filter.mpr ⟨List.mem_of_getElem? (i := 210) rfl, rfl⟩
set_option maxRecDepth 20000 in
theorem wq_72 : Cond.methodLink RL 12 yX6_init ∈ WL := List.mem_filter.mpr ⟨List.mem_of_getElem? (i := 628) rfl, rfl⟩
set_option maxRecDepth 20000 in
theorem wq_73 : Cond.instanceMethod yX6_init ∈ WL := List.mem_filter.mpr ⟨List.mem_of_getElem? (i := 629) rfl, rfl⟩
set_option maxRecDepth 20000 in
theorem wq_74 : Cond.code yX6_init cX6_init 1 none ∈ WL := List.mem_filter.mpr ⟨List.mem_of_getElem? (i := 630) rfl, rfl⟩
set_option maxRecDepth 20000 in
theorem wq_75 : Cond.methodLink RX6 1 objectInit ∈ WL := List.mem_filter.mpr ⟨List.mem_of_getElem? (i := 631) rfl, rfl⟩
set_option maxRecDepth 20000 in
theorem wq_76 : Cond.fieldLink RX6 7 "CubicFormsModel" "stored" "[I" ∈ WL := List.mem_filter.mpr ⟨List.mem_of_getElem? (i := 633) rfl, rfl⟩
set_option maxRecDepth 20000 in
theorem wq_77 : Cond.fieldLink RX6 13 "CubicFormsModel" "held" "[I" ∈ WL := List.mem_filter.mpr ⟨List.mem_of_getElem? (i := 642) rfl, rfl⟩
set_option maxRecDepth 20000 in
theorem wq_78 : Cond.arrayClass .long ∈ WL := List.mem_filter.mpr ⟨List.mem_of_getElem? (i := 702) rfl, rfl⟩
set_option maxRecDepth 20000 in
theorem wq_79 : Cond.fieldLink RX6 16 "CubicFormsModel" "matrix" "[J" ∈ WL := List.mem_filter.mpr ⟨List.mem_of_getElem? (i := 646) rfl, rfl⟩
set_option maxRecDepth 20000 in
theorem wq_80 : Cond.fieldLink RX6 20 "CubicFormsModel" "traces" "[J" ∈ WL := List.mem_filter.mpr ⟨List.mem_of_getElem? (i := 647) rfl, rfl⟩
set_option maxRecDepth 20000 in
theorem wq_81 : Cond.fieldLink RX6 23 "CubicFormsModel" "formsOf" "[I" ∈ WL := List.mem_filter.mpr ⟨List.mem_of_getElem? (i := 653) rfl, rfl⟩
set_option maxRecDepth 20000 in
theorem wq_82 : Cond.fieldLink RX6 26 "CubicFormsModel" "fieldsOf" "[I" ∈ WL := List.mem_filter.mpr ⟨List.mem_of_getElem? (i := 654) rfl, rfl⟩
set_option maxRecDepth 20000 in
theorem wq_83 : Cond.fieldLink RX6 29 "CubicFormsModel" "forms" "I" ∈ WL := List.mem_filter.mpr ⟨List.mem_of_getElem? (i := 632) rfl, rfl⟩
set_option maxRecDepth 20000 in
theorem wq_84 : Cond.methodLink RL 13 yX5_addForm ∈ WL := List.mem_filter.mpr ⟨List.mem_of_getElem? (i := 257) rfl, rfl⟩
set_option maxRecDepth 20000 in
theorem wq_85 : Cond.instanceMethod yX5_addForm ∈ WL := List.mem_filter.mpr ⟨List.mem_of_getElem? (i := 258) rfl, rfl⟩
set_option maxRecDepth 20000 in
theorem wq_86 : Cond.selects RX5 yX5_addForm yX5_addForm ∈ WL := List.mem_filter.mpr ⟨List.mem_of_getElem? (i := 259) rfl, rfl⟩
set_option maxRecDepth 20000 in
theorem wq_87 : Cond.code yX5_addForm cX5_addForm 5 (some .int) ∈ WL := List.mem_filter.mpr ⟨List.mem_of_getElem? (i := 260) rfl, rfl⟩
set_option maxRecDepth 20000 in
theorem wq_88 : Cond.instanceMethod yX0_set ∈ WL := List.mem_filter.mpr ⟨List.mem_of_getElem? (i := 263) rfl, rfl⟩
set_option maxRecDepth 20000 in
theorem wq_89 : Cond.selects RX0 yX0_set yX0_set ∈ WL := List.mem_filter.mpr ⟨List.mem_of_getElem? (i := 0) rfl, rfl⟩
set_option maxRecDepth 20000 in
theorem wq_90 : Cond.code yX0_set cX0_set 9 none ∈ WL := List.mem_filter.mpr ⟨List.mem_of_getElem? (i := 264) rfl, rfl⟩
set_option maxRecDepth 20000 in
theorem wq_91 : Cond.fieldLink RX0 9 "CubicForms$Cubic" "a" "J" ∈ WL := List.mem_filter.mpr ⟨List.mem_of_getElem? (i := 103) rfl, rfl⟩
set_option maxRecDepth 20000 in
theorem wq_92 : Cond.fieldLink RX0 15 "CubicForms$Cubic" "b" "J" ∈ WL := List.mem_filter.mpr ⟨List.mem_of_getElem? (i := 107) rfl, rfl⟩
set_option maxRecDepth 20000 in
theorem wq_93 : Cond.fieldLink RX0 18 "CubicForms$Cubic" "c" "J" ∈ WL := List.mem_filter.mpr ⟨List.mem_of_getElem? (i := 111) rfl, rfl⟩
set_option maxRecDepth 20000 in
theorem wq_94 : Cond.fieldLink RX0 21 "CubicForms$Cubic" "d" "J" ∈ WL := List.mem_filter.mpr ⟨List.mem_of_getElem? (i := 114) rfl, rfl⟩
set_option maxRecDepth 20000 in
theorem wq_95 : Cond.instanceMethod yX0_fitsStore ∈ WL := List.mem_filter.mpr ⟨List.mem_of_getElem? (i := 267) rfl, rfl⟩
set_option maxRecDepth 20000 in
theorem wq_96 : Cond.selects RX0 yX0_fitsStore yX0_fitsStore ∈ WL := List.mem_filter.mpr ⟨List.mem_of_getElem? (i := 1) rfl, rfl⟩
set_option maxRecDepth 20000 in
theorem wq_97 : Cond.code yX0_fitsStore cX0_fitsStore 1 (some .boolean) ∈ WL := List.mem_filter.mpr ⟨List.mem_of_getElem? (i := 268) rfl, rfl⟩
set_option maxRecDepth 20000 in
theorem wq_98 : Cond.constantLong RX0 28 (300) ∈ WL := List.mem_filter.mpr ⟨List.mem_of_getElem? (i := 269) rfl, rfl⟩
set_option maxRecDepth 20000 in
theorem wq_99 : Cond.static yX5_isWithin ∈ WL := List.mem_filter.mpr ⟨List.mem_of_getElem? (i := 271) rfl, rfl⟩
set_option maxRecDepth 20000 in
theorem wq_100 : Cond.code yX5_isWithin cX5_isWithin 4 (some .boolean) ∈ WL := List.mem_filter.mpr ⟨List.mem_of_getElem? (i := 272) rfl, rfl⟩
set_option maxRecDepth 20000 in
theorem wq_101 : Cond.methodLink RX5 71 yX5_store ∈ WL := List.mem_filter.mpr ⟨List.mem_of_getElem? (i := 273) rfl, rfl⟩
set_option maxRecDepth 20000 in
theorem wq_102 : Cond.instanceMethod yX5_store ∈ WL := List.mem_filter.mpr ⟨List.mem_of_getElem? (i := 275) rfl, rfl⟩
set_option maxRecDepth 20000 in
theorem wq_103 : Cond.selects RX5 yX5_store yX5_store ∈ WL := List.mem_filter.mpr ⟨List.mem_of_getElem? (i := 2) rfl, rfl⟩
set_option maxRecDepth 20000 in
theorem wq_104 : Cond.code yX5_store cX5_store 3 (some .int) ∈ WL := List.mem_filter.mpr ⟨List.mem_of_getElem? (i := 276) rfl, rfl⟩
set_option maxRecDepth 20000 in
theorem wq_105 : Cond.methodLink RL 17 yX6_addForm ∈ WL := List.mem_filter.mpr ⟨List.mem_of_getElem? (i := 703) rfl, rfl⟩
set_option maxRecDepth 20000 in
theorem wq_106 : Cond.instanceMethod yX6_addForm ∈ WL := List.mem_filter.mpr ⟨List.mem_of_getElem? (i := 704) rfl, rfl⟩
set_option maxRecDepth 20000 in
theorem wq_107 : Cond.selects RX6 yX6_addForm yX6_addForm ∈ WL := List.mem_filter.mpr ⟨List.mem_of_getElem? (i := 705) rfl, rfl⟩
set_option maxRecDepth 20000 in
theorem wq_108 : Cond.code yX6_addForm cX6_addForm 6 (some .int) ∈ WL := List.mem_filter.mpr ⟨List.mem_of_getElem? (i := 706) rfl, rfl⟩
set_option maxRecDepth 20000 in
theorem wq_109 : Cond.methodLink RX6 58 yX6_set ∈ WL := List.mem_filter.mpr ⟨List.mem_of_getElem? (i := 707) rfl, rfl⟩
set_option maxRecDepth 20000 in
theorem wq_110 : Cond.instanceMethod yX6_set ∈ WL := List.mem_filter.mpr ⟨List.mem_of_getElem? (i := 709) rfl, rfl⟩
set_option maxRecDepth 20000 in
theorem wq_111 : Cond.selects RX6 yX6_set yX6_set ∈ WL := List.mem_filter.mpr ⟨List.mem_of_getElem? (i := 50) rfl, rfl⟩
set_option maxRecDepth 20000 in
theorem wq_112 : Cond.code yX6_set cX6_set 9 none ∈ WL := List.mem_filter.mpr ⟨List.mem_of_getElem? (i := 710) rfl, rfl⟩
set_option maxRecDepth 20000 in
theorem wq_113 : Cond.fieldLink RX6 41 "CubicFormsModel" "fa" "J" ∈ WL := List.mem_filter.mpr ⟨List.mem_of_getElem? (i := 634) rfl, rfl⟩
set_option maxRecDepth 20000 in
theorem wq_114 : Cond.fieldLink RX6 45 "CubicFormsModel" "fb" "J" ∈ WL := List.mem_filter.mpr ⟨List.mem_of_getElem? (i := 635) rfl, rfl⟩
set_option maxRecDepth 20000 in
theorem wq_115 : Cond.fieldLink RX6 48 "CubicFormsModel" "fc" "J" ∈ WL := List.mem_filter.mpr ⟨List.mem_of_getElem? (i := 636) rfl, rfl⟩
set_option maxRecDepth 20000 in
theorem wq_116 : Cond.fieldLink RX6 51 "CubicFormsModel" "fd" "J" ∈ WL := List.mem_filter.mpr ⟨List.mem_of_getElem? (i := 637) rfl, rfl⟩
set_option maxRecDepth 20000 in
theorem wq_117 : Cond.methodLink RX6 62 yX6_store ∈ WL := List.mem_filter.mpr ⟨List.mem_of_getElem? (i := 711) rfl, rfl⟩
set_option maxRecDepth 20000 in
theorem wq_118 : Cond.instanceMethod yX6_store ∈ WL := List.mem_filter.mpr ⟨List.mem_of_getElem? (i := 713) rfl, rfl⟩
set_option maxRecDepth 20000 in
theorem wq_119 : Cond.selects RX6 yX6_store yX6_store ∈ WL := List.mem_filter.mpr ⟨List.mem_of_getElem? (i := 51) rfl, rfl⟩
set_option maxRecDepth 20000 in
theorem wq_120 : Cond.code yX6_store cX6_store 1 (some .int) ∈ WL := List.mem_filter.mpr ⟨List.mem_of_getElem? (i := 714) rfl, rfl⟩
set_option maxRecDepth 20000 in
theorem wq_121 : Cond.methodLink RX6 54 yX6_isCoefficient ∈ WL := List.mem_filter.mpr ⟨List.mem_of_getElem? (i := 715) rfl, rfl⟩
set_option maxRecDepth 20000 in
theorem wq_122 : Cond.static yX6_isCoefficient ∈ WL := List.mem_filter.mpr ⟨List.mem_of_getElem? (i := 716) rfl, rfl⟩
set_option maxRecDepth 20000 in
theorem wq_123 : Cond.code yX6_isCoefficient cX6_isCoefficient 2 (some .boolean) ∈ WL := List.mem_filter.mpr ⟨List.mem_of_getElem? (i := 717) rfl, rfl⟩
set_option maxRecDepth 20000 in
theorem wq_124 : Cond.constantLong RX6 37 (-300) ∈ WL := List.mem_filter.mpr ⟨List.mem_of_getElem? (i := 718) rfl, rfl⟩
set_option maxRecDepth 20000 in
theorem wq_125 : Cond.constantLong RX6 39 (300) ∈ WL := List.mem_filter.mpr ⟨List.mem_of_getElem? (i := 719) rfl, rfl⟩
set_option maxRecDepth 20000 in
theorem wq_126 : Cond.methodLink RX6 33 yX6_isBetween ∈ WL := List.mem_filter.mpr ⟨List.mem_of_getElem? (i := 720) rfl, rfl⟩
set_option maxRecDepth 20000 in
theorem wq_127 : Cond.static yX6_isBetween ∈ WL := List.mem_filter.mpr ⟨List.mem_of_getElem? (i := 721) rfl, rfl⟩
set_option maxRecDepth 20000 in
theorem wq_128 : Cond.code yX6_isBetween cX6_isBetween 6 (some .boolean) ∈ WL := List.mem_filter.mpr ⟨List.mem_of_getElem? (i := 722) rfl, rfl⟩
set_option maxRecDepth 20000 in
theorem wq_129 : Cond.methodLink RL 18 yX5_clearForms ∈ WL := List.mem_filter.mpr ⟨List.mem_of_getElem? (i := 277) rfl, rfl⟩
set_option maxRecDepth 20000 in
theorem wq_130 : Cond.instanceMethod yX5_clearForms ∈ WL := List.mem_filter.mpr ⟨List.mem_of_getElem? (i := 278) rfl, rfl⟩
set_option maxRecDepth 20000 in
theorem wq_131 : Cond.selects RX5 yX5_clearForms yX5_clearForms ∈ WL := List.mem_filter.mpr ⟨List.mem_of_getElem? (i := 279) rfl, rfl⟩
set_option maxRecDepth 20000 in
theorem wq_132 : Cond.code yX5_clearForms cX5_clearForms 2 (some .int) ∈ WL := List.mem_filter.mpr ⟨List.mem_of_getElem? (i := 280) rfl, rfl⟩
set_option maxRecDepth 20000 in
theorem wq_133 : Cond.methodLink RL 22 yX6_clearForms ∈ WL := List.mem_filter.mpr ⟨List.mem_of_getElem? (i := 723) rfl, rfl⟩
set_option maxRecDepth 20000 in
theorem wq_134 : Cond.instanceMethod yX6_clearForms ∈ WL := List.mem_filter.mpr ⟨List.mem_of_getElem? (i := 724) rfl, rfl⟩
set_option maxRecDepth 20000 in
theorem wq_135 : Cond.selects RX6 yX6_clearForms yX6_clearForms ∈ WL := List.mem_filter.mpr ⟨List.mem_of_getElem? (i := 725) rfl, rfl⟩
set_option maxRecDepth 20000 in
theorem wq_136 : Cond.code yX6_clearForms cX6_clearForms 2 (some .int) ∈ WL := List.mem_filter.mpr ⟨List.mem_of_getElem? (i := 726) rfl, rfl⟩
set_option maxRecDepth 20000 in
theorem wq_137 : Cond.methodLink RL 23 yX5_coefficient ∈ WL := List.mem_filter.mpr ⟨List.mem_of_getElem? (i := 281) rfl, rfl⟩
set_option maxRecDepth 20000 in
theorem wq_138 : Cond.instanceMethod yX5_coefficient ∈ WL := List.mem_filter.mpr ⟨List.mem_of_getElem? (i := 282) rfl, rfl⟩
set_option maxRecDepth 20000 in
theorem wq_139 : Cond.selects RX5 yX5_coefficient yX5_coefficient ∈ WL := List.mem_filter.mpr ⟨List.mem_of_getElem? (i := 283) rfl, rfl⟩
set_option maxRecDepth 20000 in
theorem wq_140 : Cond.code yX5_coefficient cX5_coefficient 3 (some .int) ∈ WL := List.mem_filter.mpr ⟨List.mem_of_getElem? (i := 284) rfl, rfl⟩
set_option maxRecDepth 20000 in
theorem wq_141 : Cond.methodLink RX5 75 yX5_isForm ∈ WL := List.mem_filter.mpr ⟨List.mem_of_getElem? (i := 285) rfl, rfl⟩
set_option maxRecDepth 20000 in
theorem wq_142 : Cond.instanceMethod yX5_isForm ∈ WL := List.mem_filter.mpr ⟨List.mem_of_getElem? (i := 287) rfl, rfl⟩
set_option maxRecDepth 20000 in
theorem wq_143 : Cond.selects RX5 yX5_isForm yX5_isForm ∈ WL := List.mem_filter.mpr ⟨List.mem_of_getElem? (i := 3) rfl, rfl⟩
set_option maxRecDepth 20000 in
theorem wq_144 : Cond.code yX5_isForm cX5_isForm 2 (some .boolean) ∈ WL := List.mem_filter.mpr ⟨List.mem_of_getElem? (i := 288) rfl, rfl⟩
set_option maxRecDepth 20000 in
theorem wq_145 : Cond.methodLink RL 27 yX6_coefficient ∈ WL := List.mem_filter.mpr ⟨List.mem_of_getElem? (i := 727) rfl, rfl⟩
set_option maxRecDepth 20000 in
theorem wq_146 : Cond.instanceMethod yX6_coefficient ∈ WL := List.mem_filter.mpr ⟨List.mem_of_getElem? (i := 728) rfl, rfl⟩
set_option maxRecDepth 20000 in
theorem wq_147 : Cond.selects RX6 yX6_coefficient yX6_coefficient ∈ WL := List.mem_filter.mpr ⟨List.mem_of_getElem? (i := 729) rfl, rfl⟩
set_option maxRecDepth 20000 in
theorem wq_148 : Cond.code yX6_coefficient cX6_coefficient 3 (some .int) ∈ WL := List.mem_filter.mpr ⟨List.mem_of_getElem? (i := 730) rfl, rfl⟩
set_option maxRecDepth 20000 in
theorem wq_149 : Cond.constantLong RX6 70 (3) ∈ WL := List.mem_filter.mpr ⟨List.mem_of_getElem? (i := 735) rfl, rfl⟩
set_option maxRecDepth 20000 in
theorem wq_150 : Cond.methodLink RX6 66 yX6_isForm ∈ WL := List.mem_filter.mpr ⟨List.mem_of_getElem? (i := 731) rfl, rfl⟩
set_option maxRecDepth 20000 in
theorem wq_151 : Cond.instanceMethod yX6_isForm ∈ WL := List.mem_filter.mpr ⟨List.mem_of_getElem? (i := 733) rfl, rfl⟩
set_option maxRecDepth 20000 in
theorem wq_152 : Cond.selects RX6 yX6_isForm yX6_isForm ∈ WL := List.mem_filter.mpr ⟨List.mem_of_getElem? (i := 52) rfl, rfl⟩
set_option maxRecDepth 20000 in
theorem wq_153 : Cond.code yX6_isForm cX6_isForm 2 (some .boolean) ∈ WL := List.mem_filter.mpr ⟨List.mem_of_getElem? (i := 734) rfl, rfl⟩
set_option maxRecDepth 20000 in
theorem wq_154 : Cond.methodLink RL 28 yX5_discriminant ∈ WL := List.mem_filter.mpr ⟨List.mem_of_getElem? (i := 289) rfl, rfl⟩
set_option maxRecDepth 20000 in
theorem wq_155 : Cond.instanceMethod yX5_discriminant ∈ WL := List.mem_filter.mpr ⟨List.mem_of_getElem? (i := 290) rfl, rfl⟩
set_option maxRecDepth 20000 in
theorem wq_156 : Cond.selects RX5 yX5_discriminant yX5_discriminant ∈ WL := List.mem_filter.mpr ⟨List.mem_of_getElem? (i := 291) rfl, rfl⟩
set_option maxRecDepth 20000 in
theorem wq_157 : Cond.code yX5_discriminant cX5_discriminant 2 (some .long) ∈ WL := List.mem_filter.mpr ⟨List.mem_of_getElem? (i := 292) rfl, rfl⟩
set_option maxRecDepth 20000 in
theorem wq_158 : Cond.constantLong RX5 87 (-9223372036854775808) ∈ WL := List.mem_filter.mpr ⟨List.mem_of_getElem? (i := 304) rfl, rfl⟩
set_option maxRecDepth 20000 in
theorem wq_159 : Cond.methodLink RX5 79 yX5_load ∈ WL := List.mem_filter.mpr ⟨List.mem_of_getElem? (i := 293) rfl, rfl⟩
set_option maxRecDepth 20000 in
theorem wq_160 : Cond.instanceMethod yX5_load ∈ WL := List.mem_filter.mpr ⟨List.mem_of_getElem? (i := 295) rfl, rfl⟩
set_option maxRecDepth 20000 in
theorem wq_161 : Cond.selects RX5 yX5_load yX5_load ∈ WL := List.mem_filter.mpr ⟨List.mem_of_getElem? (i := 4) rfl, rfl⟩
set_option maxRecDepth 20000 in
theorem wq_162 : Cond.code yX5_load cX5_load 4 (some .boolean) ∈ WL := List.mem_filter.mpr ⟨List.mem_of_getElem? (i := 296) rfl, rfl⟩
set_option maxRecDepth 20000 in
theorem wq_163 : Cond.instanceMethod yX0_disc ∈ WL := List.mem_filter.mpr ⟨List.mem_of_getElem? (i := 299) rfl, rfl⟩
set_option maxRecDepth 20000 in
theorem wq_164 : Cond.selects RX0 yX0_disc yX0_disc ∈ WL := List.mem_filter.mpr ⟨List.mem_of_getElem? (i := 5) rfl, rfl⟩
set_option maxRecDepth 20000 in
theorem wq_165 : Cond.code yX0_disc cX0_disc 1 (some .long) ∈ WL := List.mem_filter.mpr ⟨List.mem_of_getElem? (i := 300) rfl, rfl⟩
set_option maxRecDepth 20000 in
theorem wq_166 : Cond.constantLong RX0 34 (4) ∈ WL := List.mem_filter.mpr ⟨List.mem_of_getElem? (i := 301) rfl, rfl⟩
set_option maxRecDepth 20000 in
theorem wq_167 : Cond.constantLong RX0 36 (27) ∈ WL := List.mem_filter.mpr ⟨List.mem_of_getElem? (i := 302) rfl, rfl⟩
set_option maxRecDepth 20000 in
theorem wq_168 : Cond.constantLong RX0 38 (18) ∈ WL := List.mem_filter.mpr ⟨List.mem_of_getElem? (i := 303) rfl, rfl⟩
set_option maxRecDepth 20000 in
theorem wq_169 : Cond.methodLink RL 32 yX6_discriminant ∈ WL := List.mem_filter.mpr ⟨List.mem_of_getElem? (i := 736) rfl, rfl⟩
set_option maxRecDepth 20000 in
theorem wq_170 : Cond.instanceMethod yX6_discriminant ∈ WL := List.mem_filter.mpr ⟨List.mem_of_getElem? (i := 737) rfl, rfl⟩
set_option maxRecDepth 20000 in
theorem wq_171 : Cond.selects RX6 yX6_discriminant yX6_discriminant ∈ WL := List.mem_filter.mpr ⟨List.mem_of_getElem? (i := 738) rfl, rfl⟩
set_option maxRecDepth 20000 in
theorem wq_172 : Cond.code yX6_discriminant cX6_discriminant 2 (some .long) ∈ WL := List.mem_filter.mpr ⟨List.mem_of_getElem? (i := 739) rfl, rfl⟩
set_option maxRecDepth 20000 in
theorem wq_173 : Cond.constantLong RX6 80 (-9223372036854775808) ∈ WL := List.mem_filter.mpr ⟨List.mem_of_getElem? (i := 740) rfl, rfl⟩
set_option maxRecDepth 20000 in
theorem wq_174 : Cond.methodLink RX6 82 yX6_load ∈ WL := List.mem_filter.mpr ⟨List.mem_of_getElem? (i := 741) rfl, rfl⟩
set_option maxRecDepth 20000 in
theorem wq_175 : Cond.instanceMethod yX6_load ∈ WL := List.mem_filter.mpr ⟨List.mem_of_getElem? (i := 743) rfl, rfl⟩
set_option maxRecDepth 20000 in
theorem wq_176 : Cond.selects RX6 yX6_load yX6_load ∈ WL := List.mem_filter.mpr ⟨List.mem_of_getElem? (i := 53) rfl, rfl⟩
set_option maxRecDepth 20000 in
theorem wq_177 : Cond.code yX6_load cX6_load 2 none ∈ WL := List.mem_filter.mpr ⟨List.mem_of_getElem? (i := 744) rfl, rfl⟩
set_option maxRecDepth 20000 in
theorem wq_178 : Cond.methodLink RX6 86 yX6_discriminantNow ∈ WL := List.mem_filter.mpr ⟨List.mem_of_getElem? (i := 745) rfl, rfl⟩
set_option maxRecDepth 20000 in
theorem wq_179 : Cond.instanceMethod yX6_discriminantNow ∈ WL := List.mem_filter.mpr ⟨List.mem_of_getElem? (i := 747) rfl, rfl⟩
set_option maxRecDepth 20000 in
theorem wq_180 : Cond.selects RX6 yX6_discriminantNow yX6_discriminantNow ∈ WL := List.mem_filter.mpr ⟨List.mem_of_getElem? (i := 54) rfl, rfl⟩
set_option maxRecDepth 20000 in
theorem wq_181 : Cond.code yX6_discriminantNow cX6_discriminantNow 1 (some .long) ∈ WL := List.mem_filter.mpr ⟨List.mem_of_getElem? (i := 748) rfl, rfl⟩
set_option maxRecDepth 20000 in
theorem wq_182 : Cond.constantLong RX6 72 (4) ∈ WL := List.mem_filter.mpr ⟨List.mem_of_getElem? (i := 749) rfl, rfl⟩
set_option maxRecDepth 20000 in
theorem wq_183 : Cond.constantLong RX6 74 (27) ∈ WL := List.mem_filter.mpr ⟨List.mem_of_getElem? (i := 750) rfl, rfl⟩
set_option maxRecDepth 20000 in
theorem wq_184 : Cond.constantLong RX6 76 (18) ∈ WL := List.mem_filter.mpr ⟨List.mem_of_getElem? (i := 751) rfl, rfl⟩
set_option maxRecDepth 20000 in
theorem wq_185 : Cond.methodLink RL 33 yX5_hessian ∈ WL := List.mem_filter.mpr ⟨List.mem_of_getElem? (i := 305) rfl, rfl⟩
set_option maxRecDepth 20000 in
theorem wq_186 : Cond.instanceMethod yX5_hessian ∈ WL := List.mem_filter.mpr ⟨List.mem_of_getElem? (i := 306) rfl, rfl⟩
set_option maxRecDepth 20000 in
theorem wq_187 : Cond.selects RX5 yX5_hessian yX5_hessian ∈ WL := List.mem_filter.mpr ⟨List.mem_of_getElem? (i := 307) rfl, rfl⟩
set_option maxRecDepth 20000 in
theorem wq_188 : Cond.code yX5_hessian cX5_hessian 3 (some .long) ∈ WL := List.mem_filter.mpr ⟨List.mem_of_getElem? (i := 308) rfl, rfl⟩
set_option maxRecDepth 20000 in
theorem wq_189 : Cond.instanceMethod yX0_hessianP ∈ WL := List.mem_filter.mpr ⟨List.mem_of_getElem? (i := 311) rfl, rfl⟩
set_option maxRecDepth 20000 in
theorem wq_190 : Cond.selects RX0 yX0_hessianP yX0_hessianP ∈ WL := List.mem_filter.mpr ⟨List.mem_of_getElem? (i := 6) rfl, rfl⟩
set_option maxRecDepth 20000 in
theorem wq_191 : Cond.code yX0_hessianP cX0_hessianP 1 (some .long) ∈ WL := List.mem_filter.mpr ⟨List.mem_of_getElem? (i := 312) rfl, rfl⟩
set_option maxRecDepth 20000 in
theorem wq_192 : Cond.constantLong RX0 40 (3) ∈ WL := List.mem_filter.mpr ⟨List.mem_of_getElem? (i := 313) rfl, rfl⟩
set_option maxRecDepth 20000 in
theorem wq_193 : Cond.instanceMethod yX0_hessianQ ∈ WL := List.mem_filter.mpr ⟨List.mem_of_getElem? (i := 316) rfl, rfl⟩
set_option maxRecDepth 20000 in
theorem wq_194 : Cond.selects RX0 yX0_hessianQ yX0_hessianQ ∈ WL := List.mem_filter.mpr ⟨List.mem_of_getElem? (i := 7) rfl, rfl⟩
set_option maxRecDepth 20000 in
theorem wq_195 : Cond.code yX0_hessianQ cX0_hessianQ 1 (some .long) ∈ WL := List.mem_filter.mpr ⟨List.mem_of_getElem? (i := 317) rfl, rfl⟩
set_option maxRecDepth 20000 in
theorem wq_196 : Cond.constantLong RX0 42 (9) ∈ WL := List.mem_filter.mpr ⟨List.mem_of_getElem? (i := 318) rfl, rfl⟩
set_option maxRecDepth 20000 in
theorem wq_197 : Cond.instanceMethod yX0_hessianR ∈ WL := List.mem_filter.mpr ⟨List.mem_of_getElem? (i := 321) rfl, rfl⟩
set_option maxRecDepth 20000 in
theorem wq_198 : Cond.selects RX0 yX0_hessianR yX0_hessianR ∈ WL := List.mem_filter.mpr ⟨List.mem_of_getElem? (i := 8) rfl, rfl⟩
set_option maxRecDepth 20000 in
theorem wq_199 : Cond.code yX0_hessianR cX0_hessianR 1 (some .long) ∈ WL := List.mem_filter.mpr ⟨List.mem_of_getElem? (i := 322) rfl, rfl⟩
set_option maxRecDepth 20000 in
theorem wq_200 : Cond.methodLink RL 37 yX6_hessian ∈ WL := List.mem_filter.mpr ⟨List.mem_of_getElem? (i := 752) rfl, rfl⟩
set_option maxRecDepth 20000 in
theorem wq_201 : Cond.instanceMethod yX6_hessian ∈ WL := List.mem_filter.mpr ⟨List.mem_of_getElem? (i := 753) rfl, rfl⟩
set_option maxRecDepth 20000 in
theorem wq_202 : Cond.selects RX6 yX6_hessian yX6_hessian ∈ WL := List.mem_filter.mpr ⟨List.mem_of_getElem? (i := 754) rfl, rfl⟩
set_option maxRecDepth 20000 in
theorem wq_203 : Cond.code yX6_hessian cX6_hessian 3 (some .long) ∈ WL := List.mem_filter.mpr ⟨List.mem_of_getElem? (i := 755) rfl, rfl⟩
set_option maxRecDepth 20000 in
theorem wq_204 : Cond.constantLong RX6 90 (2) ∈ WL := List.mem_filter.mpr ⟨List.mem_of_getElem? (i := 756) rfl, rfl⟩
set_option maxRecDepth 20000 in
theorem wq_205 : Cond.methodLink RX6 92 yX6_hessianP ∈ WL := List.mem_filter.mpr ⟨List.mem_of_getElem? (i := 757) rfl, rfl⟩
set_option maxRecDepth 20000 in
theorem wq_206 : Cond.instanceMethod yX6_hessianP ∈ WL := List.mem_filter.mpr ⟨List.mem_of_getElem? (i := 759) rfl, rfl⟩
set_option maxRecDepth 20000 in
theorem wq_207 : Cond.selects RX6 yX6_hessianP yX6_hessianP ∈ WL := List.mem_filter.mpr ⟨List.mem_of_getElem? (i := 55) rfl, rfl⟩
set_option maxRecDepth 20000 in
theorem wq_208 : Cond.code yX6_hessianP cX6_hessianP 1 (some .long) ∈ WL := List.mem_filter.mpr ⟨List.mem_of_getElem? (i := 760) rfl, rfl⟩
set_option maxRecDepth 20000 in
theorem wq_209 : Cond.methodLink RX6 95 yX6_hessianQ ∈ WL := List.mem_filter.mpr ⟨List.mem_of_getElem? (i := 761) rfl, rfl⟩
set_option maxRecDepth 20000 in
theorem wq_210 : Cond.instanceMethod yX6_hessianQ ∈ WL := List.mem_filter.mpr ⟨List.mem_of_getElem? (i := 763) rfl, rfl⟩
set_option maxRecDepth 20000 in
theorem wq_211 : Cond.selects RX6 yX6_hessianQ yX6_hessianQ ∈ WL := List.mem_filter.mpr ⟨List.mem_of_getElem? (i := 56) rfl, rfl⟩
set_option maxRecDepth 20000 in
theorem wq_212 : Cond.code yX6_hessianQ cX6_hessianQ 1 (some .long) ∈ WL := List.mem_filter.mpr ⟨List.mem_of_getElem? (i := 764) rfl, rfl⟩
set_option maxRecDepth 20000 in
theorem wq_213 : Cond.constantLong RX6 78 (9) ∈ WL := List.mem_filter.mpr ⟨List.mem_of_getElem? (i := 765) rfl, rfl⟩
set_option maxRecDepth 20000 in
theorem wq_214 : Cond.methodLink RX6 98 yX6_hessianR ∈ WL := List.mem_filter.mpr ⟨List.mem_of_getElem? (i := 766) rfl, rfl⟩
set_option maxRecDepth 20000 in
theorem wq_215 : Cond.instanceMethod yX6_hessianR ∈ WL := List.mem_filter.mpr ⟨List.mem_of_getElem? (i := 768) rfl, rfl⟩
set_option maxRecDepth 20000 in
theorem wq_216 : Cond.selects RX6 yX6_hessianR yX6_hessianR ∈ WL := List.mem_filter.mpr ⟨List.mem_of_getElem? (i := 57) rfl, rfl⟩
set_option maxRecDepth 20000 in
theorem wq_217 : Cond.code yX6_hessianR cX6_hessianR 1 (some .long) ∈ WL := List.mem_filter.mpr ⟨List.mem_of_getElem? (i := 769) rfl, rfl⟩
set_option maxRecDepth 20000 in
theorem wq_218 : Cond.methodLink RL 38 yX5_value ∈ WL := List.mem_filter.mpr ⟨List.mem_of_getElem? (i := 323) rfl, rfl⟩
set_option maxRecDepth 20000 in
theorem wq_219 : Cond.instanceMethod yX5_value ∈ WL := List.mem_filter.mpr ⟨List.mem_of_getElem? (i := 324) rfl, rfl⟩
set_option maxRecDepth 20000 in
theorem wq_220 : Cond.selects RX5 yX5_value yX5_value ∈ WL := List.mem_filter.mpr ⟨List.mem_of_getElem? (i := 325) rfl, rfl⟩
set_option maxRecDepth 20000 in
theorem wq_221 : Cond.code yX5_value cX5_value 4 (some .long) ∈ WL := List.mem_filter.mpr ⟨List.mem_of_getElem? (i := 326) rfl, rfl⟩
set_option maxRecDepth 20000 in
theorem wq_222 : Cond.constantLong RX5 98 (1000) ∈ WL := List.mem_filter.mpr ⟨List.mem_of_getElem? (i := 327) rfl, rfl⟩
set_option maxRecDepth 20000 in
theorem wq_223 : Cond.methodLink RX5 100 yX5_isWithin ∈ WL := List.mem_filter.mpr ⟨List.mem_of_getElem? (i := 328) rfl, rfl⟩
set_option maxRecDepth 20000 in
theorem wq_224 : Cond.instanceMethod yX0_valueAt ∈ WL := List.mem_filter.mpr ⟨List.mem_of_getElem? (i := 331) rfl, rfl⟩
set_option maxRecDepth 20000 in
theorem wq_225 : Cond.selects RX0 yX0_valueAt yX0_valueAt ∈ WL := List.mem_filter.mpr ⟨List.mem_of_getElem? (i := 9) rfl, rfl⟩
set_option maxRecDepth 20000 in
theorem wq_226 : Cond.code yX0_valueAt cX0_valueAt 5 (some .long) ∈ WL := List.mem_filter.mpr ⟨List.mem_of_getElem? (i := 332) rfl, rfl⟩
set_option maxRecDepth 20000 in
theorem wq_227 : Cond.methodLink RL 42 yX6_value ∈ WL := List.mem_filter.mpr ⟨List.mem_of_getElem? (i := 770) rfl, rfl⟩
set_option maxRecDepth 20000 in
theorem wq_228 : Cond.instanceMethod yX6_value ∈ WL := List.mem_filter.mpr ⟨List.mem_of_getElem? (i := 771) rfl, rfl⟩
set_option maxRecDepth 20000 in
theorem wq_229 : Cond.selects RX6 yX6_value yX6_value ∈ WL := List.mem_filter.mpr ⟨List.mem_of_getElem? (i := 772) rfl, rfl⟩
set_option maxRecDepth 20000 in
theorem wq_230 : Cond.code yX6_value cX6_value 4 (some .long) ∈ WL := List.mem_filter.mpr ⟨List.mem_of_getElem? (i := 773) rfl, rfl⟩
set_option maxRecDepth 20000 in
theorem wq_231 : Cond.constantLong RX6 101 (-1000) ∈ WL := List.mem_filter.mpr ⟨List.mem_of_getElem? (i := 774) rfl, rfl⟩
set_option maxRecDepth 20000 in
theorem wq_232 : Cond.constantLong RX6 103 (1000) ∈ WL := List.mem_filter.mpr ⟨List.mem_of_getElem? (i := 775) rfl, rfl⟩
set_option maxRecDepth 20000 in
theorem wq_233 : Cond.methodLink RX6 105 yX6_valueNow ∈ WL := List.mem_filter.mpr ⟨List.mem_of_getElem? (i := 776) rfl, rfl⟩
set_option maxRecDepth 20000 in
theorem wq_234 : Cond.instanceMethod yX6_valueNow ∈ WL := List.mem_filter.mpr ⟨List.mem_of_getElem? (i := 778) rfl, rfl⟩
set_option maxRecDepth 20000 in
theorem wq_235 : Cond.selects RX6 yX6_valueNow yX6_valueNow ∈ WL := List.mem_filter.mpr ⟨List.mem_of_getElem? (i := 58) rfl, rfl⟩
set_option maxRecDepth 20000 in
theorem wq_236 : Cond.code yX6_valueNow cX6_valueNow 5 (some .long) ∈ WL := List.mem_filter.mpr ⟨List.mem_of_getElem? (i := 779) rfl, rfl⟩
set_option maxRecDepth 20000 in
theorem wq_237 : Cond.methodLink RL 43 yX5_substitute ∈ WL := List.mem_filter.mpr ⟨List.mem_of_getElem? (i := 333) rfl, rfl⟩
set_option maxRecDepth 20000 in
theorem wq_238 : Cond.instanceMethod yX5_substitute ∈ WL := List.mem_filter.mpr ⟨List.mem_of_getElem? (i := 334) rfl, rfl⟩
set_option maxRecDepth 20000 in
theorem wq_239 : Cond.selects RX5 yX5_substitute yX5_substitute ∈ WL := List.mem_filter.mpr ⟨List.mem_of_getElem? (i := 335) rfl, rfl⟩
set_option maxRecDepth 20000 in
theorem wq_240 : Cond.code yX5_substitute cX5_substitute 6 (some .int) ∈ WL := List.mem_filter.mpr ⟨List.mem_of_getElem? (i := 336) rfl, rfl⟩
set_option maxRecDepth 20000 in
theorem wq_241 : Cond.methodLink RX5 108 yX5_isSubstitution ∈ WL := List.mem_filter.mpr ⟨List.mem_of_getElem? (i := 337) rfl, rfl⟩
set_option maxRecDepth 20000 in
theorem wq_242 : Cond.static yX5_isSubstitution ∈ WL := List.mem_filter.mpr ⟨List.mem_of_getElem? (i := 338) rfl, rfl⟩
set_option maxRecDepth 20000 in
theorem wq_243 : Cond.code yX5_isSubstitution cX5_isSubstitution 4 (some .boolean) ∈ WL := List.mem_filter.mpr ⟨List.mem_of_getElem? (i := 339) rfl, rfl⟩
set_option maxRecDepth 20000 in
theorem wq_244 : Cond.constantLong RX5 202 (100) ∈ WL := List.mem_filter.mpr ⟨List.mem_of_getElem? (i := 340) rfl, rfl⟩
set_option maxRecDepth 20000 in
theorem wq_245 : Cond.methodLink RX5 204 Lib.Math.abs.name ∈ WL := List.mem_filter.mpr ⟨List.mem_of_getElem? (i := 341) rfl, rfl⟩
set_option maxRecDepth 20000 in
theorem wq_246 : Cond.static Lib.Math.abs.name ∈ WL := List.mem_filter.mpr ⟨List.mem_of_getElem? (i := 342) rfl, rfl⟩
set_option maxRecDepth 20000 in
theorem wq_247 : Cond.initialized "java/lang/Math" ∈ WL := List.mem_filter.mpr ⟨List.mem_of_getElem? (i := 88) rfl, rfl⟩
set_option maxRecDepth 20000 in
theorem wq_248 : Cond.code Lib.Math.abs.name Lib.Math.abs.code 1 (some .int) ∈ WL := List.mem_filter.mpr ⟨List.mem_of_getElem? (i := 343) rfl, rfl⟩
set_option maxRecDepth 20000 in
theorem wq_249 : Cond.instanceMethod yX0_becomeSubstituted ∈ WL := List.mem_filter.mpr ⟨List.mem_of_getElem? (i := 346) rfl, rfl⟩
set_option maxRecDepth 20000 in
theorem wq_250 : Cond.selects RX0 yX0_becomeSubstituted yX0_becomeSubstituted ∈ WL := List.mem_filter.mpr ⟨List.mem_of_getElem? (i := 10) rfl, rfl⟩
set_option maxRecDepth 20000 in
theorem wq_251 : Cond.code yX0_becomeSubstituted cX0_becomeSubstituted 10 none ∈ WL := List.mem_filter.mpr ⟨List.mem_of_getElem? (i := 347) rfl, rfl⟩
set_option maxRecDepth 20000 in
theorem wq_252 : Cond.constantLong RX0 58 (2) ∈ WL := List.mem_filter.mpr ⟨List.mem_of_getElem? (i := 349) rfl, rfl⟩
set_option maxRecDepth 20000 in
theorem wq_253 : Cond.methodLink RX0 54 yX0_valueAt ∈ WL := List.mem_filter.mpr ⟨List.mem_of_getElem? (i := 348) rfl, rfl⟩
set_option maxRecDepth 20000 in
theorem wq_254 : Cond.methodLink RX5 116 yX5_storeIfFits ∈ WL := List.mem_filter.mpr ⟨List.mem_of_getElem? (i := 350) rfl, rfl⟩
set_option maxRecDepth 20000 in
theorem wq_255 : Cond.instanceMethod yX5_storeIfFits ∈ WL := List.mem_filter.mpr ⟨List.mem_of_getElem? (i := 352) rfl, rfl⟩
set_option maxRecDepth 20000 in
theorem wq_256 : Cond.selects RX5 yX5_storeIfFits yX5_storeIfFits ∈ WL := List.mem_filter.mpr ⟨List.mem_of_getElem? (i := 11) rfl, rfl⟩
set_option maxRecDepth 20000 in
theorem wq_257 : Cond.code yX5_storeIfFits cX5_storeIfFits 2 (some .int) ∈ WL := List.mem_filter.mpr ⟨List.mem_of_getElem? (i := 353) rfl, rfl⟩
set_option maxRecDepth 20000 in
theorem wq_258 : Cond.methodLink RL 47 yX6_substitute ∈ WL := List.mem_filter.mpr ⟨List.mem_of_getElem? (i := 780) rfl, rfl⟩
set_option maxRecDepth 20000 in
theorem wq_259 : Cond.instanceMethod yX6_substitute ∈ WL := List.mem_filter.mpr ⟨List.mem_of_getElem? (i := 781) rfl, rfl⟩
set_option maxRecDepth 20000 in
theorem wq_260 : Cond.selects RX6 yX6_substitute yX6_substitute ∈ WL := List.mem_filter.mpr ⟨List.mem_of_getElem? (i := 782) rfl, rfl⟩
set_option maxRecDepth 20000 in
theorem wq_261 : Cond.code yX6_substitute cX6_substitute 6 (some .int) ∈ WL := List.mem_filter.mpr ⟨List.mem_of_getElem? (i := 783) rfl, rfl⟩
set_option maxRecDepth 20000 in
theorem wq_262 : Cond.methodLink RX6 117 yX6_isEntry ∈ WL := List.mem_filter.mpr ⟨List.mem_of_getElem? (i := 784) rfl, rfl⟩
set_option maxRecDepth 20000 in
theorem wq_263 : Cond.static yX6_isEntry ∈ WL := List.mem_filter.mpr ⟨List.mem_of_getElem? (i := 785) rfl, rfl⟩
set_option maxRecDepth 20000 in
theorem wq_264 : Cond.code yX6_isEntry cX6_isEntry 1 (some .boolean) ∈ WL := List.mem_filter.mpr ⟨List.mem_of_getElem? (i := 786) rfl, rfl⟩
set_option maxRecDepth 20000 in
theorem wq_265 : Cond.constantLong RX6 113 (-100) ∈ WL := List.mem_filter.mpr ⟨List.mem_of_getElem? (i := 787) rfl, rfl⟩
set_option maxRecDepth 20000 in
theorem wq_266 : Cond.constantLong RX6 115 (100) ∈ WL := List.mem_filter.mpr ⟨List.mem_of_getElem? (i := 788) rfl, rfl⟩
set_option maxRecDepth 20000 in
theorem wq_267 : Cond.methodLink RX6 120 yX6_isUnit ∈ WL := List.mem_filter.mpr ⟨List.mem_of_getElem? (i := 789) rfl, rfl⟩
set_option maxRecDepth 20000 in
theorem wq_268 : Cond.static yX6_isUnit ∈ WL := List.mem_filter.mpr ⟨List.mem_of_getElem? (i := 790) rfl, rfl⟩
set_option maxRecDepth 20000 in
theorem wq_269 : Cond.code yX6_isUnit cX6_isUnit 4 (some .boolean) ∈ WL := List.mem_filter.mpr ⟨List.mem_of_getElem? (i := 791) rfl, rfl⟩
set_option maxRecDepth 20000 in
theorem wq_270 : Cond.methodLink RX6 109 yX6_size ∈ WL := List.mem_filter.mpr ⟨List.mem_of_getElem? (i := 792) rfl, rfl⟩
set_option maxRecDepth 20000 in
theorem wq_271 : Cond.static yX6_size ∈ WL := List.mem_filter.mpr ⟨List.mem_of_getElem? (i := 793) rfl, rfl⟩
set_option maxRecDepth 20000 in
theorem wq_272 : Cond.code yX6_size cX6_size 2 (some .long) ∈ WL := List.mem_filter.mpr ⟨List.mem_of_getElem? (i := 794) rfl, rfl⟩
set_option maxRecDepth 20000 in
theorem wq_273 : Cond.methodLink RX6 124 yX6_apply ∈ WL := List.mem_filter.mpr ⟨List.mem_of_getElem? (i := 795) rfl, rfl⟩
set_option maxRecDepth 20000 in
theorem wq_274 : Cond.instanceMethod yX6_apply ∈ WL := List.mem_filter.mpr ⟨List.mem_of_getElem? (i := 797) rfl, rfl⟩
set_option maxRecDepth 20000 in
theorem wq_275 : Cond.selects RX6 yX6_apply yX6_apply ∈ WL := List.mem_filter.mpr ⟨List.mem_of_getElem? (i := 59) rfl, rfl⟩
set_option maxRecDepth 20000 in
theorem wq_276 : Cond.code yX6_apply cX6_apply 17 none ∈ WL := List.mem_filter.mpr ⟨List.mem_of_getElem? (i := 798) rfl, rfl⟩
set_option maxRecDepth 20000 in
theorem wq_277 : Cond.methodLink RL 48 yX5_isReducible ∈ WL := List.mem_filter.mpr ⟨List.mem_of_getElem? (i := 354) rfl, rfl⟩
set_option maxRecDepth 20000 in
theorem wq_278 : Cond.instanceMethod yX5_isReducible ∈ WL := List.mem_filter.mpr ⟨List.mem_of_getElem? (i := 355) rfl, rfl⟩
set_option maxRecDepth 20000 in
theorem wq_279 : Cond.selects RX5 yX5_isReducible yX5_isReducible ∈ WL := List.mem_filter.mpr ⟨List.mem_of_getElem? (i := 356) rfl, rfl⟩
set_option maxRecDepth 20000 in
theorem wq_280 : Cond.code yX5_isReducible cX5_isReducible 2 (some .int) ∈ WL := List.mem_filter.mpr ⟨List.mem_of_getElem? (i := 357) rfl, rfl⟩
set_option maxRecDepth 20000 in
theorem wq_281 : Cond.instanceMethod yX0_hasRationalRoot ∈ WL := List.mem_filter.mpr ⟨List.mem_of_getElem? (i := 360) rfl, rfl⟩
set_option maxRecDepth 20000 in
theorem wq_282 : Cond.selects RX0 yX0_hasRationalRoot yX0_hasRationalRoot ∈ WL := List.mem_filter.mpr ⟨List.mem_of_getElem? (i := 12) rfl, rfl⟩
set_option maxRecDepth 20000 in
theorem wq_283 : Cond.code yX0_hasRationalRoot cX0_hasRationalRoot 5 (some .boolean) ∈ WL := List.mem_filter.mpr ⟨List.mem_of_getElem? (i := 361) rfl, rfl⟩
set_option maxRecDepth 20000 in
theorem wq_284 : Cond.methodLink RX0 72 Lib.MathLoose.abs_long.x ∈ WL := List.mem_filter.mpr ⟨List.mem_of_getElem? (i := 362) rfl, rfl⟩
set_option maxRecDepth 20000 in
theorem wq_285 : Cond.static Lib.MathLoose.abs_long.x ∈ WL := List.mem_filter.mpr ⟨List.mem_of_getElem? (i := 363) rfl, rfl⟩
set_option maxRecDepth 20000 in
theorem wq_286 : Cond.code Lib.MathLoose.abs_long.x Lib.MathLoose.abs_long.code 2 (some .long) ∈ WL := List.mem_filter.mpr ⟨List.mem_of_getElem? (i := 364) rfl, rfl⟩
set_option maxRecDepth 20000 in
theorem wq_287 : Cond.methodLink RX0 76 yX0_hasRootOver ∈ WL := List.mem_filter.mpr ⟨List.mem_of_getElem? (i := 365) rfl, rfl⟩
set_option maxRecDepth 20000 in
theorem wq_288 : Cond.instanceMethod yX0_hasRootOver ∈ WL := List.mem_filter.mpr ⟨List.mem_of_getElem? (i := 367) rfl, rfl⟩
set_option maxRecDepth 20000 in
theorem wq_289 : Cond.selects RX0 yX0_hasRootOver yX0_hasRootOver ∈ WL := List.mem_filter.mpr ⟨List.mem_of_getElem? (i := 13) rfl, rfl⟩
set_option maxRecDepth 20000 in
theorem wq_290 : Cond.code yX0_hasRootOver cX0_hasRootOver 7 (some .boolean) ∈ WL := List.mem_filter.mpr ⟨List.mem_of_getElem? (i := 368) rfl, rfl⟩
set_option maxRecDepth 20000 in
theorem wq_291 : Cond.methodLink RX0 80 yX0_vanishesAt ∈ WL := List.mem_filter.mpr ⟨List.mem_of_getElem? (i := 369) rfl, rfl⟩
set_option maxRecDepth 20000 in
theorem wq_292 : Cond.instanceMethod yX0_vanishesAt ∈ WL := List.mem_filter.mpr ⟨List.mem_of_getElem? (i := 371) rfl, rfl⟩
set_option maxRecDepth 20000 in
theorem wq_293 : Cond.selects RX0 yX0_vanishesAt yX0_vanishesAt ∈ WL := List.mem_filter.mpr ⟨List.mem_of_getElem? (i := 14) rfl, rfl⟩
set_option maxRecDepth 20000 in
theorem wq_294 : Cond.code yX0_vanishesAt cX0_vanishesAt 5 (some .boolean) ∈ WL := List.mem_filter.mpr ⟨List.mem_of_getElem? (i := 372) rfl, rfl⟩
set_option maxRecDepth 20000 in
theorem wq_295 : Cond.methodLink RL 52 yX6_isReducible ∈ WL := List.mem_filter.mpr ⟨List.mem_of_getElem? (i := 799) rfl, rfl⟩
set_option maxRecDepth 20000 in
theorem wq_296 : Cond.instanceMethod yX6_isReducible ∈ WL := List.mem_filter.mpr ⟨List.mem_of_getElem? (i := 800) rfl, rfl⟩
set_option maxRecDepth 20000 in
theorem wq_297 : Cond.selects RX6 yX6_isReducible yX6_isReducible ∈ WL := List.mem_filter.mpr ⟨List.mem_of_getElem? (i := 801) rfl, rfl⟩
set_option maxRecDepth 20000 in
theorem wq_298 : Cond.code yX6_isReducible cX6_isReducible 2 (some .int) ∈ WL := List.mem_filter.mpr ⟨List.mem_of_getElem? (i := 802) rfl, rfl⟩
set_option maxRecDepth 20000 in
theorem wq_299 : Cond.methodLink RX6 127 yX6_isReducibleNow ∈ WL := List.mem_filter.mpr ⟨List.mem_of_getElem? (i := 803) rfl, rfl⟩
set_option maxRecDepth 20000 in
theorem wq_300 : Cond.instanceMethod yX6_isReducibleNow ∈ WL := List.mem_filter.mpr ⟨List.mem_of_getElem? (i := 805) rfl, rfl⟩
set_option maxRecDepth 20000 in
theorem wq_301 : Cond.selects RX6 yX6_isReducibleNow yX6_isReducibleNow ∈ WL := List.mem_filter.mpr ⟨List.mem_of_getElem? (i := 60) rfl, rfl⟩
set_option maxRecDepth 20000 in
theorem wq_302 : Cond.code yX6_isReducibleNow cX6_isReducibleNow 5 (some .boolean) ∈ WL := List.mem_filter.mpr ⟨List.mem_of_getElem? (i := 806) rfl, rfl⟩
set_option maxRecDepth 20000 in
theorem wq_303 : Cond.methodLink RL 53 yX5_canonical ∈ WL := List.mem_filter.mpr ⟨List.mem_of_getElem? (i := 373) rfl, rfl⟩
set_option maxRecDepth 20000 in
theorem wq_304 : Cond.instanceMethod yX5_canonical ∈ WL := List.mem_filter.mpr ⟨List.mem_of_getElem? (i := 374) rfl, rfl⟩
set_option maxRecDepth 20000 in
theorem wq_305 : Cond.selects RX5 yX5_canonical yX5_canonical ∈ WL := List.mem_filter.mpr ⟨List.mem_of_getElem? (i := 375) rfl, rfl⟩
set_option maxRecDepth 20000 in
theorem wq_306 : Cond.code yX5_canonical cX5_canonical 2 (some .int) ∈ WL := List.mem_filter.mpr ⟨List.mem_of_getElem? (i := 376) rfl, rfl⟩
set_option maxRecDepth 20000 in
theorem wq_307 : Cond.instanceMethod yX4_makeCanonical ∈ WL := List.mem_filter.mpr ⟨List.mem_of_getElem? (i := 379) rfl, rfl⟩
set_option maxRecDepth 20000 in
theorem wq_308 : Cond.selects RX4 yX4_makeCanonical yX4_makeCanonical ∈ WL := List.mem_filter.mpr ⟨List.mem_of_getElem? (i := 15) rfl, rfl⟩
set_option maxRecDepth 20000 in
theorem wq_309 : Cond.code yX4_makeCanonical cX4_makeCanonical 3 none ∈ WL := List.mem_filter.mpr ⟨List.mem_of_getElem? (i := 380) rfl, rfl⟩
set_option maxRecDepth 20000 in
theorem wq_310 : Cond.instanceMethod yX0_reduceHessian ∈ WL := List.mem_filter.mpr ⟨List.mem_of_getElem? (i := 383) rfl, rfl⟩
set_option maxRecDepth 20000 in
theorem wq_311 : Cond.selects RX0 yX0_reduceHessian yX0_reduceHessian ∈ WL := List.mem_filter.mpr ⟨List.mem_of_getElem? (i := 16) rfl, rfl⟩
set_option maxRecDepth 20000 in
theorem wq_312 : Cond.code yX0_reduceHessian cX0_reduceHessian 6 none ∈ WL := List.mem_filter.mpr ⟨List.mem_of_getElem? (i := 384) rfl, rfl⟩
set_option maxRecDepth 20000 in
theorem wq_313 : Cond.methodLink RX0 44 yX0_hessianP ∈ WL := List.mem_filter.mpr ⟨List.mem_of_getElem? (i := 385) rfl, rfl⟩
set_option maxRecDepth 20000 in
theorem wq_314 : Cond.methodLink RX0 48 yX0_hessianQ ∈ WL := List.mem_filter.mpr ⟨List.mem_of_getElem? (i := 386) rfl, rfl⟩
set_option maxRecDepth 20000 in
theorem wq_315 : Cond.methodLink RX0 60 yJ9_floorDiv_f86c9 ∈ WL := List.mem_filter.mpr ⟨List.mem_of_getElem? (i := 387) rfl, rfl⟩
set_option maxRecDepth 20000 in
theorem wq_316 : Cond.static yJ9_floorDiv_f86c9 ∈ WL := List.mem_filter.mpr ⟨List.mem_of_getElem? (i := 388) rfl, rfl⟩
set_option maxRecDepth 20000 in
theorem wq_317 : Cond.initialized RJ9 ∈ WL := List.mem_filter.mpr ⟨List.mem_of_getElem? (i := 88) rfl, rfl⟩
set_option maxRecDepth 20000 in
theorem wq_318 : Cond.code yJ9_floorDiv_f86c9 cJ9_floorDiv_f86c9 6 (some .long) ∈ WL := List.mem_filter.mpr ⟨List.mem_of_getElem? (i := 389) rfl, rfl⟩
set_option maxRecDepth 20000 in
theorem wq_319 : Cond.methodLink RX0 65 yX0_shift ∈ WL := List.mem_filter.mpr ⟨List.mem_of_getElem? (i := 390) rfl, rfl⟩
set_option maxRecDepth 20000 in
theorem wq_320 : Cond.instanceMethod yX0_shift ∈ WL := List.mem_filter.mpr ⟨List.mem_of_getElem? (i := 392) rfl, rfl⟩
set_option maxRecDepth 20000 in
theorem wq_321 : Cond.selects RX0 yX0_shift yX0_shift ∈ WL := List.mem_filter.mpr ⟨List.mem_of_getElem? (i := 17) rfl, rfl⟩
set_option maxRecDepth 20000 in
theorem wq_322 : Cond.code yX0_shift cX0_shift 3 none ∈ WL := List.mem_filter.mpr ⟨List.mem_of_getElem? (i := 393) rfl, rfl⟩
set_option maxRecDepth 20000 in
theorem wq_323 : Cond.methodLink RX0 51 yX0_hessianR ∈ WL := List.mem_filter.mpr ⟨List.mem_of_getElem? (i := 394) rfl, rfl⟩
set_option maxRecDepth 20000 in
theorem wq_324 : Cond.methodLink RX0 69 yX0_swap ∈ WL := List.mem_filter.mpr ⟨List.mem_of_getElem? (i := 395) rfl, rfl⟩
set_option maxRecDepth 20000 in
theorem wq_325 : Cond.instanceMethod yX0_swap ∈ WL := List.mem_filter.mpr ⟨List.mem_of_getElem? (i := 397) rfl, rfl⟩
set_option maxRecDepth 20000 in
theorem wq_326 : Cond.selects RX0 yX0_swap yX0_swap ∈ WL := List.mem_filter.mpr ⟨List.mem_of_getElem? (i := 18) rfl, rfl⟩
set_option maxRecDepth 20000 in
theorem wq_327 : Cond.code yX0_swap cX0_swap 1 none ∈ WL := List.mem_filter.mpr ⟨List.mem_of_getElem? (i := 398) rfl, rfl⟩
set_option maxRecDepth 20000 in
theorem wq_328 : Cond.methodLink RX0 24 yX0_set ∈ WL := List.mem_filter.mpr ⟨List.mem_of_getElem? (i := 399) rfl, rfl⟩
set_option maxRecDepth 20000 in
theorem wq_329 : Cond.instanceMethod yX0_copyFrom ∈ WL := List.mem_filter.mpr ⟨List.mem_of_getElem? (i := 402) rfl, rfl⟩
set_option maxRecDepth 20000 in
theorem wq_330 : Cond.selects RX0 yX0_copyFrom yX0_copyFrom ∈ WL := List.mem_filter.mpr ⟨List.mem_of_getElem? (i := 19) rfl, rfl⟩
set_option maxRecDepth 20000 in
theorem wq_331 : Cond.code yX0_copyFrom cX0_copyFrom 2 none ∈ WL := List.mem_filter.mpr ⟨List.mem_of_getElem? (i := 403) rfl, rfl⟩
set_option maxRecDepth 20000 in
theorem wq_332 : Cond.methodLink RX4 28 yX4_makeCandidate ∈ WL := List.mem_filter.mpr ⟨List.mem_of_getElem? (i := 404) rfl, rfl⟩
set_option maxRecDepth 20000 in
theorem wq_333 : Cond.instanceMethod yX4_makeCandidate ∈ WL := List.mem_filter.mpr ⟨List.mem_of_getElem? (i := 406) rfl, rfl⟩
set_option maxRecDepth 20000 in
theorem wq_334 : Cond.selects RX4 yX4_makeCandidate yX4_makeCandidate ∈ WL := List.mem_filter.mpr ⟨List.mem_of_getElem? (i := 20) rfl, rfl⟩
set_option maxRecDepth 20000 in
theorem wq_335 : Cond.code yX4_makeCandidate cX4_makeCandidate 6 (some .boolean) ∈ WL := List.mem_filter.mpr ⟨List.mem_of_getElem? (i := 407) rfl, rfl⟩
set_option maxRecDepth 20000 in
theorem wq_336 : Cond.methodLink RX4 43 Lib.Math.abs.name ∈ WL := List.mem_filter.mpr ⟨List.mem_of_getElem? (i := 408) rfl, rfl⟩
set_option maxRecDepth 20000 in
theorem wq_337 : Cond.instanceMethod yX0_hasReducedHessian ∈ WL := List.mem_filter.mpr ⟨List.mem_of_getElem? (i := 412) rfl, rfl⟩
set_option maxRecDepth 20000 in
theorem wq_338 : Cond.selects RX0 yX0_hasReducedHessian yX0_hasReducedHessian ∈ WL := List.mem_filter.mpr ⟨List.mem_of_getElem? (i := 21) rfl, rfl⟩
set_option maxRecDepth 20000 in
theorem wq_339 : Cond.code yX0_hasReducedHessian cX0_hasReducedHessian 3 (some .boolean) ∈ WL := List.mem_filter.mpr ⟨List.mem_of_getElem? (i := 413) rfl, rfl⟩
set_option maxRecDepth 20000 in
theorem wq_340 : Cond.instanceMethod yX0_isBefore ∈ WL := List.mem_filter.mpr ⟨List.mem_of_getElem? (i := 416) rfl, rfl⟩
set_option maxRecDepth 20000 in
theorem wq_341 : Cond.selects RX0 yX0_isBefore yX0_isBefore ∈ WL := List.mem_filter.mpr ⟨List.mem_of_getElem? (i := 22) rfl, rfl⟩
set_option maxRecDepth 20000 in
theorem wq_342 : Cond.code yX0_isBefore cX0_isBefore 2 (some .boolean) ∈ WL := List.mem_filter.mpr ⟨List.mem_of_getElem? (i := 417) rfl, rfl⟩
set_option maxRecDepth 20000 in
theorem wq_343 : Cond.methodLink RL 56 yX6_canonical ∈ WL := List.mem_filter.mpr ⟨List.mem_of_getElem? (i := 807) rfl, rfl⟩
set_option maxRecDepth 20000 in
theorem wq_344 : Cond.instanceMethod yX6_canonical ∈ WL := List.mem_filter.mpr ⟨List.mem_of_getElem? (i := 808) rfl, rfl⟩
set_option maxRecDepth 20000 in
theorem wq_345 : Cond.selects RX6 yX6_canonical yX6_canonical ∈ WL := List.mem_filter.mpr ⟨List.mem_of_getElem? (i := 809) rfl, rfl⟩
set_option maxRecDepth 20000 in
theorem wq_346 : Cond.code yX6_canonical cX6_canonical 2 (some .int) ∈ WL := List.mem_filter.mpr ⟨List.mem_of_getElem? (i := 810) rfl, rfl⟩
set_option maxRecDepth 20000 in
theorem wq_347 : Cond.methodLink RX6 159 yX6_isPositive ∈ WL := List.mem_filter.mpr ⟨List.mem_of_getElem? (i := 811) rfl, rfl⟩
set_option maxRecDepth 20000 in
theorem wq_348 : Cond.instanceMethod yX6_isPositive ∈ WL := List.mem_filter.mpr ⟨List.mem_of_getElem? (i := 813) rfl, rfl⟩
set_option maxRecDepth 20000 in
theorem wq_349 : Cond.selects RX6 yX6_isPositive yX6_isPositive ∈ WL := List.mem_filter.mpr ⟨List.mem_of_getElem? (i := 61) rfl, rfl⟩
set_option maxRecDepth 20000 in
theorem wq_350 : Cond.code yX6_isPositive cX6_isPositive 2 (some .boolean) ∈ WL := List.mem_filter.mpr ⟨List.mem_of_getElem? (i := 814) rfl, rfl⟩
set_option maxRecDepth 20000 in
theorem wq_351 : Cond.methodLink RX6 162 yX6_canonise ∈ WL := List.mem_filter.mpr ⟨List.mem_of_getElem? (i := 815) rfl, rfl⟩
set_option maxRecDepth 20000 in
theorem wq_352 : Cond.instanceMethod yX6_canonise ∈ WL := List.mem_filter.mpr ⟨List.mem_of_getElem? (i := 817) rfl, rfl⟩
set_option maxRecDepth 20000 in
theorem wq_353 : Cond.selects RX6 yX6_canonise yX6_canonise ∈ WL := List.mem_filter.mpr ⟨List.mem_of_getElem? (i := 62) rfl, rfl⟩
set_option maxRecDepth 20000 in
theorem wq_354 : Cond.code yX6_canonise cX6_canonise 14 none ∈ WL := List.mem_filter.mpr ⟨List.mem_of_getElem? (i := 818) rfl, rfl⟩
set_option maxRecDepth 20000 in
theorem wq_355 : Cond.fieldLink RX6 137 "CubicFormsModel" "ka" "J" ∈ WL := List.mem_filter.mpr ⟨List.mem_of_getElem? (i := 638) rfl, rfl⟩
set_option maxRecDepth 20000 in
theorem wq_356 : Cond.fieldLink RX6 140 "CubicFormsModel" "kb" "J" ∈ WL := List.mem_filter.mpr ⟨List.mem_of_getElem? (i := 639) rfl, rfl⟩
set_option maxRecDepth 20000 in
theorem wq_357 : Cond.fieldLink RX6 143 "CubicFormsModel" "kc" "J" ∈ WL := List.mem_filter.mpr ⟨List.mem_of_getElem? (i := 640) rfl, rfl⟩
set_option maxRecDepth 20000 in
theorem wq_358 : Cond.fieldLink RX6 146 "CubicFormsModel" "kd" "J" ∈ WL := List.mem_filter.mpr ⟨List.mem_of_getElem? (i := 641) rfl, rfl⟩
set_option maxRecDepth 20000 in
theorem wq_359 : Cond.methodLink RX6 149 yX6_reduce ∈ WL := List.mem_filter.mpr ⟨List.mem_of_getElem? (i := 819) rfl, rfl⟩
set_option maxRecDepth 20000 in
theorem wq_360 : Cond.instanceMethod yX6_reduce ∈ WL := List.mem_filter.mpr ⟨List.mem_of_getElem? (i := 821) rfl, rfl⟩
set_option maxRecDepth 20000 in
theorem wq_361 : Cond.selects RX6 yX6_reduce yX6_reduce ∈ WL := List.mem_filter.mpr ⟨List.mem_of_getElem? (i := 63) rfl, rfl⟩
set_option maxRecDepth 20000 in
theorem wq_362 : Cond.code yX6_reduce cX6_reduce 1 none ∈ WL := List.mem_filter.mpr ⟨List.mem_of_getElem? (i := 822) rfl, rfl⟩
set_option maxRecDepth 20000 in
theorem wq_363 : Cond.methodLink RX6 131 yX6_isReducedNow ∈ WL := List.mem_filter.mpr ⟨List.mem_of_getElem? (i := 823) rfl, rfl⟩
set_option maxRecDepth 20000 in
theorem wq_364 : Cond.instanceMethod yX6_isReducedNow ∈ WL := List.mem_filter.mpr ⟨List.mem_of_getElem? (i := 825) rfl, rfl⟩
set_option maxRecDepth 20000 in
theorem wq_365 : Cond.selects RX6 yX6_isReducedNow yX6_isReducedNow ∈ WL := List.mem_filter.mpr ⟨List.mem_of_getElem? (i := 64) rfl, rfl⟩
set_option maxRecDepth 20000 in
theorem wq_366 : Cond.code yX6_isReducedNow cX6_isReducedNow 1 (some .boolean) ∈ WL := List.mem_filter.mpr ⟨List.mem_of_getElem? (i := 826) rfl, rfl⟩
set_option maxRecDepth 20000 in
theorem wq_367 : Cond.methodLink RX6 134 yX6_floor ∈ WL := List.mem_filter.mpr ⟨List.mem_of_getElem? (i := 827) rfl, rfl⟩
set_option maxRecDepth 20000 in
theorem wq_368 : Cond.static yX6_floor ∈ WL := List.mem_filter.mpr ⟨List.mem_of_getElem? (i := 828) rfl, rfl⟩
set_option maxRecDepth 20000 in
theorem wq_369 : Cond.code yX6_floor cX6_floor 6 (some .long) ∈ WL := List.mem_filter.mpr ⟨List.mem_of_getElem? (i := 829) rfl, rfl⟩
set_option maxRecDepth 20000 in
theorem wq_370 : Cond.methodLink RX6 152 yX6_keep ∈ WL := List.mem_filter.mpr ⟨List.mem_of_getElem? (i := 830) rfl, rfl⟩
set_option maxRecDepth 20000 in
theorem wq_371 : Cond.instanceMethod yX6_keep ∈ WL := List.mem_filter.mpr ⟨List.mem_of_getElem? (i := 832) rfl, rfl⟩
set_option maxRecDepth 20000 in
theorem wq_372 : Cond.selects RX6 yX6_keep yX6_keep ∈ WL := List.mem_filter.mpr ⟨List.mem_of_getElem? (i := 65) rfl, rfl⟩
set_option maxRecDepth 20000 in
theorem wq_373 : Cond.code yX6_keep cX6_keep 1 none ∈ WL := List.mem_filter.mpr ⟨List.mem_of_getElem? (i := 833) rfl, rfl⟩
set_option maxRecDepth 20000 in
theorem wq_374 : Cond.methodLink RX6 155 yX6_isLess ∈ WL := List.mem_filter.mpr ⟨List.mem_of_getElem? (i := 834) rfl, rfl⟩
set_option maxRecDepth 20000 in
theorem wq_375 : Cond.instanceMethod yX6_isLess ∈ WL := List.mem_filter.mpr ⟨List.mem_of_getElem? (i := 836) rfl, rfl⟩
set_option maxRecDepth 20000 in
theorem wq_376 : Cond.selects RX6 yX6_isLess yX6_isLess ∈ WL := List.mem_filter.mpr ⟨List.mem_of_getElem? (i := 66) rfl, rfl⟩
set_option maxRecDepth 20000 in
theorem wq_377 : Cond.code yX6_isLess cX6_isLess 9 (some .boolean) ∈ WL := List.mem_filter.mpr ⟨List.mem_of_getElem? (i := 837) rfl, rfl⟩
set_option maxRecDepth 20000 in
theorem wq_378 : Cond.methodLink RL 57 yX5_areEquivalent ∈ WL := List.mem_filter.mpr ⟨List.mem_of_getElem? (i := 418) rfl, rfl⟩
set_option maxRecDepth 20000 in
theorem wq_379 : Cond.instanceMethod yX5_areEquivalent ∈ WL := List.mem_filter.mpr ⟨List.mem_of_getElem? (i := 419) rfl, rfl⟩
set_option maxRecDepth 20000 in
theorem wq_380 : Cond.selects RX5 yX5_areEquivalent yX5_areEquivalent ∈ WL := List.mem_filter.mpr ⟨List.mem_of_getElem? (i := 420) rfl, rfl⟩
set_option maxRecDepth 20000 in
theorem wq_381 : Cond.code yX5_areEquivalent cX5_areEquivalent 3 (some .int) ∈ WL := List.mem_filter.mpr ⟨List.mem_of_getElem? (i := 421) rfl, rfl⟩
set_option maxRecDepth 20000 in
theorem wq_382 : Cond.instanceMethod yX0_isSameAs ∈ WL := List.mem_filter.mpr ⟨List.mem_of_getElem? (i := 424) rfl, rfl⟩
set_option maxRecDepth 20000 in
theorem wq_383 : Cond.selects RX0 yX0_isSameAs yX0_isSameAs ∈ WL := List.mem_filter.mpr ⟨List.mem_of_getElem? (i := 23) rfl, rfl⟩
set_option maxRecDepth 20000 in
theorem wq_384 : Cond.code yX0_isSameAs cX0_isSameAs 2 (some .boolean) ∈ WL := List.mem_filter.mpr ⟨List.mem_of_getElem? (i := 425) rfl, rfl⟩
set_option maxRecDepth 20000 in
theorem wq_385 : Cond.methodLink RL 60 yX6_areEquivalent ∈ WL := List.mem_filter.mpr ⟨List.mem_of_getElem? (i := 838) rfl, rfl⟩
set_option maxRecDepth 20000 in
theorem wq_386 : Cond.instanceMethod yX6_areEquivalent ∈ WL := List.mem_filter.mpr ⟨List.mem_of_getElem? (i := 839) rfl, rfl⟩
set_option maxRecDepth 20000 in
theorem wq_387 : Cond.selects RX6 yX6_areEquivalent yX6_areEquivalent ∈ WL := List.mem_filter.mpr ⟨List.mem_of_getElem? (i := 840) rfl, rfl⟩
set_option maxRecDepth 20000 in
theorem wq_388 : Cond.code yX6_areEquivalent cX6_areEquivalent 11 (some .int) ∈ WL := List.mem_filter.mpr ⟨List.mem_of_getElem? (i := 841) rfl, rfl⟩
set_option maxRecDepth 20000 in
theorem wq_389 : Cond.methodLink RL 61 yX5_automorphismCount ∈ WL := List.mem_filter.mpr ⟨List.mem_of_getElem? (i := 426) rfl, rfl⟩
set_option maxRecDepth 20000 in
theorem wq_390 : Cond.instanceMethod yX5_automorphismCount ∈ WL := List.mem_filter.mpr ⟨List.mem_of_getElem? (i := 427) rfl, rfl⟩
set_option maxRecDepth 20000 in
theorem wq_391 : Cond.selects RX5 yX5_automorphismCount yX5_automorphismCount ∈ WL := List.mem_filter.mpr ⟨List.mem_of_getElem? (i := 428) rfl, rfl⟩
set_option maxRecDepth 20000 in
theorem wq_392 : Cond.code yX5_automorphismCount cX5_automorphismCount 2 (some .int) ∈ WL := List.mem_filter.mpr ⟨List.mem_of_getElem? (i := 429) rfl, rfl⟩
set_option maxRecDepth 20000 in
theorem wq_393 : Cond.instanceMethod yX4_countAutomorphisms ∈ WL := List.mem_filter.mpr ⟨List.mem_of_getElem? (i := 432) rfl, rfl⟩
set_option maxRecDepth 20000 in
theorem wq_394 : Cond.selects RX4 yX4_countAutomorphisms yX4_countAutomorphisms ∈ WL := List.mem_filter.mpr ⟨List.mem_of_getElem? (i := 24) rfl, rfl⟩
set_option maxRecDepth 20000 in
theorem wq_395 : Cond.code yX4_countAutomorphisms cX4_countAutomorphisms 4 (some .int) ∈ WL := List.mem_filter.mpr ⟨List.mem_of_getElem? (i := 433) rfl, rfl⟩
set_option maxRecDepth 20000 in
theorem wq_396 : Cond.methodLink RL 64 yX6_automorphismCount ∈ WL := List.mem_filter.mpr ⟨List.mem_of_getElem? (i := 842) rfl, rfl⟩
set_option maxRecDepth 20000 in
theorem wq_397 : Cond.instanceMethod yX6_automorphismCount ∈ WL := List.mem_filter.mpr ⟨List.mem_of_getElem? (i := 843) rfl, rfl⟩
set_option maxRecDepth 20000 in
theorem wq_398 : Cond.selects RX6 yX6_automorphismCount yX6_automorphismCount ∈ WL := List.mem_filter.mpr ⟨List.mem_of_getElem? (i := 844) rfl, rfl⟩
set_option maxRecDepth 20000 in
theorem wq_399 : Cond.code yX6_automorphismCount cX6_automorphismCount 8 (some .int) ∈ WL := List.mem_filter.mpr ⟨List.mem_of_getElem? (i := 845) rfl, rfl⟩
set_option maxRecDepth 20000 in
theorem wq_400 : Cond.methodLink RX6 165 yX6_isKept ∈ WL := List.mem_filter.mpr ⟨List.mem_of_getElem? (i := 846) rfl, rfl⟩
set_option maxRecDepth 20000 in
theorem wq_401 : Cond.instanceMethod yX6_isKept ∈ WL := List.mem_filter.mpr ⟨List.mem_of_getElem? (i := 848) rfl, rfl⟩
set_option maxRecDepth 20000 in
theorem wq_402 : Cond.selects RX6 yX6_isKept yX6_isKept ∈ WL := List.mem_filter.mpr ⟨List.mem_of_getElem? (i := 67) rfl, rfl⟩
set_option maxRecDepth 20000 in
theorem wq_403 : Cond.code yX6_isKept cX6_isKept 1 (some .boolean) ∈ WL := List.mem_filter.mpr ⟨List.mem_of_getElem? (i := 849) rfl, rfl⟩
set_option maxRecDepth 20000 in
theorem wq_404 : Cond.methodLink RL 65 yX5_setElement ∈ WL := List.mem_filter.mpr ⟨List.mem_of_getElem? (i := 435) rfl, rfl⟩
set_option maxRecDepth 20000 in
theorem wq_405 : Cond.instanceMethod yX5_setElement ∈ WL := List.mem_filter.mpr ⟨List.mem_of_getElem? (i := 436) rfl, rfl⟩
set_option maxRecDepth 20000 in
theorem wq_406 : Cond.selects RX5 yX5_setElement yX5_setElement ∈ WL := List.mem_filter.mpr ⟨List.mem_of_getElem? (i := 437) rfl, rfl⟩
set_option maxRecDepth 20000 in
theorem wq_407 : Cond.code yX5_setElement cX5_setElement 5 (some .int) ∈ WL := List.mem_filter.mpr ⟨List.mem_of_getElem? (i := 438) rfl, rfl⟩
set_option maxRecDepth 20000 in
theorem wq_408 : Cond.methodLink RX5 133 yX5_loadElement ∈ WL := List.mem_filter.mpr ⟨List.mem_of_getElem? (i := 439) rfl, rfl⟩
set_option maxRecDepth 20000 in
theorem wq_409 : Cond.instanceMethod yX5_loadElement ∈ WL := List.mem_filter.mpr ⟨List.mem_of_getElem? (i := 441) rfl, rfl⟩
set_option maxRecDepth 20000 in
theorem wq_410 : Cond.selects RX5 yX5_loadElement yX5_loadElement ∈ WL := List.mem_filter.mpr ⟨List.mem_of_getElem? (i := 25) rfl, rfl⟩
set_option maxRecDepth 20000 in
theorem wq_411 : Cond.code yX5_loadElement cX5_loadElement 4 (some .boolean) ∈ WL := List.mem_filter.mpr ⟨List.mem_of_getElem? (i := 442) rfl, rfl⟩
set_option maxRecDepth 20000 in
theorem wq_412 : Cond.methodLink RX5 150 yX5_isRegister ∈ WL := List.mem_filter.mpr ⟨List.mem_of_getElem? (i := 443) rfl, rfl⟩
set_option maxRecDepth 20000 in
theorem wq_413 : Cond.static yX5_isRegister ∈ WL := List.mem_filter.mpr ⟨List.mem_of_getElem? (i := 444) rfl, rfl⟩
set_option maxRecDepth 20000 in
theorem wq_414 : Cond.code yX5_isRegister cX5_isRegister 1 (some .boolean) ∈ WL := List.mem_filter.mpr ⟨List.mem_of_getElem? (i := 445) rfl, rfl⟩
set_option maxRecDepth 20000 in
theorem wq_415 : Cond.instanceMethod yX3_set ∈ WL := List.mem_filter.mpr ⟨List.mem_of_getElem? (i := 448) rfl, rfl⟩
set_option maxRecDepth 20000 in
theorem wq_416 : Cond.selects RX3 yX3_set yX3_set ∈ WL := List.mem_filter.mpr ⟨List.mem_of_getElem? (i := 26) rfl, rfl⟩
set_option maxRecDepth 20000 in
theorem wq_417 : Cond.code yX3_set cX3_set 7 none ∈ WL := List.mem_filter.mpr ⟨List.mem_of_getElem? (i := 449) rfl, rfl⟩
set_option maxRecDepth 20000 in
theorem wq_418 : Cond.fieldLink RX3 9 "CubicForms$RingElement" "u" "J" ∈ WL := List.mem_filter.mpr ⟨List.mem_of_getElem? (i := 134) rfl, rfl⟩
set_option maxRecDepth 20000 in
theorem wq_419 : Cond.fieldLink RX3 15 "CubicForms$RingElement" "v" "J" ∈ WL := List.mem_filter.mpr ⟨List.mem_of_getElem? (i := 137) rfl, rfl⟩
set_option maxRecDepth 20000 in
theorem wq_420 : Cond.fieldLink RX3 18 "CubicForms$RingElement" "t" "J" ∈ WL := List.mem_filter.mpr ⟨List.mem_of_getElem? (i := 140) rfl, rfl⟩
set_option maxRecDepth 20000 in
theorem wq_421 : Cond.instanceMethod yX3_fitsRegister ∈ WL := List.mem_filter.mpr ⟨List.mem_of_getElem? (i := 452) rfl, rfl⟩
set_option maxRecDepth 20000 in
theorem wq_422 : Cond.selects RX3 yX3_fitsRegister yX3_fitsRegister ∈ WL := List.mem_filter.mpr ⟨List.mem_of_getElem? (i := 27) rfl, rfl⟩
set_option maxRecDepth 20000 in
theorem wq_423 : Cond.code yX3_fitsRegister cX3_fitsRegister 1 (some .boolean) ∈ WL := List.mem_filter.mpr ⟨List.mem_of_getElem? (i := 453) rfl, rfl⟩
set_option maxRecDepth 20000 in
theorem wq_424 : Cond.constantLong RX3 21 (100) ∈ WL := List.mem_filter.mpr ⟨List.mem_of_getElem? (i := 454) rfl, rfl⟩
set_option maxRecDepth 20000 in
theorem wq_425 : Cond.methodLink RX5 143 yX5_storeElement ∈ WL := List.mem_filter.mpr ⟨List.mem_of_getElem? (i := 456) rfl, rfl⟩
set_option maxRecDepth 20000 in
theorem wq_426 : Cond.instanceMethod yX5_storeElement ∈ WL := List.mem_filter.mpr ⟨List.mem_of_getElem? (i := 458) rfl, rfl⟩
set_option maxRecDepth 20000 in
theorem wq_427 : Cond.selects RX5 yX5_storeElement yX5_storeElement ∈ WL := List.mem_filter.mpr ⟨List.mem_of_getElem? (i := 28) rfl, rfl⟩
set_option maxRecDepth 20000 in
theorem wq_428 : Cond.code yX5_storeElement cX5_storeElement 4 none ∈ WL := List.mem_filter.mpr ⟨List.mem_of_getElem? (i := 459) rfl, rfl⟩
set_option maxRecDepth 20000 in
theorem wq_429 : Cond.instanceMethod yX3_isSameAs ∈ WL := List.mem_filter.mpr ⟨List.mem_of_getElem? (i := 462) rfl, rfl⟩
set_option maxRecDepth 20000 in
theorem wq_430 : Cond.selects RX3 yX3_isSameAs yX3_isSameAs ∈ WL := List.mem_filter.mpr ⟨List.mem_of_getElem? (i := 29) rfl, rfl⟩
set_option maxRecDepth 20000 in
theorem wq_431 : Cond.code yX3_isSameAs cX3_isSameAs 2 (some .boolean) ∈ WL := List.mem_filter.mpr ⟨List.mem_of_getElem? (i := 463) rfl, rfl⟩
set_option maxRecDepth 20000 in
theorem wq_432 : Cond.methodLink RL 68 yX6_setElement ∈ WL := List.mem_filter.mpr ⟨List.mem_of_getElem? (i := 850) rfl, rfl⟩
set_option maxRecDepth 20000 in
theorem wq_433 : Cond.instanceMethod yX6_setElement ∈ WL := List.mem_filter.mpr ⟨List.mem_of_getElem? (i := 851) rfl, rfl⟩
set_option maxRecDepth 20000 in
theorem wq_434 : Cond.selects RX6 yX6_setElement yX6_setElement ∈ WL := List.mem_filter.mpr ⟨List.mem_of_getElem? (i := 852) rfl, rfl⟩
set_option maxRecDepth 20000 in
theorem wq_435 : Cond.code yX6_setElement cX6_setElement 7 (some .int) ∈ WL := List.mem_filter.mpr ⟨List.mem_of_getElem? (i := 853) rfl, rfl⟩
set_option maxRecDepth 20000 in
theorem wq_436 : Cond.methodLink RX6 170 yX6_isRegister ∈ WL := List.mem_filter.mpr ⟨List.mem_of_getElem? (i := 854) rfl, rfl⟩
set_option maxRecDepth 20000 in
theorem wq_437 : Cond.static yX6_isRegister ∈ WL := List.mem_filter.mpr ⟨List.mem_of_getElem? (i := 855) rfl, rfl⟩
set_option maxRecDepth 20000 in
theorem wq_438 : Cond.code yX6_isRegister cX6_isRegister 1 (some .boolean) ∈ WL := List.mem_filter.mpr ⟨List.mem_of_getElem? (i := 856) rfl, rfl⟩
set_option maxRecDepth 20000 in
theorem wq_439 : Cond.constantLong RX6 168 (5) ∈ WL := List.mem_filter.mpr ⟨List.mem_of_getElem? (i := 857) rfl, rfl⟩
set_option maxRecDepth 20000 in
theorem wq_440 : Cond.methodLink RL 69 yX5_element ∈ WL := List.mem_filter.mpr ⟨List.mem_of_getElem? (i := 464) rfl, rfl⟩
set_option maxRecDepth 20000 in
theorem wq_441 : Cond.instanceMethod yX5_element ∈ WL := List.mem_filter.mpr ⟨List.mem_of_getElem? (i := 465) rfl, rfl⟩
set_option maxRecDepth 20000 in
theorem wq_442 : Cond.selects RX5 yX5_element yX5_element ∈ WL := List.mem_filter.mpr ⟨List.mem_of_getElem? (i := 466) rfl, rfl⟩
set_option maxRecDepth 20000 in
theorem wq_443 : Cond.code yX5_element cX5_element 3 (some .int) ∈ WL := List.mem_filter.mpr ⟨List.mem_of_getElem? (i := 467) rfl, rfl⟩
set_option maxRecDepth 20000 in
theorem wq_444 : Cond.methodLink RL 72 yX6_element ∈ WL := List.mem_filter.mpr ⟨List.mem_of_getElem? (i := 858) rfl, rfl⟩
set_option maxRecDepth 20000 in
theorem wq_445 : Cond.instanceMethod yX6_element ∈ WL := List.mem_filter.mpr ⟨List.mem_of_getElem? (i := 859) rfl, rfl⟩
set_option maxRecDepth 20000 in
theorem wq_446 : Cond.selects RX6 yX6_element yX6_element ∈ WL := List.mem_filter.mpr ⟨List.mem_of_getElem? (i := 860) rfl, rfl⟩
set_option maxRecDepth 20000 in
theorem wq_447 : Cond.code yX6_element cX6_element 3 (some .int) ∈ WL := List.mem_filter.mpr ⟨List.mem_of_getElem? (i := 861) rfl, rfl⟩
set_option maxRecDepth 20000 in
theorem wq_448 : Cond.methodLink RL 73 yX5_multiply ∈ WL := List.mem_filter.mpr ⟨List.mem_of_getElem? (i := 468) rfl, rfl⟩
set_option maxRecDepth 20000 in
theorem wq_449 : Cond.instanceMethod yX5_multiply ∈ WL := List.mem_filter.mpr ⟨List.mem_of_getElem? (i := 469) rfl, rfl⟩
set_option maxRecDepth 20000 in
theorem wq_450 : Cond.selects RX5 yX5_multiply yX5_multiply ∈ WL := List.mem_filter.mpr ⟨List.mem_of_getElem? (i := 470) rfl, rfl⟩
set_option maxRecDepth 20000 in
theorem wq_451 : Cond.code yX5_multiply cX5_multiply 6 (some .int) ∈ WL := List.mem_filter.mpr ⟨List.mem_of_getElem? (i := 471) rfl, rfl⟩
set_option maxRecDepth 20000 in
theorem wq_452 : Cond.instanceMethod yX2_productOf ∈ WL := List.mem_filter.mpr ⟨List.mem_of_getElem? (i := 474) rfl, rfl⟩
set_option maxRecDepth 20000 in
theorem wq_453 : Cond.selects RX2 yX2_productOf yX2_productOf ∈ WL := List.mem_filter.mpr ⟨List.mem_of_getElem? (i := 30) rfl, rfl⟩
set_option maxRecDepth 20000 in
theorem wq_454 : Cond.code yX2_productOf cX2_productOf 4 (some (.object "CubicForms$RingElement")) ∈ WL := List.mem_filter.mpr ⟨List.mem_of_getElem? (i := 475) rfl, rfl⟩
set_option maxRecDepth 20000 in
theorem wq_455 : Cond.instanceMethod yX3_becomeProduct ∈ WL := List.mem_filter.mpr ⟨List.mem_of_getElem? (i := 478) rfl, rfl⟩
set_option maxRecDepth 20000 in
theorem wq_456 : Cond.selects RX3 yX3_becomeProduct yX3_becomeProduct ∈ WL := List.mem_filter.mpr ⟨List.mem_of_getElem? (i := 31) rfl, rfl⟩
set_option maxRecDepth 20000 in
theorem wq_457 : Cond.code yX3_becomeProduct cX3_becomeProduct 10 none ∈ WL := List.mem_filter.mpr ⟨List.mem_of_getElem? (i := 479) rfl, rfl⟩
set_option maxRecDepth 20000 in
theorem wq_458 : Cond.methodLink RX3 43 yX3_set ∈ WL := List.mem_filter.mpr ⟨List.mem_of_getElem? (i := 480) rfl, rfl⟩
set_option maxRecDepth 20000 in
theorem wq_459 : Cond.methodLink RL 76 yX6_multiply ∈ WL := List.mem_filter.mpr ⟨List.mem_of_getElem? (i := 862) rfl, rfl⟩
set_option maxRecDepth 20000 in
theorem wq_460 : Cond.instanceMethod yX6_multiply ∈ WL := List.mem_filter.mpr ⟨List.mem_of_getElem? (i := 863) rfl, rfl⟩
set_option maxRecDepth 20000 in
theorem wq_461 : Cond.selects RX6 yX6_multiply yX6_multiply ∈ WL := List.mem_filter.mpr ⟨List.mem_of_getElem? (i := 864) rfl, rfl⟩
set_option maxRecDepth 20000 in
theorem wq_462 : Cond.code yX6_multiply cX6_multiply 5 (some .int) ∈ WL := List.mem_filter.mpr ⟨List.mem_of_getElem? (i := 865) rfl, rfl⟩
set_option maxRecDepth 20000 in
theorem wq_463 : Cond.fieldLink RX6 173 "CubicFormsModel" "pu" "J" ∈ WL := List.mem_filter.mpr ⟨List.mem_of_getElem? (i := 643) rfl, rfl⟩
set_option maxRecDepth 20000 in
theorem wq_464 : Cond.fieldLink RX6 176 "CubicFormsModel" "pv" "J" ∈ WL := List.mem_filter.mpr ⟨List.mem_of_getElem? (i := 644) rfl, rfl⟩
set_option maxRecDepth 20000 in
theorem wq_465 : Cond.fieldLink RX6 179 "CubicFormsModel" "pt" "J" ∈ WL := List.mem_filter.mpr ⟨List.mem_of_getElem? (i := 645) rfl, rfl⟩
set_option maxRecDepth 20000 in
theorem wq_466 : Cond.methodLink RX6 182 yX6_product ∈ WL := List.mem_filter.mpr ⟨List.mem_of_getElem? (i := 866) rfl, rfl⟩
set_option maxRecDepth 20000 in
theorem wq_467 : Cond.instanceMethod yX6_product ∈ WL := List.mem_filter.mpr ⟨List.mem_of_getElem? (i := 868) rfl, rfl⟩
set_option maxRecDepth 20000 in
theorem wq_468 : Cond.selects RX6 yX6_product yX6_product ∈ WL := List.mem_filter.mpr ⟨List.mem_of_getElem? (i := 68) rfl, rfl⟩
set_option maxRecDepth 20000 in
theorem wq_469 : Cond.code yX6_product cX6_product 13 none ∈ WL := List.mem_filter.mpr ⟨List.mem_of_getElem? (i := 869) rfl, rfl⟩
set_option maxRecDepth 20000 in
theorem wq_470 : Cond.methodLink RL 77 yX5_trace ∈ WL := List.mem_filter.mpr ⟨List.mem_of_getElem? (i := 481) rfl, rfl⟩
set_option maxRecDepth 20000 in
theorem wq_471 : Cond.instanceMethod yX5_trace ∈ WL := List.mem_filter.mpr ⟨List.mem_of_getElem? (i := 482) rfl, rfl⟩
set_option maxRecDepth 20000 in
theorem wq_472 : Cond.selects RX5 yX5_trace yX5_trace ∈ WL := List.mem_filter.mpr ⟨List.mem_of_getElem? (i := 483) rfl, rfl⟩
set_option maxRecDepth 20000 in
theorem wq_473 : Cond.code yX5_trace cX5_trace 3 (some .long) ∈ WL := List.mem_filter.mpr ⟨List.mem_of_getElem? (i := 484) rfl, rfl⟩
set_option maxRecDepth 20000 in
theorem wq_474 : Cond.instanceMethod yX3_traceIn ∈ WL := List.mem_filter.mpr ⟨List.mem_of_getElem? (i := 487) rfl, rfl⟩
set_option maxRecDepth 20000 in
theorem wq_475 : Cond.selects RX3 yX3_traceIn yX3_traceIn ∈ WL := List.mem_filter.mpr ⟨List.mem_of_getElem? (i := 32) rfl, rfl⟩
set_option maxRecDepth 20000 in
theorem wq_476 : Cond.code yX3_traceIn cX3_traceIn 2 (some .long) ∈ WL := List.mem_filter.mpr ⟨List.mem_of_getElem? (i := 488) rfl, rfl⟩
set_option maxRecDepth 20000 in
theorem wq_477 : Cond.constantLong RX3 27 (3) ∈ WL := List.mem_filter.mpr ⟨List.mem_of_getElem? (i := 489) rfl, rfl⟩
set_option maxRecDepth 20000 in
theorem wq_478 : Cond.methodLink RL 80 yX6_trace ∈ WL := List.mem_filter.mpr ⟨List.mem_of_getElem? (i := 870) rfl, rfl⟩
set_option maxRecDepth 20000 in
theorem wq_479 : Cond.instanceMethod yX6_trace ∈ WL := List.mem_filter.mpr ⟨List.mem_of_getElem? (i := 871) rfl, rfl⟩
set_option maxRecDepth 20000 in
theorem wq_480 : Cond.selects RX6 yX6_trace yX6_trace ∈ WL := List.mem_filter.mpr ⟨List.mem_of_getElem? (i := 872) rfl, rfl⟩
set_option maxRecDepth 20000 in
theorem wq_481 : Cond.code yX6_trace cX6_trace 3 (some .long) ∈ WL := List.mem_filter.mpr ⟨List.mem_of_getElem? (i := 873) rfl, rfl⟩
set_option maxRecDepth 20000 in
theorem wq_482 : Cond.methodLink RX6 190 yX6_layElement ∈ WL := List.mem_filter.mpr ⟨List.mem_of_getElem? (i := 874) rfl, rfl⟩
set_option maxRecDepth 20000 in
theorem wq_483 : Cond.instanceMethod yX6_layElement ∈ WL := List.mem_filter.mpr ⟨List.mem_of_getElem? (i := 876) rfl, rfl⟩
set_option maxRecDepth 20000 in
theorem wq_484 : Cond.selects RX6 yX6_layElement yX6_layElement ∈ WL := List.mem_filter.mpr ⟨List.mem_of_getElem? (i := 69) rfl, rfl⟩
set_option maxRecDepth 20000 in
theorem wq_485 : Cond.code yX6_layElement cX6_layElement 3 (some .boolean) ∈ WL := List.mem_filter.mpr ⟨List.mem_of_getElem? (i := 877) rfl, rfl⟩
set_option maxRecDepth 20000 in
theorem wq_486 : Cond.methodLink RX6 186 yX6_layMatrix ∈ WL := List.mem_filter.mpr ⟨List.mem_of_getElem? (i := 878) rfl, rfl⟩
set_option maxRecDepth 20000 in
theorem wq_487 : Cond.instanceMethod yX6_layMatrix ∈ WL := List.mem_filter.mpr ⟨List.mem_of_getElem? (i := 880) rfl, rfl⟩
set_option maxRecDepth 20000 in
theorem wq_488 : Cond.selects RX6 yX6_layMatrix yX6_layMatrix ∈ WL := List.mem_filter.mpr ⟨List.mem_of_getElem? (i := 70) rfl, rfl⟩
set_option maxRecDepth 20000 in
theorem wq_489 : Cond.code yX6_layMatrix cX6_layMatrix 8 none ∈ WL := List.mem_filter.mpr ⟨List.mem_of_getElem? (i := 881) rfl, rfl⟩
set_option maxRecDepth 20000 in
theorem wq_490 : Cond.methodLink RX6 194 yX6_traceNow ∈ WL := List.mem_filter.mpr ⟨List.mem_of_getElem? (i := 882) rfl, rfl⟩
set_option maxRecDepth 20000 in
theorem wq_491 : Cond.instanceMethod yX6_traceNow ∈ WL := List.mem_filter.mpr ⟨List.mem_of_getElem? (i := 884) rfl, rfl⟩
set_option maxRecDepth 20000 in
theorem wq_492 : Cond.selects RX6 yX6_traceNow yX6_traceNow ∈ WL := List.mem_filter.mpr ⟨List.mem_of_getElem? (i := 71) rfl, rfl⟩
set_option maxRecDepth 20000 in
theorem wq_493 : Cond.code yX6_traceNow cX6_traceNow 1 (some .long) ∈ WL := List.mem_filter.mpr ⟨List.mem_of_getElem? (i := 885) rfl, rfl⟩
set_option maxRecDepth 20000 in
theorem wq_494 : Cond.methodLink RL 81 yX5_norm ∈ WL := List.mem_filter.mpr ⟨List.mem_of_getElem? (i := 490) rfl, rfl⟩
set_option maxRecDepth 20000 in
theorem wq_495 : Cond.instanceMethod yX5_norm ∈ WL := List.mem_filter.mpr ⟨List.mem_of_getElem? (i := 491) rfl, rfl⟩
set_option maxRecDepth 20000 in
theorem wq_496 : Cond.selects RX5 yX5_norm yX5_norm ∈ WL := List.mem_filter.mpr ⟨List.mem_of_getElem? (i := 492) rfl, rfl⟩
set_option maxRecDepth 20000 in
theorem wq_497 : Cond.code yX5_norm cX5_norm 3 (some .long) ∈ WL := List.mem_filter.mpr ⟨List.mem_of_getElem? (i := 493) rfl, rfl⟩
set_option maxRecDepth 20000 in
theorem wq_498 : Cond.instanceMethod yX2_normOf ∈ WL := List.mem_filter.mpr ⟨List.mem_of_getElem? (i := 496) rfl, rfl⟩
set_option maxRecDepth 20000 in
theorem wq_499 : Cond.selects RX2 yX2_normOf yX2_normOf ∈ WL := List.mem_filter.mpr ⟨List.mem_of_getElem? (i := 33) rfl, rfl⟩
set_option maxRecDepth 20000 in
theorem wq_500 : Cond.code yX2_normOf cX2_normOf 3 (some .long) ∈ WL := List.mem_filter.mpr ⟨List.mem_of_getElem? (i := 497) rfl, rfl⟩
set_option maxRecDepth 20000 in
theorem wq_501 : Cond.methodLink RX2 48 yX2_determinantOfRows ∈ WL := List.mem_filter.mpr ⟨List.mem_of_getElem? (i := 498) rfl, rfl⟩
set_option maxRecDepth 20000 in
theorem wq_502 : Cond.instanceMethod yX2_determinantOfRows ∈ WL := List.mem_filter.mpr ⟨List.mem_of_getElem? (i := 500) rfl, rfl⟩
set_option maxRecDepth 20000 in
theorem wq_503 : Cond.selects RX2 yX2_determinantOfRows yX2_determinantOfRows ∈ WL := List.mem_filter.mpr ⟨List.mem_of_getElem? (i := 34) rfl, rfl⟩
set_option maxRecDepth 20000 in
theorem wq_504 : Cond.code yX2_determinantOfRows cX2_determinantOfRows 1 (some .long) ∈ WL := List.mem_filter.mpr ⟨List.mem_of_getElem? (i := 501) rfl, rfl⟩
set_option maxRecDepth 20000 in
theorem wq_505 : Cond.methodLink RL 84 yX6_norm ∈ WL := List.mem_filter.mpr ⟨List.mem_of_getElem? (i := 886) rfl, rfl⟩
set_option maxRecDepth 20000 in
theorem wq_506 : Cond.instanceMethod yX6_norm ∈ WL := List.mem_filter.mpr ⟨List.mem_of_getElem? (i := 887) rfl, rfl⟩
set_option maxRecDepth 20000 in
theorem wq_507 : Cond.selects RX6 yX6_norm yX6_norm ∈ WL := List.mem_filter.mpr ⟨List.mem_of_getElem? (i := 888) rfl, rfl⟩
set_option maxRecDepth 20000 in
theorem wq_508 : Cond.code yX6_norm cX6_norm 3 (some .long) ∈ WL := List.mem_filter.mpr ⟨List.mem_of_getElem? (i := 889) rfl, rfl⟩
set_option maxRecDepth 20000 in
theorem wq_509 : Cond.methodLink RX6 197 yX6_determinant ∈ WL := List.mem_filter.mpr ⟨List.mem_of_getElem? (i := 890) rfl, rfl⟩
set_option maxRecDepth 20000 in
theorem wq_510 : Cond.instanceMethod yX6_determinant ∈ WL := List.mem_filter.mpr ⟨List.mem_of_getElem? (i := 892) rfl, rfl⟩
set_option maxRecDepth 20000 in
theorem wq_511 : Cond.selects RX6 yX6_determinant yX6_determinant ∈ WL := List.mem_filter.mpr ⟨List.mem_of_getElem? (i := 72) rfl, rfl⟩
set_option maxRecDepth 20000 in
theorem wq_512 : Cond.code yX6_determinant cX6_determinant 1 (some .long) ∈ WL := List.mem_filter.mpr ⟨List.mem_of_getElem? (i := 893) rfl, rfl⟩
set_option maxRecDepth 20000 in
theorem wq_513 : Cond.methodLink RL 85 yX5_traceDeterminant ∈ WL := List.mem_filter.mpr ⟨List.mem_of_getElem? (i := 502) rfl, rfl⟩
set_option maxRecDepth 20000 in
theorem wq_514 : Cond.instanceMethod yX5_traceDeterminant ∈ WL := List.mem_filter.mpr ⟨List.mem_of_getElem? (i := 503) rfl, rfl⟩
set_option maxRecDepth 20000 in
theorem wq_515 : Cond.selects RX5 yX5_traceDeterminant yX5_traceDeterminant ∈ WL := List.mem_filter.mpr ⟨List.mem_of_getElem? (i := 504) rfl, rfl⟩
set_option maxRecDepth 20000 in
theorem wq_516 : Cond.code yX5_traceDeterminant cX5_traceDeterminant 2 (some .long) ∈ WL := List.mem_filter.mpr ⟨List.mem_of_getElem? (i := 505) rfl, rfl⟩
set_option maxRecDepth 20000 in
theorem wq_517 : Cond.instanceMethod yX2_determinantOfTraces ∈ WL := List.mem_filter.mpr ⟨List.mem_of_getElem? (i := 508) rfl, rfl⟩
set_option maxRecDepth 20000 in
theorem wq_518 : Cond.selects RX2 yX2_determinantOfTraces yX2_determinantOfTraces ∈ WL := List.mem_filter.mpr ⟨List.mem_of_getElem? (i := 35) rfl, rfl⟩
set_option maxRecDepth 20000 in
theorem wq_519 : Cond.code yX2_determinantOfTraces cX2_determinantOfTraces 2 (some .long) ∈ WL := List.mem_filter.mpr ⟨List.mem_of_getElem? (i := 509) rfl, rfl⟩
set_option maxRecDepth 20000 in
theorem wq_520 : Cond.methodLink RX2 52 yX2_setTraces ∈ WL := List.mem_filter.mpr ⟨List.mem_of_getElem? (i := 510) rfl, rfl⟩
set_option maxRecDepth 20000 in
theorem wq_521 : Cond.instanceMethod yX2_setTraces ∈ WL := List.mem_filter.mpr ⟨List.mem_of_getElem? (i := 512) rfl, rfl⟩
set_option maxRecDepth 20000 in
theorem wq_522 : Cond.selects RX2 yX2_setTraces yX2_setTraces ∈ WL := List.mem_filter.mpr ⟨List.mem_of_getElem? (i := 36) rfl, rfl⟩
set_option maxRecDepth 20000 in
theorem wq_523 : Cond.code yX2_setTraces cX2_setTraces 4 none ∈ WL := List.mem_filter.mpr ⟨List.mem_of_getElem? (i := 513) rfl, rfl⟩
set_option maxRecDepth 20000 in
theorem wq_524 : Cond.methodLink RX2 55 yX2_productOf ∈ WL := List.mem_filter.mpr ⟨List.mem_of_getElem? (i := 514) rfl, rfl⟩
set_option maxRecDepth 20000 in
theorem wq_525 : Cond.methodLink RL 88 yX6_traceDeterminant ∈ WL := List.mem_filter.mpr ⟨List.mem_of_getElem? (i := 894) rfl, rfl⟩
set_option maxRecDepth 20000 in
theorem wq_526 : Cond.instanceMethod yX6_traceDeterminant ∈ WL := List.mem_filter.mpr ⟨List.mem_of_getElem? (i := 895) rfl, rfl⟩
set_option maxRecDepth 20000 in
theorem wq_527 : Cond.selects RX6 yX6_traceDeterminant yX6_traceDeterminant ∈ WL := List.mem_filter.mpr ⟨List.mem_of_getElem? (i := 896) rfl, rfl⟩
set_option maxRecDepth 20000 in
theorem wq_528 : Cond.code yX6_traceDeterminant cX6_traceDeterminant 5 (some .long) ∈ WL := List.mem_filter.mpr ⟨List.mem_of_getElem? (i := 897) rfl, rfl⟩
set_option maxRecDepth 20000 in
theorem wq_529 : Cond.methodLink RL 89 yX5_elementIndex ∈ WL := List.mem_filter.mpr ⟨List.mem_of_getElem? (i := 517) rfl, rfl⟩
set_option maxRecDepth 20000 in
theorem wq_530 : Cond.instanceMethod yX5_elementIndex ∈ WL := List.mem_filter.mpr ⟨List.mem_of_getElem? (i := 518) rfl, rfl⟩
set_option maxRecDepth 20000 in
theorem wq_531 : Cond.selects RX5 yX5_elementIndex yX5_elementIndex ∈ WL := List.mem_filter.mpr ⟨List.mem_of_getElem? (i := 519) rfl, rfl⟩
set_option maxRecDepth 20000 in
theorem wq_532 : Cond.code yX5_elementIndex cX5_elementIndex 3 (some .long) ∈ WL := List.mem_filter.mpr ⟨List.mem_of_getElem? (i := 520) rfl, rfl⟩
set_option maxRecDepth 20000 in
theorem wq_533 : Cond.instanceMethod yX2_indexOf ∈ WL := List.mem_filter.mpr ⟨List.mem_of_getElem? (i := 523) rfl, rfl⟩
set_option maxRecDepth 20000 in
theorem wq_534 : Cond.selects RX2 yX2_indexOf yX2_indexOf ∈ WL := List.mem_filter.mpr ⟨List.mem_of_getElem? (i := 37) rfl, rfl⟩
set_option maxRecDepth 20000 in
theorem wq_535 : Cond.code yX2_indexOf cX2_indexOf 4 (some .long) ∈ WL := List.mem_filter.mpr ⟨List.mem_of_getElem? (i := 524) rfl, rfl⟩
set_option maxRecDepth 20000 in
theorem wq_536 : Cond.methodLink RX2 67 Lib.MathLoose.abs_long.x ∈ WL := List.mem_filter.mpr ⟨List.mem_of_getElem? (i := 525) rfl, rfl⟩
set_option maxRecDepth 20000 in
theorem wq_537 : Cond.methodLink RL 92 yX6_elementIndex ∈ WL := List.mem_filter.mpr ⟨List.mem_of_getElem? (i := 898) rfl, rfl⟩
set_option maxRecDepth 20000 in
theorem wq_538 : Cond.instanceMethod yX6_elementIndex ∈ WL := List.mem_filter.mpr ⟨List.mem_of_getElem? (i := 899) rfl, rfl⟩
set_option maxRecDepth 20000 in
theorem wq_539 : Cond.selects RX6 yX6_elementIndex yX6_elementIndex ∈ WL := List.mem_filter.mpr ⟨List.mem_of_getElem? (i := 900) rfl, rfl⟩
set_option maxRecDepth 20000 in
theorem wq_540 : Cond.code yX6_elementIndex cX6_elementIndex 9 (some .long) ∈ WL := List.mem_filter.mpr ⟨List.mem_of_getElem? (i := 901) rfl, rfl⟩
set_option maxRecDepth 20000 in
theorem wq_541 : Cond.methodLink RL 93 yX5_splitting ∈ WL := List.mem_filter.mpr ⟨List.mem_of_getElem? (i := 526) rfl, rfl⟩
set_option maxRecDepth 20000 in
theorem wq_542 : Cond.instanceMethod yX5_splitting ∈ WL := List.mem_filter.mpr ⟨List.mem_of_getElem? (i := 527) rfl, rfl⟩
set_option maxRecDepth 20000 in
theorem wq_543 : Cond.selects RX5 yX5_splitting yX5_splitting ∈ WL := List.mem_filter.mpr ⟨List.mem_of_getElem? (i := 528) rfl, rfl⟩
set_option maxRecDepth 20000 in
theorem wq_544 : Cond.code yX5_splitting cX5_splitting 3 (some .int) ∈ WL := List.mem_filter.mpr ⟨List.mem_of_getElem? (i := 529) rfl, rfl⟩
set_option maxRecDepth 20000 in
theorem wq_545 : Cond.methodLink RX5 171 yX5_isPrime ∈ WL := List.mem_filter.mpr ⟨List.mem_of_getElem? (i := 530) rfl, rfl⟩
set_option maxRecDepth 20000 in
theorem wq_546 : Cond.static yX5_isPrime ∈ WL := List.mem_filter.mpr ⟨List.mem_of_getElem? (i := 531) rfl, rfl⟩
set_option maxRecDepth 20000 in
theorem wq_547 : Cond.code yX5_isPrime cX5_isPrime 2 (some .boolean) ∈ WL := List.mem_filter.mpr ⟨List.mem_of_getElem? (i := 532) rfl, rfl⟩
set_option maxRecDepth 20000 in
theorem wq_548 : Cond.instanceMethod yX4_splittingCode ∈ WL := List.mem_filter.mpr ⟨List.mem_of_getElem? (i := 535) rfl, rfl⟩
set_option maxRecDepth 20000 in
theorem wq_549 : Cond.selects RX4 yX4_splittingCode yX4_splittingCode ∈ WL := List.mem_filter.mpr ⟨List.mem_of_getElem? (i := 38) rfl, rfl⟩
set_option maxRecDepth 20000 in
theorem wq_550 : Cond.code yX4_splittingCode cX4_splittingCode 6 (some .int) ∈ WL := List.mem_filter.mpr ⟨List.mem_of_getElem? (i := 536) rfl, rfl⟩
set_option maxRecDepth 20000 in
theorem wq_551 : Cond.instanceMethod yX0_isMultipleOf ∈ WL := List.mem_filter.mpr ⟨List.mem_of_getElem? (i := 539) rfl, rfl⟩
set_option maxRecDepth 20000 in
theorem wq_552 : Cond.selects RX0 yX0_isMultipleOf yX0_isMultipleOf ∈ WL := List.mem_filter.mpr ⟨List.mem_of_getElem? (i := 39) rfl, rfl⟩
set_option maxRecDepth 20000 in
theorem wq_553 : Cond.code yX0_isMultipleOf cX0_isMultipleOf 2 (some .boolean) ∈ WL := List.mem_filter.mpr ⟨List.mem_of_getElem? (i := 540) rfl, rfl⟩
set_option maxRecDepth 20000 in
theorem wq_554 : Cond.instanceMethod yX0_becomeAtPoint ∈ WL := List.mem_filter.mpr ⟨List.mem_of_getElem? (i := 543) rfl, rfl⟩
set_option maxRecDepth 20000 in
theorem wq_555 : Cond.selects RX0 yX0_becomeAtPoint yX0_becomeAtPoint ∈ WL := List.mem_filter.mpr ⟨List.mem_of_getElem? (i := 40) rfl, rfl⟩
set_option maxRecDepth 20000 in
theorem wq_556 : Cond.code yX0_becomeAtPoint cX0_becomeAtPoint 5 none ∈ WL := List.mem_filter.mpr ⟨List.mem_of_getElem? (i := 544) rfl, rfl⟩
set_option maxRecDepth 20000 in
theorem wq_557 : Cond.methodLink RL 96 yX6_splitting ∈ WL := List.mem_filter.mpr ⟨List.mem_of_getElem? (i := 902) rfl, rfl⟩
set_option maxRecDepth 20000 in
theorem wq_558 : Cond.instanceMethod yX6_splitting ∈ WL := List.mem_filter.mpr ⟨List.mem_of_getElem? (i := 903) rfl, rfl⟩
set_option maxRecDepth 20000 in
theorem wq_559 : Cond.selects RX6 yX6_splitting yX6_splitting ∈ WL := List.mem_filter.mpr ⟨List.mem_of_getElem? (i := 904) rfl, rfl⟩
set_option maxRecDepth 20000 in
theorem wq_560 : Cond.code yX6_splitting cX6_splitting 6 (some .int) ∈ WL := List.mem_filter.mpr ⟨List.mem_of_getElem? (i := 905) rfl, rfl⟩
set_option maxRecDepth 20000 in
theorem wq_561 : Cond.fieldLink RX6 202 "CubicFormsModel" "ta" "J" ∈ WL := List.mem_filter.mpr ⟨List.mem_of_getElem? (i := 648) rfl, rfl⟩
set_option maxRecDepth 20000 in
theorem wq_562 : Cond.fieldLink RX6 205 "CubicFormsModel" "tb" "J" ∈ WL := List.mem_filter.mpr ⟨List.mem_of_getElem? (i := 649) rfl, rfl⟩
set_option maxRecDepth 20000 in
theorem wq_563 : Cond.methodLink RX6 214 yX6_isPrime ∈ WL := List.mem_filter.mpr ⟨List.mem_of_getElem? (i := 906) rfl, rfl⟩
set_option maxRecDepth 20000 in
theorem wq_564 : Cond.static yX6_isPrime ∈ WL := List.mem_filter.mpr ⟨List.mem_of_getElem? (i := 907) rfl, rfl⟩
set_option maxRecDepth 20000 in
theorem wq_565 : Cond.code yX6_isPrime cX6_isPrime 2 (some .boolean) ∈ WL := List.mem_filter.mpr ⟨List.mem_of_getElem? (i := 908) rfl, rfl⟩
set_option maxRecDepth 20000 in
theorem wq_566 : Cond.constantLong RX6 200 (997) ∈ WL := List.mem_filter.mpr ⟨List.mem_of_getElem? (i := 909) rfl, rfl⟩
set_option maxRecDepth 20000 in
theorem wq_567 : Cond.methodLink RX6 217 yX6_dividesAll ∈ WL := List.mem_filter.mpr ⟨List.mem_of_getElem? (i := 910) rfl, rfl⟩
set_option maxRecDepth 20000 in
theorem wq_568 : Cond.instanceMethod yX6_dividesAll ∈ WL := List.mem_filter.mpr ⟨List.mem_of_getElem? (i := 912) rfl, rfl⟩
set_option maxRecDepth 20000 in
theorem wq_569 : Cond.selects RX6 yX6_dividesAll yX6_dividesAll ∈ WL := List.mem_filter.mpr ⟨List.mem_of_getElem? (i := 73) rfl, rfl⟩
set_option maxRecDepth 20000 in
theorem wq_570 : Cond.code yX6_dividesAll cX6_dividesAll 3 (some .boolean) ∈ WL := List.mem_filter.mpr ⟨List.mem_of_getElem? (i := 913) rfl, rfl⟩
set_option maxRecDepth 20000 in
theorem wq_571 : Cond.methodLink RX6 220 yX6_layPoint ∈ WL := List.mem_filter.mpr ⟨List.mem_of_getElem? (i := 914) rfl, rfl⟩
set_option maxRecDepth 20000 in
theorem wq_572 : Cond.instanceMethod yX6_layPoint ∈ WL := List.mem_filter.mpr ⟨List.mem_of_getElem? (i := 916) rfl, rfl⟩
set_option maxRecDepth 20000 in
theorem wq_573 : Cond.selects RX6 yX6_layPoint yX6_layPoint ∈ WL := List.mem_filter.mpr ⟨List.mem_of_getElem? (i := 74) rfl, rfl⟩
set_option maxRecDepth 20000 in
theorem wq_574 : Cond.code yX6_layPoint cX6_layPoint 5 none ∈ WL := List.mem_filter.mpr ⟨List.mem_of_getElem? (i := 917) rfl, rfl⟩
set_option maxRecDepth 20000 in
theorem wq_575 : Cond.fieldLink RX6 208 "CubicFormsModel" "tc" "J" ∈ WL := List.mem_filter.mpr ⟨List.mem_of_getElem? (i := 650) rfl, rfl⟩
set_option maxRecDepth 20000 in
theorem wq_576 : Cond.fieldLink RX6 211 "CubicFormsModel" "td" "J" ∈ WL := List.mem_filter.mpr ⟨List.mem_of_getElem? (i := 651) rfl, rfl⟩
set_option maxRecDepth 20000 in
theorem wq_577 : Cond.methodLink RL 97 yX5_isMaximalAt ∈ WL := List.mem_filter.mpr ⟨List.mem_of_getElem? (i := 545) rfl, rfl⟩
set_option maxRecDepth 20000 in
theorem wq_578 : Cond.instanceMethod yX5_isMaximalAt ∈ WL := List.mem_filter.mpr ⟨List.mem_of_getElem? (i := 546) rfl, rfl⟩
set_option maxRecDepth 20000 in
theorem wq_579 : Cond.selects RX5 yX5_isMaximalAt yX5_isMaximalAt ∈ WL := List.mem_filter.mpr ⟨List.mem_of_getElem? (i := 547) rfl, rfl⟩
set_option maxRecDepth 20000 in
theorem wq_580 : Cond.code yX5_isMaximalAt cX5_isMaximalAt 3 (some .int) ∈ WL := List.mem_filter.mpr ⟨List.mem_of_getElem? (i := 548) rfl, rfl⟩
set_option maxRecDepth 20000 in
theorem wq_581 : Cond.instanceMethod yX4_growAt ∈ WL := List.mem_filter.mpr ⟨List.mem_of_getElem? (i := 551) rfl, rfl⟩
set_option maxRecDepth 20000 in
theorem wq_582 : Cond.selects RX4 yX4_growAt yX4_growAt ∈ WL := List.mem_filter.mpr ⟨List.mem_of_getElem? (i := 41) rfl, rfl⟩
set_option maxRecDepth 20000 in
theorem wq_583 : Cond.code yX4_growAt cX4_growAt 3 (some .boolean) ∈ WL := List.mem_filter.mpr ⟨List.mem_of_getElem? (i := 552) rfl, rfl⟩
set_option maxRecDepth 20000 in
theorem wq_584 : Cond.instanceMethod yX0_becomeOverring ∈ WL := List.mem_filter.mpr ⟨List.mem_of_getElem? (i := 555) rfl, rfl⟩
set_option maxRecDepth 20000 in
theorem wq_585 : Cond.selects RX0 yX0_becomeOverring yX0_becomeOverring ∈ WL := List.mem_filter.mpr ⟨List.mem_of_getElem? (i := 42) rfl, rfl⟩
set_option maxRecDepth 20000 in
theorem wq_586 : Cond.code yX0_becomeOverring cX0_becomeOverring 6 (some .boolean) ∈ WL := List.mem_filter.mpr ⟨List.mem_of_getElem? (i := 556) rfl, rfl⟩
set_option maxRecDepth 20000 in
theorem wq_587 : Cond.methodLink RX0 83 yX0_disc ∈ WL := List.mem_filter.mpr ⟨List.mem_of_getElem? (i := 557) rfl, rfl⟩
set_option maxRecDepth 20000 in
theorem wq_588 : Cond.methodLink RX0 86 yX0_isMultipleOf ∈ WL := List.mem_filter.mpr ⟨List.mem_of_getElem? (i := 558) rfl, rfl⟩
set_option maxRecDepth 20000 in
theorem wq_589 : Cond.methodLink RX0 90 yX0_becomeAtPoint ∈ WL := List.mem_filter.mpr ⟨List.mem_of_getElem? (i := 559) rfl, rfl⟩
set_option maxRecDepth 20000 in
theorem wq_590 : Cond.methodLink RL 100 yX6_isMaximalAt ∈ WL := List.mem_filter.mpr ⟨List.mem_of_getElem? (i := 918) rfl, rfl⟩
set_option maxRecDepth 20000 in
theorem wq_591 : Cond.instanceMethod yX6_isMaximalAt ∈ WL := List.mem_filter.mpr ⟨List.mem_of_getElem? (i := 919) rfl, rfl⟩
set_option maxRecDepth 20000 in
theorem wq_592 : Cond.selects RX6 yX6_isMaximalAt yX6_isMaximalAt ∈ WL := List.mem_filter.mpr ⟨List.mem_of_getElem? (i := 920) rfl, rfl⟩
set_option maxRecDepth 20000 in
theorem wq_593 : Cond.code yX6_isMaximalAt cX6_isMaximalAt 3 (some .int) ∈ WL := List.mem_filter.mpr ⟨List.mem_of_getElem? (i := 921) rfl, rfl⟩
set_option maxRecDepth 20000 in
theorem wq_594 : Cond.methodLink RX6 224 yX6_enlarge ∈ WL := List.mem_filter.mpr ⟨List.mem_of_getElem? (i := 922) rfl, rfl⟩
set_option maxRecDepth 20000 in
theorem wq_595 : Cond.instanceMethod yX6_enlarge ∈ WL := List.mem_filter.mpr ⟨List.mem_of_getElem? (i := 924) rfl, rfl⟩
set_option maxRecDepth 20000 in
theorem wq_596 : Cond.selects RX6 yX6_enlarge yX6_enlarge ∈ WL := List.mem_filter.mpr ⟨List.mem_of_getElem? (i := 75) rfl, rfl⟩
set_option maxRecDepth 20000 in
theorem wq_597 : Cond.code yX6_enlarge cX6_enlarge 5 (some .boolean) ∈ WL := List.mem_filter.mpr ⟨List.mem_of_getElem? (i := 925) rfl, rfl⟩
set_option maxRecDepth 20000 in
theorem wq_598 : Cond.methodLink RL 101 yX5_overring ∈ WL := List.mem_filter.mpr ⟨List.mem_of_getElem? (i := 560) rfl, rfl⟩
set_option maxRecDepth 20000 in
theorem wq_599 : Cond.instanceMethod yX5_overring ∈ WL := List.mem_filter.mpr ⟨List.mem_of_getElem? (i := 561) rfl, rfl⟩
set_option maxRecDepth 20000 in
theorem wq_600 : Cond.selects RX5 yX5_overring yX5_overring ∈ WL := List.mem_filter.mpr ⟨List.mem_of_getElem? (i := 562) rfl, rfl⟩
set_option maxRecDepth 20000 in
theorem wq_601 : Cond.code yX5_overring cX5_overring 3 (some .int) ∈ WL := List.mem_filter.mpr ⟨List.mem_of_getElem? (i := 563) rfl, rfl⟩
set_option maxRecDepth 20000 in
theorem wq_602 : Cond.methodLink RL 104 yX6_overring ∈ WL := List.mem_filter.mpr ⟨List.mem_of_getElem? (i := 926) rfl, rfl⟩
set_option maxRecDepth 20000 in
theorem wq_603 : Cond.instanceMethod yX6_overring ∈ WL := List.mem_filter.mpr ⟨List.mem_of_getElem? (i := 927) rfl, rfl⟩
set_option maxRecDepth 20000 in
theorem wq_604 : Cond.selects RX6 yX6_overring yX6_overring ∈ WL := List.mem_filter.mpr ⟨List.mem_of_getElem? (i := 928) rfl, rfl⟩
set_option maxRecDepth 20000 in
theorem wq_605 : Cond.code yX6_overring cX6_overring 3 (some .int) ∈ WL := List.mem_filter.mpr ⟨List.mem_of_getElem? (i := 929) rfl, rfl⟩
set_option maxRecDepth 20000 in
theorem wq_606 : Cond.methodLink RL 105 yX5_maximalOverring ∈ WL := List.mem_filter.mpr ⟨List.mem_of_getElem? (i := 564) rfl, rfl⟩
set_option maxRecDepth 20000 in
theorem wq_607 : Cond.instanceMethod yX5_maximalOverring ∈ WL := List.mem_filter.mpr ⟨List.mem_of_getElem? (i := 565) rfl, rfl⟩
set_option maxRecDepth 20000 in
theorem wq_608 : Cond.selects RX5 yX5_maximalOverring yX5_maximalOverring ∈ WL := List.mem_filter.mpr ⟨List.mem_of_getElem? (i := 566) rfl, rfl⟩
set_option maxRecDepth 20000 in
theorem wq_609 : Cond.code yX5_maximalOverring cX5_maximalOverring 2 (some .int) ∈ WL := List.mem_filter.mpr ⟨List.mem_of_getElem? (i := 567) rfl, rfl⟩
set_option maxRecDepth 20000 in
theorem wq_610 : Cond.instanceMethod yX4_makeMaximal ∈ WL := List.mem_filter.mpr ⟨List.mem_of_getElem? (i := 570) rfl, rfl⟩
set_option maxRecDepth 20000 in
theorem wq_611 : Cond.selects RX4 yX4_makeMaximal yX4_makeMaximal ∈ WL := List.mem_filter.mpr ⟨List.mem_of_getElem? (i := 43) rfl, rfl⟩
set_option maxRecDepth 20000 in
theorem wq_612 : Cond.code yX4_makeMaximal cX4_makeMaximal 3 none ∈ WL := List.mem_filter.mpr ⟨List.mem_of_getElem? (i := 571) rfl, rfl⟩
set_option maxRecDepth 20000 in
theorem wq_613 : Cond.methodLink RX4 78 yX4_makeCanonical ∈ WL := List.mem_filter.mpr ⟨List.mem_of_getElem? (i := 572) rfl, rfl⟩
set_option maxRecDepth 20000 in
theorem wq_614 : Cond.methodLink RX4 81 yX4_growAtLeastPrime ∈ WL := List.mem_filter.mpr ⟨List.mem_of_getElem? (i := 573) rfl, rfl⟩
set_option maxRecDepth 20000 in
theorem wq_615 : Cond.instanceMethod yX4_growAtLeastPrime ∈ WL := List.mem_filter.mpr ⟨List.mem_of_getElem? (i := 575) rfl, rfl⟩
set_option maxRecDepth 20000 in
theorem wq_616 : Cond.selects RX4 yX4_growAtLeastPrime yX4_growAtLeastPrime ∈ WL := List.mem_filter.mpr ⟨List.mem_of_getElem? (i := 44) rfl, rfl⟩
set_option maxRecDepth 20000 in
theorem wq_617 : Cond.code yX4_growAtLeastPrime cX4_growAtLeastPrime 5 (some .boolean) ∈ WL := List.mem_filter.mpr ⟨List.mem_of_getElem? (i := 576) rfl, rfl⟩
set_option maxRecDepth 20000 in
theorem wq_618 : Cond.methodLink RL 108 yX6_maximalOverring ∈ WL := List.mem_filter.mpr ⟨List.mem_of_getElem? (i := 930) rfl, rfl⟩
set_option maxRecDepth 20000 in
theorem wq_619 : Cond.instanceMethod yX6_maximalOverring ∈ WL := List.mem_filter.mpr ⟨List.mem_of_getElem? (i := 931) rfl, rfl⟩
set_option maxRecDepth 20000 in
theorem wq_620 : Cond.selects RX6 yX6_maximalOverring yX6_maximalOverring ∈ WL := List.mem_filter.mpr ⟨List.mem_of_getElem? (i := 932) rfl, rfl⟩
set_option maxRecDepth 20000 in
theorem wq_621 : Cond.code yX6_maximalOverring cX6_maximalOverring 2 (some .int) ∈ WL := List.mem_filter.mpr ⟨List.mem_of_getElem? (i := 933) rfl, rfl⟩
set_option maxRecDepth 20000 in
theorem wq_622 : Cond.methodLink RX6 227 yX6_enlargeSomewhere ∈ WL := List.mem_filter.mpr ⟨List.mem_of_getElem? (i := 934) rfl, rfl⟩
set_option maxRecDepth 20000 in
theorem wq_623 : Cond.instanceMethod yX6_enlargeSomewhere ∈ WL := List.mem_filter.mpr ⟨List.mem_of_getElem? (i := 936) rfl, rfl⟩
set_option maxRecDepth 20000 in
theorem wq_624 : Cond.selects RX6 yX6_enlargeSomewhere yX6_enlargeSomewhere ∈ WL := List.mem_filter.mpr ⟨List.mem_of_getElem? (i := 76) rfl, rfl⟩
set_option maxRecDepth 20000 in
theorem wq_625 : Cond.code yX6_enlargeSomewhere cX6_enlargeSomewhere 4 (some .boolean) ∈ WL := List.mem_filter.mpr ⟨List.mem_of_getElem? (i := 937) rfl, rfl⟩
set_option maxRecDepth 20000 in
theorem wq_626 : Cond.methodLink RL 109 yX5_countForms ∈ WL := List.mem_filter.mpr ⟨List.mem_of_getElem? (i := 579) rfl, rfl⟩
set_option maxRecDepth 20000 in
theorem wq_627 : Cond.instanceMethod yX5_countForms ∈ WL := List.mem_filter.mpr ⟨List.mem_of_getElem? (i := 580) rfl, rfl⟩
set_option maxRecDepth 20000 in
theorem wq_628 : Cond.selects RX5 yX5_countForms yX5_countForms ∈ WL := List.mem_filter.mpr ⟨List.mem_of_getElem? (i := 581) rfl, rfl⟩
set_option maxRecDepth 20000 in
theorem wq_629 : Cond.code yX5_countForms cX5_countForms 2 (some .int) ∈ WL := List.mem_filter.mpr ⟨List.mem_of_getElem? (i := 582) rfl, rfl⟩
set_option maxRecDepth 20000 in
theorem wq_630 : Cond.instanceMethod yX1_fillOnce ∈ WL := List.mem_filter.mpr ⟨List.mem_of_getElem? (i := 585) rfl, rfl⟩
set_option maxRecDepth 20000 in
theorem wq_631 : Cond.selects RX1 yX1_fillOnce yX1_fillOnce ∈ WL := List.mem_filter.mpr ⟨List.mem_of_getElem? (i := 45) rfl, rfl⟩
set_option maxRecDepth 20000 in
theorem wq_632 : Cond.code yX1_fillOnce cX1_fillOnce 8 none ∈ WL := List.mem_filter.mpr ⟨List.mem_of_getElem? (i := 586) rfl, rfl⟩
set_option maxRecDepth 20000 in
theorem wq_633 : Cond.methodLink RX1 45 yX1_isTabulated ∈ WL := List.mem_filter.mpr ⟨List.mem_of_getElem? (i := 588) rfl, rfl⟩
set_option maxRecDepth 20000 in
theorem wq_634 : Cond.instanceMethod yX1_isTabulated ∈ WL := List.mem_filter.mpr ⟨List.mem_of_getElem? (i := 590) rfl, rfl⟩
set_option maxRecDepth 20000 in
theorem wq_635 : Cond.selects RX1 yX1_isTabulated yX1_isTabulated ∈ WL := List.mem_filter.mpr ⟨List.mem_of_getElem? (i := 46) rfl, rfl⟩
set_option maxRecDepth 20000 in
theorem wq_636 : Cond.code yX1_isTabulated cX1_isTabulated 4 (some .boolean) ∈ WL := List.mem_filter.mpr ⟨List.mem_of_getElem? (i := 591) rfl, rfl⟩
set_option maxRecDepth 20000 in
theorem wq_637 : Cond.constantLong RX1 61 (1000) ∈ WL := List.mem_filter.mpr ⟨List.mem_of_getElem? (i := 594) rfl, rfl⟩
set_option maxRecDepth 20000 in
theorem wq_638 : Cond.methodLink RX1 49 yX1_addTabulated ∈ WL := List.mem_filter.mpr ⟨List.mem_of_getElem? (i := 599) rfl, rfl⟩
set_option maxRecDepth 20000 in
theorem wq_639 : Cond.instanceMethod yX1_addTabulated ∈ WL := List.mem_filter.mpr ⟨List.mem_of_getElem? (i := 601) rfl, rfl⟩
set_option maxRecDepth 20000 in
theorem wq_640 : Cond.selects RX1 yX1_addTabulated yX1_addTabulated ∈ WL := List.mem_filter.mpr ⟨List.mem_of_getElem? (i := 47) rfl, rfl⟩
set_option maxRecDepth 20000 in
theorem wq_641 : Cond.code yX1_addTabulated cX1_addTabulated 3 none ∈ WL := List.mem_filter.mpr ⟨List.mem_of_getElem? (i := 602) rfl, rfl⟩
set_option maxRecDepth 20000 in
theorem wq_642 : Cond.methodLink RX1 79 yX1_insert ∈ WL := List.mem_filter.mpr ⟨List.mem_of_getElem? (i := 603) rfl, rfl⟩
set_option maxRecDepth 20000 in
theorem wq_643 : Cond.static yX1_insert ∈ WL := List.mem_filter.mpr ⟨List.mem_of_getElem? (i := 604) rfl, rfl⟩
set_option maxRecDepth 20000 in
theorem wq_644 : Cond.code yX1_insert cX1_insert 4 (some .boolean) ∈ WL := List.mem_filter.mpr ⟨List.mem_of_getElem? (i := 605) rfl, rfl⟩
set_option maxRecDepth 20000 in
theorem wq_645 : Cond.instanceMethod yX1_countFormsTo ∈ WL := List.mem_filter.mpr ⟨List.mem_of_getElem? (i := 609) rfl, rfl⟩
set_option maxRecDepth 20000 in
theorem wq_646 : Cond.selects RX1 yX1_countFormsTo yX1_countFormsTo ∈ WL := List.mem_filter.mpr ⟨List.mem_of_getElem? (i := 48) rfl, rfl⟩
set_option maxRecDepth 20000 in
theorem wq_647 : Cond.code yX1_countFormsTo cX1_countFormsTo 2 (some .int) ∈ WL := List.mem_filter.mpr ⟨List.mem_of_getElem? (i := 610) rfl, rfl⟩
set_option maxRecDepth 20000 in
theorem wq_648 : Cond.methodLink RX1 37 yX1_countTo ∈ WL := List.mem_filter.mpr ⟨List.mem_of_getElem? (i := 611) rfl, rfl⟩
set_option maxRecDepth 20000 in
theorem wq_649 : Cond.static yX1_countTo ∈ WL := List.mem_filter.mpr ⟨List.mem_of_getElem? (i := 612) rfl, rfl⟩
set_option maxRecDepth 20000 in
theorem wq_650 : Cond.code yX1_countTo cX1_countTo 5 (some .int) ∈ WL := List.mem_filter.mpr ⟨List.mem_of_getElem? (i := 613) rfl, rfl⟩
set_option maxRecDepth 20000 in
theorem wq_651 : Cond.methodLink RL 112 yX6_countForms ∈ WL := List.mem_filter.mpr ⟨List.mem_of_getElem? (i := 938) rfl, rfl⟩
set_option maxRecDepth 20000 in
theorem wq_652 : Cond.instanceMethod yX6_countForms ∈ WL := List.mem_filter.mpr ⟨List.mem_of_getElem? (i := 939) rfl, rfl⟩
set_option maxRecDepth 20000 in
theorem wq_653 : Cond.selects RX6 yX6_countForms yX6_countForms ∈ WL := List.mem_filter.mpr ⟨List.mem_of_getElem? (i := 940) rfl, rfl⟩
set_option maxRecDepth 20000 in
theorem wq_654 : Cond.code yX6_countForms cX6_countForms 4 (some .int) ∈ WL := List.mem_filter.mpr ⟨List.mem_of_getElem? (i := 941) rfl, rfl⟩
set_option maxRecDepth 20000 in
theorem wq_655 : Cond.methodLink RX6 241 yX6_tabulate ∈ WL := List.mem_filter.mpr ⟨List.mem_of_getElem? (i := 942) rfl, rfl⟩
set_option maxRecDepth 20000 in
theorem wq_656 : Cond.instanceMethod yX6_tabulate ∈ WL := List.mem_filter.mpr ⟨List.mem_of_getElem? (i := 944) rfl, rfl⟩
set_option maxRecDepth 20000 in
theorem wq_657 : Cond.selects RX6 yX6_tabulate yX6_tabulate ∈ WL := List.mem_filter.mpr ⟨List.mem_of_getElem? (i := 77) rfl, rfl⟩
set_option maxRecDepth 20000 in
theorem wq_658 : Cond.code yX6_tabulate cX6_tabulate 2 none ∈ WL := List.mem_filter.mpr ⟨List.mem_of_getElem? (i := 945) rfl, rfl⟩
set_option maxRecDepth 20000 in
theorem wq_659 : Cond.constant RX6 233 (130321) ∈ WL := List.mem_filter.mpr ⟨List.mem_of_getElem? (i := 946) rfl, rfl⟩
set_option maxRecDepth 20000 in
theorem wq_660 : Cond.fieldLink RX6 234 "CubicFormsModel" "isTabulated" "Z" ∈ WL := List.mem_filter.mpr ⟨List.mem_of_getElem? (i := 652) rfl, rfl⟩
set_option maxRecDepth 20000 in
theorem wq_661 : Cond.methodLink RX6 238 yX6_tabulateNow ∈ WL := List.mem_filter.mpr ⟨List.mem_of_getElem? (i := 947) rfl, rfl⟩
set_option maxRecDepth 20000 in
theorem wq_662 : Cond.instanceMethod yX6_tabulateNow ∈ WL := List.mem_filter.mpr ⟨List.mem_of_getElem? (i := 949) rfl, rfl⟩
set_option maxRecDepth 20000 in
theorem wq_663 : Cond.selects RX6 yX6_tabulateNow yX6_tabulateNow ∈ WL := List.mem_filter.mpr ⟨List.mem_of_getElem? (i := 78) rfl, rfl⟩
set_option maxRecDepth 20000 in
theorem wq_664 : Cond.code yX6_tabulateNow cX6_tabulateNow 3 none ∈ WL := List.mem_filter.mpr ⟨List.mem_of_getElem? (i := 950) rfl, rfl⟩
set_option maxRecDepth 20000 in
theorem wq_665 : Cond.methodLink RX6 230 yX6_isCanonicalNow ∈ WL := List.mem_filter.mpr ⟨List.mem_of_getElem? (i := 951) rfl, rfl⟩
set_option maxRecDepth 20000 in
theorem wq_666 : Cond.instanceMethod yX6_isCanonicalNow ∈ WL := List.mem_filter.mpr ⟨List.mem_of_getElem? (i := 953) rfl, rfl⟩
set_option maxRecDepth 20000 in
theorem wq_667 : Cond.selects RX6 yX6_isCanonicalNow yX6_isCanonicalNow ∈ WL := List.mem_filter.mpr ⟨List.mem_of_getElem? (i := 79) rfl, rfl⟩
set_option maxRecDepth 20000 in
theorem wq_668 : Cond.code yX6_isCanonicalNow cX6_isCanonicalNow 10 (some .boolean) ∈ WL := List.mem_filter.mpr ⟨List.mem_of_getElem? (i := 954) rfl, rfl⟩
set_option maxRecDepth 20000 in
theorem wq_669 : Cond.methodLink RL 113 yX5_countFields ∈ WL := List.mem_filter.mpr ⟨List.mem_of_getElem? (i := 614) rfl, rfl⟩
set_option maxRecDepth 20000 in
theorem wq_670 : Cond.instanceMethod yX5_countFields ∈ WL := List.mem_filter.mpr ⟨List.mem_of_getElem? (i := 615) rfl, rfl⟩
set_option maxRecDepth 20000 in
theorem wq_671 : Cond.selects RX5 yX5_countFields yX5_countFields ∈ WL := List.mem_filter.mpr ⟨List.mem_of_getElem? (i := 616) rfl, rfl⟩
set_option maxRecDepth 20000 in
theorem wq_672 : Cond.code yX5_countFields cX5_countFields 2 (some .int) ∈ WL := List.mem_filter.mpr ⟨List.mem_of_getElem? (i := 617) rfl, rfl⟩
set_option maxRecDepth 20000 in
theorem wq_673 : Cond.instanceMethod yX1_countFieldsTo ∈ WL := List.mem_filter.mpr ⟨List.mem_of_getElem? (i := 620) rfl, rfl⟩
set_option maxRecDepth 20000 in
theorem wq_674 : Cond.selects RX1 yX1_countFieldsTo yX1_countFieldsTo ∈ WL := List.mem_filter.mpr ⟨List.mem_of_getElem? (i := 49) rfl, rfl⟩
set_option maxRecDepth 20000 in
theorem wq_675 : Cond.code yX1_countFieldsTo cX1_countFieldsTo 2 (some .int) ∈ WL := List.mem_filter.mpr ⟨List.mem_of_getElem? (i := 621) rfl, rfl⟩
set_option maxRecDepth 20000 in
theorem wq_676 : Cond.methodLink RL 116 yX6_countFields ∈ WL := List.mem_filter.mpr ⟨List.mem_of_getElem? (i := 955) rfl, rfl⟩
set_option maxRecDepth 20000 in
theorem wq_677 : Cond.instanceMethod yX6_countFields ∈ WL := List.mem_filter.mpr ⟨List.mem_of_getElem? (i := 956) rfl, rfl⟩
set_option maxRecDepth 20000 in
theorem wq_678 : Cond.selects RX6 yX6_countFields yX6_countFields ∈ WL := List.mem_filter.mpr ⟨List.mem_of_getElem? (i := 957) rfl, rfl⟩
set_option maxRecDepth 20000 in
theorem wq_679 : Cond.code yX6_countFields cX6_countFields 4 (some .int) ∈ WL := List.mem_filter.mpr ⟨List.mem_of_getElem? (i := 958) rfl, rfl⟩
set_option maxRecDepth 20000 in
theorem wq_680 : Cond.methodLink RL 117 yX5_fieldDiscriminant ∈ WL := List.mem_filter.mpr ⟨List.mem_of_getElem? (i := 622) rfl, rfl⟩
set_option maxRecDepth 20000 in
theorem wq_681 : Cond.instanceMethod yX5_fieldDiscriminant ∈ WL := List.mem_filter.mpr ⟨List.mem_of_getElem? (i := 623) rfl, rfl⟩
set_option maxRecDepth 20000 in
theorem wq_682 : Cond.selects RX5 yX5_fieldDiscriminant yX5_fieldDiscriminant ∈ WL := List.mem_filter.mpr ⟨List.mem_of_getElem? (i := 624) rfl, rfl⟩
set_option maxRecDepth 20000 in
theorem wq_683 : Cond.code yX5_fieldDiscriminant cX5_fieldDiscriminant 2 (some .int) ∈ WL := List.mem_filter.mpr ⟨List.mem_of_getElem? (i := 625) rfl, rfl⟩
set_option maxRecDepth 20000 in
theorem wq_684 : Cond.methodLink RL 120 yX6_fieldDiscriminant ∈ WL := List.mem_filter.mpr ⟨List.mem_of_getElem? (i := 959) rfl, rfl⟩
set_option maxRecDepth 20000 in
theorem wq_685 : Cond.instanceMethod yX6_fieldDiscriminant ∈ WL := List.mem_filter.mpr ⟨List.mem_of_getElem? (i := 960) rfl, rfl⟩
set_option maxRecDepth 20000 in
theorem wq_686 : Cond.selects RX6 yX6_fieldDiscriminant yX6_fieldDiscriminant ∈ WL := List.mem_filter.mpr ⟨List.mem_of_getElem? (i := 961) rfl, rfl⟩
set_option maxRecDepth 20000 in
theorem wq_687 : Cond.code yX6_fieldDiscriminant cX6_fieldDiscriminant 4 (some .int) ∈ WL := List.mem_filter.mpr ⟨List.mem_of_getElem? (i := 962) rfl, rfl⟩
set_option maxRecDepth 20000 in
theorem wl_X5_0 : u_lay RX5 TX5 0 ∈ WL := List.mem_filter.mpr ⟨List.mem_of_getElem? (i := 236) rfl, rfl⟩
set_option maxRecDepth 20000 in
theorem wl_X5_1 : u_lay RX5 TX5 1 ∈ WL := List.mem_filter.mpr ⟨List.mem_of_getElem? (i := 238) rfl, rfl⟩
set_option maxRecDepth 20000 in
theorem wl_X5_2 : u_lay RX5 TX5 2 ∈ WL := List.mem_filter.mpr ⟨List.mem_of_getElem? (i := 240) rfl, rfl⟩
set_option maxRecDepth 20000 in
theorem wl_X5_3 : u_lay RX5 TX5 3 ∈ WL := List.mem_filter.mpr ⟨List.mem_of_getElem? (i := 242) rfl, rfl⟩
set_option maxRecDepth 20000 in
theorem wl_X5_4 : u_lay RX5 TX5 4 ∈ WL := List.mem_filter.mpr ⟨List.mem_of_getElem? (i := 244) rfl, rfl⟩
set_option maxRecDepth 20000 in
theorem wl_X5_5 : u_lay RX5 TX5 5 ∈ WL := List.mem_filter.mpr ⟨List.mem_of_getElem? (i := 246) rfl, rfl⟩
set_option maxRecDepth 20000 in
theorem wl_X5_6 : u_lay RX5 TX5 6 ∈ WL := List.mem_filter.mpr ⟨List.mem_of_getElem? (i := 248) rfl, rfl⟩
set_option maxRecDepth 20000 in
theorem wl_X5_7 : u_lay RX5 TX5 7 ∈ WL := List.mem_filter.mpr ⟨List.mem_of_getElem? (i := 250) rfl, rfl⟩
set_option maxRecDepth 20000 in
theorem wl_X5_8 : u_lay RX5 TX5 8 ∈ WL := List.mem_filter.mpr ⟨List.mem_of_getElem? (i := 252) rfl, rfl⟩
set_option maxRecDepth 20000 in
theorem wl_X5_9 : u_lay RX5 TX5 9 ∈ WL := List.mem_filter.mpr ⟨List.mem_of_getElem? (i := 254) rfl, rfl⟩
theorem inlX5 : ∀ w ∈ wsX50, w ∈ WL := show ∀ w ∈ ([u_lay RX5 TX5 0, u_lay RX5 TX5 1, u_lay RX5 TX5 2, u_lay RX5 TX5 3, u_lay RX5 TX5 4, u_lay RX5 TX5 5, u_lay RX5 TX5 6, u_lay RX5 TX5 7, u_lay RX5 TX5 8, u_lay RX5 TX5 9] : List Cond), w ∈ WL from (List.forall_mem_cons.mpr ⟨wl_X5_0, (List.forall_mem_cons.mpr ⟨wl_X5_1, (List.forall_mem_cons.mpr ⟨wl_X5_2, (List.forall_mem_cons.mpr ⟨wl_X5_3, (List.forall_mem_cons.mpr ⟨wl_X5_4, (List.forall_mem_cons.mpr ⟨wl_X5_5, (List.forall_mem_cons.mpr ⟨wl_X5_6, (List.forall_mem_cons.mpr ⟨wl_X5_7, (List.forall_mem_cons.mpr ⟨wl_X5_8, (List.forall_mem_cons.mpr ⟨wl_X5_9, (fun _ h => absurd h List.not_mem_nil)⟩)⟩)⟩)⟩)⟩)⟩)⟩)⟩)⟩)⟩)
set_option maxRecDepth 20000 in
theorem wl_X6_0 : u_lay RX6 TX6 0 ∈ WL := List.mem_filter.mpr ⟨List.mem_of_getElem? (i := 655) rfl, rfl⟩
set_option maxRecDepth 20000 in
theorem wl_X6_1 : u_lay RX6 TX6 1 ∈ WL := List.mem_filter.mpr ⟨List.mem_of_getElem? (i := 657) rfl, rfl⟩
set_option maxRecDepth 20000 in
theorem wl_X6_2 : u_lay RX6 TX6 2 ∈ WL := List.mem_filter.mpr ⟨List.mem_of_getElem? (i := 659) rfl, rfl⟩
set_option maxRecDepth 20000 in
theorem wl_X6_3 : u_lay RX6 TX6 3 ∈ WL := List.mem_filter.mpr ⟨List.mem_of_getElem? (i := 661) rfl, rfl⟩
set_option maxRecDepth 20000 in
theorem wl_X6_4 : u_lay RX6 TX6 4 ∈ WL := List.mem_filter.mpr ⟨List.mem_of_getElem? (i := 663) rfl, rfl⟩
set_option maxRecDepth 20000 in
theorem wl_X6_5 : u_lay RX6 TX6 5 ∈ WL := List.mem_filter.mpr ⟨List.mem_of_getElem? (i := 665) rfl, rfl⟩
set_option maxRecDepth 20000 in
theorem wl_X6_6 : u_lay RX6 TX6 6 ∈ WL := List.mem_filter.mpr ⟨List.mem_of_getElem? (i := 667) rfl, rfl⟩
set_option maxRecDepth 20000 in
theorem wl_X6_7 : u_lay RX6 TX6 7 ∈ WL := List.mem_filter.mpr ⟨List.mem_of_getElem? (i := 669) rfl, rfl⟩
set_option maxRecDepth 20000 in
theorem wl_X6_8 : u_lay RX6 TX6 8 ∈ WL := List.mem_filter.mpr ⟨List.mem_of_getElem? (i := 671) rfl, rfl⟩
set_option maxRecDepth 20000 in
theorem wl_X6_9 : u_lay RX6 TX6 9 ∈ WL := List.mem_filter.mpr ⟨List.mem_of_getElem? (i := 673) rfl, rfl⟩
set_option maxRecDepth 20000 in
theorem wl_X6_10 : u_lay RX6 TX6 10 ∈ WL := List.mem_filter.mpr ⟨List.mem_of_getElem? (i := 675) rfl, rfl⟩
set_option maxRecDepth 20000 in
theorem wl_X6_11 : u_lay RX6 TX6 11 ∈ WL := List.mem_filter.mpr ⟨List.mem_of_getElem? (i := 677) rfl, rfl⟩
set_option maxRecDepth 20000 in
theorem wl_X6_12 : u_lay RX6 TX6 12 ∈ WL := List.mem_filter.mpr ⟨List.mem_of_getElem? (i := 679) rfl, rfl⟩
set_option maxRecDepth 20000 in
theorem wl_X6_13 : u_lay RX6 TX6 13 ∈ WL := List.mem_filter.mpr ⟨List.mem_of_getElem? (i := 681) rfl, rfl⟩
set_option maxRecDepth 20000 in
theorem wl_X6_14 : u_lay RX6 TX6 14 ∈ WL := List.mem_filter.mpr ⟨List.mem_of_getElem? (i := 683) rfl, rfl⟩
set_option maxRecDepth 20000 in
theorem wl_X6_15 : u_lay RX6 TX6 15 ∈ WL := List.mem_filter.mpr ⟨List.mem_of_getElem? (i := 685) rfl, rfl⟩
set_option maxRecDepth 20000 in
theorem wl_X6_16 : u_lay RX6 TX6 16 ∈ WL := List.mem_filter.mpr ⟨List.mem_of_getElem? (i := 687) rfl, rfl⟩
set_option maxRecDepth 20000 in
theorem wl_X6_17 : u_lay RX6 TX6 17 ∈ WL := List.mem_filter.mpr ⟨List.mem_of_getElem? (i := 689) rfl, rfl⟩
set_option maxRecDepth 20000 in
theorem wl_X6_18 : u_lay RX6 TX6 18 ∈ WL := List.mem_filter.mpr ⟨List.mem_of_getElem? (i := 691) rfl, rfl⟩
set_option maxRecDepth 20000 in
theorem wl_X6_19 : u_lay RX6 TX6 19 ∈ WL := List.mem_filter.mpr ⟨List.mem_of_getElem? (i := 693) rfl, rfl⟩
set_option maxRecDepth 20000 in
theorem wl_X6_20 : u_lay RX6 TX6 20 ∈ WL := List.mem_filter.mpr ⟨List.mem_of_getElem? (i := 695) rfl, rfl⟩
set_option maxRecDepth 20000 in
theorem wl_X6_21 : u_lay RX6 TX6 21 ∈ WL := List.mem_filter.mpr ⟨List.mem_of_getElem? (i := 697) rfl, rfl⟩
set_option maxRecDepth 20000 in
theorem wl_X6_22 : u_lay RX6 TX6 22 ∈ WL := List.mem_filter.mpr ⟨List.mem_of_getElem? (i := 699) rfl, rfl⟩
theorem inlX6 : ∀ w ∈ wsX60, w ∈ WL := show ∀ w ∈ ([u_lay RX6 TX6 0, u_lay RX6 TX6 1, u_lay RX6 TX6 2, u_lay RX6 TX6 3, u_lay RX6 TX6 4, u_lay RX6 TX6 5, u_lay RX6 TX6 6, u_lay RX6 TX6 7, u_lay RX6 TX6 8, u_lay RX6 TX6 9, u_lay RX6 TX6 10, u_lay RX6 TX6 11, u_lay RX6 TX6 12, u_lay RX6 TX6 13, u_lay RX6 TX6 14, u_lay RX6 TX6 15, u_lay RX6 TX6 16, u_lay RX6 TX6 17, u_lay RX6 TX6 18, u_lay RX6 TX6 19, u_lay RX6 TX6 20, u_lay RX6 TX6 21, u_lay RX6 TX6 22] : List Cond), w ∈ WL from (List.forall_mem_cons.mpr ⟨wl_X6_0, (List.forall_mem_cons.mpr ⟨wl_X6_1, (List.forall_mem_cons.mpr ⟨wl_X6_2, (List.forall_mem_cons.mpr ⟨wl_X6_3, (List.forall_mem_cons.mpr ⟨wl_X6_4, (List.forall_mem_cons.mpr ⟨wl_X6_5, (List.forall_mem_cons.mpr ⟨wl_X6_6, (List.forall_mem_cons.mpr ⟨wl_X6_7, (List.forall_mem_cons.mpr ⟨wl_X6_8, (List.forall_mem_cons.mpr ⟨wl_X6_9, (List.forall_mem_cons.mpr ⟨wl_X6_10, (List.forall_mem_cons.mpr ⟨wl_X6_11, (List.forall_mem_cons.mpr ⟨wl_X6_12, (List.forall_mem_cons.mpr ⟨wl_X6_13, (List.forall_mem_cons.mpr ⟨wl_X6_14, (List.forall_mem_cons.mpr ⟨wl_X6_15, (List.forall_mem_cons.mpr ⟨wl_X6_16, (List.forall_mem_cons.mpr ⟨wl_X6_17, (List.forall_mem_cons.mpr ⟨wl_X6_18, (List.forall_mem_cons.mpr ⟨wl_X6_19, (List.forall_mem_cons.mpr ⟨wl_X6_20, (List.forall_mem_cons.mpr ⟨wl_X6_21, (List.forall_mem_cons.mpr ⟨wl_X6_22, (fun _ h => absurd h List.not_mem_nil)⟩)⟩)⟩)⟩)⟩)⟩)⟩)⟩)⟩)⟩)⟩)⟩)⟩)⟩)⟩)⟩)⟩)⟩)⟩)⟩)⟩)⟩)⟩)
set_option maxRecDepth 20000 in
theorem wl_X0_0 : u_lay RX0 TX0 0 ∈ WL := List.mem_filter.mpr ⟨List.mem_of_getElem? (i := 117) rfl, rfl⟩
set_option maxRecDepth 20000 in
theorem wl_X0_1 : u_lay RX0 TX0 1 ∈ WL := List.mem_filter.mpr ⟨List.mem_of_getElem? (i := 119) rfl, rfl⟩
set_option maxRecDepth 20000 in
theorem wl_X0_2 : u_lay RX0 TX0 2 ∈ WL := List.mem_filter.mpr ⟨List.mem_of_getElem? (i := 121) rfl, rfl⟩
set_option maxRecDepth 20000 in
theorem wl_X0_3 : u_lay RX0 TX0 3 ∈ WL := List.mem_filter.mpr ⟨List.mem_of_getElem? (i := 123) rfl, rfl⟩
theorem inlX0 : ∀ w ∈ wsX00, w ∈ WL := show ∀ w ∈ ([u_lay RX0 TX0 0, u_lay RX0 TX0 1, u_lay RX0 TX0 2, u_lay RX0 TX0 3] : List Cond), w ∈ WL from (List.forall_mem_cons.mpr ⟨wl_X0_0, (List.forall_mem_cons.mpr ⟨wl_X0_1, (List.forall_mem_cons.mpr ⟨wl_X0_2, (List.forall_mem_cons.mpr ⟨wl_X0_3, (fun _ h => absurd h List.not_mem_nil)⟩)⟩)⟩)⟩)
set_option maxRecDepth 20000 in
theorem wl_X3_0 : u_lay RX3 TX3 0 ∈ WL := List.mem_filter.mpr ⟨List.mem_of_getElem? (i := 142) rfl, rfl⟩
set_option maxRecDepth 20000 in
theorem wl_X3_1 : u_lay RX3 TX3 1 ∈ WL := List.mem_filter.mpr ⟨List.mem_of_getElem? (i := 144) rfl, rfl⟩
set_option maxRecDepth 20000 in
theorem wl_X3_2 : u_lay RX3 TX3 2 ∈ WL := List.mem_filter.mpr ⟨List.mem_of_getElem? (i := 146) rfl, rfl⟩
theorem inlX3 : ∀ w ∈ wsX30, w ∈ WL := show ∀ w ∈ ([u_lay RX3 TX3 0, u_lay RX3 TX3 1, u_lay RX3 TX3 2] : List Cond), w ∈ WL from (List.forall_mem_cons.mpr ⟨wl_X3_0, (List.forall_mem_cons.mpr ⟨wl_X3_1, (List.forall_mem_cons.mpr ⟨wl_X3_2, (fun _ h => absurd h List.not_mem_nil)⟩)⟩)⟩)
set_option maxRecDepth 20000 in
theorem wl_X4_0 : u_lay RX4 TX4 0 ∈ WL := List.mem_filter.mpr ⟨List.mem_of_getElem? (i := 159) rfl, rfl⟩
set_option maxRecDepth 20000 in
theorem wl_X4_1 : u_lay RX4 TX4 1 ∈ WL := List.mem_filter.mpr ⟨List.mem_of_getElem? (i := 161) rfl, rfl⟩
theorem inlX4 : ∀ w ∈ wsX40, w ∈ WL := show ∀ w ∈ ([u_lay RX4 TX4 0, u_lay RX4 TX4 1] : List Cond), w ∈ WL from (List.forall_mem_cons.mpr ⟨wl_X4_0, (List.forall_mem_cons.mpr ⟨wl_X4_1, (fun _ h => absurd h List.not_mem_nil)⟩)⟩)
set_option maxRecDepth 20000 in
theorem wl_X2_0 : u_lay RX2 TX2 0 ∈ WL := List.mem_filter.mpr ⟨List.mem_of_getElem? (i := 179) rfl, rfl⟩
set_option maxRecDepth 20000 in
theorem wl_X2_1 : u_lay RX2 TX2 1 ∈ WL := List.mem_filter.mpr ⟨List.mem_of_getElem? (i := 181) rfl, rfl⟩
set_option maxRecDepth 20000 in
theorem wl_X2_2 : u_lay RX2 TX2 2 ∈ WL := List.mem_filter.mpr ⟨List.mem_of_getElem? (i := 183) rfl, rfl⟩
set_option maxRecDepth 20000 in
theorem wl_X2_3 : u_lay RX2 TX2 3 ∈ WL := List.mem_filter.mpr ⟨List.mem_of_getElem? (i := 185) rfl, rfl⟩
set_option maxRecDepth 20000 in
theorem wl_X2_4 : u_lay RX2 TX2 4 ∈ WL := List.mem_filter.mpr ⟨List.mem_of_getElem? (i := 187) rfl, rfl⟩
set_option maxRecDepth 20000 in
theorem wl_X2_5 : u_lay RX2 TX2 5 ∈ WL := List.mem_filter.mpr ⟨List.mem_of_getElem? (i := 189) rfl, rfl⟩
set_option maxRecDepth 20000 in
theorem wl_X2_6 : u_lay RX2 TX2 6 ∈ WL := List.mem_filter.mpr ⟨List.mem_of_getElem? (i := 191) rfl, rfl⟩
theorem inlX2 : ∀ w ∈ wsX20, w ∈ WL := show ∀ w ∈ ([u_lay RX2 TX2 0, u_lay RX2 TX2 1, u_lay RX2 TX2 2, u_lay RX2 TX2 3, u_lay RX2 TX2 4, u_lay RX2 TX2 5, u_lay RX2 TX2 6] : List Cond), w ∈ WL from (List.forall_mem_cons.mpr ⟨wl_X2_0, (List.forall_mem_cons.mpr ⟨wl_X2_1, (List.forall_mem_cons.mpr ⟨wl_X2_2, (List.forall_mem_cons.mpr ⟨wl_X2_3, (List.forall_mem_cons.mpr ⟨wl_X2_4, (List.forall_mem_cons.mpr ⟨wl_X2_5, (List.forall_mem_cons.mpr ⟨wl_X2_6, (fun _ h => absurd h List.not_mem_nil)⟩)⟩)⟩)⟩)⟩)⟩)⟩)
set_option maxRecDepth 20000 in
theorem wl_X1_0 : u_lay RX1 TX1 0 ∈ WL := List.mem_filter.mpr ⟨List.mem_of_getElem? (i := 211) rfl, rfl⟩
set_option maxRecDepth 20000 in
theorem wl_X1_1 : u_lay RX1 TX1 1 ∈ WL := List.mem_filter.mpr ⟨List.mem_of_getElem? (i := 213) rfl, rfl⟩
set_option maxRecDepth 20000 in
theorem wl_X1_2 : u_lay RX1 TX1 2 ∈ WL := List.mem_filter.mpr ⟨List.mem_of_getElem? (i := 215) rfl, rfl⟩
set_option maxRecDepth 20000 in
theorem wl_X1_3 : u_lay RX1 TX1 3 ∈ WL := List.mem_filter.mpr ⟨List.mem_of_getElem? (i := 217) rfl, rfl⟩
set_option maxRecDepth 20000 in
theorem wl_X1_4 : u_lay RX1 TX1 4 ∈ WL := List.mem_filter.mpr ⟨List.mem_of_getElem? (i := 219) rfl, rfl⟩
set_option maxRecDepth 20000 in
theorem wl_X1_5 : u_lay RX1 TX1 5 ∈ WL := List.mem_filter.mpr ⟨List.mem_of_getElem? (i := 221) rfl, rfl⟩
set_option maxRecDepth 20000 in
theorem wl_X1_6 : u_lay RX1 TX1 6 ∈ WL := List.mem_filter.mpr ⟨List.mem_of_getElem? (i := 223) rfl, rfl⟩
theorem inlX1 : ∀ w ∈ wsX10, w ∈ WL := show ∀ w ∈ ([u_lay RX1 TX1 0, u_lay RX1 TX1 1, u_lay RX1 TX1 2, u_lay RX1 TX1 3, u_lay RX1 TX1 4, u_lay RX1 TX1 5, u_lay RX1 TX1 6] : List Cond), w ∈ WL from (List.forall_mem_cons.mpr ⟨wl_X1_0, (List.forall_mem_cons.mpr ⟨wl_X1_1, (List.forall_mem_cons.mpr ⟨wl_X1_2, (List.forall_mem_cons.mpr ⟨wl_X1_3, (List.forall_mem_cons.mpr ⟨wl_X1_4, (List.forall_mem_cons.mpr ⟨wl_X1_5, (List.forall_mem_cons.mpr ⟨wl_X1_6, (fun _ h => absurd h List.not_mem_nil)⟩)⟩)⟩)⟩)⟩)⟩)⟩)
theorem nq_0 : (.fieldLinkNest RX4 60 "CubicForms$Cubic" "a" "J" "CubicForms" : Cond) ∈ nwL := List.mem_of_getElem? (i := 0) rfl
theorem nq_1 : (.fieldLinkNest RX3 37 "CubicForms$Cubic" "a" "J" "CubicForms" : Cond) ∈ nwL := List.mem_of_getElem? (i := 1) rfl
theorem nq_2 : (.fieldLinkNest RX5 209 "CubicForms$Cubic" "a" "J" "CubicForms" : Cond) ∈ nwL := List.mem_of_getElem? (i := 2) rfl
theorem nq_3 : (.fieldLinkNest RX3 29 "CubicForms$Cubic" "b" "J" "CubicForms" : Cond) ∈ nwL := List.mem_of_getElem? (i := 3) rfl
theorem nq_4 : (.fieldLinkNest RX4 64 "CubicForms$Cubic" "b" "J" "CubicForms" : Cond) ∈ nwL := List.mem_of_getElem? (i := 4) rfl
theorem nq_5 : (.fieldLinkNest RX5 213 "CubicForms$Cubic" "b" "J" "CubicForms" : Cond) ∈ nwL := List.mem_of_getElem? (i := 5) rfl
theorem nq_6 : (.fieldLinkNest RX3 34 "CubicForms$Cubic" "c" "J" "CubicForms" : Cond) ∈ nwL := List.mem_of_getElem? (i := 6) rfl
theorem nq_7 : (.fieldLinkNest RX5 216 "CubicForms$Cubic" "c" "J" "CubicForms" : Cond) ∈ nwL := List.mem_of_getElem? (i := 7) rfl
theorem nq_8 : (.fieldLinkNest RX3 40 "CubicForms$Cubic" "d" "J" "CubicForms" : Cond) ∈ nwL := List.mem_of_getElem? (i := 8) rfl
theorem nq_9 : (.fieldLinkNest RX5 219 "CubicForms$Cubic" "d" "J" "CubicForms" : Cond) ∈ nwL := List.mem_of_getElem? (i := 9) rfl
theorem nq_10 : (.fieldLinkNest RX2 34 "CubicForms$RingElement" "u" "J" "CubicForms" : Cond) ∈ nwL := List.mem_of_getElem? (i := 10) rfl
theorem nq_11 : (.fieldLinkNest RX5 222 "CubicForms$RingElement" "u" "J" "CubicForms" : Cond) ∈ nwL := List.mem_of_getElem? (i := 11) rfl
theorem nq_12 : (.fieldLinkNest RX2 38 "CubicForms$RingElement" "v" "J" "CubicForms" : Cond) ∈ nwL := List.mem_of_getElem? (i := 12) rfl
theorem nq_13 : (.fieldLinkNest RX5 225 "CubicForms$RingElement" "v" "J" "CubicForms" : Cond) ∈ nwL := List.mem_of_getElem? (i := 13) rfl
theorem nq_14 : (.fieldLinkNest RX2 41 "CubicForms$RingElement" "t" "J" "CubicForms" : Cond) ∈ nwL := List.mem_of_getElem? (i := 14) rfl
theorem nq_15 : (.fieldLinkNest RX5 228 "CubicForms$RingElement" "t" "J" "CubicForms" : Cond) ∈ nwL := List.mem_of_getElem? (i := 15) rfl
theorem nq_16 : (.fieldLinkNest RX5 199 "CubicForms$FieldTable" "fieldDiscs" "[I" "CubicForms" : Cond) ∈ nwL := List.mem_of_getElem? (i := 16) rfl
theorem nq_17 : (.fieldLinkNest RX5 196 "CubicForms$FieldTable" "fieldCount" "I" "CubicForms" : Cond) ∈ nwL := List.mem_of_getElem? (i := 17) rfl
theorem nq_18 : (.methodLinkNest RX5 24 yX0_init "CubicForms" : Cond) ∈ nwL := List.mem_of_getElem? (i := 18) rfl
theorem nq_19 : (.methodLinkNest RX5 34 yX3_init "CubicForms" : Cond) ∈ nwL := List.mem_of_getElem? (i := 19) rfl
theorem nq_20 : (.methodLinkNest RX5 44 yX4_init "CubicForms" : Cond) ∈ nwL := List.mem_of_getElem? (i := 20) rfl
theorem nq_21 : (.methodLinkNest RX4 11 yX0_init "CubicForms" : Cond) ∈ nwL := List.mem_of_getElem? (i := 21) rfl
theorem nq_22 : (.methodLinkNest RX5 51 yX2_init "CubicForms" : Cond) ∈ nwL := List.mem_of_getElem? (i := 22) rfl
theorem nq_23 : (.methodLinkNest RX2 9 yX3_init "CubicForms" : Cond) ∈ nwL := List.mem_of_getElem? (i := 23) rfl
theorem nq_24 : (.methodLinkNest RX5 58 yX1_init "CubicForms" : Cond) ∈ nwL := List.mem_of_getElem? (i := 24) rfl
theorem nq_25 : (.methodLinkNest RX1 29 yX0_init "CubicForms" : Cond) ∈ nwL := List.mem_of_getElem? (i := 25) rfl
theorem nq_26 : (.methodLinkNest RX5 63 yX0_set "CubicForms" : Cond) ∈ nwL := List.mem_of_getElem? (i := 26) rfl
theorem nq_27 : (.methodLinkNest RX5 67 yX0_fitsStore "CubicForms" : Cond) ∈ nwL := List.mem_of_getElem? (i := 27) rfl
theorem nq_28 : (.methodLinkNest RX0 30 yX5_isWithin "CubicForms" : Cond) ∈ nwL := List.mem_of_getElem? (i := 28) rfl
theorem nq_29 : (.methodLinkNest RX5 83 yX0_disc "CubicForms" : Cond) ∈ nwL := List.mem_of_getElem? (i := 29) rfl
theorem nq_30 : (.methodLinkNest RX5 89 yX0_hessianP "CubicForms" : Cond) ∈ nwL := List.mem_of_getElem? (i := 30) rfl
theorem nq_31 : (.methodLinkNest RX5 92 yX0_hessianQ "CubicForms" : Cond) ∈ nwL := List.mem_of_getElem? (i := 31) rfl
theorem nq_32 : (.methodLinkNest RX5 95 yX0_hessianR "CubicForms" : Cond) ∈ nwL := List.mem_of_getElem? (i := 32) rfl
theorem nq_33 : (.methodLinkNest RX5 104 yX0_valueAt "CubicForms" : Cond) ∈ nwL := List.mem_of_getElem? (i := 33) rfl
theorem nq_34 : (.methodLinkNest RX5 112 yX0_becomeSubstituted "CubicForms" : Cond) ∈ nwL := List.mem_of_getElem? (i := 34) rfl
theorem nq_35 : (.methodLinkNest RX5 119 yX0_hasRationalRoot "CubicForms" : Cond) ∈ nwL := List.mem_of_getElem? (i := 35) rfl
theorem nq_36 : (.methodLinkNest RX5 122 yX4_makeCanonical "CubicForms" : Cond) ∈ nwL := List.mem_of_getElem? (i := 36) rfl
theorem nq_37 : (.methodLinkNest RX4 21 yX0_reduceHessian "CubicForms" : Cond) ∈ nwL := List.mem_of_getElem? (i := 37) rfl
theorem nq_38 : (.methodLinkNest RX4 24 yX0_copyFrom "CubicForms" : Cond) ∈ nwL := List.mem_of_getElem? (i := 38) rfl
theorem nq_39 : (.methodLinkNest RX4 49 yX0_becomeSubstituted "CubicForms" : Cond) ∈ nwL := List.mem_of_getElem? (i := 39) rfl
theorem nq_40 : (.methodLinkNest RX4 32 yX0_hasReducedHessian "CubicForms" : Cond) ∈ nwL := List.mem_of_getElem? (i := 40) rfl
theorem nq_41 : (.methodLinkNest RX4 36 yX0_isBefore "CubicForms" : Cond) ∈ nwL := List.mem_of_getElem? (i := 41) rfl
theorem nq_42 : (.methodLinkNest RX5 126 yX0_isSameAs "CubicForms" : Cond) ∈ nwL := List.mem_of_getElem? (i := 42) rfl
theorem nq_43 : (.methodLinkNest RX5 130 yX4_countAutomorphisms "CubicForms" : Cond) ∈ nwL := List.mem_of_getElem? (i := 43) rfl
theorem nq_44 : (.methodLinkNest RX4 40 yX0_isSameAs "CubicForms" : Cond) ∈ nwL := List.mem_of_getElem? (i := 44) rfl
theorem nq_45 : (.methodLinkNest RX5 137 yX3_set "CubicForms" : Cond) ∈ nwL := List.mem_of_getElem? (i := 45) rfl
theorem nq_46 : (.methodLinkNest RX5 140 yX3_fitsRegister "CubicForms" : Cond) ∈ nwL := List.mem_of_getElem? (i := 46) rfl
theorem nq_47 : (.methodLinkNest RX3 23 yX5_isWithin "CubicForms" : Cond) ∈ nwL := List.mem_of_getElem? (i := 47) rfl
theorem nq_48 : (.methodLinkNest RX5 147 yX3_isSameAs "CubicForms" : Cond) ∈ nwL := List.mem_of_getElem? (i := 48) rfl
theorem nq_49 : (.methodLinkNest RX5 153 yX2_productOf "CubicForms" : Cond) ∈ nwL := List.mem_of_getElem? (i := 49) rfl
theorem nq_50 : (.methodLinkNest RX2 44 yX3_becomeProduct "CubicForms" : Cond) ∈ nwL := List.mem_of_getElem? (i := 50) rfl
theorem nq_51 : (.methodLinkNest RX5 157 yX3_traceIn "CubicForms" : Cond) ∈ nwL := List.mem_of_getElem? (i := 51) rfl
theorem nq_52 : (.methodLinkNest RX5 161 yX2_normOf "CubicForms" : Cond) ∈ nwL := List.mem_of_getElem? (i := 52) rfl
theorem nq_53 : (.methodLinkNest RX5 165 yX2_determinantOfTraces "CubicForms" : Cond) ∈ nwL := List.mem_of_getElem? (i := 53) rfl
theorem nq_54 : (.methodLinkNest RX2 59 yX3_traceIn "CubicForms" : Cond) ∈ nwL := List.mem_of_getElem? (i := 54) rfl
theorem nq_55 : (.methodLinkNest RX2 63 yX3_set "CubicForms" : Cond) ∈ nwL := List.mem_of_getElem? (i := 55) rfl
theorem nq_56 : (.methodLinkNest RX5 168 yX2_indexOf "CubicForms" : Cond) ∈ nwL := List.mem_of_getElem? (i := 56) rfl
theorem nq_57 : (.methodLinkNest RX5 174 yX4_splittingCode "CubicForms" : Cond) ∈ nwL := List.mem_of_getElem? (i := 57) rfl
theorem nq_58 : (.methodLinkNest RX4 53 yX0_isMultipleOf "CubicForms" : Cond) ∈ nwL := List.mem_of_getElem? (i := 58) rfl
theorem nq_59 : (.methodLinkNest RX4 56 yX0_becomeAtPoint "CubicForms" : Cond) ∈ nwL := List.mem_of_getElem? (i := 59) rfl
theorem nq_60 : (.methodLinkNest RX5 178 yX4_growAt "CubicForms" : Cond) ∈ nwL := List.mem_of_getElem? (i := 60) rfl
theorem nq_61 : (.methodLinkNest RX4 67 yX0_becomeOverring "CubicForms" : Cond) ∈ nwL := List.mem_of_getElem? (i := 61) rfl
theorem nq_62 : (.methodLinkNest RX5 182 yX4_makeMaximal "CubicForms" : Cond) ∈ nwL := List.mem_of_getElem? (i := 62) rfl
theorem nq_63 : (.methodLinkNest RX4 71 yX0_disc "CubicForms" : Cond) ∈ nwL := List.mem_of_getElem? (i := 63) rfl
theorem nq_64 : (.methodLinkNest RX4 75 yX5_isPrime "CubicForms" : Cond) ∈ nwL := List.mem_of_getElem? (i := 64) rfl
theorem nq_65 : (.methodLinkNest RX5 185 yX1_fillOnce "CubicForms" : Cond) ∈ nwL := List.mem_of_getElem? (i := 65) rfl
theorem nq_66 : (.methodLinkNest RX1 41 yX0_set "CubicForms" : Cond) ∈ nwL := List.mem_of_getElem? (i := 66) rfl
theorem nq_67 : (.methodLinkNest RX1 53 yX0_hasReducedHessian "CubicForms" : Cond) ∈ nwL := List.mem_of_getElem? (i := 67) rfl
theorem nq_68 : (.methodLinkNest RX1 57 yX0_disc "CubicForms" : Cond) ∈ nwL := List.mem_of_getElem? (i := 68) rfl
theorem nq_69 : (.methodLinkNest RX1 63 yX0_hasRationalRoot "CubicForms" : Cond) ∈ nwL := List.mem_of_getElem? (i := 69) rfl
theorem nq_70 : (.methodLinkNest RX1 66 yX0_copyFrom "CubicForms" : Cond) ∈ nwL := List.mem_of_getElem? (i := 70) rfl
theorem nq_71 : (.methodLinkNest RX1 70 yX4_makeCanonical "CubicForms" : Cond) ∈ nwL := List.mem_of_getElem? (i := 71) rfl
theorem nq_72 : (.methodLinkNest RX1 75 yX0_isSameAs "CubicForms" : Cond) ∈ nwL := List.mem_of_getElem? (i := 72) rfl
theorem nq_73 : (.methodLinkNest RX1 83 yX4_growAtLeastPrime "CubicForms" : Cond) ∈ nwL := List.mem_of_getElem? (i := 73) rfl
theorem nq_74 : (.methodLinkNest RX5 189 yX1_countFormsTo "CubicForms" : Cond) ∈ nwL := List.mem_of_getElem? (i := 74) rfl
theorem nq_75 : (.methodLinkNest RX5 193 yX1_countFieldsTo "CubicForms" : Cond) ∈ nwL := List.mem_of_getElem? (i := 75) rfl
section PR
variable {p : Program} {l : Launch} {e : Env} {R : Room} {s : State} {m : MethodId} {args : Array Value} {below : List Frame} {meth : Method} {c : Code} {H H0 : Heap} {locs : List Loc} {cells slots : Nat} {Q : State → Prop}
  {cc : ByteArray} {nL pc mc ms : Nat} {ls : Array Slot} {rest st0 : List Value} {D : va_G} {cI cJ : ClassId} {A free : Nat → Prop} {ws wc : va_W} {rm : Room} {Qc : Array Value → State → Outcome → State → Prop} {b a : Nat} {As fs : List Value} {v : Value}
theorem gf_X0_9 (X : Cx p s m args c cc nL RX0 D cI cJ) (hP : va_P D vwCl ws H) (q0 : Nat) (he : ws[q0]? = some (a, .inr (0, fs))) (hv : fs[0]? = some v) (hdg : decode cc pc = .ok (.getfield 9, 3)) (kk : W p l e R s m args below meth c H locs cells slots Q (F0 m (pc + 3) ls (v :: rest))) : W p l e R s m args below meth c H locs cells slots Q (F0 m pc ls (.ref a :: rest)) :=
  va_get (D := D) (ci := 0) (C := RX0) (T := TX0) (N := 4) X.1 X.2.1 X.2.2.2.2.1 inlX0 X.2.2.2.1 X.k hP q0 he rfl 0 (by decide) (X.w wq_91) (fun _ h9 => h9) hv hdg kk
theorem gf_X0_15 (X : Cx p s m args c cc nL RX0 D cI cJ) (hP : va_P D vwCl ws H) (q0 : Nat) (he : ws[q0]? = some (a, .inr (0, fs))) (hv : fs[1]? = some v) (hdg : decode cc pc = .ok (.getfield 15, 3)) (kk : W p l e R s m args below meth c H locs cells slots Q (F0 m (pc + 3) ls (v :: rest))) : W p l e R s m args below meth c H locs cells slots Q (F0 m pc ls (.ref a :: rest)) :=
  va_get (D := D) (ci := 0) (C := RX0) (T := TX0) (N := 4) X.1 X.2.1 X.2.2.2.2.1 inlX0 X.2.2.2.1 X.k hP q0 he rfl 1 (by decide) (X.w wq_92) (fun _ h9 => h9) hv hdg kk
theorem gf_X0_18 (X : Cx p s m args c cc nL RX0 D cI cJ) (hP : va_P D vwCl ws H) (q0 : Nat) (he : ws[q0]? = some (a, .inr (0, fs))) (hv : fs[2]? = some v) (hdg : decode cc pc = .ok (.getfield 18, 3)) (kk : W p l e R s m args below meth c H locs cells slots Q (F0 m (pc + 3) ls (v :: rest))) : W p l e R s m args below meth c H locs cells slots Q (F0 m pc ls (.ref a :: rest)) :=
  va_get (D := D) (ci := 0) (C := RX0) (T := TX0) (N := 4) X.1 X.2.1 X.2.2.2.2.1 inlX0 X.2.2.2.1 X.k hP q0 he rfl 2 (by decide) (X.w wq_93) (fun _ h9 => h9) hv hdg kk
theorem gf_X0_21 (X : Cx p s m args c cc nL RX0 D cI cJ) (hP : va_P D vwCl ws H) (q0 : Nat) (he : ws[q0]? = some (a, .inr (0, fs))) (hv : fs[3]? = some v) (hdg : decode cc pc = .ok (.getfield 21, 3)) (kk : W p l e R s m args below meth c H locs cells slots Q (F0 m (pc + 3) ls (v :: rest))) : W p l e R s m args below meth c H locs cells slots Q (F0 m pc ls (.ref a :: rest)) :=
  va_get (D := D) (ci := 0) (C := RX0) (T := TX0) (N := 4) X.1 X.2.1 X.2.2.2.2.1 inlX0 X.2.2.2.1 X.k hP q0 he rfl 3 (by decide) (X.w wq_94) (fun _ h9 => h9) hv hdg kk
theorem gf_X1_9 (X : Cx p s m args c cc nL RX1 D cI cJ) (hP : va_P D vwCl ws H) (q0 : Nat) (he : ws[q0]? = some (a, .inr (1, fs))) (hv : fs[0]? = some v) (hdg : decode cc pc = .ok (.getfield 9, 3)) (kk : W p l e R s m args below meth c H locs cells slots Q (F0 m (pc + 3) ls (v :: rest))) : W p l e R s m args below meth c H locs cells slots Q (F0 m pc ls (.ref a :: rest)) :=
  va_get (D := D) (ci := 1) (C := RX1) (T := TX1) (N := 7) X.1 X.2.1 X.2.2.2.2.1 inlX1 X.2.2.2.1 X.k hP q0 he rfl 0 (by decide) (X.w wq_64) (fun _ h9 => h9) hv hdg kk
theorem gf_X1_13 (X : Cx p s m args c cc nL RX1 D cI cJ) (hP : va_P D vwCl ws H) (q0 : Nat) (he : ws[q0]? = some (a, .inr (1, fs))) (hv : fs[1]? = some v) (hdg : decode cc pc = .ok (.getfield 13, 3)) (kk : W p l e R s m args below meth c H locs cells slots Q (F0 m (pc + 3) ls (v :: rest))) : W p l e R s m args below meth c H locs cells slots Q (F0 m pc ls (.ref a :: rest)) :=
  va_get (D := D) (ci := 1) (C := RX1) (T := TX1) (N := 7) X.1 X.2.1 X.2.2.2.2.1 inlX1 X.2.2.2.1 X.k hP q0 he rfl 1 (by decide) (X.w wq_65) (fun _ h9 => h9) hv hdg kk
theorem gf_X1_17 (X : Cx p s m args c cc nL RX1 D cI cJ) (hP : va_P D vwCl ws H) (q0 : Nat) (he : ws[q0]? = some (a, .inr (1, fs))) (hv : fs[2]? = some v) (hdg : decode cc pc = .ok (.getfield 17, 3)) (kk : W p l e R s m args below meth c H locs cells slots Q (F0 m (pc + 3) ls (v :: rest))) : W p l e R s m args below meth c H locs cells slots Q (F0 m pc ls (.ref a :: rest)) :=
  va_get (D := D) (ci := 1) (C := RX1) (T := TX1) (N := 7) X.1 X.2.1 X.2.2.2.2.1 inlX1 X.2.2.2.1 X.k hP q0 he rfl 2 (by decide) (X.w wq_66) (fun _ h9 => h9) hv hdg kk
theorem gf_X1_20 (X : Cx p s m args c cc nL RX1 D cI cJ) (hP : va_P D vwCl ws H) (q0 : Nat) (he : ws[q0]? = some (a, .inr (1, fs))) (hv : fs[3]? = some v) (hdg : decode cc pc = .ok (.getfield 20, 3)) (kk : W p l e R s m args below meth c H locs cells slots Q (F0 m (pc + 3) ls (v :: rest))) : W p l e R s m args below meth c H locs cells slots Q (F0 m pc ls (.ref a :: rest)) :=
  va_get (D := D) (ci := 1) (C := RX1) (T := TX1) (N := 7) X.1 X.2.1 X.2.2.2.2.1 inlX1 X.2.2.2.1 X.k hP q0 he rfl 3 (by decide) (X.w wq_67) (fun _ h9 => h9) hv hdg kk
theorem gf_X1_23 (X : Cx p s m args c cc nL RX1 D cI cJ) (hP : va_P D vwCl ws H) (q0 : Nat) (he : ws[q0]? = some (a, .inr (1, fs))) (hv : fs[4]? = some v) (hdg : decode cc pc = .ok (.getfield 23, 3)) (kk : W p l e R s m args below meth c H locs cells slots Q (F0 m (pc + 3) ls (v :: rest))) : W p l e R s m args below meth c H locs cells slots Q (F0 m pc ls (.ref a :: rest)) :=
  va_get (D := D) (ci := 1) (C := RX1) (T := TX1) (N := 7) X.1 X.2.1 X.2.2.2.2.1 inlX1 X.2.2.2.1 X.k hP q0 he rfl 4 (by decide) (X.w wq_68) (fun _ h9 => h9) hv hdg kk
theorem gf_X1_30 (X : Cx p s m args c cc nL RX1 D cI cJ) (hP : va_P D vwCl ws H) (q0 : Nat) (he : ws[q0]? = some (a, .inr (1, fs))) (hv : fs[5]? = some v) (hdg : decode cc pc = .ok (.getfield 30, 3)) (kk : W p l e R s m args below meth c H locs cells slots Q (F0 m (pc + 3) ls (v :: rest))) : W p l e R s m args below meth c H locs cells slots Q (F0 m pc ls (.ref a :: rest)) :=
  va_get (D := D) (ci := 1) (C := RX1) (T := TX1) (N := 7) X.1 X.2.1 X.2.2.2.2.1 inlX1 X.2.2.2.1 X.k hP q0 he rfl 5 (by decide) (X.w wq_70) (fun _ h9 => h9) hv hdg kk
theorem gf_X1_34 (X : Cx p s m args c cc nL RX1 D cI cJ) (hP : va_P D vwCl ws H) (q0 : Nat) (he : ws[q0]? = some (a, .inr (1, fs))) (hv : fs[6]? = some v) (hdg : decode cc pc = .ok (.getfield 34, 3)) (kk : W p l e R s m args below meth c H locs cells slots Q (F0 m (pc + 3) ls (v :: rest))) : W p l e R s m args below meth c H locs cells slots Q (F0 m pc ls (.ref a :: rest)) :=
  va_get (D := D) (ci := 1) (C := RX1) (T := TX1) (N := 7) X.1 X.2.1 X.2.2.2.2.1 inlX1 X.2.2.2.1 X.k hP q0 he rfl 6 (by decide) (X.w wq_71) (fun _ h9 => h9) hv hdg kk
theorem gf_X2_10 (X : Cx p s m args c cc nL RX2 D cI cJ) (hP : va_P D vwCl ws H) (q0 : Nat) (he : ws[q0]? = some (a, .inr (2, fs))) (hv : fs[0]? = some v) (hdg : decode cc pc = .ok (.getfield 10, 3)) (kk : W p l e R s m args below meth c H locs cells slots Q (F0 m (pc + 3) ls (v :: rest))) : W p l e R s m args below meth c H locs cells slots Q (F0 m pc ls (.ref a :: rest)) :=
  va_get (D := D) (ci := 2) (C := RX2) (T := TX2) (N := 7) X.1 X.2.1 X.2.2.2.2.1 inlX2 X.2.2.2.1 X.k hP q0 he rfl 0 (by decide) (X.w wq_54) (fun _ h9 => h9) hv hdg kk
theorem gf_X2_16 (X : Cx p s m args c cc nL RX2 D cI cJ) (hP : va_P D vwCl ws H) (q0 : Nat) (he : ws[q0]? = some (a, .inr (2, fs))) (hv : fs[1]? = some v) (hdg : decode cc pc = .ok (.getfield 16, 3)) (kk : W p l e R s m args below meth c H locs cells slots Q (F0 m (pc + 3) ls (v :: rest))) : W p l e R s m args below meth c H locs cells slots Q (F0 m pc ls (.ref a :: rest)) :=
  va_get (D := D) (ci := 2) (C := RX2) (T := TX2) (N := 7) X.1 X.2.1 X.2.2.2.2.1 inlX2 X.2.2.2.1 X.k hP q0 he rfl 1 (by decide) (X.w wq_55) (fun _ h9 => h9) hv hdg kk
theorem gf_X2_19 (X : Cx p s m args c cc nL RX2 D cI cJ) (hP : va_P D vwCl ws H) (q0 : Nat) (he : ws[q0]? = some (a, .inr (2, fs))) (hv : fs[2]? = some v) (hdg : decode cc pc = .ok (.getfield 19, 3)) (kk : W p l e R s m args below meth c H locs cells slots Q (F0 m (pc + 3) ls (v :: rest))) : W p l e R s m args below meth c H locs cells slots Q (F0 m pc ls (.ref a :: rest)) :=
  va_get (D := D) (ci := 2) (C := RX2) (T := TX2) (N := 7) X.1 X.2.1 X.2.2.2.2.1 inlX2 X.2.2.2.1 X.k hP q0 he rfl 2 (by decide) (X.w wq_56) (fun _ h9 => h9) hv hdg kk
theorem gf_X2_22 (X : Cx p s m args c cc nL RX2 D cI cJ) (hP : va_P D vwCl ws H) (q0 : Nat) (he : ws[q0]? = some (a, .inr (2, fs))) (hv : fs[3]? = some v) (hdg : decode cc pc = .ok (.getfield 22, 3)) (kk : W p l e R s m args below meth c H locs cells slots Q (F0 m (pc + 3) ls (v :: rest))) : W p l e R s m args below meth c H locs cells slots Q (F0 m pc ls (.ref a :: rest)) :=
  va_get (D := D) (ci := 2) (C := RX2) (T := TX2) (N := 7) X.1 X.2.1 X.2.2.2.2.1 inlX2 X.2.2.2.1 X.k hP q0 he rfl 3 (by decide) (X.w wq_57) (fun _ h9 => h9) hv hdg kk
theorem gf_X2_25 (X : Cx p s m args c cc nL RX2 D cI cJ) (hP : va_P D vwCl ws H) (q0 : Nat) (he : ws[q0]? = some (a, .inr (2, fs))) (hv : fs[4]? = some v) (hdg : decode cc pc = .ok (.getfield 25, 3)) (kk : W p l e R s m args below meth c H locs cells slots Q (F0 m (pc + 3) ls (v :: rest))) : W p l e R s m args below meth c H locs cells slots Q (F0 m pc ls (.ref a :: rest)) :=
  va_get (D := D) (ci := 2) (C := RX2) (T := TX2) (N := 7) X.1 X.2.1 X.2.2.2.2.1 inlX2 X.2.2.2.1 X.k hP q0 he rfl 4 (by decide) (X.w wq_58) (fun _ h9 => h9) hv hdg kk
theorem gf_X2_28 (X : Cx p s m args c cc nL RX2 D cI cJ) (hP : va_P D vwCl ws H) (q0 : Nat) (he : ws[q0]? = some (a, .inr (2, fs))) (hv : fs[5]? = some v) (hdg : decode cc pc = .ok (.getfield 28, 3)) (kk : W p l e R s m args below meth c H locs cells slots Q (F0 m (pc + 3) ls (v :: rest))) : W p l e R s m args below meth c H locs cells slots Q (F0 m pc ls (.ref a :: rest)) :=
  va_get (D := D) (ci := 2) (C := RX2) (T := TX2) (N := 7) X.1 X.2.1 X.2.2.2.2.1 inlX2 X.2.2.2.1 X.k hP q0 he rfl 5 (by decide) (X.w wq_59) (fun _ h9 => h9) hv hdg kk
theorem gf_X2_31 (X : Cx p s m args c cc nL RX2 D cI cJ) (hP : va_P D vwCl ws H) (q0 : Nat) (he : ws[q0]? = some (a, .inr (2, fs))) (hv : fs[6]? = some v) (hdg : decode cc pc = .ok (.getfield 31, 3)) (kk : W p l e R s m args below meth c H locs cells slots Q (F0 m (pc + 3) ls (v :: rest))) : W p l e R s m args below meth c H locs cells slots Q (F0 m pc ls (.ref a :: rest)) :=
  va_get (D := D) (ci := 2) (C := RX2) (T := TX2) (N := 7) X.1 X.2.1 X.2.2.2.2.1 inlX2 X.2.2.2.1 X.k hP q0 he rfl 6 (by decide) (X.w wq_60) (fun _ h9 => h9) hv hdg kk
theorem gf_X2_34 (X : Cx p s m args c cc nL RX2 D cI cJ) (hP : va_P D vwCl ws H) (q0 : Nat) (he : ws[q0]? = some (a, .inr (3, fs))) (hv : fs[0]? = some v) (hdg : decode cc pc = .ok (.getfield 34, 3)) (kk : W p l e R s m args below meth c H locs cells slots Q (F0 m (pc + 3) ls (v :: rest))) : W p l e R s m args below meth c H locs cells slots Q (F0 m pc ls (.ref a :: rest)) :=
  va_getN (host := "CubicForms") (D := D) (ci := 3) (C := RX3) (T := TX3) (N := 3) X.1 X.2.1 X.2.2.2.2.1 inlX3 X.2.2.2.1 X.k hP q0 he rfl 0 (by decide) (va_Nw.use rfl (X.nw (w := .fieldLinkNest RX2 34 "CubicForms$RingElement" "u" "J" "CubicForms") nq_10)) (fun _ h9 => h9) hv hdg kk
theorem gf_X2_38 (X : Cx p s m args c cc nL RX2 D cI cJ) (hP : va_P D vwCl ws H) (q0 : Nat) (he : ws[q0]? = some (a, .inr (3, fs))) (hv : fs[1]? = some v) (hdg : decode cc pc = .ok (.getfield 38, 3)) (kk : W p l e R s m args below meth c H locs cells slots Q (F0 m (pc + 3) ls (v :: rest))) : W p l e R s m args below meth c H locs cells slots Q (F0 m pc ls (.ref a :: rest)) :=
  va_getN (host := "CubicForms") (D := D) (ci := 3) (C := RX3) (T := TX3) (N := 3) X.1 X.2.1 X.2.2.2.2.1 inlX3 X.2.2.2.1 X.k hP q0 he rfl 1 (by decide) (va_Nw.use rfl (X.nw (w := .fieldLinkNest RX2 38 "CubicForms$RingElement" "v" "J" "CubicForms") nq_12)) (fun _ h9 => h9) hv hdg kk
theorem gf_X2_41 (X : Cx p s m args c cc nL RX2 D cI cJ) (hP : va_P D vwCl ws H) (q0 : Nat) (he : ws[q0]? = some (a, .inr (3, fs))) (hv : fs[2]? = some v) (hdg : decode cc pc = .ok (.getfield 41, 3)) (kk : W p l e R s m args below meth c H locs cells slots Q (F0 m (pc + 3) ls (v :: rest))) : W p l e R s m args below meth c H locs cells slots Q (F0 m pc ls (.ref a :: rest)) :=
  va_getN (host := "CubicForms") (D := D) (ci := 3) (C := RX3) (T := TX3) (N := 3) X.1 X.2.1 X.2.2.2.2.1 inlX3 X.2.2.2.1 X.k hP q0 he rfl 2 (by decide) (va_Nw.use rfl (X.nw (w := .fieldLinkNest RX2 41 "CubicForms$RingElement" "t" "J" "CubicForms") nq_14)) (fun _ h9 => h9) hv hdg kk
theorem gf_X3_9 (X : Cx p s m args c cc nL RX3 D cI cJ) (hP : va_P D vwCl ws H) (q0 : Nat) (he : ws[q0]? = some (a, .inr (3, fs))) (hv : fs[0]? = some v) (hdg : decode cc pc = .ok (.getfield 9, 3)) (kk : W p l e R s m args below meth c H locs cells slots Q (F0 m (pc + 3) ls (v :: rest))) : W p l e R s m args below meth c H locs cells slots Q (F0 m pc ls (.ref a :: rest)) :=
  va_get (D := D) (ci := 3) (C := RX3) (T := TX3) (N := 3) X.1 X.2.1 X.2.2.2.2.1 inlX3 X.2.2.2.1 X.k hP q0 he rfl 0 (by decide) (X.w wq_418) (fun _ h9 => h9) hv hdg kk
theorem gf_X3_15 (X : Cx p s m args c cc nL RX3 D cI cJ) (hP : va_P D vwCl ws H) (q0 : Nat) (he : ws[q0]? = some (a, .inr (3, fs))) (hv : fs[1]? = some v) (hdg : decode cc pc = .ok (.getfield 15, 3)) (kk : W p l e R s m args below meth c H locs cells slots Q (F0 m (pc + 3) ls (v :: rest))) : W p l e R s m args below meth c H locs cells slots Q (F0 m pc ls (.ref a :: rest)) :=
  va_get (D := D) (ci := 3) (C := RX3) (T := TX3) (N := 3) X.1 X.2.1 X.2.2.2.2.1 inlX3 X.2.2.2.1 X.k hP q0 he rfl 1 (by decide) (X.w wq_419) (fun _ h9 => h9) hv hdg kk
theorem gf_X3_18 (X : Cx p s m args c cc nL RX3 D cI cJ) (hP : va_P D vwCl ws H) (q0 : Nat) (he : ws[q0]? = some (a, .inr (3, fs))) (hv : fs[2]? = some v) (hdg : decode cc pc = .ok (.getfield 18, 3)) (kk : W p l e R s m args below meth c H locs cells slots Q (F0 m (pc + 3) ls (v :: rest))) : W p l e R s m args below meth c H locs cells slots Q (F0 m pc ls (.ref a :: rest)) :=
  va_get (D := D) (ci := 3) (C := RX3) (T := TX3) (N := 3) X.1 X.2.1 X.2.2.2.2.1 inlX3 X.2.2.2.1 X.k hP q0 he rfl 2 (by decide) (X.w wq_420) (fun _ h9 => h9) hv hdg kk
theorem gf_X3_29 (X : Cx p s m args c cc nL RX3 D cI cJ) (hP : va_P D vwCl ws H) (q0 : Nat) (he : ws[q0]? = some (a, .inr (0, fs))) (hv : fs[1]? = some v) (hdg : decode cc pc = .ok (.getfield 29, 3)) (kk : W p l e R s m args below meth c H locs cells slots Q (F0 m (pc + 3) ls (v :: rest))) : W p l e R s m args below meth c H locs cells slots Q (F0 m pc ls (.ref a :: rest)) :=
  va_getN (host := "CubicForms") (D := D) (ci := 0) (C := RX0) (T := TX0) (N := 4) X.1 X.2.1 X.2.2.2.2.1 inlX0 X.2.2.2.1 X.k hP q0 he rfl 1 (by decide) (va_Nw.use rfl (X.nw (w := .fieldLinkNest RX3 29 "CubicForms$Cubic" "b" "J" "CubicForms") nq_3)) (fun _ h9 => h9) hv hdg kk
theorem gf_X3_34 (X : Cx p s m args c cc nL RX3 D cI cJ) (hP : va_P D vwCl ws H) (q0 : Nat) (he : ws[q0]? = some (a, .inr (0, fs))) (hv : fs[2]? = some v) (hdg : decode cc pc = .ok (.getfield 34, 3)) (kk : W p l e R s m args below meth c H locs cells slots Q (F0 m (pc + 3) ls (v :: rest))) : W p l e R s m args below meth c H locs cells slots Q (F0 m pc ls (.ref a :: rest)) :=
  va_getN (host := "CubicForms") (D := D) (ci := 0) (C := RX0) (T := TX0) (N := 4) X.1 X.2.1 X.2.2.2.2.1 inlX0 X.2.2.2.1 X.k hP q0 he rfl 2 (by decide) (va_Nw.use rfl (X.nw (w := .fieldLinkNest RX3 34 "CubicForms$Cubic" "c" "J" "CubicForms") nq_6)) (fun _ h9 => h9) hv hdg kk
theorem gf_X3_37 (X : Cx p s m args c cc nL RX3 D cI cJ) (hP : va_P D vwCl ws H) (q0 : Nat) (he : ws[q0]? = some (a, .inr (0, fs))) (hv : fs[0]? = some v) (hdg : decode cc pc = .ok (.getfield 37, 3)) (kk : W p l e R s m args below meth c H locs cells slots Q (F0 m (pc + 3) ls (v :: rest))) : W p l e R s m args below meth c H locs cells slots Q (F0 m pc ls (.ref a :: rest)) :=
  va_getN (host := "CubicForms") (D := D) (ci := 0) (C := RX0) (T := TX0) (N := 4) X.1 X.2.1 X.2.2.2.2.1 inlX0 X.2.2.2.1 X.k hP q0 he rfl 0 (by decide) (va_Nw.use rfl (X.nw (w := .fieldLinkNest RX3 37 "CubicForms$Cubic" "a" "J" "CubicForms") nq_1)) (fun _ h9 => h9) hv hdg kk
theorem gf_X3_40 (X : Cx p s m args c cc nL RX3 D cI cJ) (hP : va_P D vwCl ws H) (q0 : Nat) (he : ws[q0]? = some (a, .inr (0, fs))) (hv : fs[3]? = some v) (hdg : decode cc pc = .ok (.getfield 40, 3)) (kk : W p l e R s m args below meth c H locs cells slots Q (F0 m (pc + 3) ls (v :: rest))) : W p l e R s m args below meth c H locs cells slots Q (F0 m pc ls (.ref a :: rest)) :=
  va_getN (host := "CubicForms") (D := D) (ci := 0) (C := RX0) (T := TX0) (N := 4) X.1 X.2.1 X.2.2.2.2.1 inlX0 X.2.2.2.1 X.k hP q0 he rfl 3 (by decide) (va_Nw.use rfl (X.nw (w := .fieldLinkNest RX3 40 "CubicForms$Cubic" "d" "J" "CubicForms") nq_8)) (fun _ h9 => h9) hv hdg kk
theorem gf_X4_12 (X : Cx p s m args c cc nL RX4 D cI cJ) (hP : va_P D vwCl ws H) (q0 : Nat) (he : ws[q0]? = some (a, .inr (4, fs))) (hv : fs[0]? = some v) (hdg : decode cc pc = .ok (.getfield 12, 3)) (kk : W p l e R s m args below meth c H locs cells slots Q (F0 m (pc + 3) ls (v :: rest))) : W p l e R s m args below meth c H locs cells slots Q (F0 m pc ls (.ref a :: rest)) :=
  va_get (D := D) (ci := 4) (C := RX4) (T := TX4) (N := 2) X.1 X.2.1 X.2.2.2.2.1 inlX4 X.2.2.2.1 X.k hP q0 he rfl 0 (by decide) (X.w wq_48) (fun _ h9 => h9) hv hdg kk
theorem gf_X4_18 (X : Cx p s m args c cc nL RX4 D cI cJ) (hP : va_P D vwCl ws H) (q0 : Nat) (he : ws[q0]? = some (a, .inr (4, fs))) (hv : fs[1]? = some v) (hdg : decode cc pc = .ok (.getfield 18, 3)) (kk : W p l e R s m args below meth c H locs cells slots Q (F0 m (pc + 3) ls (v :: rest))) : W p l e R s m args below meth c H locs cells slots Q (F0 m pc ls (.ref a :: rest)) :=
  va_get (D := D) (ci := 4) (C := RX4) (T := TX4) (N := 2) X.1 X.2.1 X.2.2.2.2.1 inlX4 X.2.2.2.1 X.k hP q0 he rfl 1 (by decide) (X.w wq_49) (fun _ h9 => h9) hv hdg kk
theorem gf_X4_60 (X : Cx p s m args c cc nL RX4 D cI cJ) (hP : va_P D vwCl ws H) (q0 : Nat) (he : ws[q0]? = some (a, .inr (0, fs))) (hv : fs[0]? = some v) (hdg : decode cc pc = .ok (.getfield 60, 3)) (kk : W p l e R s m args below meth c H locs cells slots Q (F0 m (pc + 3) ls (v :: rest))) : W p l e R s m args below meth c H locs cells slots Q (F0 m pc ls (.ref a :: rest)) :=
  va_getN (host := "CubicForms") (D := D) (ci := 0) (C := RX0) (T := TX0) (N := 4) X.1 X.2.1 X.2.2.2.2.1 inlX0 X.2.2.2.1 X.k hP q0 he rfl 0 (by decide) (va_Nw.use rfl (X.nw (w := .fieldLinkNest RX4 60 "CubicForms$Cubic" "a" "J" "CubicForms") nq_0)) (fun _ h9 => h9) hv hdg kk
theorem gf_X4_64 (X : Cx p s m args c cc nL RX4 D cI cJ) (hP : va_P D vwCl ws H) (q0 : Nat) (he : ws[q0]? = some (a, .inr (0, fs))) (hv : fs[1]? = some v) (hdg : decode cc pc = .ok (.getfield 64, 3)) (kk : W p l e R s m args below meth c H locs cells slots Q (F0 m (pc + 3) ls (v :: rest))) : W p l e R s m args below meth c H locs cells slots Q (F0 m pc ls (.ref a :: rest)) :=
  va_getN (host := "CubicForms") (D := D) (ci := 0) (C := RX0) (T := TX0) (N := 4) X.1 X.2.1 X.2.2.2.2.1 inlX0 X.2.2.2.1 X.k hP q0 he rfl 1 (by decide) (va_Nw.use rfl (X.nw (w := .fieldLinkNest RX4 64 "CubicForms$Cubic" "b" "J" "CubicForms") nq_4)) (fun _ h9 => h9) hv hdg kk
theorem gf_X5_11 (X : Cx p s m args c cc nL RX5 D cI cJ) (hP : va_P D vwCl ws H) (q0 : Nat) (he : ws[q0]? = some (a, .inr (5, fs))) (hv : fs[0]? = some v) (hdg : decode cc pc = .ok (.getfield 11, 3)) (kk : W p l e R s m args below meth c H locs cells slots Q (F0 m (pc + 3) ls (v :: rest))) : W p l e R s m args below meth c H locs cells slots Q (F0 m pc ls (.ref a :: rest)) :=
  va_get (D := D) (ci := 5) (C := RX5) (T := TX5) (N := 10) X.1 X.2.1 X.2.2.2.2.1 inlX5 X.2.2.2.1 X.k hP q0 he rfl 0 (by decide) (X.w wq_13) (fun _ h9 => h9) hv hdg kk
theorem gf_X5_15 (X : Cx p s m args c cc nL RX5 D cI cJ) (hP : va_P D vwCl ws H) (q0 : Nat) (he : ws[q0]? = some (a, .inr (5, fs))) (hv : fs[1]? = some v) (hdg : decode cc pc = .ok (.getfield 15, 3)) (kk : W p l e R s m args below meth c H locs cells slots Q (F0 m (pc + 3) ls (v :: rest))) : W p l e R s m args below meth c H locs cells slots Q (F0 m pc ls (.ref a :: rest)) :=
  va_get (D := D) (ci := 5) (C := RX5) (T := TX5) (N := 10) X.1 X.2.1 X.2.2.2.2.1 inlX5 X.2.2.2.1 X.k hP q0 he rfl 1 (by decide) (X.w wq_14) (fun _ h9 => h9) hv hdg kk
theorem gf_X5_19 (X : Cx p s m args c cc nL RX5 D cI cJ) (hP : va_P D vwCl ws H) (q0 : Nat) (he : ws[q0]? = some (a, .inr (5, fs))) (hv : fs[2]? = some v) (hdg : decode cc pc = .ok (.getfield 19, 3)) (kk : W p l e R s m args below meth c H locs cells slots Q (F0 m (pc + 3) ls (v :: rest))) : W p l e R s m args below meth c H locs cells slots Q (F0 m pc ls (.ref a :: rest)) :=
  va_get (D := D) (ci := 5) (C := RX5) (T := TX5) (N := 10) X.1 X.2.1 X.2.2.2.2.1 inlX5 X.2.2.2.1 X.k hP q0 he rfl 2 (by decide) (X.w wq_15) (fun _ h9 => h9) hv hdg kk
theorem gf_X5_25 (X : Cx p s m args c cc nL RX5 D cI cJ) (hP : va_P D vwCl ws H) (q0 : Nat) (he : ws[q0]? = some (a, .inr (5, fs))) (hv : fs[3]? = some v) (hdg : decode cc pc = .ok (.getfield 25, 3)) (kk : W p l e R s m args below meth c H locs cells slots Q (F0 m (pc + 3) ls (v :: rest))) : W p l e R s m args below meth c H locs cells slots Q (F0 m pc ls (.ref a :: rest)) :=
  va_get (D := D) (ci := 5) (C := RX5) (T := TX5) (N := 10) X.1 X.2.1 X.2.2.2.2.1 inlX5 X.2.2.2.1 X.k hP q0 he rfl 3 (by decide) (X.w wq_19) (fun _ h9 => h9) hv hdg kk
theorem gf_X5_29 (X : Cx p s m args c cc nL RX5 D cI cJ) (hP : va_P D vwCl ws H) (q0 : Nat) (he : ws[q0]? = some (a, .inr (5, fs))) (hv : fs[4]? = some v) (hdg : decode cc pc = .ok (.getfield 29, 3)) (kk : W p l e R s m args below meth c H locs cells slots Q (F0 m (pc + 3) ls (v :: rest))) : W p l e R s m args below meth c H locs cells slots Q (F0 m pc ls (.ref a :: rest)) :=
  va_get (D := D) (ci := 5) (C := RX5) (T := TX5) (N := 10) X.1 X.2.1 X.2.2.2.2.1 inlX5 X.2.2.2.1 X.k hP q0 he rfl 4 (by decide) (X.w wq_20) (fun _ h9 => h9) hv hdg kk
theorem gf_X5_35 (X : Cx p s m args c cc nL RX5 D cI cJ) (hP : va_P D vwCl ws H) (q0 : Nat) (he : ws[q0]? = some (a, .inr (5, fs))) (hv : fs[5]? = some v) (hdg : decode cc pc = .ok (.getfield 35, 3)) (kk : W p l e R s m args below meth c H locs cells slots Q (F0 m (pc + 3) ls (v :: rest))) : W p l e R s m args below meth c H locs cells slots Q (F0 m pc ls (.ref a :: rest)) :=
  va_get (D := D) (ci := 5) (C := RX5) (T := TX5) (N := 10) X.1 X.2.1 X.2.2.2.2.1 inlX5 X.2.2.2.1 X.k hP q0 he rfl 5 (by decide) (X.w wq_24) (fun _ h9 => h9) hv hdg kk
theorem gf_X5_39 (X : Cx p s m args c cc nL RX5 D cI cJ) (hP : va_P D vwCl ws H) (q0 : Nat) (he : ws[q0]? = some (a, .inr (5, fs))) (hv : fs[6]? = some v) (hdg : decode cc pc = .ok (.getfield 39, 3)) (kk : W p l e R s m args below meth c H locs cells slots Q (F0 m (pc + 3) ls (v :: rest))) : W p l e R s m args below meth c H locs cells slots Q (F0 m pc ls (.ref a :: rest)) :=
  va_get (D := D) (ci := 5) (C := RX5) (T := TX5) (N := 10) X.1 X.2.1 X.2.2.2.2.1 inlX5 X.2.2.2.1 X.k hP q0 he rfl 6 (by decide) (X.w wq_25) (fun _ h9 => h9) hv hdg kk
theorem gf_X5_45 (X : Cx p s m args c cc nL RX5 D cI cJ) (hP : va_P D vwCl ws H) (q0 : Nat) (he : ws[q0]? = some (a, .inr (5, fs))) (hv : fs[7]? = some v) (hdg : decode cc pc = .ok (.getfield 45, 3)) (kk : W p l e R s m args below meth c H locs cells slots Q (F0 m (pc + 3) ls (v :: rest))) : W p l e R s m args below meth c H locs cells slots Q (F0 m pc ls (.ref a :: rest)) :=
  va_get (D := D) (ci := 5) (C := RX5) (T := TX5) (N := 10) X.1 X.2.1 X.2.2.2.2.1 inlX5 X.2.2.2.1 X.k hP q0 he rfl 7 (by decide) (X.w wq_29) (fun _ h9 => h9) hv hdg kk
theorem gf_X5_52 (X : Cx p s m args c cc nL RX5 D cI cJ) (hP : va_P D vwCl ws H) (q0 : Nat) (he : ws[q0]? = some (a, .inr (5, fs))) (hv : fs[8]? = some v) (hdg : decode cc pc = .ok (.getfield 52, 3)) (kk : W p l e R s m args below meth c H locs cells slots Q (F0 m (pc + 3) ls (v :: rest))) : W p l e R s m args below meth c H locs cells slots Q (F0 m pc ls (.ref a :: rest)) :=
  va_get (D := D) (ci := 5) (C := RX5) (T := TX5) (N := 10) X.1 X.2.1 X.2.2.2.2.1 inlX5 X.2.2.2.1 X.k hP q0 he rfl 8 (by decide) (X.w wq_33) (fun _ h9 => h9) hv hdg kk
theorem gf_X5_59 (X : Cx p s m args c cc nL RX5 D cI cJ) (hP : va_P D vwCl ws H) (q0 : Nat) (he : ws[q0]? = some (a, .inr (5, fs))) (hv : fs[9]? = some v) (hdg : decode cc pc = .ok (.getfield 59, 3)) (kk : W p l e R s m args below meth c H locs cells slots Q (F0 m (pc + 3) ls (v :: rest))) : W p l e R s m args below meth c H locs cells slots Q (F0 m pc ls (.ref a :: rest)) :=
  va_get (D := D) (ci := 5) (C := RX5) (T := TX5) (N := 10) X.1 X.2.1 X.2.2.2.2.1 inlX5 X.2.2.2.1 X.k hP q0 he rfl 9 (by decide) (X.w wq_37) (fun _ h9 => h9) hv hdg kk
theorem gf_X5_196 (X : Cx p s m args c cc nL RX5 D cI cJ) (hP : va_P D vwCl ws H) (q0 : Nat) (he : ws[q0]? = some (a, .inr (1, fs))) (hv : fs[3]? = some v) (hdg : decode cc pc = .ok (.getfield 196, 3)) (kk : W p l e R s m args below meth c H locs cells slots Q (F0 m (pc + 3) ls (v :: rest))) : W p l e R s m args below meth c H locs cells slots Q (F0 m pc ls (.ref a :: rest)) :=
  va_getN (host := "CubicForms") (D := D) (ci := 1) (C := RX1) (T := TX1) (N := 7) X.1 X.2.1 X.2.2.2.2.1 inlX1 X.2.2.2.1 X.k hP q0 he rfl 3 (by decide) (va_Nw.use rfl (X.nw (w := .fieldLinkNest RX5 196 "CubicForms$FieldTable" "fieldCount" "I" "CubicForms") nq_17)) (fun _ h9 => h9) hv hdg kk
theorem gf_X5_199 (X : Cx p s m args c cc nL RX5 D cI cJ) (hP : va_P D vwCl ws H) (q0 : Nat) (he : ws[q0]? = some (a, .inr (1, fs))) (hv : fs[2]? = some v) (hdg : decode cc pc = .ok (.getfield 199, 3)) (kk : W p l e R s m args below meth c H locs cells slots Q (F0 m (pc + 3) ls (v :: rest))) : W p l e R s m args below meth c H locs cells slots Q (F0 m pc ls (.ref a :: rest)) :=
  va_getN (host := "CubicForms") (D := D) (ci := 1) (C := RX1) (T := TX1) (N := 7) X.1 X.2.1 X.2.2.2.2.1 inlX1 X.2.2.2.1 X.k hP q0 he rfl 2 (by decide) (va_Nw.use rfl (X.nw (w := .fieldLinkNest RX5 199 "CubicForms$FieldTable" "fieldDiscs" "[I" "CubicForms") nq_16)) (fun _ h9 => h9) hv hdg kk
theorem gf_X5_209 (X : Cx p s m args c cc nL RX5 D cI cJ) (hP : va_P D vwCl ws H) (q0 : Nat) (he : ws[q0]? = some (a, .inr (0, fs))) (hv : fs[0]? = some v) (hdg : decode cc pc = .ok (.getfield 209, 3)) (kk : W p l e R s m args below meth c H locs cells slots Q (F0 m (pc + 3) ls (v :: rest))) : W p l e R s m args below meth c H locs cells slots Q (F0 m pc ls (.ref a :: rest)) :=
  va_getN (host := "CubicForms") (D := D) (ci := 0) (C := RX0) (T := TX0) (N := 4) X.1 X.2.1 X.2.2.2.2.1 inlX0 X.2.2.2.1 X.k hP q0 he rfl 0 (by decide) (va_Nw.use rfl (X.nw (w := .fieldLinkNest RX5 209 "CubicForms$Cubic" "a" "J" "CubicForms") nq_2)) (fun _ h9 => h9) hv hdg kk
theorem gf_X5_213 (X : Cx p s m args c cc nL RX5 D cI cJ) (hP : va_P D vwCl ws H) (q0 : Nat) (he : ws[q0]? = some (a, .inr (0, fs))) (hv : fs[1]? = some v) (hdg : decode cc pc = .ok (.getfield 213, 3)) (kk : W p l e R s m args below meth c H locs cells slots Q (F0 m (pc + 3) ls (v :: rest))) : W p l e R s m args below meth c H locs cells slots Q (F0 m pc ls (.ref a :: rest)) :=
  va_getN (host := "CubicForms") (D := D) (ci := 0) (C := RX0) (T := TX0) (N := 4) X.1 X.2.1 X.2.2.2.2.1 inlX0 X.2.2.2.1 X.k hP q0 he rfl 1 (by decide) (va_Nw.use rfl (X.nw (w := .fieldLinkNest RX5 213 "CubicForms$Cubic" "b" "J" "CubicForms") nq_5)) (fun _ h9 => h9) hv hdg kk
theorem gf_X5_216 (X : Cx p s m args c cc nL RX5 D cI cJ) (hP : va_P D vwCl ws H) (q0 : Nat) (he : ws[q0]? = some (a, .inr (0, fs))) (hv : fs[2]? = some v) (hdg : decode cc pc = .ok (.getfield 216, 3)) (kk : W p l e R s m args below meth c H locs cells slots Q (F0 m (pc + 3) ls (v :: rest))) : W p l e R s m args below meth c H locs cells slots Q (F0 m pc ls (.ref a :: rest)) :=
  va_getN (host := "CubicForms") (D := D) (ci := 0) (C := RX0) (T := TX0) (N := 4) X.1 X.2.1 X.2.2.2.2.1 inlX0 X.2.2.2.1 X.k hP q0 he rfl 2 (by decide) (va_Nw.use rfl (X.nw (w := .fieldLinkNest RX5 216 "CubicForms$Cubic" "c" "J" "CubicForms") nq_7)) (fun _ h9 => h9) hv hdg kk
theorem gf_X5_219 (X : Cx p s m args c cc nL RX5 D cI cJ) (hP : va_P D vwCl ws H) (q0 : Nat) (he : ws[q0]? = some (a, .inr (0, fs))) (hv : fs[3]? = some v) (hdg : decode cc pc = .ok (.getfield 219, 3)) (kk : W p l e R s m args below meth c H locs cells slots Q (F0 m (pc + 3) ls (v :: rest))) : W p l e R s m args below meth c H locs cells slots Q (F0 m pc ls (.ref a :: rest)) :=
  va_getN (host := "CubicForms") (D := D) (ci := 0) (C := RX0) (T := TX0) (N := 4) X.1 X.2.1 X.2.2.2.2.1 inlX0 X.2.2.2.1 X.k hP q0 he rfl 3 (by decide) (va_Nw.use rfl (X.nw (w := .fieldLinkNest RX5 219 "CubicForms$Cubic" "d" "J" "CubicForms") nq_9)) (fun _ h9 => h9) hv hdg kk
theorem gf_X5_222 (X : Cx p s m args c cc nL RX5 D cI cJ) (hP : va_P D vwCl ws H) (q0 : Nat) (he : ws[q0]? = some (a, .inr (3, fs))) (hv : fs[0]? = some v) (hdg : decode cc pc = .ok (.getfield 222, 3)) (kk : W p l e R s m args below meth c H locs cells slots Q (F0 m (pc + 3) ls (v :: rest))) : W p l e R s m args below meth c H locs cells slots Q (F0 m pc ls (.ref a :: rest)) :=
  va_getN (host := "CubicForms") (D := D) (ci := 3) (C := RX3) (T := TX3) (N := 3) X.1 X.2.1 X.2.2.2.2.1 inlX3 X.2.2.2.1 X.k hP q0 he rfl 0 (by decide) (va_Nw.use rfl (X.nw (w := .fieldLinkNest RX5 222 "CubicForms$RingElement" "u" "J" "CubicForms") nq_11)) (fun _ h9 => h9) hv hdg kk
theorem gf_X5_225 (X : Cx p s m args c cc nL RX5 D cI cJ) (hP : va_P D vwCl ws H) (q0 : Nat) (he : ws[q0]? = some (a, .inr (3, fs))) (hv : fs[1]? = some v) (hdg : decode cc pc = .ok (.getfield 225, 3)) (kk : W p l e R s m args below meth c H locs cells slots Q (F0 m (pc + 3) ls (v :: rest))) : W p l e R s m args below meth c H locs cells slots Q (F0 m pc ls (.ref a :: rest)) :=
  va_getN (host := "CubicForms") (D := D) (ci := 3) (C := RX3) (T := TX3) (N := 3) X.1 X.2.1 X.2.2.2.2.1 inlX3 X.2.2.2.1 X.k hP q0 he rfl 1 (by decide) (va_Nw.use rfl (X.nw (w := .fieldLinkNest RX5 225 "CubicForms$RingElement" "v" "J" "CubicForms") nq_13)) (fun _ h9 => h9) hv hdg kk
theorem gf_X5_228 (X : Cx p s m args c cc nL RX5 D cI cJ) (hP : va_P D vwCl ws H) (q0 : Nat) (he : ws[q0]? = some (a, .inr (3, fs))) (hv : fs[2]? = some v) (hdg : decode cc pc = .ok (.getfield 228, 3)) (kk : W p l e R s m args below meth c H locs cells slots Q (F0 m (pc + 3) ls (v :: rest))) : W p l e R s m args below meth c H locs cells slots Q (F0 m pc ls (.ref a :: rest)) :=
  va_getN (host := "CubicForms") (D := D) (ci := 3) (C := RX3) (T := TX3) (N := 3) X.1 X.2.1 X.2.2.2.2.1 inlX3 X.2.2.2.1 X.k hP q0 he rfl 2 (by decide) (va_Nw.use rfl (X.nw (w := .fieldLinkNest RX5 228 "CubicForms$RingElement" "t" "J" "CubicForms") nq_15)) (fun _ h9 => h9) hv hdg kk
theorem gf_X6_7 (X : Cx p s m args c cc nL RX6 D cI cJ) (hP : va_P D vwCl ws H) (q0 : Nat) (he : ws[q0]? = some (a, .inr (6, fs))) (hv : fs[1]? = some v) (hdg : decode cc pc = .ok (.getfield 7, 3)) (kk : W p l e R s m args below meth c H locs cells slots Q (F0 m (pc + 3) ls (v :: rest))) : W p l e R s m args below meth c H locs cells slots Q (F0 m pc ls (.ref a :: rest)) :=
  va_get (D := D) (ci := 6) (C := RX6) (T := TX6) (N := 23) X.1 X.2.1 X.2.2.2.2.1 inlX6 X.2.2.2.1 X.k hP q0 he rfl 1 (by decide) (X.w wq_76) (fun _ h9 => h9) hv hdg kk
theorem gf_X6_13 (X : Cx p s m args c cc nL RX6 D cI cJ) (hP : va_P D vwCl ws H) (q0 : Nat) (he : ws[q0]? = some (a, .inr (6, fs))) (hv : fs[10]? = some v) (hdg : decode cc pc = .ok (.getfield 13, 3)) (kk : W p l e R s m args below meth c H locs cells slots Q (F0 m (pc + 3) ls (v :: rest))) : W p l e R s m args below meth c H locs cells slots Q (F0 m pc ls (.ref a :: rest)) :=
  va_get (D := D) (ci := 6) (C := RX6) (T := TX6) (N := 23) X.1 X.2.1 X.2.2.2.2.1 inlX6 X.2.2.2.1 X.k hP q0 he rfl 10 (by decide) (X.w wq_77) (fun _ h9 => h9) hv hdg kk
theorem gf_X6_16 (X : Cx p s m args c cc nL RX6 D cI cJ) (hP : va_P D vwCl ws H) (q0 : Nat) (he : ws[q0]? = some (a, .inr (6, fs))) (hv : fs[14]? = some v) (hdg : decode cc pc = .ok (.getfield 16, 3)) (kk : W p l e R s m args below meth c H locs cells slots Q (F0 m (pc + 3) ls (v :: rest))) : W p l e R s m args below meth c H locs cells slots Q (F0 m pc ls (.ref a :: rest)) :=
  va_get (D := D) (ci := 6) (C := RX6) (T := TX6) (N := 23) X.1 X.2.1 X.2.2.2.2.1 inlX6 X.2.2.2.1 X.k hP q0 he rfl 14 (by decide) (X.w wq_79) (fun _ h9 => h9) hv hdg kk
theorem gf_X6_20 (X : Cx p s m args c cc nL RX6 D cI cJ) (hP : va_P D vwCl ws H) (q0 : Nat) (he : ws[q0]? = some (a, .inr (6, fs))) (hv : fs[15]? = some v) (hdg : decode cc pc = .ok (.getfield 20, 3)) (kk : W p l e R s m args below meth c H locs cells slots Q (F0 m (pc + 3) ls (v :: rest))) : W p l e R s m args below meth c H locs cells slots Q (F0 m pc ls (.ref a :: rest)) :=
  va_get (D := D) (ci := 6) (C := RX6) (T := TX6) (N := 23) X.1 X.2.1 X.2.2.2.2.1 inlX6 X.2.2.2.1 X.k hP q0 he rfl 15 (by decide) (X.w wq_80) (fun _ h9 => h9) hv hdg kk
theorem gf_X6_23 (X : Cx p s m args c cc nL RX6 D cI cJ) (hP : va_P D vwCl ws H) (q0 : Nat) (he : ws[q0]? = some (a, .inr (6, fs))) (hv : fs[21]? = some v) (hdg : decode cc pc = .ok (.getfield 23, 3)) (kk : W p l e R s m args below meth c H locs cells slots Q (F0 m (pc + 3) ls (v :: rest))) : W p l e R s m args below meth c H locs cells slots Q (F0 m pc ls (.ref a :: rest)) :=
  va_get (D := D) (ci := 6) (C := RX6) (T := TX6) (N := 23) X.1 X.2.1 X.2.2.2.2.1 inlX6 X.2.2.2.1 X.k hP q0 he rfl 21 (by decide) (X.w wq_81) (fun _ h9 => h9) hv hdg kk
theorem gf_X6_26 (X : Cx p s m args c cc nL RX6 D cI cJ) (hP : va_P D vwCl ws H) (q0 : Nat) (he : ws[q0]? = some (a, .inr (6, fs))) (hv : fs[22]? = some v) (hdg : decode cc pc = .ok (.getfield 26, 3)) (kk : W p l e R s m args below meth c H locs cells slots Q (F0 m (pc + 3) ls (v :: rest))) : W p l e R s m args below meth c H locs cells slots Q (F0 m pc ls (.ref a :: rest)) :=
  va_get (D := D) (ci := 6) (C := RX6) (T := TX6) (N := 23) X.1 X.2.1 X.2.2.2.2.1 inlX6 X.2.2.2.1 X.k hP q0 he rfl 22 (by decide) (X.w wq_82) (fun _ h9 => h9) hv hdg kk
theorem gf_X6_29 (X : Cx p s m args c cc nL RX6 D cI cJ) (hP : va_P D vwCl ws H) (q0 : Nat) (he : ws[q0]? = some (a, .inr (6, fs))) (hv : fs[0]? = some v) (hdg : decode cc pc = .ok (.getfield 29, 3)) (kk : W p l e R s m args below meth c H locs cells slots Q (F0 m (pc + 3) ls (v :: rest))) : W p l e R s m args below meth c H locs cells slots Q (F0 m pc ls (.ref a :: rest)) :=
  va_get (D := D) (ci := 6) (C := RX6) (T := TX6) (N := 23) X.1 X.2.1 X.2.2.2.2.1 inlX6 X.2.2.2.1 X.k hP q0 he rfl 0 (by decide) (X.w wq_83) (fun _ h9 => h9) hv hdg kk
theorem gf_X6_41 (X : Cx p s m args c cc nL RX6 D cI cJ) (hP : va_P D vwCl ws H) (q0 : Nat) (he : ws[q0]? = some (a, .inr (6, fs))) (hv : fs[2]? = some v) (hdg : decode cc pc = .ok (.getfield 41, 3)) (kk : W p l e R s m args below meth c H locs cells slots Q (F0 m (pc + 3) ls (v :: rest))) : W p l e R s m args below meth c H locs cells slots Q (F0 m pc ls (.ref a :: rest)) :=
  va_get (D := D) (ci := 6) (C := RX6) (T := TX6) (N := 23) X.1 X.2.1 X.2.2.2.2.1 inlX6 X.2.2.2.1 X.k hP q0 he rfl 2 (by decide) (X.w wq_113) (fun _ h9 => h9) hv hdg kk
theorem gf_X6_45 (X : Cx p s m args c cc nL RX6 D cI cJ) (hP : va_P D vwCl ws H) (q0 : Nat) (he : ws[q0]? = some (a, .inr (6, fs))) (hv : fs[3]? = some v) (hdg : decode cc pc = .ok (.getfield 45, 3)) (kk : W p l e R s m args below meth c H locs cells slots Q (F0 m (pc + 3) ls (v :: rest))) : W p l e R s m args below meth c H locs cells slots Q (F0 m pc ls (.ref a :: rest)) :=
  va_get (D := D) (ci := 6) (C := RX6) (T := TX6) (N := 23) X.1 X.2.1 X.2.2.2.2.1 inlX6 X.2.2.2.1 X.k hP q0 he rfl 3 (by decide) (X.w wq_114) (fun _ h9 => h9) hv hdg kk
theorem gf_X6_48 (X : Cx p s m args c cc nL RX6 D cI cJ) (hP : va_P D vwCl ws H) (q0 : Nat) (he : ws[q0]? = some (a, .inr (6, fs))) (hv : fs[4]? = some v) (hdg : decode cc pc = .ok (.getfield 48, 3)) (kk : W p l e R s m args below meth c H locs cells slots Q (F0 m (pc + 3) ls (v :: rest))) : W p l e R s m args below meth c H locs cells slots Q (F0 m pc ls (.ref a :: rest)) :=
  va_get (D := D) (ci := 6) (C := RX6) (T := TX6) (N := 23) X.1 X.2.1 X.2.2.2.2.1 inlX6 X.2.2.2.1 X.k hP q0 he rfl 4 (by decide) (X.w wq_115) (fun _ h9 => h9) hv hdg kk
theorem gf_X6_51 (X : Cx p s m args c cc nL RX6 D cI cJ) (hP : va_P D vwCl ws H) (q0 : Nat) (he : ws[q0]? = some (a, .inr (6, fs))) (hv : fs[5]? = some v) (hdg : decode cc pc = .ok (.getfield 51, 3)) (kk : W p l e R s m args below meth c H locs cells slots Q (F0 m (pc + 3) ls (v :: rest))) : W p l e R s m args below meth c H locs cells slots Q (F0 m pc ls (.ref a :: rest)) :=
  va_get (D := D) (ci := 6) (C := RX6) (T := TX6) (N := 23) X.1 X.2.1 X.2.2.2.2.1 inlX6 X.2.2.2.1 X.k hP q0 he rfl 5 (by decide) (X.w wq_116) (fun _ h9 => h9) hv hdg kk
theorem gf_X6_137 (X : Cx p s m args c cc nL RX6 D cI cJ) (hP : va_P D vwCl ws H) (q0 : Nat) (he : ws[q0]? = some (a, .inr (6, fs))) (hv : fs[6]? = some v) (hdg : decode cc pc = .ok (.getfield 137, 3)) (kk : W p l e R s m args below meth c H locs cells slots Q (F0 m (pc + 3) ls (v :: rest))) : W p l e R s m args below meth c H locs cells slots Q (F0 m pc ls (.ref a :: rest)) :=
  va_get (D := D) (ci := 6) (C := RX6) (T := TX6) (N := 23) X.1 X.2.1 X.2.2.2.2.1 inlX6 X.2.2.2.1 X.k hP q0 he rfl 6 (by decide) (X.w wq_355) (fun _ h9 => h9) hv hdg kk
theorem gf_X6_140 (X : Cx p s m args c cc nL RX6 D cI cJ) (hP : va_P D vwCl ws H) (q0 : Nat) (he : ws[q0]? = some (a, .inr (6, fs))) (hv : fs[7]? = some v) (hdg : decode cc pc = .ok (.getfield 140, 3)) (kk : W p l e R s m args below meth c H locs cells slots Q (F0 m (pc + 3) ls (v :: rest))) : W p l e R s m args below meth c H locs cells slots Q (F0 m pc ls (.ref a :: rest)) :=
  va_get (D := D) (ci := 6) (C := RX6) (T := TX6) (N := 23) X.1 X.2.1 X.2.2.2.2.1 inlX6 X.2.2.2.1 X.k hP q0 he rfl 7 (by decide) (X.w wq_356) (fun _ h9 => h9) hv hdg kk
theorem gf_X6_143 (X : Cx p s m args c cc nL RX6 D cI cJ) (hP : va_P D vwCl ws H) (q0 : Nat) (he : ws[q0]? = some (a, .inr (6, fs))) (hv : fs[8]? = some v) (hdg : decode cc pc = .ok (.getfield 143, 3)) (kk : W p l e R s m args below meth c H locs cells slots Q (F0 m (pc + 3) ls (v :: rest))) : W p l e R s m args below meth c H locs cells slots Q (F0 m pc ls (.ref a :: rest)) :=
  va_get (D := D) (ci := 6) (C := RX6) (T := TX6) (N := 23) X.1 X.2.1 X.2.2.2.2.1 inlX6 X.2.2.2.1 X.k hP q0 he rfl 8 (by decide) (X.w wq_357) (fun _ h9 => h9) hv hdg kk
theorem gf_X6_146 (X : Cx p s m args c cc nL RX6 D cI cJ) (hP : va_P D vwCl ws H) (q0 : Nat) (he : ws[q0]? = some (a, .inr (6, fs))) (hv : fs[9]? = some v) (hdg : decode cc pc = .ok (.getfield 146, 3)) (kk : W p l e R s m args below meth c H locs cells slots Q (F0 m (pc + 3) ls (v :: rest))) : W p l e R s m args below meth c H locs cells slots Q (F0 m pc ls (.ref a :: rest)) :=
  va_get (D := D) (ci := 6) (C := RX6) (T := TX6) (N := 23) X.1 X.2.1 X.2.2.2.2.1 inlX6 X.2.2.2.1 X.k hP q0 he rfl 9 (by decide) (X.w wq_358) (fun _ h9 => h9) hv hdg kk
theorem gf_X6_173 (X : Cx p s m args c cc nL RX6 D cI cJ) (hP : va_P D vwCl ws H) (q0 : Nat) (he : ws[q0]? = some (a, .inr (6, fs))) (hv : fs[11]? = some v) (hdg : decode cc pc = .ok (.getfield 173, 3)) (kk : W p l e R s m args below meth c H locs cells slots Q (F0 m (pc + 3) ls (v :: rest))) : W p l e R s m args below meth c H locs cells slots Q (F0 m pc ls (.ref a :: rest)) :=
  va_get (D := D) (ci := 6) (C := RX6) (T := TX6) (N := 23) X.1 X.2.1 X.2.2.2.2.1 inlX6 X.2.2.2.1 X.k hP q0 he rfl 11 (by decide) (X.w wq_463) (fun _ h9 => h9) hv hdg kk
theorem gf_X6_176 (X : Cx p s m args c cc nL RX6 D cI cJ) (hP : va_P D vwCl ws H) (q0 : Nat) (he : ws[q0]? = some (a, .inr (6, fs))) (hv : fs[12]? = some v) (hdg : decode cc pc = .ok (.getfield 176, 3)) (kk : W p l e R s m args below meth c H locs cells slots Q (F0 m (pc + 3) ls (v :: rest))) : W p l e R s m args below meth c H locs cells slots Q (F0 m pc ls (.ref a :: rest)) :=
  va_get (D := D) (ci := 6) (C := RX6) (T := TX6) (N := 23) X.1 X.2.1 X.2.2.2.2.1 inlX6 X.2.2.2.1 X.k hP q0 he rfl 12 (by decide) (X.w wq_464) (fun _ h9 => h9) hv hdg kk
theorem gf_X6_179 (X : Cx p s m args c cc nL RX6 D cI cJ) (hP : va_P D vwCl ws H) (q0 : Nat) (he : ws[q0]? = some (a, .inr (6, fs))) (hv : fs[13]? = some v) (hdg : decode cc pc = .ok (.getfield 179, 3)) (kk : W p l e R s m args below meth c H locs cells slots Q (F0 m (pc + 3) ls (v :: rest))) : W p l e R s m args below meth c H locs cells slots Q (F0 m pc ls (.ref a :: rest)) :=
  va_get (D := D) (ci := 6) (C := RX6) (T := TX6) (N := 23) X.1 X.2.1 X.2.2.2.2.1 inlX6 X.2.2.2.1 X.k hP q0 he rfl 13 (by decide) (X.w wq_465) (fun _ h9 => h9) hv hdg kk
theorem gf_X6_202 (X : Cx p s m args c cc nL RX6 D cI cJ) (hP : va_P D vwCl ws H) (q0 : Nat) (he : ws[q0]? = some (a, .inr (6, fs))) (hv : fs[16]? = some v) (hdg : decode cc pc = .ok (.getfield 202, 3)) (kk : W p l e R s m args below meth c H locs cells slots Q (F0 m (pc + 3) ls (v :: rest))) : W p l e R s m args below meth c H locs cells slots Q (F0 m pc ls (.ref a :: rest)) :=
  va_get (D := D) (ci := 6) (C := RX6) (T := TX6) (N := 23) X.1 X.2.1 X.2.2.2.2.1 inlX6 X.2.2.2.1 X.k hP q0 he rfl 16 (by decide) (X.w wq_561) (fun _ h9 => h9) hv hdg kk
theorem gf_X6_205 (X : Cx p s m args c cc nL RX6 D cI cJ) (hP : va_P D vwCl ws H) (q0 : Nat) (he : ws[q0]? = some (a, .inr (6, fs))) (hv : fs[17]? = some v) (hdg : decode cc pc = .ok (.getfield 205, 3)) (kk : W p l e R s m args below meth c H locs cells slots Q (F0 m (pc + 3) ls (v :: rest))) : W p l e R s m args below meth c H locs cells slots Q (F0 m pc ls (.ref a :: rest)) :=
  va_get (D := D) (ci := 6) (C := RX6) (T := TX6) (N := 23) X.1 X.2.1 X.2.2.2.2.1 inlX6 X.2.2.2.1 X.k hP q0 he rfl 17 (by decide) (X.w wq_562) (fun _ h9 => h9) hv hdg kk
theorem gf_X6_208 (X : Cx p s m args c cc nL RX6 D cI cJ) (hP : va_P D vwCl ws H) (q0 : Nat) (he : ws[q0]? = some (a, .inr (6, fs))) (hv : fs[18]? = some v) (hdg : decode cc pc = .ok (.getfield 208, 3)) (kk : W p l e R s m args below meth c H locs cells slots Q (F0 m (pc + 3) ls (v :: rest))) : W p l e R s m args below meth c H locs cells slots Q (F0 m pc ls (.ref a :: rest)) :=
  va_get (D := D) (ci := 6) (C := RX6) (T := TX6) (N := 23) X.1 X.2.1 X.2.2.2.2.1 inlX6 X.2.2.2.1 X.k hP q0 he rfl 18 (by decide) (X.w wq_575) (fun _ h9 => h9) hv hdg kk
theorem gf_X6_211 (X : Cx p s m args c cc nL RX6 D cI cJ) (hP : va_P D vwCl ws H) (q0 : Nat) (he : ws[q0]? = some (a, .inr (6, fs))) (hv : fs[19]? = some v) (hdg : decode cc pc = .ok (.getfield 211, 3)) (kk : W p l e R s m args below meth c H locs cells slots Q (F0 m (pc + 3) ls (v :: rest))) : W p l e R s m args below meth c H locs cells slots Q (F0 m pc ls (.ref a :: rest)) :=
  va_get (D := D) (ci := 6) (C := RX6) (T := TX6) (N := 23) X.1 X.2.1 X.2.2.2.2.1 inlX6 X.2.2.2.1 X.k hP q0 he rfl 19 (by decide) (X.w wq_576) (fun _ h9 => h9) hv hdg kk
theorem gf_X6_234 (X : Cx p s m args c cc nL RX6 D cI cJ) (hP : va_P D vwCl ws H) (q0 : Nat) (he : ws[q0]? = some (a, .inr (6, fs))) (hv : fs[20]? = some v) (hdg : decode cc pc = .ok (.getfield 234, 3)) (kk : W p l e R s m args below meth c H locs cells slots Q (F0 m (pc + 3) ls (v :: rest))) : W p l e R s m args below meth c H locs cells slots Q (F0 m pc ls (.ref a :: rest)) :=
  va_get (D := D) (ci := 6) (C := RX6) (T := TX6) (N := 23) X.1 X.2.1 X.2.2.2.2.1 inlX6 X.2.2.2.1 X.k hP q0 he rfl 20 (by decide) (X.w wq_660) (fun _ h9 => h9) hv hdg kk
theorem cv_L_9 (X : Cx p s m args c cc nL RL D cI cJ) (hM : Met l yX5_init (.code yX5_init cX5_init 1 none :: WL) rm (mPre D cI cJ (.ref b :: As) wc H.size) Qc mc ms free) (hrc : rm.cells = mc) (hrs : rm.slots = ms) (hdg : decode cc pc = .ok (.invokespecial 9, 3)) (hP : va_P D vwCl ws H) (hD : va_D A ws) (isC : List Nat) (hC : isC.map (fun i => ws[i]?) = wc.map some) (hnd : va_nd isC = true) (hl : ls.size = nL) (hn : As.length = 0) (hst : st0 = As.reverse ++ .ref b :: rest) (hroom : (rest.map fun v => v.category).sum ≤ 8) (hR : rm.frames + 1 ≤ R.frames ∧ 8 + (1 + 11) + rm.locals ≤ R.locals) (hf : cells + mc ≤ R.cells ∧ slots + ms ≤ R.slots) : va_Run p l e R s m args below meth c H locs cells slots mc ms (F0 m pc ls st0) rest (Qc (Value.ref b :: As).toArray) free :=
  run_I X hM hrc hrs wq_8 wq_6 wq_7 wq_2 rfl (by decide +kernel) hdg hP hD isC hC hnd hl hn hst hroom hR hf
theorem cv_L_12 (X : Cx p s m args c cc nL RL D cI cJ) (hM : Met l yX6_init (.code yX6_init cX6_init 1 none :: WL) rm (mPre D cI cJ (.ref b :: As) wc H.size) Qc mc ms free) (hrc : rm.cells = mc) (hrs : rm.slots = ms) (hdg : decode cc pc = .ok (.invokespecial 12, 3)) (hP : va_P D vwCl ws H) (hD : va_D A ws) (isC : List Nat) (hC : isC.map (fun i => ws[i]?) = wc.map some) (hnd : va_nd isC = true) (hl : ls.size = nL) (hn : As.length = 0) (hst : st0 = As.reverse ++ .ref b :: rest) (hroom : (rest.map fun v => v.category).sum ≤ 8) (hR : rm.frames + 1 ≤ R.frames ∧ 8 + (1 + 11) + rm.locals ≤ R.locals) (hf : cells + mc ≤ R.cells ∧ slots + ms ≤ R.slots) : va_Run p l e R s m args below meth c H locs cells slots mc ms (F0 m pc ls st0) rest (Qc (Value.ref b :: As).toArray) free :=
  run_I X hM hrc hrs wq_74 wq_72 wq_73 wq_5 rfl (by decide +kernel) hdg hP hD isC hC hnd hl hn hst hroom hR hf
theorem cv_X0_3 (X : Cx p s m args c cc nL RX0 D cI cJ) (hl : ls.size = nL) (hframes : 1 ≤ R.frames) (hlocals : (rest.map fun v => v.category).sum + 12 ≤ R.locals) (hdg : decode cc pc = .ok (.invokespecial 3, 3)) (kk : W p l e R s m args below meth c H locs cells slots Q (F0 m (pc + 3) ls rest)) : W p l e R s m args below meth c H locs cells slots Q (F0 m pc ls (.ref a :: rest)) :=
  W.objInit X.1 X.2.1 X.2.2.2.1 (X.w wq_40) (X.w wq_10) (X.w wq_11) rfl (by rw [X.2.2.1]; exact hl) rfl hdg hframes (by show 2 * 0 + _ + 12 ≤ _; omega) kk
theorem cv_X1_1 (X : Cx p s m args c cc nL RX1 D cI cJ) (hl : ls.size = nL) (hframes : 1 ≤ R.frames) (hlocals : (rest.map fun v => v.category).sum + 12 ≤ R.locals) (hdg : decode cc pc = .ok (.invokespecial 1, 3)) (kk : W p l e R s m args below meth c H locs cells slots Q (F0 m (pc + 3) ls rest)) : W p l e R s m args below meth c H locs cells slots Q (F0 m pc ls (.ref a :: rest)) :=
  W.objInit X.1 X.2.1 X.2.2.2.1 (X.w wq_63) (X.w wq_10) (X.w wq_11) rfl (by rw [X.2.2.1]; exact hl) rfl hdg hframes (by show 2 * 0 + _ + 12 ≤ _; omega) kk
theorem cv_X1_29 (X : Cx p s m args c cc nL RX1 D cI cJ) (hM : Met l yX0_init (.code yX0_init cX0_init 1 none :: WL) rm (mPre D cI cJ (.ref b :: As) wc H.size) Qc mc ms free) (hrc : rm.cells = mc) (hrs : rm.slots = ms) (hdg : decode cc pc = .ok (.invokespecial 29, 3)) (hP : va_P D vwCl ws H) (hD : va_D A ws) (isC : List Nat) (hC : isC.map (fun i => ws[i]?) = wc.map some) (hnd : va_nd isC = true) (hl : ls.size = nL) (hn : As.length = 0) (hst : st0 = As.reverse ++ .ref b :: rest) (hroom : (rest.map fun v => v.category).sum ≤ 8) (hR : rm.frames + 1 ≤ R.frames ∧ 8 + (1 + 11) + rm.locals ≤ R.locals) (hf : cells + mc ≤ R.cells ∧ slots + ms ≤ R.slots) : va_Run p l e R s m args below meth c H locs cells slots mc ms (F0 m pc ls st0) rest (Qc (Value.ref b :: As).toArray) free :=
  run_IN (host := "CubicForms") X hM hrc hrs wq_39 nq_25 wq_38 wq_18 rfl (by decide +kernel) hdg hP hD isC hC hnd hl hn hst hroom hR hf
theorem cv_X2_1 (X : Cx p s m args c cc nL RX2 D cI cJ) (hl : ls.size = nL) (hframes : 1 ≤ R.frames) (hlocals : (rest.map fun v => v.category).sum + 12 ≤ R.locals) (hdg : decode cc pc = .ok (.invokespecial 1, 3)) (kk : W p l e R s m args below meth c H locs cells slots Q (F0 m (pc + 3) ls rest)) : W p l e R s m args below meth c H locs cells slots Q (F0 m pc ls (.ref a :: rest)) :=
  W.objInit X.1 X.2.1 X.2.2.2.1 (X.w wq_52) (X.w wq_10) (X.w wq_11) rfl (by rw [X.2.2.1]; exact hl) rfl hdg hframes (by show 2 * 0 + _ + 12 ≤ _; omega) kk
theorem cv_X2_9 (X : Cx p s m args c cc nL RX2 D cI cJ) (hM : Met l yX3_init (.code yX3_init cX3_init 1 none :: WL) rm (mPre D cI cJ (.ref b :: As) wc H.size) Qc mc ms free) (hrc : rm.cells = mc) (hrs : rm.slots = ms) (hdg : decode cc pc = .ok (.invokespecial 9, 3)) (hP : va_P D vwCl ws H) (hD : va_D A ws) (isC : List Nat) (hC : isC.map (fun i => ws[i]?) = wc.map some) (hnd : va_nd isC = true) (hl : ls.size = nL) (hn : As.length = 0) (hst : st0 = As.reverse ++ .ref b :: rest) (hroom : (rest.map fun v => v.category).sum ≤ 8) (hR : rm.frames + 1 ≤ R.frames ∧ 8 + (1 + 11) + rm.locals ≤ R.locals) (hf : cells + mc ≤ R.cells ∧ slots + ms ≤ R.slots) : va_Run p l e R s m args below meth c H locs cells slots mc ms (F0 m pc ls st0) rest (Qc (Value.ref b :: As).toArray) free :=
  run_IN (host := "CubicForms") X hM hrc hrs wq_42 nq_23 wq_41 wq_23 rfl (by decide +kernel) hdg hP hD isC hC hnd hl hn hst hroom hR hf
theorem cv_X3_3 (X : Cx p s m args c cc nL RX3 D cI cJ) (hl : ls.size = nL) (hframes : 1 ≤ R.frames) (hlocals : (rest.map fun v => v.category).sum + 12 ≤ R.locals) (hdg : decode cc pc = .ok (.invokespecial 3, 3)) (kk : W p l e R s m args below meth c H locs cells slots Q (F0 m (pc + 3) ls rest)) : W p l e R s m args below meth c H locs cells slots Q (F0 m pc ls (.ref a :: rest)) :=
  W.objInit X.1 X.2.1 X.2.2.2.1 (X.w wq_43) (X.w wq_10) (X.w wq_11) rfl (by rw [X.2.2.1]; exact hl) rfl hdg hframes (by show 2 * 0 + _ + 12 ≤ _; omega) kk
theorem cv_X4_3 (X : Cx p s m args c cc nL RX4 D cI cJ) (hl : ls.size = nL) (hframes : 1 ≤ R.frames) (hlocals : (rest.map fun v => v.category).sum + 12 ≤ R.locals) (hdg : decode cc pc = .ok (.invokespecial 3, 3)) (kk : W p l e R s m args below meth c H locs cells slots Q (F0 m (pc + 3) ls rest)) : W p l e R s m args below meth c H locs cells slots Q (F0 m pc ls (.ref a :: rest)) :=
  W.objInit X.1 X.2.1 X.2.2.2.1 (X.w wq_46) (X.w wq_10) (X.w wq_11) rfl (by rw [X.2.2.1]; exact hl) rfl hdg hframes (by show 2 * 0 + _ + 12 ≤ _; omega) kk
theorem cv_X4_11 (X : Cx p s m args c cc nL RX4 D cI cJ) (hM : Met l yX0_init (.code yX0_init cX0_init 1 none :: WL) rm (mPre D cI cJ (.ref b :: As) wc H.size) Qc mc ms free) (hrc : rm.cells = mc) (hrs : rm.slots = ms) (hdg : decode cc pc = .ok (.invokespecial 11, 3)) (hP : va_P D vwCl ws H) (hD : va_D A ws) (isC : List Nat) (hC : isC.map (fun i => ws[i]?) = wc.map some) (hnd : va_nd isC = true) (hl : ls.size = nL) (hn : As.length = 0) (hst : st0 = As.reverse ++ .ref b :: rest) (hroom : (rest.map fun v => v.category).sum ≤ 8) (hR : rm.frames + 1 ≤ R.frames ∧ 8 + (1 + 11) + rm.locals ≤ R.locals) (hf : cells + mc ≤ R.cells ∧ slots + ms ≤ R.slots) : va_Run p l e R s m args below meth c H locs cells slots mc ms (F0 m pc ls st0) rest (Qc (Value.ref b :: As).toArray) free :=
  run_IN (host := "CubicForms") X hM hrc hrs wq_39 nq_21 wq_38 wq_18 rfl (by decide +kernel) hdg hP hD isC hC hnd hl hn hst hroom hR hf
theorem cv_X5_3 (X : Cx p s m args c cc nL RX5 D cI cJ) (hl : ls.size = nL) (hframes : 1 ≤ R.frames) (hlocals : (rest.map fun v => v.category).sum + 12 ≤ R.locals) (hdg : decode cc pc = .ok (.invokespecial 3, 3)) (kk : W p l e R s m args below meth c H locs cells slots Q (F0 m (pc + 3) ls rest)) : W p l e R s m args below meth c H locs cells slots Q (F0 m pc ls (.ref a :: rest)) :=
  W.objInit X.1 X.2.1 X.2.2.2.1 (X.w wq_9) (X.w wq_10) (X.w wq_11) rfl (by rw [X.2.2.1]; exact hl) rfl hdg hframes (by show 2 * 0 + _ + 12 ≤ _; omega) kk
theorem cv_X5_24 (X : Cx p s m args c cc nL RX5 D cI cJ) (hM : Met l yX0_init (.code yX0_init cX0_init 1 none :: WL) rm (mPre D cI cJ (.ref b :: As) wc H.size) Qc mc ms free) (hrc : rm.cells = mc) (hrs : rm.slots = ms) (hdg : decode cc pc = .ok (.invokespecial 24, 3)) (hP : va_P D vwCl ws H) (hD : va_D A ws) (isC : List Nat) (hC : isC.map (fun i => ws[i]?) = wc.map some) (hnd : va_nd isC = true) (hl : ls.size = nL) (hn : As.length = 0) (hst : st0 = As.reverse ++ .ref b :: rest) (hroom : (rest.map fun v => v.category).sum ≤ 8) (hR : rm.frames + 1 ≤ R.frames ∧ 8 + (1 + 11) + rm.locals ≤ R.locals) (hf : cells + mc ≤ R.cells ∧ slots + ms ≤ R.slots) : va_Run p l e R s m args below meth c H locs cells slots mc ms (F0 m pc ls st0) rest (Qc (Value.ref b :: As).toArray) free :=
  run_IN (host := "CubicForms") X hM hrc hrs wq_39 nq_18 wq_38 wq_18 rfl (by decide +kernel) hdg hP hD isC hC hnd hl hn hst hroom hR hf
theorem cv_X5_34 (X : Cx p s m args c cc nL RX5 D cI cJ) (hM : Met l yX3_init (.code yX3_init cX3_init 1 none :: WL) rm (mPre D cI cJ (.ref b :: As) wc H.size) Qc mc ms free) (hrc : rm.cells = mc) (hrs : rm.slots = ms) (hdg : decode cc pc = .ok (.invokespecial 34, 3)) (hP : va_P D vwCl ws H) (hD : va_D A ws) (isC : List Nat) (hC : isC.map (fun i => ws[i]?) = wc.map some) (hnd : va_nd isC = true) (hl : ls.size = nL) (hn : As.length = 0) (hst : st0 = As.reverse ++ .ref b :: rest) (hroom : (rest.map fun v => v.category).sum ≤ 8) (hR : rm.frames + 1 ≤ R.frames ∧ 8 + (1 + 11) + rm.locals ≤ R.locals) (hf : cells + mc ≤ R.cells ∧ slots + ms ≤ R.slots) : va_Run p l e R s m args below meth c H locs cells slots mc ms (F0 m pc ls st0) rest (Qc (Value.ref b :: As).toArray) free :=
  run_IN (host := "CubicForms") X hM hrc hrs wq_42 nq_19 wq_41 wq_23 rfl (by decide +kernel) hdg hP hD isC hC hnd hl hn hst hroom hR hf
theorem cv_X5_44 (X : Cx p s m args c cc nL RX5 D cI cJ) (hM : Met l yX4_init (.code yX4_init cX4_init 1 none :: WL) rm (mPre D cI cJ (.ref b :: As) wc H.size) Qc mc ms free) (hrc : rm.cells = mc) (hrs : rm.slots = ms) (hdg : decode cc pc = .ok (.invokespecial 44, 3)) (hP : va_P D vwCl ws H) (hD : va_D A ws) (isC : List Nat) (hC : isC.map (fun i => ws[i]?) = wc.map some) (hnd : va_nd isC = true) (hl : ls.size = nL) (hn : As.length = 0) (hst : st0 = As.reverse ++ .ref b :: rest) (hroom : (rest.map fun v => v.category).sum ≤ 8) (hR : rm.frames + 1 ≤ R.frames ∧ 8 + (1 + 11) + rm.locals ≤ R.locals) (hf : cells + mc ≤ R.cells ∧ slots + ms ≤ R.slots) : va_Run p l e R s m args below meth c H locs cells slots mc ms (F0 m pc ls st0) rest (Qc (Value.ref b :: As).toArray) free :=
  run_IN (host := "CubicForms") X hM hrc hrs wq_45 nq_20 wq_44 wq_28 rfl (by decide +kernel) hdg hP hD isC hC hnd hl hn hst hroom hR hf
theorem cv_X5_51 (X : Cx p s m args c cc nL RX5 D cI cJ) (hM : Met l yX2_init (.code yX2_init cX2_init 1 none :: WL) rm (mPre D cI cJ (.ref b :: As) wc H.size) Qc mc ms free) (hrc : rm.cells = mc) (hrs : rm.slots = ms) (hdg : decode cc pc = .ok (.invokespecial 51, 3)) (hP : va_P D vwCl ws H) (hD : va_D A ws) (isC : List Nat) (hC : isC.map (fun i => ws[i]?) = wc.map some) (hnd : va_nd isC = true) (hl : ls.size = nL) (hn : As.length = 0) (hst : st0 = As.reverse ++ .ref b :: rest) (hroom : (rest.map fun v => v.category).sum ≤ 8) (hR : rm.frames + 1 ≤ R.frames ∧ 8 + (1 + 11) + rm.locals ≤ R.locals) (hf : cells + mc ≤ R.cells ∧ slots + ms ≤ R.slots) : va_Run p l e R s m args below meth c H locs cells slots mc ms (F0 m pc ls st0) rest (Qc (Value.ref b :: As).toArray) free :=
  run_IN (host := "CubicForms") X hM hrc hrs wq_51 nq_22 wq_50 wq_32 rfl (by decide +kernel) hdg hP hD isC hC hnd hl hn hst hroom hR hf
theorem cv_X5_58 (X : Cx p s m args c cc nL RX5 D cI cJ) (hM : Met l yX1_init (.code yX1_init cX1_init 1 none :: WL) rm (mPre D cI cJ (.ref b :: As) wc H.size) Qc mc ms free) (hrc : rm.cells = mc) (hrs : rm.slots = ms) (hdg : decode cc pc = .ok (.invokespecial 58, 3)) (hP : va_P D vwCl ws H) (hD : va_D A ws) (isC : List Nat) (hC : isC.map (fun i => ws[i]?) = wc.map some) (hnd : va_nd isC = true) (hl : ls.size = nL) (hn : As.length = 0) (hst : st0 = As.reverse ++ .ref b :: rest) (hroom : (rest.map fun v => v.category).sum ≤ 8) (hR : rm.frames + 1 ≤ R.frames ∧ 8 + (1 + 11) + rm.locals ≤ R.locals) (hf : cells + mc ≤ R.cells ∧ slots + ms ≤ R.slots) : va_Run p l e R s m args below meth c H locs cells slots mc ms (F0 m pc ls st0) rest (Qc (Value.ref b :: As).toArray) free :=
  run_IN (host := "CubicForms") X hM hrc hrs wq_62 nq_24 wq_61 wq_36 rfl (by decide +kernel) hdg hP hD isC hC hnd hl hn hst hroom hR hf
theorem cv_X6_1 (X : Cx p s m args c cc nL RX6 D cI cJ) (hl : ls.size = nL) (hframes : 1 ≤ R.frames) (hlocals : (rest.map fun v => v.category).sum + 12 ≤ R.locals) (hdg : decode cc pc = .ok (.invokespecial 1, 3)) (kk : W p l e R s m args below meth c H locs cells slots Q (F0 m (pc + 3) ls rest)) : W p l e R s m args below meth c H locs cells slots Q (F0 m pc ls (.ref a :: rest)) :=
  W.objInit X.1 X.2.1 X.2.2.2.1 (X.w wq_75) (X.w wq_10) (X.w wq_11) rfl (by rw [X.2.2.1]; exact hl) rfl hdg hframes (by show 2 * 0 + _ + 12 ≤ _; omega) kk
theorem cv_X0_30 (X : Cx p s m args c cc nL RX0 D cI cJ) (hM : Met l yX5_isWithin (.code yX5_isWithin cX5_isWithin 4 (some .boolean) :: WL) rm (mPre D cI cJ As wc H.size) Qc mc ms free) (hrc : rm.cells = mc) (hrs : rm.slots = ms) (hdg : decode cc pc = .ok (.invokestatic 30, 3)) (hP : va_P D vwCl ws H) (hD : va_D A ws) (isC : List Nat) (hC : isC.map (fun i => ws[i]?) = wc.map some) (hnd : va_nd isC = true) (hl : ls.size = nL) (hn : As.length = 2) (hst : st0 = As.reverse ++ rest) (hroom : (rest.map fun v => v.category).sum ≤ 8) (hR : rm.frames + 1 ≤ R.frames ∧ 8 + (4 + 11) + rm.locals ≤ R.locals) (hf : cells + mc ≤ R.cells ∧ slots + ms ≤ R.slots) : va_Run p l e R s m args below meth c H locs cells slots mc ms (F0 m pc ls st0) rest (Qc As.toArray) free :=
  run_SN (host := "CubicForms") X hM hrc hrs wq_100 nq_28 wq_99 wq_2 (by decide +kernel) hdg hP hD isC hC hnd hl hn hst hroom hR hf
theorem cv_X0_60 (X : Cx p s m args c cc nL RX0 D cI cJ) (hM : Met l yJ9_floorDiv_f86c9 (.code yJ9_floorDiv_f86c9 cJ9_floorDiv_f86c9 6 (some .long) :: WL) rm (mPre D cI cJ As wc H.size) Qc mc ms free) (hrc : rm.cells = mc) (hrs : rm.slots = ms) (hdg : decode cc pc = .ok (.invokestatic 60, 3)) (hP : va_P D vwCl ws H) (hD : va_D A ws) (isC : List Nat) (hC : isC.map (fun i => ws[i]?) = wc.map some) (hnd : va_nd isC = true) (hl : ls.size = nL) (hn : As.length = 2) (hst : st0 = As.reverse ++ rest) (hroom : (rest.map fun v => v.category).sum ≤ 8) (hR : rm.frames + 1 ≤ R.frames ∧ 8 + (6 + 11) + rm.locals ≤ R.locals) (hf : cells + mc ≤ R.cells ∧ slots + ms ≤ R.slots) : va_Run p l e R s m args below meth c H locs cells slots mc ms (F0 m pc ls st0) rest (Qc As.toArray) free :=
  run_S X hM hrc hrs wq_318 wq_315 wq_316 wq_317 (by decide +kernel) hdg hP hD isC hC hnd hl hn hst hroom hR hf
theorem cv_X0_72 (X : Cx p s m args c cc nL RX0 D cI cJ) (hl : ls.size = nL) (hframes : 1 ≤ R.frames) (hlocals : (rest.map fun v => v.category).sum + 13 ≤ R.locals) (hc : cells ≤ R.cells) (hs : slots ≤ R.slots) {x : Int64} (hdg : decode cc pc = .ok (.invokestatic 72, 3)) (kk : W p l e R s m args below meth c H locs cells slots Q (F0 m (pc + 3) ls (.long (if 0 < x then x else -x) :: rest))) : W p l e R s m args below meth c H locs cells slots Q (F0 m pc ls (.long x :: rest)) :=
  va_mabs_long X.1 X.2.1 (by rw [X.2.2.1, hl]) X.2.2.2.1 (X.w wq_284) (X.w wq_285) (X.w wq_247) (X.w wq_286) hframes hlocals hc hs hdg kk
theorem cv_X1_37 (X : Cx p s m args c cc nL RX1 D cI cJ) (hM : Met l yX1_countTo (.code yX1_countTo cX1_countTo 5 (some .int) :: WL) rm (mPre D cI cJ As wc H.size) Qc mc ms free) (hrc : rm.cells = mc) (hrs : rm.slots = ms) (hdg : decode cc pc = .ok (.invokestatic 37, 3)) (hP : va_P D vwCl ws H) (hD : va_D A ws) (isC : List Nat) (hC : isC.map (fun i => ws[i]?) = wc.map some) (hnd : va_nd isC = true) (hl : ls.size = nL) (hn : As.length = 3) (hst : st0 = As.reverse ++ rest) (hroom : (rest.map fun v => v.category).sum ≤ 8) (hR : rm.frames + 1 ≤ R.frames ∧ 8 + (5 + 11) + rm.locals ≤ R.locals) (hf : cells + mc ≤ R.cells ∧ slots + ms ≤ R.slots) : va_Run p l e R s m args below meth c H locs cells slots mc ms (F0 m pc ls st0) rest (Qc As.toArray) free :=
  run_S X hM hrc hrs wq_650 wq_648 wq_649 wq_36 (by decide +kernel) hdg hP hD isC hC hnd hl hn hst hroom hR hf
theorem cv_X1_79 (X : Cx p s m args c cc nL RX1 D cI cJ) (hM : Met l yX1_insert (.code yX1_insert cX1_insert 4 (some .boolean) :: WL) rm (mPre D cI cJ As wc H.size) Qc mc ms free) (hrc : rm.cells = mc) (hrs : rm.slots = ms) (hdg : decode cc pc = .ok (.invokestatic 79, 3)) (hP : va_P D vwCl ws H) (hD : va_D A ws) (isC : List Nat) (hC : isC.map (fun i => ws[i]?) = wc.map some) (hnd : va_nd isC = true) (hl : ls.size = nL) (hn : As.length = 3) (hst : st0 = As.reverse ++ rest) (hroom : (rest.map fun v => v.category).sum ≤ 8) (hR : rm.frames + 1 ≤ R.frames ∧ 8 + (4 + 11) + rm.locals ≤ R.locals) (hf : cells + mc ≤ R.cells ∧ slots + ms ≤ R.slots) : va_Run p l e R s m args below meth c H locs cells slots mc ms (F0 m pc ls st0) rest (Qc As.toArray) free :=
  run_S X hM hrc hrs wq_644 wq_642 wq_643 wq_36 (by decide +kernel) hdg hP hD isC hC hnd hl hn hst hroom hR hf
theorem cv_X2_67 (X : Cx p s m args c cc nL RX2 D cI cJ) (hl : ls.size = nL) (hframes : 1 ≤ R.frames) (hlocals : (rest.map fun v => v.category).sum + 13 ≤ R.locals) (hc : cells ≤ R.cells) (hs : slots ≤ R.slots) {x : Int64} (hdg : decode cc pc = .ok (.invokestatic 67, 3)) (kk : W p l e R s m args below meth c H locs cells slots Q (F0 m (pc + 3) ls (.long (if 0 < x then x else -x) :: rest))) : W p l e R s m args below meth c H locs cells slots Q (F0 m pc ls (.long x :: rest)) :=
  va_mabs_long X.1 X.2.1 (by rw [X.2.2.1, hl]) X.2.2.2.1 (X.w wq_536) (X.w wq_285) (X.w wq_247) (X.w wq_286) hframes hlocals hc hs hdg kk
theorem cv_X3_23 (X : Cx p s m args c cc nL RX3 D cI cJ) (hM : Met l yX5_isWithin (.code yX5_isWithin cX5_isWithin 4 (some .boolean) :: WL) rm (mPre D cI cJ As wc H.size) Qc mc ms free) (hrc : rm.cells = mc) (hrs : rm.slots = ms) (hdg : decode cc pc = .ok (.invokestatic 23, 3)) (hP : va_P D vwCl ws H) (hD : va_D A ws) (isC : List Nat) (hC : isC.map (fun i => ws[i]?) = wc.map some) (hnd : va_nd isC = true) (hl : ls.size = nL) (hn : As.length = 2) (hst : st0 = As.reverse ++ rest) (hroom : (rest.map fun v => v.category).sum ≤ 8) (hR : rm.frames + 1 ≤ R.frames ∧ 8 + (4 + 11) + rm.locals ≤ R.locals) (hf : cells + mc ≤ R.cells ∧ slots + ms ≤ R.slots) : va_Run p l e R s m args below meth c H locs cells slots mc ms (F0 m pc ls st0) rest (Qc As.toArray) free :=
  run_SN (host := "CubicForms") X hM hrc hrs wq_100 nq_47 wq_99 wq_2 (by decide +kernel) hdg hP hD isC hC hnd hl hn hst hroom hR hf
theorem cv_X4_43 (X : Cx p s m args c cc nL RX4 D cI cJ) (hl : ls.size = nL) (hframes : 1 ≤ R.frames) (hlocals : (rest.map fun v => v.category).sum + 13 ≤ R.locals) (hc : cells ≤ R.cells) (hs : slots ≤ R.slots) {x : Int32} (hdg : decode cc pc = .ok (.invokestatic 43, 3)) (kk : W p l e R s m args below meth c H locs cells slots Q (F0 m (pc + 3) ls (.int (if 0 ≤ x then x else 0 - x) :: rest))) : W p l e R s m args below meth c H locs cells slots Q (F0 m pc ls (.int x :: rest)) :=
  va_mabs X.1 X.2.1 (by rw [X.2.2.1, hl]) X.2.2.2.1 (X.w wq_336) (X.w wq_246) (X.w wq_247) (X.w wq_248) hframes hlocals hc hs hdg kk
theorem cv_X4_75 (X : Cx p s m args c cc nL RX4 D cI cJ) (hM : Met l yX5_isPrime (.code yX5_isPrime cX5_isPrime 2 (some .boolean) :: WL) rm (mPre D cI cJ As wc H.size) Qc mc ms free) (hrc : rm.cells = mc) (hrs : rm.slots = ms) (hdg : decode cc pc = .ok (.invokestatic 75, 3)) (hP : va_P D vwCl ws H) (hD : va_D A ws) (isC : List Nat) (hC : isC.map (fun i => ws[i]?) = wc.map some) (hnd : va_nd isC = true) (hl : ls.size = nL) (hn : As.length = 1) (hst : st0 = As.reverse ++ rest) (hroom : (rest.map fun v => v.category).sum ≤ 8) (hR : rm.frames + 1 ≤ R.frames ∧ 8 + (2 + 11) + rm.locals ≤ R.locals) (hf : cells + mc ≤ R.cells ∧ slots + ms ≤ R.slots) : va_Run p l e R s m args below meth c H locs cells slots mc ms (F0 m pc ls st0) rest (Qc As.toArray) free :=
  run_SN (host := "CubicForms") X hM hrc hrs wq_547 nq_64 wq_546 wq_2 (by decide +kernel) hdg hP hD isC hC hnd hl hn hst hroom hR hf
theorem cv_X5_100 (X : Cx p s m args c cc nL RX5 D cI cJ) (hM : Met l yX5_isWithin (.code yX5_isWithin cX5_isWithin 4 (some .boolean) :: WL) rm (mPre D cI cJ As wc H.size) Qc mc ms free) (hrc : rm.cells = mc) (hrs : rm.slots = ms) (hdg : decode cc pc = .ok (.invokestatic 100, 3)) (hP : va_P D vwCl ws H) (hD : va_D A ws) (isC : List Nat) (hC : isC.map (fun i => ws[i]?) = wc.map some) (hnd : va_nd isC = true) (hl : ls.size = nL) (hn : As.length = 2) (hst : st0 = As.reverse ++ rest) (hroom : (rest.map fun v => v.category).sum ≤ 8) (hR : rm.frames + 1 ≤ R.frames ∧ 8 + (4 + 11) + rm.locals ≤ R.locals) (hf : cells + mc ≤ R.cells ∧ slots + ms ≤ R.slots) : va_Run p l e R s m args below meth c H locs cells slots mc ms (F0 m pc ls st0) rest (Qc As.toArray) free :=
  run_S X hM hrc hrs wq_100 wq_223 wq_99 wq_2 (by decide +kernel) hdg hP hD isC hC hnd hl hn hst hroom hR hf
theorem cv_X5_108 (X : Cx p s m args c cc nL RX5 D cI cJ) (hM : Met l yX5_isSubstitution (.code yX5_isSubstitution cX5_isSubstitution 4 (some .boolean) :: WL) rm (mPre D cI cJ As wc H.size) Qc mc ms free) (hrc : rm.cells = mc) (hrs : rm.slots = ms) (hdg : decode cc pc = .ok (.invokestatic 108, 3)) (hP : va_P D vwCl ws H) (hD : va_D A ws) (isC : List Nat) (hC : isC.map (fun i => ws[i]?) = wc.map some) (hnd : va_nd isC = true) (hl : ls.size = nL) (hn : As.length = 4) (hst : st0 = As.reverse ++ rest) (hroom : (rest.map fun v => v.category).sum ≤ 8) (hR : rm.frames + 1 ≤ R.frames ∧ 8 + (4 + 11) + rm.locals ≤ R.locals) (hf : cells + mc ≤ R.cells ∧ slots + ms ≤ R.slots) : va_Run p l e R s m args below meth c H locs cells slots mc ms (F0 m pc ls st0) rest (Qc As.toArray) free :=
  run_S X hM hrc hrs wq_243 wq_241 wq_242 wq_2 (by decide +kernel) hdg hP hD isC hC hnd hl hn hst hroom hR hf
theorem cv_X5_150 (X : Cx p s m args c cc nL RX5 D cI cJ) (hM : Met l yX5_isRegister (.code yX5_isRegister cX5_isRegister 1 (some .boolean) :: WL) rm (mPre D cI cJ As wc H.size) Qc mc ms free) (hrc : rm.cells = mc) (hrs : rm.slots = ms) (hdg : decode cc pc = .ok (.invokestatic 150, 3)) (hP : va_P D vwCl ws H) (hD : va_D A ws) (isC : List Nat) (hC : isC.map (fun i => ws[i]?) = wc.map some) (hnd : va_nd isC = true) (hl : ls.size = nL) (hn : As.length = 1) (hst : st0 = As.reverse ++ rest) (hroom : (rest.map fun v => v.category).sum ≤ 8) (hR : rm.frames + 1 ≤ R.frames ∧ 8 + (1 + 11) + rm.locals ≤ R.locals) (hf : cells + mc ≤ R.cells ∧ slots + ms ≤ R.slots) : va_Run p l e R s m args below meth c H locs cells slots mc ms (F0 m pc ls st0) rest (Qc As.toArray) free :=
  run_S X hM hrc hrs wq_414 wq_412 wq_413 wq_2 (by decide +kernel) hdg hP hD isC hC hnd hl hn hst hroom hR hf
theorem cv_X5_171 (X : Cx p s m args c cc nL RX5 D cI cJ) (hM : Met l yX5_isPrime (.code yX5_isPrime cX5_isPrime 2 (some .boolean) :: WL) rm (mPre D cI cJ As wc H.size) Qc mc ms free) (hrc : rm.cells = mc) (hrs : rm.slots = ms) (hdg : decode cc pc = .ok (.invokestatic 171, 3)) (hP : va_P D vwCl ws H) (hD : va_D A ws) (isC : List Nat) (hC : isC.map (fun i => ws[i]?) = wc.map some) (hnd : va_nd isC = true) (hl : ls.size = nL) (hn : As.length = 1) (hst : st0 = As.reverse ++ rest) (hroom : (rest.map fun v => v.category).sum ≤ 8) (hR : rm.frames + 1 ≤ R.frames ∧ 8 + (2 + 11) + rm.locals ≤ R.locals) (hf : cells + mc ≤ R.cells ∧ slots + ms ≤ R.slots) : va_Run p l e R s m args below meth c H locs cells slots mc ms (F0 m pc ls st0) rest (Qc As.toArray) free :=
  run_S X hM hrc hrs wq_547 wq_545 wq_546 wq_2 (by decide +kernel) hdg hP hD isC hC hnd hl hn hst hroom hR hf
theorem cv_X5_204 (X : Cx p s m args c cc nL RX5 D cI cJ) (hl : ls.size = nL) (hframes : 1 ≤ R.frames) (hlocals : (rest.map fun v => v.category).sum + 13 ≤ R.locals) (hc : cells ≤ R.cells) (hs : slots ≤ R.slots) {x : Int32} (hdg : decode cc pc = .ok (.invokestatic 204, 3)) (kk : W p l e R s m args below meth c H locs cells slots Q (F0 m (pc + 3) ls (.int (if 0 ≤ x then x else 0 - x) :: rest))) : W p l e R s m args below meth c H locs cells slots Q (F0 m pc ls (.int x :: rest)) :=
  va_mabs X.1 X.2.1 (by rw [X.2.2.1, hl]) X.2.2.2.1 (X.w wq_245) (X.w wq_246) (X.w wq_247) (X.w wq_248) hframes hlocals hc hs hdg kk
theorem cv_X6_33 (X : Cx p s m args c cc nL RX6 D cI cJ) (hM : Met l yX6_isBetween (.code yX6_isBetween cX6_isBetween 6 (some .boolean) :: WL) rm (mPre D cI cJ As wc H.size) Qc mc ms free) (hrc : rm.cells = mc) (hrs : rm.slots = ms) (hdg : decode cc pc = .ok (.invokestatic 33, 3)) (hP : va_P D vwCl ws H) (hD : va_D A ws) (isC : List Nat) (hC : isC.map (fun i => ws[i]?) = wc.map some) (hnd : va_nd isC = true) (hl : ls.size = nL) (hn : As.length = 3) (hst : st0 = As.reverse ++ rest) (hroom : (rest.map fun v => v.category).sum ≤ 8) (hR : rm.frames + 1 ≤ R.frames ∧ 8 + (6 + 11) + rm.locals ≤ R.locals) (hf : cells + mc ≤ R.cells ∧ slots + ms ≤ R.slots) : va_Run p l e R s m args below meth c H locs cells slots mc ms (F0 m pc ls st0) rest (Qc As.toArray) free :=
  run_S X hM hrc hrs wq_128 wq_126 wq_127 wq_5 (by decide +kernel) hdg hP hD isC hC hnd hl hn hst hroom hR hf
theorem cv_X6_54 (X : Cx p s m args c cc nL RX6 D cI cJ) (hM : Met l yX6_isCoefficient (.code yX6_isCoefficient cX6_isCoefficient 2 (some .boolean) :: WL) rm (mPre D cI cJ As wc H.size) Qc mc ms free) (hrc : rm.cells = mc) (hrs : rm.slots = ms) (hdg : decode cc pc = .ok (.invokestatic 54, 3)) (hP : va_P D vwCl ws H) (hD : va_D A ws) (isC : List Nat) (hC : isC.map (fun i => ws[i]?) = wc.map some) (hnd : va_nd isC = true) (hl : ls.size = nL) (hn : As.length = 1) (hst : st0 = As.reverse ++ rest) (hroom : (rest.map fun v => v.category).sum ≤ 8) (hR : rm.frames + 1 ≤ R.frames ∧ 8 + (2 + 11) + rm.locals ≤ R.locals) (hf : cells + mc ≤ R.cells ∧ slots + ms ≤ R.slots) : va_Run p l e R s m args below meth c H locs cells slots mc ms (F0 m pc ls st0) rest (Qc As.toArray) free :=
  run_S X hM hrc hrs wq_123 wq_121 wq_122 wq_5 (by decide +kernel) hdg hP hD isC hC hnd hl hn hst hroom hR hf
theorem cv_X6_109 (X : Cx p s m args c cc nL RX6 D cI cJ) (hM : Met l yX6_size (.code yX6_size cX6_size 2 (some .long) :: WL) rm (mPre D cI cJ As wc H.size) Qc mc ms free) (hrc : rm.cells = mc) (hrs : rm.slots = ms) (hdg : decode cc pc = .ok (.invokestatic 109, 3)) (hP : va_P D vwCl ws H) (hD : va_D A ws) (isC : List Nat) (hC : isC.map (fun i => ws[i]?) = wc.map some) (hnd : va_nd isC = true) (hl : ls.size = nL) (hn : As.length = 1) (hst : st0 = As.reverse ++ rest) (hroom : (rest.map fun v => v.category).sum ≤ 8) (hR : rm.frames + 1 ≤ R.frames ∧ 8 + (2 + 11) + rm.locals ≤ R.locals) (hf : cells + mc ≤ R.cells ∧ slots + ms ≤ R.slots) : va_Run p l e R s m args below meth c H locs cells slots mc ms (F0 m pc ls st0) rest (Qc As.toArray) free :=
  run_S X hM hrc hrs wq_272 wq_270 wq_271 wq_5 (by decide +kernel) hdg hP hD isC hC hnd hl hn hst hroom hR hf
theorem cv_X6_117 (X : Cx p s m args c cc nL RX6 D cI cJ) (hM : Met l yX6_isEntry (.code yX6_isEntry cX6_isEntry 1 (some .boolean) :: WL) rm (mPre D cI cJ As wc H.size) Qc mc ms free) (hrc : rm.cells = mc) (hrs : rm.slots = ms) (hdg : decode cc pc = .ok (.invokestatic 117, 3)) (hP : va_P D vwCl ws H) (hD : va_D A ws) (isC : List Nat) (hC : isC.map (fun i => ws[i]?) = wc.map some) (hnd : va_nd isC = true) (hl : ls.size = nL) (hn : As.length = 1) (hst : st0 = As.reverse ++ rest) (hroom : (rest.map fun v => v.category).sum ≤ 8) (hR : rm.frames + 1 ≤ R.frames ∧ 8 + (1 + 11) + rm.locals ≤ R.locals) (hf : cells + mc ≤ R.cells ∧ slots + ms ≤ R.slots) : va_Run p l e R s m args below meth c H locs cells slots mc ms (F0 m pc ls st0) rest (Qc As.toArray) free :=
  run_S X hM hrc hrs wq_264 wq_262 wq_263 wq_5 (by decide +kernel) hdg hP hD isC hC hnd hl hn hst hroom hR hf
theorem cv_X6_120 (X : Cx p s m args c cc nL RX6 D cI cJ) (hM : Met l yX6_isUnit (.code yX6_isUnit cX6_isUnit 4 (some .boolean) :: WL) rm (mPre D cI cJ As wc H.size) Qc mc ms free) (hrc : rm.cells = mc) (hrs : rm.slots = ms) (hdg : decode cc pc = .ok (.invokestatic 120, 3)) (hP : va_P D vwCl ws H) (hD : va_D A ws) (isC : List Nat) (hC : isC.map (fun i => ws[i]?) = wc.map some) (hnd : va_nd isC = true) (hl : ls.size = nL) (hn : As.length = 4) (hst : st0 = As.reverse ++ rest) (hroom : (rest.map fun v => v.category).sum ≤ 8) (hR : rm.frames + 1 ≤ R.frames ∧ 8 + (4 + 11) + rm.locals ≤ R.locals) (hf : cells + mc ≤ R.cells ∧ slots + ms ≤ R.slots) : va_Run p l e R s m args below meth c H locs cells slots mc ms (F0 m pc ls st0) rest (Qc As.toArray) free :=
  run_S X hM hrc hrs wq_269 wq_267 wq_268 wq_5 (by decide +kernel) hdg hP hD isC hC hnd hl hn hst hroom hR hf
theorem cv_X6_134 (X : Cx p s m args c cc nL RX6 D cI cJ) (hM : Met l yX6_floor (.code yX6_floor cX6_floor 6 (some .long) :: WL) rm (mPre D cI cJ As wc H.size) Qc mc ms free) (hrc : rm.cells = mc) (hrs : rm.slots = ms) (hdg : decode cc pc = .ok (.invokestatic 134, 3)) (hP : va_P D vwCl ws H) (hD : va_D A ws) (isC : List Nat) (hC : isC.map (fun i => ws[i]?) = wc.map some) (hnd : va_nd isC = true) (hl : ls.size = nL) (hn : As.length = 2) (hst : st0 = As.reverse ++ rest) (hroom : (rest.map fun v => v.category).sum ≤ 8) (hR : rm.frames + 1 ≤ R.frames ∧ 8 + (6 + 11) + rm.locals ≤ R.locals) (hf : cells + mc ≤ R.cells ∧ slots + ms ≤ R.slots) : va_Run p l e R s m args below meth c H locs cells slots mc ms (F0 m pc ls st0) rest (Qc As.toArray) free :=
  run_S X hM hrc hrs wq_369 wq_367 wq_368 wq_5 (by decide +kernel) hdg hP hD isC hC hnd hl hn hst hroom hR hf
theorem cv_X6_170 (X : Cx p s m args c cc nL RX6 D cI cJ) (hM : Met l yX6_isRegister (.code yX6_isRegister cX6_isRegister 1 (some .boolean) :: WL) rm (mPre D cI cJ As wc H.size) Qc mc ms free) (hrc : rm.cells = mc) (hrs : rm.slots = ms) (hdg : decode cc pc = .ok (.invokestatic 170, 3)) (hP : va_P D vwCl ws H) (hD : va_D A ws) (isC : List Nat) (hC : isC.map (fun i => ws[i]?) = wc.map some) (hnd : va_nd isC = true) (hl : ls.size = nL) (hn : As.length = 1) (hst : st0 = As.reverse ++ rest) (hroom : (rest.map fun v => v.category).sum ≤ 8) (hR : rm.frames + 1 ≤ R.frames ∧ 8 + (1 + 11) + rm.locals ≤ R.locals) (hf : cells + mc ≤ R.cells ∧ slots + ms ≤ R.slots) : va_Run p l e R s m args below meth c H locs cells slots mc ms (F0 m pc ls st0) rest (Qc As.toArray) free :=
  run_S X hM hrc hrs wq_438 wq_436 wq_437 wq_5 (by decide +kernel) hdg hP hD isC hC hnd hl hn hst hroom hR hf
theorem cv_X6_214 (X : Cx p s m args c cc nL RX6 D cI cJ) (hM : Met l yX6_isPrime (.code yX6_isPrime cX6_isPrime 2 (some .boolean) :: WL) rm (mPre D cI cJ As wc H.size) Qc mc ms free) (hrc : rm.cells = mc) (hrs : rm.slots = ms) (hdg : decode cc pc = .ok (.invokestatic 214, 3)) (hP : va_P D vwCl ws H) (hD : va_D A ws) (isC : List Nat) (hC : isC.map (fun i => ws[i]?) = wc.map some) (hnd : va_nd isC = true) (hl : ls.size = nL) (hn : As.length = 1) (hst : st0 = As.reverse ++ rest) (hroom : (rest.map fun v => v.category).sum ≤ 8) (hR : rm.frames + 1 ≤ R.frames ∧ 8 + (2 + 11) + rm.locals ≤ R.locals) (hf : cells + mc ≤ R.cells ∧ slots + ms ≤ R.slots) : va_Run p l e R s m args below meth c H locs cells slots mc ms (F0 m pc ls st0) rest (Qc As.toArray) free :=
  run_S X hM hrc hrs wq_565 wq_563 wq_564 wq_5 (by decide +kernel) hdg hP hD isC hC hnd hl hn hst hroom hR hf
theorem cv_L_13 (X : Cx p s m args c cc nL RL D cI cJ) (hM : Met l yX5_addForm (.code yX5_addForm cX5_addForm 5 (some .int) :: WL) rm (mPre D cI cJ (.ref b :: As) wc H.size) Qc mc ms free) (hrc : rm.cells = mc) (hrs : rm.slots = ms) (hdg : decode cc pc = .ok (.invokevirtual 13, 3)) (hP : va_P D vwCl ws H) (hD : va_D A ws) (q0 : Nat) (he : ws[q0]? = some (b, .inr (5, fs))) (isC : List Nat) (hC : isC.map (fun i => ws[i]?) = wc.map some) (hnd : va_nd isC = true) (hl : ls.size = nL) (hn : As.length = 4) (hst : st0 = As.reverse ++ .ref b :: rest) (hroom : (rest.map fun v => v.category).sum ≤ 8) (hR : rm.frames + 1 ≤ R.frames ∧ 8 + (5 + 11) + rm.locals ≤ R.locals) (hf : cells + mc ≤ R.cells ∧ slots + ms ≤ R.slots) : va_Run p l e R s m args below meth c H locs cells slots mc ms (F0 m pc ls st0) rest (Qc (Value.ref b :: As).toArray) free :=
  run_V (C := RX5) (T := TX5) (N := 10) (ci := 5) X hM hrc hrs wq_87 wq_84 wq_85 wq_86 wq_2 (by decide +kernel) rfl hdg hP hD q0 he isC hC hnd hl hn hst hroom hR hf
theorem cv_L_17 (X : Cx p s m args c cc nL RL D cI cJ) (hM : Met l yX6_addForm (.code yX6_addForm cX6_addForm 6 (some .int) :: WL) rm (mPre D cI cJ (.ref b :: As) wc H.size) Qc mc ms free) (hrc : rm.cells = mc) (hrs : rm.slots = ms) (hdg : decode cc pc = .ok (.invokevirtual 17, 3)) (hP : va_P D vwCl ws H) (hD : va_D A ws) (q0 : Nat) (he : ws[q0]? = some (b, .inr (6, fs))) (isC : List Nat) (hC : isC.map (fun i => ws[i]?) = wc.map some) (hnd : va_nd isC = true) (hl : ls.size = nL) (hn : As.length = 4) (hst : st0 = As.reverse ++ .ref b :: rest) (hroom : (rest.map fun v => v.category).sum ≤ 8) (hR : rm.frames + 1 ≤ R.frames ∧ 8 + (6 + 11) + rm.locals ≤ R.locals) (hf : cells + mc ≤ R.cells ∧ slots + ms ≤ R.slots) : va_Run p l e R s m args below meth c H locs cells slots mc ms (F0 m pc ls st0) rest (Qc (Value.ref b :: As).toArray) free :=
  run_V (C := RX6) (T := TX6) (N := 23) (ci := 6) X hM hrc hrs wq_108 wq_105 wq_106 wq_107 wq_5 (by decide +kernel) rfl hdg hP hD q0 he isC hC hnd hl hn hst hroom hR hf
theorem cv_L_18 (X : Cx p s m args c cc nL RL D cI cJ) (hM : Met l yX5_clearForms (.code yX5_clearForms cX5_clearForms 2 (some .int) :: WL) rm (mPre D cI cJ (.ref b :: As) wc H.size) Qc mc ms free) (hrc : rm.cells = mc) (hrs : rm.slots = ms) (hdg : decode cc pc = .ok (.invokevirtual 18, 3)) (hP : va_P D vwCl ws H) (hD : va_D A ws) (q0 : Nat) (he : ws[q0]? = some (b, .inr (5, fs))) (isC : List Nat) (hC : isC.map (fun i => ws[i]?) = wc.map some) (hnd : va_nd isC = true) (hl : ls.size = nL) (hn : As.length = 0) (hst : st0 = As.reverse ++ .ref b :: rest) (hroom : (rest.map fun v => v.category).sum ≤ 8) (hR : rm.frames + 1 ≤ R.frames ∧ 8 + (2 + 11) + rm.locals ≤ R.locals) (hf : cells + mc ≤ R.cells ∧ slots + ms ≤ R.slots) : va_Run p l e R s m args below meth c H locs cells slots mc ms (F0 m pc ls st0) rest (Qc (Value.ref b :: As).toArray) free :=
  run_V (C := RX5) (T := TX5) (N := 10) (ci := 5) X hM hrc hrs wq_132 wq_129 wq_130 wq_131 wq_2 (by decide +kernel) rfl hdg hP hD q0 he isC hC hnd hl hn hst hroom hR hf
theorem cv_L_22 (X : Cx p s m args c cc nL RL D cI cJ) (hM : Met l yX6_clearForms (.code yX6_clearForms cX6_clearForms 2 (some .int) :: WL) rm (mPre D cI cJ (.ref b :: As) wc H.size) Qc mc ms free) (hrc : rm.cells = mc) (hrs : rm.slots = ms) (hdg : decode cc pc = .ok (.invokevirtual 22, 3)) (hP : va_P D vwCl ws H) (hD : va_D A ws) (q0 : Nat) (he : ws[q0]? = some (b, .inr (6, fs))) (isC : List Nat) (hC : isC.map (fun i => ws[i]?) = wc.map some) (hnd : va_nd isC = true) (hl : ls.size = nL) (hn : As.length = 0) (hst : st0 = As.reverse ++ .ref b :: rest) (hroom : (rest.map fun v => v.category).sum ≤ 8) (hR : rm.frames + 1 ≤ R.frames ∧ 8 + (2 + 11) + rm.locals ≤ R.locals) (hf : cells + mc ≤ R.cells ∧ slots + ms ≤ R.slots) : va_Run p l e R s m args below meth c H locs cells slots mc ms (F0 m pc ls st0) rest (Qc (Value.ref b :: As).toArray) free :=
  run_V (C := RX6) (T := TX6) (N := 23) (ci := 6) X hM hrc hrs wq_136 wq_133 wq_134 wq_135 wq_5 (by decide +kernel) rfl hdg hP hD q0 he isC hC hnd hl hn hst hroom hR hf
theorem cv_L_23 (X : Cx p s m args c cc nL RL D cI cJ) (hM : Met l yX5_coefficient (.code yX5_coefficient cX5_coefficient 3 (some .int) :: WL) rm (mPre D cI cJ (.ref b :: As) wc H.size) Qc mc ms free) (hrc : rm.cells = mc) (hrs : rm.slots = ms) (hdg : decode cc pc = .ok (.invokevirtual 23, 3)) (hP : va_P D vwCl ws H) (hD : va_D A ws) (q0 : Nat) (he : ws[q0]? = some (b, .inr (5, fs))) (isC : List Nat) (hC : isC.map (fun i => ws[i]?) = wc.map some) (hnd : va_nd isC = true) (hl : ls.size = nL) (hn : As.length = 2) (hst : st0 = As.reverse ++ .ref b :: rest) (hroom : (rest.map fun v => v.category).sum ≤ 8) (hR : rm.frames + 1 ≤ R.frames ∧ 8 + (3 + 11) + rm.locals ≤ R.locals) (hf : cells + mc ≤ R.cells ∧ slots + ms ≤ R.slots) : va_Run p l e R s m args below meth c H locs cells slots mc ms (F0 m pc ls st0) rest (Qc (Value.ref b :: As).toArray) free :=
  run_V (C := RX5) (T := TX5) (N := 10) (ci := 5) X hM hrc hrs wq_140 wq_137 wq_138 wq_139 wq_2 (by decide +kernel) rfl hdg hP hD q0 he isC hC hnd hl hn hst hroom hR hf
theorem cv_L_27 (X : Cx p s m args c cc nL RL D cI cJ) (hM : Met l yX6_coefficient (.code yX6_coefficient cX6_coefficient 3 (some .int) :: WL) rm (mPre D cI cJ (.ref b :: As) wc H.size) Qc mc ms free) (hrc : rm.cells = mc) (hrs : rm.slots = ms) (hdg : decode cc pc = .ok (.invokevirtual 27, 3)) (hP : va_P D vwCl ws H) (hD : va_D A ws) (q0 : Nat) (he : ws[q0]? = some (b, .inr (6, fs))) (isC : List Nat) (hC : isC.map (fun i => ws[i]?) = wc.map some) (hnd : va_nd isC = true) (hl : ls.size = nL) (hn : As.length = 2) (hst : st0 = As.reverse ++ .ref b :: rest) (hroom : (rest.map fun v => v.category).sum ≤ 8) (hR : rm.frames + 1 ≤ R.frames ∧ 8 + (3 + 11) + rm.locals ≤ R.locals) (hf : cells + mc ≤ R.cells ∧ slots + ms ≤ R.slots) : va_Run p l e R s m args below meth c H locs cells slots mc ms (F0 m pc ls st0) rest (Qc (Value.ref b :: As).toArray) free :=
  run_V (C := RX6) (T := TX6) (N := 23) (ci := 6) X hM hrc hrs wq_148 wq_145 wq_146 wq_147 wq_5 (by decide +kernel) rfl hdg hP hD q0 he isC hC hnd hl hn hst hroom hR hf
theorem cv_L_28 (X : Cx p s m args c cc nL RL D cI cJ) (hM : Met l yX5_discriminant (.code yX5_discriminant cX5_discriminant 2 (some .long) :: WL) rm (mPre D cI cJ (.ref b :: As) wc H.size) Qc mc ms free) (hrc : rm.cells = mc) (hrs : rm.slots = ms) (hdg : decode cc pc = .ok (.invokevirtual 28, 3)) (hP : va_P D vwCl ws H) (hD : va_D A ws) (q0 : Nat) (he : ws[q0]? = some (b, .inr (5, fs))) (isC : List Nat) (hC : isC.map (fun i => ws[i]?) = wc.map some) (hnd : va_nd isC = true) (hl : ls.size = nL) (hn : As.length = 1) (hst : st0 = As.reverse ++ .ref b :: rest) (hroom : (rest.map fun v => v.category).sum ≤ 8) (hR : rm.frames + 1 ≤ R.frames ∧ 8 + (2 + 11) + rm.locals ≤ R.locals) (hf : cells + mc ≤ R.cells ∧ slots + ms ≤ R.slots) : va_Run p l e R s m args below meth c H locs cells slots mc ms (F0 m pc ls st0) rest (Qc (Value.ref b :: As).toArray) free :=
  run_V (C := RX5) (T := TX5) (N := 10) (ci := 5) X hM hrc hrs wq_157 wq_154 wq_155 wq_156 wq_2 (by decide +kernel) rfl hdg hP hD q0 he isC hC hnd hl hn hst hroom hR hf
theorem cv_L_32 (X : Cx p s m args c cc nL RL D cI cJ) (hM : Met l yX6_discriminant (.code yX6_discriminant cX6_discriminant 2 (some .long) :: WL) rm (mPre D cI cJ (.ref b :: As) wc H.size) Qc mc ms free) (hrc : rm.cells = mc) (hrs : rm.slots = ms) (hdg : decode cc pc = .ok (.invokevirtual 32, 3)) (hP : va_P D vwCl ws H) (hD : va_D A ws) (q0 : Nat) (he : ws[q0]? = some (b, .inr (6, fs))) (isC : List Nat) (hC : isC.map (fun i => ws[i]?) = wc.map some) (hnd : va_nd isC = true) (hl : ls.size = nL) (hn : As.length = 1) (hst : st0 = As.reverse ++ .ref b :: rest) (hroom : (rest.map fun v => v.category).sum ≤ 8) (hR : rm.frames + 1 ≤ R.frames ∧ 8 + (2 + 11) + rm.locals ≤ R.locals) (hf : cells + mc ≤ R.cells ∧ slots + ms ≤ R.slots) : va_Run p l e R s m args below meth c H locs cells slots mc ms (F0 m pc ls st0) rest (Qc (Value.ref b :: As).toArray) free :=
  run_V (C := RX6) (T := TX6) (N := 23) (ci := 6) X hM hrc hrs wq_172 wq_169 wq_170 wq_171 wq_5 (by decide +kernel) rfl hdg hP hD q0 he isC hC hnd hl hn hst hroom hR hf
theorem cv_L_33 (X : Cx p s m args c cc nL RL D cI cJ) (hM : Met l yX5_hessian (.code yX5_hessian cX5_hessian 3 (some .long) :: WL) rm (mPre D cI cJ (.ref b :: As) wc H.size) Qc mc ms free) (hrc : rm.cells = mc) (hrs : rm.slots = ms) (hdg : decode cc pc = .ok (.invokevirtual 33, 3)) (hP : va_P D vwCl ws H) (hD : va_D A ws) (q0 : Nat) (he : ws[q0]? = some (b, .inr (5, fs))) (isC : List Nat) (hC : isC.map (fun i => ws[i]?) = wc.map some) (hnd : va_nd isC = true) (hl : ls.size = nL) (hn : As.length = 2) (hst : st0 = As.reverse ++ .ref b :: rest) (hroom : (rest.map fun v => v.category).sum ≤ 8) (hR : rm.frames + 1 ≤ R.frames ∧ 8 + (3 + 11) + rm.locals ≤ R.locals) (hf : cells + mc ≤ R.cells ∧ slots + ms ≤ R.slots) : va_Run p l e R s m args below meth c H locs cells slots mc ms (F0 m pc ls st0) rest (Qc (Value.ref b :: As).toArray) free :=
  run_V (C := RX5) (T := TX5) (N := 10) (ci := 5) X hM hrc hrs wq_188 wq_185 wq_186 wq_187 wq_2 (by decide +kernel) rfl hdg hP hD q0 he isC hC hnd hl hn hst hroom hR hf
theorem cv_L_37 (X : Cx p s m args c cc nL RL D cI cJ) (hM : Met l yX6_hessian (.code yX6_hessian cX6_hessian 3 (some .long) :: WL) rm (mPre D cI cJ (.ref b :: As) wc H.size) Qc mc ms free) (hrc : rm.cells = mc) (hrs : rm.slots = ms) (hdg : decode cc pc = .ok (.invokevirtual 37, 3)) (hP : va_P D vwCl ws H) (hD : va_D A ws) (q0 : Nat) (he : ws[q0]? = some (b, .inr (6, fs))) (isC : List Nat) (hC : isC.map (fun i => ws[i]?) = wc.map some) (hnd : va_nd isC = true) (hl : ls.size = nL) (hn : As.length = 2) (hst : st0 = As.reverse ++ .ref b :: rest) (hroom : (rest.map fun v => v.category).sum ≤ 8) (hR : rm.frames + 1 ≤ R.frames ∧ 8 + (3 + 11) + rm.locals ≤ R.locals) (hf : cells + mc ≤ R.cells ∧ slots + ms ≤ R.slots) : va_Run p l e R s m args below meth c H locs cells slots mc ms (F0 m pc ls st0) rest (Qc (Value.ref b :: As).toArray) free :=
  run_V (C := RX6) (T := TX6) (N := 23) (ci := 6) X hM hrc hrs wq_203 wq_200 wq_201 wq_202 wq_5 (by decide +kernel) rfl hdg hP hD q0 he isC hC hnd hl hn hst hroom hR hf
theorem cv_L_38 (X : Cx p s m args c cc nL RL D cI cJ) (hM : Met l yX5_value (.code yX5_value cX5_value 4 (some .long) :: WL) rm (mPre D cI cJ (.ref b :: As) wc H.size) Qc mc ms free) (hrc : rm.cells = mc) (hrs : rm.slots = ms) (hdg : decode cc pc = .ok (.invokevirtual 38, 3)) (hP : va_P D vwCl ws H) (hD : va_D A ws) (q0 : Nat) (he : ws[q0]? = some (b, .inr (5, fs))) (isC : List Nat) (hC : isC.map (fun i => ws[i]?) = wc.map some) (hnd : va_nd isC = true) (hl : ls.size = nL) (hn : As.length = 3) (hst : st0 = As.reverse ++ .ref b :: rest) (hroom : (rest.map fun v => v.category).sum ≤ 8) (hR : rm.frames + 1 ≤ R.frames ∧ 8 + (4 + 11) + rm.locals ≤ R.locals) (hf : cells + mc ≤ R.cells ∧ slots + ms ≤ R.slots) : va_Run p l e R s m args below meth c H locs cells slots mc ms (F0 m pc ls st0) rest (Qc (Value.ref b :: As).toArray) free :=
  run_V (C := RX5) (T := TX5) (N := 10) (ci := 5) X hM hrc hrs wq_221 wq_218 wq_219 wq_220 wq_2 (by decide +kernel) rfl hdg hP hD q0 he isC hC hnd hl hn hst hroom hR hf
theorem cv_L_42 (X : Cx p s m args c cc nL RL D cI cJ) (hM : Met l yX6_value (.code yX6_value cX6_value 4 (some .long) :: WL) rm (mPre D cI cJ (.ref b :: As) wc H.size) Qc mc ms free) (hrc : rm.cells = mc) (hrs : rm.slots = ms) (hdg : decode cc pc = .ok (.invokevirtual 42, 3)) (hP : va_P D vwCl ws H) (hD : va_D A ws) (q0 : Nat) (he : ws[q0]? = some (b, .inr (6, fs))) (isC : List Nat) (hC : isC.map (fun i => ws[i]?) = wc.map some) (hnd : va_nd isC = true) (hl : ls.size = nL) (hn : As.length = 3) (hst : st0 = As.reverse ++ .ref b :: rest) (hroom : (rest.map fun v => v.category).sum ≤ 8) (hR : rm.frames + 1 ≤ R.frames ∧ 8 + (4 + 11) + rm.locals ≤ R.locals) (hf : cells + mc ≤ R.cells ∧ slots + ms ≤ R.slots) : va_Run p l e R s m args below meth c H locs cells slots mc ms (F0 m pc ls st0) rest (Qc (Value.ref b :: As).toArray) free :=
  run_V (C := RX6) (T := TX6) (N := 23) (ci := 6) X hM hrc hrs wq_230 wq_227 wq_228 wq_229 wq_5 (by decide +kernel) rfl hdg hP hD q0 he isC hC hnd hl hn hst hroom hR hf
theorem cv_L_43 (X : Cx p s m args c cc nL RL D cI cJ) (hM : Met l yX5_substitute (.code yX5_substitute cX5_substitute 6 (some .int) :: WL) rm (mPre D cI cJ (.ref b :: As) wc H.size) Qc mc ms free) (hrc : rm.cells = mc) (hrs : rm.slots = ms) (hdg : decode cc pc = .ok (.invokevirtual 43, 3)) (hP : va_P D vwCl ws H) (hD : va_D A ws) (q0 : Nat) (he : ws[q0]? = some (b, .inr (5, fs))) (isC : List Nat) (hC : isC.map (fun i => ws[i]?) = wc.map some) (hnd : va_nd isC = true) (hl : ls.size = nL) (hn : As.length = 5) (hst : st0 = As.reverse ++ .ref b :: rest) (hroom : (rest.map fun v => v.category).sum ≤ 8) (hR : rm.frames + 1 ≤ R.frames ∧ 8 + (6 + 11) + rm.locals ≤ R.locals) (hf : cells + mc ≤ R.cells ∧ slots + ms ≤ R.slots) : va_Run p l e R s m args below meth c H locs cells slots mc ms (F0 m pc ls st0) rest (Qc (Value.ref b :: As).toArray) free :=
  run_V (C := RX5) (T := TX5) (N := 10) (ci := 5) X hM hrc hrs wq_240 wq_237 wq_238 wq_239 wq_2 (by decide +kernel) rfl hdg hP hD q0 he isC hC hnd hl hn hst hroom hR hf
theorem cv_L_47 (X : Cx p s m args c cc nL RL D cI cJ) (hM : Met l yX6_substitute (.code yX6_substitute cX6_substitute 6 (some .int) :: WL) rm (mPre D cI cJ (.ref b :: As) wc H.size) Qc mc ms free) (hrc : rm.cells = mc) (hrs : rm.slots = ms) (hdg : decode cc pc = .ok (.invokevirtual 47, 3)) (hP : va_P D vwCl ws H) (hD : va_D A ws) (q0 : Nat) (he : ws[q0]? = some (b, .inr (6, fs))) (isC : List Nat) (hC : isC.map (fun i => ws[i]?) = wc.map some) (hnd : va_nd isC = true) (hl : ls.size = nL) (hn : As.length = 5) (hst : st0 = As.reverse ++ .ref b :: rest) (hroom : (rest.map fun v => v.category).sum ≤ 8) (hR : rm.frames + 1 ≤ R.frames ∧ 8 + (6 + 11) + rm.locals ≤ R.locals) (hf : cells + mc ≤ R.cells ∧ slots + ms ≤ R.slots) : va_Run p l e R s m args below meth c H locs cells slots mc ms (F0 m pc ls st0) rest (Qc (Value.ref b :: As).toArray) free :=
  run_V (C := RX6) (T := TX6) (N := 23) (ci := 6) X hM hrc hrs wq_261 wq_258 wq_259 wq_260 wq_5 (by decide +kernel) rfl hdg hP hD q0 he isC hC hnd hl hn hst hroom hR hf
theorem cv_L_48 (X : Cx p s m args c cc nL RL D cI cJ) (hM : Met l yX5_isReducible (.code yX5_isReducible cX5_isReducible 2 (some .int) :: WL) rm (mPre D cI cJ (.ref b :: As) wc H.size) Qc mc ms free) (hrc : rm.cells = mc) (hrs : rm.slots = ms) (hdg : decode cc pc = .ok (.invokevirtual 48, 3)) (hP : va_P D vwCl ws H) (hD : va_D A ws) (q0 : Nat) (he : ws[q0]? = some (b, .inr (5, fs))) (isC : List Nat) (hC : isC.map (fun i => ws[i]?) = wc.map some) (hnd : va_nd isC = true) (hl : ls.size = nL) (hn : As.length = 1) (hst : st0 = As.reverse ++ .ref b :: rest) (hroom : (rest.map fun v => v.category).sum ≤ 8) (hR : rm.frames + 1 ≤ R.frames ∧ 8 + (2 + 11) + rm.locals ≤ R.locals) (hf : cells + mc ≤ R.cells ∧ slots + ms ≤ R.slots) : va_Run p l e R s m args below meth c H locs cells slots mc ms (F0 m pc ls st0) rest (Qc (Value.ref b :: As).toArray) free :=
  run_V (C := RX5) (T := TX5) (N := 10) (ci := 5) X hM hrc hrs wq_280 wq_277 wq_278 wq_279 wq_2 (by decide +kernel) rfl hdg hP hD q0 he isC hC hnd hl hn hst hroom hR hf
theorem cv_L_52 (X : Cx p s m args c cc nL RL D cI cJ) (hM : Met l yX6_isReducible (.code yX6_isReducible cX6_isReducible 2 (some .int) :: WL) rm (mPre D cI cJ (.ref b :: As) wc H.size) Qc mc ms free) (hrc : rm.cells = mc) (hrs : rm.slots = ms) (hdg : decode cc pc = .ok (.invokevirtual 52, 3)) (hP : va_P D vwCl ws H) (hD : va_D A ws) (q0 : Nat) (he : ws[q0]? = some (b, .inr (6, fs))) (isC : List Nat) (hC : isC.map (fun i => ws[i]?) = wc.map some) (hnd : va_nd isC = true) (hl : ls.size = nL) (hn : As.length = 1) (hst : st0 = As.reverse ++ .ref b :: rest) (hroom : (rest.map fun v => v.category).sum ≤ 8) (hR : rm.frames + 1 ≤ R.frames ∧ 8 + (2 + 11) + rm.locals ≤ R.locals) (hf : cells + mc ≤ R.cells ∧ slots + ms ≤ R.slots) : va_Run p l e R s m args below meth c H locs cells slots mc ms (F0 m pc ls st0) rest (Qc (Value.ref b :: As).toArray) free :=
  run_V (C := RX6) (T := TX6) (N := 23) (ci := 6) X hM hrc hrs wq_298 wq_295 wq_296 wq_297 wq_5 (by decide +kernel) rfl hdg hP hD q0 he isC hC hnd hl hn hst hroom hR hf
theorem cv_L_53 (X : Cx p s m args c cc nL RL D cI cJ) (hM : Met l yX5_canonical (.code yX5_canonical cX5_canonical 2 (some .int) :: WL) rm (mPre D cI cJ (.ref b :: As) wc H.size) Qc mc ms free) (hrc : rm.cells = mc) (hrs : rm.slots = ms) (hdg : decode cc pc = .ok (.invokevirtual 53, 3)) (hP : va_P D vwCl ws H) (hD : va_D A ws) (q0 : Nat) (he : ws[q0]? = some (b, .inr (5, fs))) (isC : List Nat) (hC : isC.map (fun i => ws[i]?) = wc.map some) (hnd : va_nd isC = true) (hl : ls.size = nL) (hn : As.length = 1) (hst : st0 = As.reverse ++ .ref b :: rest) (hroom : (rest.map fun v => v.category).sum ≤ 8) (hR : rm.frames + 1 ≤ R.frames ∧ 8 + (2 + 11) + rm.locals ≤ R.locals) (hf : cells + mc ≤ R.cells ∧ slots + ms ≤ R.slots) : va_Run p l e R s m args below meth c H locs cells slots mc ms (F0 m pc ls st0) rest (Qc (Value.ref b :: As).toArray) free :=
  run_V (C := RX5) (T := TX5) (N := 10) (ci := 5) X hM hrc hrs wq_306 wq_303 wq_304 wq_305 wq_2 (by decide +kernel) rfl hdg hP hD q0 he isC hC hnd hl hn hst hroom hR hf
theorem cv_L_56 (X : Cx p s m args c cc nL RL D cI cJ) (hM : Met l yX6_canonical (.code yX6_canonical cX6_canonical 2 (some .int) :: WL) rm (mPre D cI cJ (.ref b :: As) wc H.size) Qc mc ms free) (hrc : rm.cells = mc) (hrs : rm.slots = ms) (hdg : decode cc pc = .ok (.invokevirtual 56, 3)) (hP : va_P D vwCl ws H) (hD : va_D A ws) (q0 : Nat) (he : ws[q0]? = some (b, .inr (6, fs))) (isC : List Nat) (hC : isC.map (fun i => ws[i]?) = wc.map some) (hnd : va_nd isC = true) (hl : ls.size = nL) (hn : As.length = 1) (hst : st0 = As.reverse ++ .ref b :: rest) (hroom : (rest.map fun v => v.category).sum ≤ 8) (hR : rm.frames + 1 ≤ R.frames ∧ 8 + (2 + 11) + rm.locals ≤ R.locals) (hf : cells + mc ≤ R.cells ∧ slots + ms ≤ R.slots) : va_Run p l e R s m args below meth c H locs cells slots mc ms (F0 m pc ls st0) rest (Qc (Value.ref b :: As).toArray) free :=
  run_V (C := RX6) (T := TX6) (N := 23) (ci := 6) X hM hrc hrs wq_346 wq_343 wq_344 wq_345 wq_5 (by decide +kernel) rfl hdg hP hD q0 he isC hC hnd hl hn hst hroom hR hf
theorem cv_L_57 (X : Cx p s m args c cc nL RL D cI cJ) (hM : Met l yX5_areEquivalent (.code yX5_areEquivalent cX5_areEquivalent 3 (some .int) :: WL) rm (mPre D cI cJ (.ref b :: As) wc H.size) Qc mc ms free) (hrc : rm.cells = mc) (hrs : rm.slots = ms) (hdg : decode cc pc = .ok (.invokevirtual 57, 3)) (hP : va_P D vwCl ws H) (hD : va_D A ws) (q0 : Nat) (he : ws[q0]? = some (b, .inr (5, fs))) (isC : List Nat) (hC : isC.map (fun i => ws[i]?) = wc.map some) (hnd : va_nd isC = true) (hl : ls.size = nL) (hn : As.length = 2) (hst : st0 = As.reverse ++ .ref b :: rest) (hroom : (rest.map fun v => v.category).sum ≤ 8) (hR : rm.frames + 1 ≤ R.frames ∧ 8 + (3 + 11) + rm.locals ≤ R.locals) (hf : cells + mc ≤ R.cells ∧ slots + ms ≤ R.slots) : va_Run p l e R s m args below meth c H locs cells slots mc ms (F0 m pc ls st0) rest (Qc (Value.ref b :: As).toArray) free :=
  run_V (C := RX5) (T := TX5) (N := 10) (ci := 5) X hM hrc hrs wq_381 wq_378 wq_379 wq_380 wq_2 (by decide +kernel) rfl hdg hP hD q0 he isC hC hnd hl hn hst hroom hR hf
theorem cv_L_60 (X : Cx p s m args c cc nL RL D cI cJ) (hM : Met l yX6_areEquivalent (.code yX6_areEquivalent cX6_areEquivalent 11 (some .int) :: WL) rm (mPre D cI cJ (.ref b :: As) wc H.size) Qc mc ms free) (hrc : rm.cells = mc) (hrs : rm.slots = ms) (hdg : decode cc pc = .ok (.invokevirtual 60, 3)) (hP : va_P D vwCl ws H) (hD : va_D A ws) (q0 : Nat) (he : ws[q0]? = some (b, .inr (6, fs))) (isC : List Nat) (hC : isC.map (fun i => ws[i]?) = wc.map some) (hnd : va_nd isC = true) (hl : ls.size = nL) (hn : As.length = 2) (hst : st0 = As.reverse ++ .ref b :: rest) (hroom : (rest.map fun v => v.category).sum ≤ 8) (hR : rm.frames + 1 ≤ R.frames ∧ 8 + (11 + 11) + rm.locals ≤ R.locals) (hf : cells + mc ≤ R.cells ∧ slots + ms ≤ R.slots) : va_Run p l e R s m args below meth c H locs cells slots mc ms (F0 m pc ls st0) rest (Qc (Value.ref b :: As).toArray) free :=
  run_V (C := RX6) (T := TX6) (N := 23) (ci := 6) X hM hrc hrs wq_388 wq_385 wq_386 wq_387 wq_5 (by decide +kernel) rfl hdg hP hD q0 he isC hC hnd hl hn hst hroom hR hf
theorem cv_L_61 (X : Cx p s m args c cc nL RL D cI cJ) (hM : Met l yX5_automorphismCount (.code yX5_automorphismCount cX5_automorphismCount 2 (some .int) :: WL) rm (mPre D cI cJ (.ref b :: As) wc H.size) Qc mc ms free) (hrc : rm.cells = mc) (hrs : rm.slots = ms) (hdg : decode cc pc = .ok (.invokevirtual 61, 3)) (hP : va_P D vwCl ws H) (hD : va_D A ws) (q0 : Nat) (he : ws[q0]? = some (b, .inr (5, fs))) (isC : List Nat) (hC : isC.map (fun i => ws[i]?) = wc.map some) (hnd : va_nd isC = true) (hl : ls.size = nL) (hn : As.length = 1) (hst : st0 = As.reverse ++ .ref b :: rest) (hroom : (rest.map fun v => v.category).sum ≤ 8) (hR : rm.frames + 1 ≤ R.frames ∧ 8 + (2 + 11) + rm.locals ≤ R.locals) (hf : cells + mc ≤ R.cells ∧ slots + ms ≤ R.slots) : va_Run p l e R s m args below meth c H locs cells slots mc ms (F0 m pc ls st0) rest (Qc (Value.ref b :: As).toArray) free :=
  run_V (C := RX5) (T := TX5) (N := 10) (ci := 5) X hM hrc hrs wq_392 wq_389 wq_390 wq_391 wq_2 (by decide +kernel) rfl hdg hP hD q0 he isC hC hnd hl hn hst hroom hR hf
theorem cv_L_64 (X : Cx p s m args c cc nL RL D cI cJ) (hM : Met l yX6_automorphismCount (.code yX6_automorphismCount cX6_automorphismCount 8 (some .int) :: WL) rm (mPre D cI cJ (.ref b :: As) wc H.size) Qc mc ms free) (hrc : rm.cells = mc) (hrs : rm.slots = ms) (hdg : decode cc pc = .ok (.invokevirtual 64, 3)) (hP : va_P D vwCl ws H) (hD : va_D A ws) (q0 : Nat) (he : ws[q0]? = some (b, .inr (6, fs))) (isC : List Nat) (hC : isC.map (fun i => ws[i]?) = wc.map some) (hnd : va_nd isC = true) (hl : ls.size = nL) (hn : As.length = 1) (hst : st0 = As.reverse ++ .ref b :: rest) (hroom : (rest.map fun v => v.category).sum ≤ 8) (hR : rm.frames + 1 ≤ R.frames ∧ 8 + (8 + 11) + rm.locals ≤ R.locals) (hf : cells + mc ≤ R.cells ∧ slots + ms ≤ R.slots) : va_Run p l e R s m args below meth c H locs cells slots mc ms (F0 m pc ls st0) rest (Qc (Value.ref b :: As).toArray) free :=
  run_V (C := RX6) (T := TX6) (N := 23) (ci := 6) X hM hrc hrs wq_399 wq_396 wq_397 wq_398 wq_5 (by decide +kernel) rfl hdg hP hD q0 he isC hC hnd hl hn hst hroom hR hf
theorem cv_L_65 (X : Cx p s m args c cc nL RL D cI cJ) (hM : Met l yX5_setElement (.code yX5_setElement cX5_setElement 5 (some .int) :: WL) rm (mPre D cI cJ (.ref b :: As) wc H.size) Qc mc ms free) (hrc : rm.cells = mc) (hrs : rm.slots = ms) (hdg : decode cc pc = .ok (.invokevirtual 65, 3)) (hP : va_P D vwCl ws H) (hD : va_D A ws) (q0 : Nat) (he : ws[q0]? = some (b, .inr (5, fs))) (isC : List Nat) (hC : isC.map (fun i => ws[i]?) = wc.map some) (hnd : va_nd isC = true) (hl : ls.size = nL) (hn : As.length = 4) (hst : st0 = As.reverse ++ .ref b :: rest) (hroom : (rest.map fun v => v.category).sum ≤ 8) (hR : rm.frames + 1 ≤ R.frames ∧ 8 + (5 + 11) + rm.locals ≤ R.locals) (hf : cells + mc ≤ R.cells ∧ slots + ms ≤ R.slots) : va_Run p l e R s m args below meth c H locs cells slots mc ms (F0 m pc ls st0) rest (Qc (Value.ref b :: As).toArray) free :=
  run_V (C := RX5) (T := TX5) (N := 10) (ci := 5) X hM hrc hrs wq_407 wq_404 wq_405 wq_406 wq_2 (by decide +kernel) rfl hdg hP hD q0 he isC hC hnd hl hn hst hroom hR hf
theorem cv_L_68 (X : Cx p s m args c cc nL RL D cI cJ) (hM : Met l yX6_setElement (.code yX6_setElement cX6_setElement 7 (some .int) :: WL) rm (mPre D cI cJ (.ref b :: As) wc H.size) Qc mc ms free) (hrc : rm.cells = mc) (hrs : rm.slots = ms) (hdg : decode cc pc = .ok (.invokevirtual 68, 3)) (hP : va_P D vwCl ws H) (hD : va_D A ws) (q0 : Nat) (he : ws[q0]? = some (b, .inr (6, fs))) (isC : List Nat) (hC : isC.map (fun i => ws[i]?) = wc.map some) (hnd : va_nd isC = true) (hl : ls.size = nL) (hn : As.length = 4) (hst : st0 = As.reverse ++ .ref b :: rest) (hroom : (rest.map fun v => v.category).sum ≤ 8) (hR : rm.frames + 1 ≤ R.frames ∧ 8 + (7 + 11) + rm.locals ≤ R.locals) (hf : cells + mc ≤ R.cells ∧ slots + ms ≤ R.slots) : va_Run p l e R s m args below meth c H locs cells slots mc ms (F0 m pc ls st0) rest (Qc (Value.ref b :: As).toArray) free :=
  run_V (C := RX6) (T := TX6) (N := 23) (ci := 6) X hM hrc hrs wq_435 wq_432 wq_433 wq_434 wq_5 (by decide +kernel) rfl hdg hP hD q0 he isC hC hnd hl hn hst hroom hR hf
theorem cv_L_69 (X : Cx p s m args c cc nL RL D cI cJ) (hM : Met l yX5_element (.code yX5_element cX5_element 3 (some .int) :: WL) rm (mPre D cI cJ (.ref b :: As) wc H.size) Qc mc ms free) (hrc : rm.cells = mc) (hrs : rm.slots = ms) (hdg : decode cc pc = .ok (.invokevirtual 69, 3)) (hP : va_P D vwCl ws H) (hD : va_D A ws) (q0 : Nat) (he : ws[q0]? = some (b, .inr (5, fs))) (isC : List Nat) (hC : isC.map (fun i => ws[i]?) = wc.map some) (hnd : va_nd isC = true) (hl : ls.size = nL) (hn : As.length = 2) (hst : st0 = As.reverse ++ .ref b :: rest) (hroom : (rest.map fun v => v.category).sum ≤ 8) (hR : rm.frames + 1 ≤ R.frames ∧ 8 + (3 + 11) + rm.locals ≤ R.locals) (hf : cells + mc ≤ R.cells ∧ slots + ms ≤ R.slots) : va_Run p l e R s m args below meth c H locs cells slots mc ms (F0 m pc ls st0) rest (Qc (Value.ref b :: As).toArray) free :=
  run_V (C := RX5) (T := TX5) (N := 10) (ci := 5) X hM hrc hrs wq_443 wq_440 wq_441 wq_442 wq_2 (by decide +kernel) rfl hdg hP hD q0 he isC hC hnd hl hn hst hroom hR hf
theorem cv_L_72 (X : Cx p s m args c cc nL RL D cI cJ) (hM : Met l yX6_element (.code yX6_element cX6_element 3 (some .int) :: WL) rm (mPre D cI cJ (.ref b :: As) wc H.size) Qc mc ms free) (hrc : rm.cells = mc) (hrs : rm.slots = ms) (hdg : decode cc pc = .ok (.invokevirtual 72, 3)) (hP : va_P D vwCl ws H) (hD : va_D A ws) (q0 : Nat) (he : ws[q0]? = some (b, .inr (6, fs))) (isC : List Nat) (hC : isC.map (fun i => ws[i]?) = wc.map some) (hnd : va_nd isC = true) (hl : ls.size = nL) (hn : As.length = 2) (hst : st0 = As.reverse ++ .ref b :: rest) (hroom : (rest.map fun v => v.category).sum ≤ 8) (hR : rm.frames + 1 ≤ R.frames ∧ 8 + (3 + 11) + rm.locals ≤ R.locals) (hf : cells + mc ≤ R.cells ∧ slots + ms ≤ R.slots) : va_Run p l e R s m args below meth c H locs cells slots mc ms (F0 m pc ls st0) rest (Qc (Value.ref b :: As).toArray) free :=
  run_V (C := RX6) (T := TX6) (N := 23) (ci := 6) X hM hrc hrs wq_447 wq_444 wq_445 wq_446 wq_5 (by decide +kernel) rfl hdg hP hD q0 he isC hC hnd hl hn hst hroom hR hf
theorem cv_L_73 (X : Cx p s m args c cc nL RL D cI cJ) (hM : Met l yX5_multiply (.code yX5_multiply cX5_multiply 6 (some .int) :: WL) rm (mPre D cI cJ (.ref b :: As) wc H.size) Qc mc ms free) (hrc : rm.cells = mc) (hrs : rm.slots = ms) (hdg : decode cc pc = .ok (.invokevirtual 73, 3)) (hP : va_P D vwCl ws H) (hD : va_D A ws) (q0 : Nat) (he : ws[q0]? = some (b, .inr (5, fs))) (isC : List Nat) (hC : isC.map (fun i => ws[i]?) = wc.map some) (hnd : va_nd isC = true) (hl : ls.size = nL) (hn : As.length = 4) (hst : st0 = As.reverse ++ .ref b :: rest) (hroom : (rest.map fun v => v.category).sum ≤ 8) (hR : rm.frames + 1 ≤ R.frames ∧ 8 + (6 + 11) + rm.locals ≤ R.locals) (hf : cells + mc ≤ R.cells ∧ slots + ms ≤ R.slots) : va_Run p l e R s m args below meth c H locs cells slots mc ms (F0 m pc ls st0) rest (Qc (Value.ref b :: As).toArray) free :=
  run_V (C := RX5) (T := TX5) (N := 10) (ci := 5) X hM hrc hrs wq_451 wq_448 wq_449 wq_450 wq_2 (by decide +kernel) rfl hdg hP hD q0 he isC hC hnd hl hn hst hroom hR hf
theorem cv_L_76 (X : Cx p s m args c cc nL RL D cI cJ) (hM : Met l yX6_multiply (.code yX6_multiply cX6_multiply 5 (some .int) :: WL) rm (mPre D cI cJ (.ref b :: As) wc H.size) Qc mc ms free) (hrc : rm.cells = mc) (hrs : rm.slots = ms) (hdg : decode cc pc = .ok (.invokevirtual 76, 3)) (hP : va_P D vwCl ws H) (hD : va_D A ws) (q0 : Nat) (he : ws[q0]? = some (b, .inr (6, fs))) (isC : List Nat) (hC : isC.map (fun i => ws[i]?) = wc.map some) (hnd : va_nd isC = true) (hl : ls.size = nL) (hn : As.length = 4) (hst : st0 = As.reverse ++ .ref b :: rest) (hroom : (rest.map fun v => v.category).sum ≤ 8) (hR : rm.frames + 1 ≤ R.frames ∧ 8 + (5 + 11) + rm.locals ≤ R.locals) (hf : cells + mc ≤ R.cells ∧ slots + ms ≤ R.slots) : va_Run p l e R s m args below meth c H locs cells slots mc ms (F0 m pc ls st0) rest (Qc (Value.ref b :: As).toArray) free :=
  run_V (C := RX6) (T := TX6) (N := 23) (ci := 6) X hM hrc hrs wq_462 wq_459 wq_460 wq_461 wq_5 (by decide +kernel) rfl hdg hP hD q0 he isC hC hnd hl hn hst hroom hR hf
theorem cv_L_77 (X : Cx p s m args c cc nL RL D cI cJ) (hM : Met l yX5_trace (.code yX5_trace cX5_trace 3 (some .long) :: WL) rm (mPre D cI cJ (.ref b :: As) wc H.size) Qc mc ms free) (hrc : rm.cells = mc) (hrs : rm.slots = ms) (hdg : decode cc pc = .ok (.invokevirtual 77, 3)) (hP : va_P D vwCl ws H) (hD : va_D A ws) (q0 : Nat) (he : ws[q0]? = some (b, .inr (5, fs))) (isC : List Nat) (hC : isC.map (fun i => ws[i]?) = wc.map some) (hnd : va_nd isC = true) (hl : ls.size = nL) (hn : As.length = 2) (hst : st0 = As.reverse ++ .ref b :: rest) (hroom : (rest.map fun v => v.category).sum ≤ 8) (hR : rm.frames + 1 ≤ R.frames ∧ 8 + (3 + 11) + rm.locals ≤ R.locals) (hf : cells + mc ≤ R.cells ∧ slots + ms ≤ R.slots) : va_Run p l e R s m args below meth c H locs cells slots mc ms (F0 m pc ls st0) rest (Qc (Value.ref b :: As).toArray) free :=
  run_V (C := RX5) (T := TX5) (N := 10) (ci := 5) X hM hrc hrs wq_473 wq_470 wq_471 wq_472 wq_2 (by decide +kernel) rfl hdg hP hD q0 he isC hC hnd hl hn hst hroom hR hf
theorem cv_L_80 (X : Cx p s m args c cc nL RL D cI cJ) (hM : Met l yX6_trace (.code yX6_trace cX6_trace 3 (some .long) :: WL) rm (mPre D cI cJ (.ref b :: As) wc H.size) Qc mc ms free) (hrc : rm.cells = mc) (hrs : rm.slots = ms) (hdg : decode cc pc = .ok (.invokevirtual 80, 3)) (hP : va_P D vwCl ws H) (hD : va_D A ws) (q0 : Nat) (he : ws[q0]? = some (b, .inr (6, fs))) (isC : List Nat) (hC : isC.map (fun i => ws[i]?) = wc.map some) (hnd : va_nd isC = true) (hl : ls.size = nL) (hn : As.length = 2) (hst : st0 = As.reverse ++ .ref b :: rest) (hroom : (rest.map fun v => v.category).sum ≤ 8) (hR : rm.frames + 1 ≤ R.frames ∧ 8 + (3 + 11) + rm.locals ≤ R.locals) (hf : cells + mc ≤ R.cells ∧ slots + ms ≤ R.slots) : va_Run p l e R s m args below meth c H locs cells slots mc ms (F0 m pc ls st0) rest (Qc (Value.ref b :: As).toArray) free :=
  run_V (C := RX6) (T := TX6) (N := 23) (ci := 6) X hM hrc hrs wq_481 wq_478 wq_479 wq_480 wq_5 (by decide +kernel) rfl hdg hP hD q0 he isC hC hnd hl hn hst hroom hR hf
theorem cv_L_81 (X : Cx p s m args c cc nL RL D cI cJ) (hM : Met l yX5_norm (.code yX5_norm cX5_norm 3 (some .long) :: WL) rm (mPre D cI cJ (.ref b :: As) wc H.size) Qc mc ms free) (hrc : rm.cells = mc) (hrs : rm.slots = ms) (hdg : decode cc pc = .ok (.invokevirtual 81, 3)) (hP : va_P D vwCl ws H) (hD : va_D A ws) (q0 : Nat) (he : ws[q0]? = some (b, .inr (5, fs))) (isC : List Nat) (hC : isC.map (fun i => ws[i]?) = wc.map some) (hnd : va_nd isC = true) (hl : ls.size = nL) (hn : As.length = 2) (hst : st0 = As.reverse ++ .ref b :: rest) (hroom : (rest.map fun v => v.category).sum ≤ 8) (hR : rm.frames + 1 ≤ R.frames ∧ 8 + (3 + 11) + rm.locals ≤ R.locals) (hf : cells + mc ≤ R.cells ∧ slots + ms ≤ R.slots) : va_Run p l e R s m args below meth c H locs cells slots mc ms (F0 m pc ls st0) rest (Qc (Value.ref b :: As).toArray) free :=
  run_V (C := RX5) (T := TX5) (N := 10) (ci := 5) X hM hrc hrs wq_497 wq_494 wq_495 wq_496 wq_2 (by decide +kernel) rfl hdg hP hD q0 he isC hC hnd hl hn hst hroom hR hf
theorem cv_L_84 (X : Cx p s m args c cc nL RL D cI cJ) (hM : Met l yX6_norm (.code yX6_norm cX6_norm 3 (some .long) :: WL) rm (mPre D cI cJ (.ref b :: As) wc H.size) Qc mc ms free) (hrc : rm.cells = mc) (hrs : rm.slots = ms) (hdg : decode cc pc = .ok (.invokevirtual 84, 3)) (hP : va_P D vwCl ws H) (hD : va_D A ws) (q0 : Nat) (he : ws[q0]? = some (b, .inr (6, fs))) (isC : List Nat) (hC : isC.map (fun i => ws[i]?) = wc.map some) (hnd : va_nd isC = true) (hl : ls.size = nL) (hn : As.length = 2) (hst : st0 = As.reverse ++ .ref b :: rest) (hroom : (rest.map fun v => v.category).sum ≤ 8) (hR : rm.frames + 1 ≤ R.frames ∧ 8 + (3 + 11) + rm.locals ≤ R.locals) (hf : cells + mc ≤ R.cells ∧ slots + ms ≤ R.slots) : va_Run p l e R s m args below meth c H locs cells slots mc ms (F0 m pc ls st0) rest (Qc (Value.ref b :: As).toArray) free :=
  run_V (C := RX6) (T := TX6) (N := 23) (ci := 6) X hM hrc hrs wq_508 wq_505 wq_506 wq_507 wq_5 (by decide +kernel) rfl hdg hP hD q0 he isC hC hnd hl hn hst hroom hR hf
theorem cv_L_85 (X : Cx p s m args c cc nL RL D cI cJ) (hM : Met l yX5_traceDeterminant (.code yX5_traceDeterminant cX5_traceDeterminant 2 (some .long) :: WL) rm (mPre D cI cJ (.ref b :: As) wc H.size) Qc mc ms free) (hrc : rm.cells = mc) (hrs : rm.slots = ms) (hdg : decode cc pc = .ok (.invokevirtual 85, 3)) (hP : va_P D vwCl ws H) (hD : va_D A ws) (q0 : Nat) (he : ws[q0]? = some (b, .inr (5, fs))) (isC : List Nat) (hC : isC.map (fun i => ws[i]?) = wc.map some) (hnd : va_nd isC = true) (hl : ls.size = nL) (hn : As.length = 1) (hst : st0 = As.reverse ++ .ref b :: rest) (hroom : (rest.map fun v => v.category).sum ≤ 8) (hR : rm.frames + 1 ≤ R.frames ∧ 8 + (2 + 11) + rm.locals ≤ R.locals) (hf : cells + mc ≤ R.cells ∧ slots + ms ≤ R.slots) : va_Run p l e R s m args below meth c H locs cells slots mc ms (F0 m pc ls st0) rest (Qc (Value.ref b :: As).toArray) free :=
  run_V (C := RX5) (T := TX5) (N := 10) (ci := 5) X hM hrc hrs wq_516 wq_513 wq_514 wq_515 wq_2 (by decide +kernel) rfl hdg hP hD q0 he isC hC hnd hl hn hst hroom hR hf
theorem cv_L_88 (X : Cx p s m args c cc nL RL D cI cJ) (hM : Met l yX6_traceDeterminant (.code yX6_traceDeterminant cX6_traceDeterminant 5 (some .long) :: WL) rm (mPre D cI cJ (.ref b :: As) wc H.size) Qc mc ms free) (hrc : rm.cells = mc) (hrs : rm.slots = ms) (hdg : decode cc pc = .ok (.invokevirtual 88, 3)) (hP : va_P D vwCl ws H) (hD : va_D A ws) (q0 : Nat) (he : ws[q0]? = some (b, .inr (6, fs))) (isC : List Nat) (hC : isC.map (fun i => ws[i]?) = wc.map some) (hnd : va_nd isC = true) (hl : ls.size = nL) (hn : As.length = 1) (hst : st0 = As.reverse ++ .ref b :: rest) (hroom : (rest.map fun v => v.category).sum ≤ 8) (hR : rm.frames + 1 ≤ R.frames ∧ 8 + (5 + 11) + rm.locals ≤ R.locals) (hf : cells + mc ≤ R.cells ∧ slots + ms ≤ R.slots) : va_Run p l e R s m args below meth c H locs cells slots mc ms (F0 m pc ls st0) rest (Qc (Value.ref b :: As).toArray) free :=
  run_V (C := RX6) (T := TX6) (N := 23) (ci := 6) X hM hrc hrs wq_528 wq_525 wq_526 wq_527 wq_5 (by decide +kernel) rfl hdg hP hD q0 he isC hC hnd hl hn hst hroom hR hf
theorem cv_L_89 (X : Cx p s m args c cc nL RL D cI cJ) (hM : Met l yX5_elementIndex (.code yX5_elementIndex cX5_elementIndex 3 (some .long) :: WL) rm (mPre D cI cJ (.ref b :: As) wc H.size) Qc mc ms free) (hrc : rm.cells = mc) (hrs : rm.slots = ms) (hdg : decode cc pc = .ok (.invokevirtual 89, 3)) (hP : va_P D vwCl ws H) (hD : va_D A ws) (q0 : Nat) (he : ws[q0]? = some (b, .inr (5, fs))) (isC : List Nat) (hC : isC.map (fun i => ws[i]?) = wc.map some) (hnd : va_nd isC = true) (hl : ls.size = nL) (hn : As.length = 2) (hst : st0 = As.reverse ++ .ref b :: rest) (hroom : (rest.map fun v => v.category).sum ≤ 8) (hR : rm.frames + 1 ≤ R.frames ∧ 8 + (3 + 11) + rm.locals ≤ R.locals) (hf : cells + mc ≤ R.cells ∧ slots + ms ≤ R.slots) : va_Run p l e R s m args below meth c H locs cells slots mc ms (F0 m pc ls st0) rest (Qc (Value.ref b :: As).toArray) free :=
  run_V (C := RX5) (T := TX5) (N := 10) (ci := 5) X hM hrc hrs wq_532 wq_529 wq_530 wq_531 wq_2 (by decide +kernel) rfl hdg hP hD q0 he isC hC hnd hl hn hst hroom hR hf
theorem cv_L_92 (X : Cx p s m args c cc nL RL D cI cJ) (hM : Met l yX6_elementIndex (.code yX6_elementIndex cX6_elementIndex 9 (some .long) :: WL) rm (mPre D cI cJ (.ref b :: As) wc H.size) Qc mc ms free) (hrc : rm.cells = mc) (hrs : rm.slots = ms) (hdg : decode cc pc = .ok (.invokevirtual 92, 3)) (hP : va_P D vwCl ws H) (hD : va_D A ws) (q0 : Nat) (he : ws[q0]? = some (b, .inr (6, fs))) (isC : List Nat) (hC : isC.map (fun i => ws[i]?) = wc.map some) (hnd : va_nd isC = true) (hl : ls.size = nL) (hn : As.length = 2) (hst : st0 = As.reverse ++ .ref b :: rest) (hroom : (rest.map fun v => v.category).sum ≤ 8) (hR : rm.frames + 1 ≤ R.frames ∧ 8 + (9 + 11) + rm.locals ≤ R.locals) (hf : cells + mc ≤ R.cells ∧ slots + ms ≤ R.slots) : va_Run p l e R s m args below meth c H locs cells slots mc ms (F0 m pc ls st0) rest (Qc (Value.ref b :: As).toArray) free :=
  run_V (C := RX6) (T := TX6) (N := 23) (ci := 6) X hM hrc hrs wq_540 wq_537 wq_538 wq_539 wq_5 (by decide +kernel) rfl hdg hP hD q0 he isC hC hnd hl hn hst hroom hR hf
theorem cv_L_93 (X : Cx p s m args c cc nL RL D cI cJ) (hM : Met l yX5_splitting (.code yX5_splitting cX5_splitting 3 (some .int) :: WL) rm (mPre D cI cJ (.ref b :: As) wc H.size) Qc mc ms free) (hrc : rm.cells = mc) (hrs : rm.slots = ms) (hdg : decode cc pc = .ok (.invokevirtual 93, 3)) (hP : va_P D vwCl ws H) (hD : va_D A ws) (q0 : Nat) (he : ws[q0]? = some (b, .inr (5, fs))) (isC : List Nat) (hC : isC.map (fun i => ws[i]?) = wc.map some) (hnd : va_nd isC = true) (hl : ls.size = nL) (hn : As.length = 2) (hst : st0 = As.reverse ++ .ref b :: rest) (hroom : (rest.map fun v => v.category).sum ≤ 8) (hR : rm.frames + 1 ≤ R.frames ∧ 8 + (3 + 11) + rm.locals ≤ R.locals) (hf : cells + mc ≤ R.cells ∧ slots + ms ≤ R.slots) : va_Run p l e R s m args below meth c H locs cells slots mc ms (F0 m pc ls st0) rest (Qc (Value.ref b :: As).toArray) free :=
  run_V (C := RX5) (T := TX5) (N := 10) (ci := 5) X hM hrc hrs wq_544 wq_541 wq_542 wq_543 wq_2 (by decide +kernel) rfl hdg hP hD q0 he isC hC hnd hl hn hst hroom hR hf
theorem cv_L_96 (X : Cx p s m args c cc nL RL D cI cJ) (hM : Met l yX6_splitting (.code yX6_splitting cX6_splitting 6 (some .int) :: WL) rm (mPre D cI cJ (.ref b :: As) wc H.size) Qc mc ms free) (hrc : rm.cells = mc) (hrs : rm.slots = ms) (hdg : decode cc pc = .ok (.invokevirtual 96, 3)) (hP : va_P D vwCl ws H) (hD : va_D A ws) (q0 : Nat) (he : ws[q0]? = some (b, .inr (6, fs))) (isC : List Nat) (hC : isC.map (fun i => ws[i]?) = wc.map some) (hnd : va_nd isC = true) (hl : ls.size = nL) (hn : As.length = 2) (hst : st0 = As.reverse ++ .ref b :: rest) (hroom : (rest.map fun v => v.category).sum ≤ 8) (hR : rm.frames + 1 ≤ R.frames ∧ 8 + (6 + 11) + rm.locals ≤ R.locals) (hf : cells + mc ≤ R.cells ∧ slots + ms ≤ R.slots) : va_Run p l e R s m args below meth c H locs cells slots mc ms (F0 m pc ls st0) rest (Qc (Value.ref b :: As).toArray) free :=
  run_V (C := RX6) (T := TX6) (N := 23) (ci := 6) X hM hrc hrs wq_560 wq_557 wq_558 wq_559 wq_5 (by decide +kernel) rfl hdg hP hD q0 he isC hC hnd hl hn hst hroom hR hf
theorem cv_L_97 (X : Cx p s m args c cc nL RL D cI cJ) (hM : Met l yX5_isMaximalAt (.code yX5_isMaximalAt cX5_isMaximalAt 3 (some .int) :: WL) rm (mPre D cI cJ (.ref b :: As) wc H.size) Qc mc ms free) (hrc : rm.cells = mc) (hrs : rm.slots = ms) (hdg : decode cc pc = .ok (.invokevirtual 97, 3)) (hP : va_P D vwCl ws H) (hD : va_D A ws) (q0 : Nat) (he : ws[q0]? = some (b, .inr (5, fs))) (isC : List Nat) (hC : isC.map (fun i => ws[i]?) = wc.map some) (hnd : va_nd isC = true) (hl : ls.size = nL) (hn : As.length = 2) (hst : st0 = As.reverse ++ .ref b :: rest) (hroom : (rest.map fun v => v.category).sum ≤ 8) (hR : rm.frames + 1 ≤ R.frames ∧ 8 + (3 + 11) + rm.locals ≤ R.locals) (hf : cells + mc ≤ R.cells ∧ slots + ms ≤ R.slots) : va_Run p l e R s m args below meth c H locs cells slots mc ms (F0 m pc ls st0) rest (Qc (Value.ref b :: As).toArray) free :=
  run_V (C := RX5) (T := TX5) (N := 10) (ci := 5) X hM hrc hrs wq_580 wq_577 wq_578 wq_579 wq_2 (by decide +kernel) rfl hdg hP hD q0 he isC hC hnd hl hn hst hroom hR hf
theorem cv_L_100 (X : Cx p s m args c cc nL RL D cI cJ) (hM : Met l yX6_isMaximalAt (.code yX6_isMaximalAt cX6_isMaximalAt 3 (some .int) :: WL) rm (mPre D cI cJ (.ref b :: As) wc H.size) Qc mc ms free) (hrc : rm.cells = mc) (hrs : rm.slots = ms) (hdg : decode cc pc = .ok (.invokevirtual 100, 3)) (hP : va_P D vwCl ws H) (hD : va_D A ws) (q0 : Nat) (he : ws[q0]? = some (b, .inr (6, fs))) (isC : List Nat) (hC : isC.map (fun i => ws[i]?) = wc.map some) (hnd : va_nd isC = true) (hl : ls.size = nL) (hn : As.length = 2) (hst : st0 = As.reverse ++ .ref b :: rest) (hroom : (rest.map fun v => v.category).sum ≤ 8) (hR : rm.frames + 1 ≤ R.frames ∧ 8 + (3 + 11) + rm.locals ≤ R.locals) (hf : cells + mc ≤ R.cells ∧ slots + ms ≤ R.slots) : va_Run p l e R s m args below meth c H locs cells slots mc ms (F0 m pc ls st0) rest (Qc (Value.ref b :: As).toArray) free :=
  run_V (C := RX6) (T := TX6) (N := 23) (ci := 6) X hM hrc hrs wq_593 wq_590 wq_591 wq_592 wq_5 (by decide +kernel) rfl hdg hP hD q0 he isC hC hnd hl hn hst hroom hR hf
theorem cv_L_101 (X : Cx p s m args c cc nL RL D cI cJ) (hM : Met l yX5_overring (.code yX5_overring cX5_overring 3 (some .int) :: WL) rm (mPre D cI cJ (.ref b :: As) wc H.size) Qc mc ms free) (hrc : rm.cells = mc) (hrs : rm.slots = ms) (hdg : decode cc pc = .ok (.invokevirtual 101, 3)) (hP : va_P D vwCl ws H) (hD : va_D A ws) (q0 : Nat) (he : ws[q0]? = some (b, .inr (5, fs))) (isC : List Nat) (hC : isC.map (fun i => ws[i]?) = wc.map some) (hnd : va_nd isC = true) (hl : ls.size = nL) (hn : As.length = 2) (hst : st0 = As.reverse ++ .ref b :: rest) (hroom : (rest.map fun v => v.category).sum ≤ 8) (hR : rm.frames + 1 ≤ R.frames ∧ 8 + (3 + 11) + rm.locals ≤ R.locals) (hf : cells + mc ≤ R.cells ∧ slots + ms ≤ R.slots) : va_Run p l e R s m args below meth c H locs cells slots mc ms (F0 m pc ls st0) rest (Qc (Value.ref b :: As).toArray) free :=
  run_V (C := RX5) (T := TX5) (N := 10) (ci := 5) X hM hrc hrs wq_601 wq_598 wq_599 wq_600 wq_2 (by decide +kernel) rfl hdg hP hD q0 he isC hC hnd hl hn hst hroom hR hf
theorem cv_L_104 (X : Cx p s m args c cc nL RL D cI cJ) (hM : Met l yX6_overring (.code yX6_overring cX6_overring 3 (some .int) :: WL) rm (mPre D cI cJ (.ref b :: As) wc H.size) Qc mc ms free) (hrc : rm.cells = mc) (hrs : rm.slots = ms) (hdg : decode cc pc = .ok (.invokevirtual 104, 3)) (hP : va_P D vwCl ws H) (hD : va_D A ws) (q0 : Nat) (he : ws[q0]? = some (b, .inr (6, fs))) (isC : List Nat) (hC : isC.map (fun i => ws[i]?) = wc.map some) (hnd : va_nd isC = true) (hl : ls.size = nL) (hn : As.length = 2) (hst : st0 = As.reverse ++ .ref b :: rest) (hroom : (rest.map fun v => v.category).sum ≤ 8) (hR : rm.frames + 1 ≤ R.frames ∧ 8 + (3 + 11) + rm.locals ≤ R.locals) (hf : cells + mc ≤ R.cells ∧ slots + ms ≤ R.slots) : va_Run p l e R s m args below meth c H locs cells slots mc ms (F0 m pc ls st0) rest (Qc (Value.ref b :: As).toArray) free :=
  run_V (C := RX6) (T := TX6) (N := 23) (ci := 6) X hM hrc hrs wq_605 wq_602 wq_603 wq_604 wq_5 (by decide +kernel) rfl hdg hP hD q0 he isC hC hnd hl hn hst hroom hR hf
theorem cv_L_105 (X : Cx p s m args c cc nL RL D cI cJ) (hM : Met l yX5_maximalOverring (.code yX5_maximalOverring cX5_maximalOverring 2 (some .int) :: WL) rm (mPre D cI cJ (.ref b :: As) wc H.size) Qc mc ms free) (hrc : rm.cells = mc) (hrs : rm.slots = ms) (hdg : decode cc pc = .ok (.invokevirtual 105, 3)) (hP : va_P D vwCl ws H) (hD : va_D A ws) (q0 : Nat) (he : ws[q0]? = some (b, .inr (5, fs))) (isC : List Nat) (hC : isC.map (fun i => ws[i]?) = wc.map some) (hnd : va_nd isC = true) (hl : ls.size = nL) (hn : As.length = 1) (hst : st0 = As.reverse ++ .ref b :: rest) (hroom : (rest.map fun v => v.category).sum ≤ 8) (hR : rm.frames + 1 ≤ R.frames ∧ 8 + (2 + 11) + rm.locals ≤ R.locals) (hf : cells + mc ≤ R.cells ∧ slots + ms ≤ R.slots) : va_Run p l e R s m args below meth c H locs cells slots mc ms (F0 m pc ls st0) rest (Qc (Value.ref b :: As).toArray) free :=
  run_V (C := RX5) (T := TX5) (N := 10) (ci := 5) X hM hrc hrs wq_609 wq_606 wq_607 wq_608 wq_2 (by decide +kernel) rfl hdg hP hD q0 he isC hC hnd hl hn hst hroom hR hf
theorem cv_L_108 (X : Cx p s m args c cc nL RL D cI cJ) (hM : Met l yX6_maximalOverring (.code yX6_maximalOverring cX6_maximalOverring 2 (some .int) :: WL) rm (mPre D cI cJ (.ref b :: As) wc H.size) Qc mc ms free) (hrc : rm.cells = mc) (hrs : rm.slots = ms) (hdg : decode cc pc = .ok (.invokevirtual 108, 3)) (hP : va_P D vwCl ws H) (hD : va_D A ws) (q0 : Nat) (he : ws[q0]? = some (b, .inr (6, fs))) (isC : List Nat) (hC : isC.map (fun i => ws[i]?) = wc.map some) (hnd : va_nd isC = true) (hl : ls.size = nL) (hn : As.length = 1) (hst : st0 = As.reverse ++ .ref b :: rest) (hroom : (rest.map fun v => v.category).sum ≤ 8) (hR : rm.frames + 1 ≤ R.frames ∧ 8 + (2 + 11) + rm.locals ≤ R.locals) (hf : cells + mc ≤ R.cells ∧ slots + ms ≤ R.slots) : va_Run p l e R s m args below meth c H locs cells slots mc ms (F0 m pc ls st0) rest (Qc (Value.ref b :: As).toArray) free :=
  run_V (C := RX6) (T := TX6) (N := 23) (ci := 6) X hM hrc hrs wq_621 wq_618 wq_619 wq_620 wq_5 (by decide +kernel) rfl hdg hP hD q0 he isC hC hnd hl hn hst hroom hR hf
theorem cv_L_109 (X : Cx p s m args c cc nL RL D cI cJ) (hM : Met l yX5_countForms (.code yX5_countForms cX5_countForms 2 (some .int) :: WL) rm (mPre D cI cJ (.ref b :: As) wc H.size) Qc mc ms free) (hrc : rm.cells = mc) (hrs : rm.slots = ms) (hdg : decode cc pc = .ok (.invokevirtual 109, 3)) (hP : va_P D vwCl ws H) (hD : va_D A ws) (q0 : Nat) (he : ws[q0]? = some (b, .inr (5, fs))) (isC : List Nat) (hC : isC.map (fun i => ws[i]?) = wc.map some) (hnd : va_nd isC = true) (hl : ls.size = nL) (hn : As.length = 1) (hst : st0 = As.reverse ++ .ref b :: rest) (hroom : (rest.map fun v => v.category).sum ≤ 8) (hR : rm.frames + 1 ≤ R.frames ∧ 8 + (2 + 11) + rm.locals ≤ R.locals) (hf : cells + mc ≤ R.cells ∧ slots + ms ≤ R.slots) : va_Run p l e R s m args below meth c H locs cells slots mc ms (F0 m pc ls st0) rest (Qc (Value.ref b :: As).toArray) free :=
  run_V (C := RX5) (T := TX5) (N := 10) (ci := 5) X hM hrc hrs wq_629 wq_626 wq_627 wq_628 wq_2 (by decide +kernel) rfl hdg hP hD q0 he isC hC hnd hl hn hst hroom hR hf
theorem cv_L_112 (X : Cx p s m args c cc nL RL D cI cJ) (hM : Met l yX6_countForms (.code yX6_countForms cX6_countForms 4 (some .int) :: WL) rm (mPre D cI cJ (.ref b :: As) wc H.size) Qc mc ms free) (hrc : rm.cells = mc) (hrs : rm.slots = ms) (hdg : decode cc pc = .ok (.invokevirtual 112, 3)) (hP : va_P D vwCl ws H) (hD : va_D A ws) (q0 : Nat) (he : ws[q0]? = some (b, .inr (6, fs))) (isC : List Nat) (hC : isC.map (fun i => ws[i]?) = wc.map some) (hnd : va_nd isC = true) (hl : ls.size = nL) (hn : As.length = 1) (hst : st0 = As.reverse ++ .ref b :: rest) (hroom : (rest.map fun v => v.category).sum ≤ 8) (hR : rm.frames + 1 ≤ R.frames ∧ 8 + (4 + 11) + rm.locals ≤ R.locals) (hf : cells + mc ≤ R.cells ∧ slots + ms ≤ R.slots) : va_Run p l e R s m args below meth c H locs cells slots mc ms (F0 m pc ls st0) rest (Qc (Value.ref b :: As).toArray) free :=
  run_V (C := RX6) (T := TX6) (N := 23) (ci := 6) X hM hrc hrs wq_654 wq_651 wq_652 wq_653 wq_5 (by decide +kernel) rfl hdg hP hD q0 he isC hC hnd hl hn hst hroom hR hf
theorem cv_L_113 (X : Cx p s m args c cc nL RL D cI cJ) (hM : Met l yX5_countFields (.code yX5_countFields cX5_countFields 2 (some .int) :: WL) rm (mPre D cI cJ (.ref b :: As) wc H.size) Qc mc ms free) (hrc : rm.cells = mc) (hrs : rm.slots = ms) (hdg : decode cc pc = .ok (.invokevirtual 113, 3)) (hP : va_P D vwCl ws H) (hD : va_D A ws) (q0 : Nat) (he : ws[q0]? = some (b, .inr (5, fs))) (isC : List Nat) (hC : isC.map (fun i => ws[i]?) = wc.map some) (hnd : va_nd isC = true) (hl : ls.size = nL) (hn : As.length = 1) (hst : st0 = As.reverse ++ .ref b :: rest) (hroom : (rest.map fun v => v.category).sum ≤ 8) (hR : rm.frames + 1 ≤ R.frames ∧ 8 + (2 + 11) + rm.locals ≤ R.locals) (hf : cells + mc ≤ R.cells ∧ slots + ms ≤ R.slots) : va_Run p l e R s m args below meth c H locs cells slots mc ms (F0 m pc ls st0) rest (Qc (Value.ref b :: As).toArray) free :=
  run_V (C := RX5) (T := TX5) (N := 10) (ci := 5) X hM hrc hrs wq_672 wq_669 wq_670 wq_671 wq_2 (by decide +kernel) rfl hdg hP hD q0 he isC hC hnd hl hn hst hroom hR hf
theorem cv_L_116 (X : Cx p s m args c cc nL RL D cI cJ) (hM : Met l yX6_countFields (.code yX6_countFields cX6_countFields 4 (some .int) :: WL) rm (mPre D cI cJ (.ref b :: As) wc H.size) Qc mc ms free) (hrc : rm.cells = mc) (hrs : rm.slots = ms) (hdg : decode cc pc = .ok (.invokevirtual 116, 3)) (hP : va_P D vwCl ws H) (hD : va_D A ws) (q0 : Nat) (he : ws[q0]? = some (b, .inr (6, fs))) (isC : List Nat) (hC : isC.map (fun i => ws[i]?) = wc.map some) (hnd : va_nd isC = true) (hl : ls.size = nL) (hn : As.length = 1) (hst : st0 = As.reverse ++ .ref b :: rest) (hroom : (rest.map fun v => v.category).sum ≤ 8) (hR : rm.frames + 1 ≤ R.frames ∧ 8 + (4 + 11) + rm.locals ≤ R.locals) (hf : cells + mc ≤ R.cells ∧ slots + ms ≤ R.slots) : va_Run p l e R s m args below meth c H locs cells slots mc ms (F0 m pc ls st0) rest (Qc (Value.ref b :: As).toArray) free :=
  run_V (C := RX6) (T := TX6) (N := 23) (ci := 6) X hM hrc hrs wq_679 wq_676 wq_677 wq_678 wq_5 (by decide +kernel) rfl hdg hP hD q0 he isC hC hnd hl hn hst hroom hR hf
theorem cv_L_117 (X : Cx p s m args c cc nL RL D cI cJ) (hM : Met l yX5_fieldDiscriminant (.code yX5_fieldDiscriminant cX5_fieldDiscriminant 2 (some .int) :: WL) rm (mPre D cI cJ (.ref b :: As) wc H.size) Qc mc ms free) (hrc : rm.cells = mc) (hrs : rm.slots = ms) (hdg : decode cc pc = .ok (.invokevirtual 117, 3)) (hP : va_P D vwCl ws H) (hD : va_D A ws) (q0 : Nat) (he : ws[q0]? = some (b, .inr (5, fs))) (isC : List Nat) (hC : isC.map (fun i => ws[i]?) = wc.map some) (hnd : va_nd isC = true) (hl : ls.size = nL) (hn : As.length = 1) (hst : st0 = As.reverse ++ .ref b :: rest) (hroom : (rest.map fun v => v.category).sum ≤ 8) (hR : rm.frames + 1 ≤ R.frames ∧ 8 + (2 + 11) + rm.locals ≤ R.locals) (hf : cells + mc ≤ R.cells ∧ slots + ms ≤ R.slots) : va_Run p l e R s m args below meth c H locs cells slots mc ms (F0 m pc ls st0) rest (Qc (Value.ref b :: As).toArray) free :=
  run_V (C := RX5) (T := TX5) (N := 10) (ci := 5) X hM hrc hrs wq_683 wq_680 wq_681 wq_682 wq_2 (by decide +kernel) rfl hdg hP hD q0 he isC hC hnd hl hn hst hroom hR hf
theorem cv_L_120 (X : Cx p s m args c cc nL RL D cI cJ) (hM : Met l yX6_fieldDiscriminant (.code yX6_fieldDiscriminant cX6_fieldDiscriminant 4 (some .int) :: WL) rm (mPre D cI cJ (.ref b :: As) wc H.size) Qc mc ms free) (hrc : rm.cells = mc) (hrs : rm.slots = ms) (hdg : decode cc pc = .ok (.invokevirtual 120, 3)) (hP : va_P D vwCl ws H) (hD : va_D A ws) (q0 : Nat) (he : ws[q0]? = some (b, .inr (6, fs))) (isC : List Nat) (hC : isC.map (fun i => ws[i]?) = wc.map some) (hnd : va_nd isC = true) (hl : ls.size = nL) (hn : As.length = 1) (hst : st0 = As.reverse ++ .ref b :: rest) (hroom : (rest.map fun v => v.category).sum ≤ 8) (hR : rm.frames + 1 ≤ R.frames ∧ 8 + (4 + 11) + rm.locals ≤ R.locals) (hf : cells + mc ≤ R.cells ∧ slots + ms ≤ R.slots) : va_Run p l e R s m args below meth c H locs cells slots mc ms (F0 m pc ls st0) rest (Qc (Value.ref b :: As).toArray) free :=
  run_V (C := RX6) (T := TX6) (N := 23) (ci := 6) X hM hrc hrs wq_687 wq_684 wq_685 wq_686 wq_5 (by decide +kernel) rfl hdg hP hD q0 he isC hC hnd hl hn hst hroom hR hf
theorem cv_X0_24 (X : Cx p s m args c cc nL RX0 D cI cJ) (hM : Met l yX0_set (.code yX0_set cX0_set 9 none :: WL) rm (mPre D cI cJ (.ref b :: As) wc H.size) Qc mc ms free) (hrc : rm.cells = mc) (hrs : rm.slots = ms) (hdg : decode cc pc = .ok (.invokevirtual 24, 3)) (hP : va_P D vwCl ws H) (hD : va_D A ws) (q0 : Nat) (he : ws[q0]? = some (b, .inr (0, fs))) (isC : List Nat) (hC : isC.map (fun i => ws[i]?) = wc.map some) (hnd : va_nd isC = true) (hl : ls.size = nL) (hn : As.length = 4) (hst : st0 = As.reverse ++ .ref b :: rest) (hroom : (rest.map fun v => v.category).sum ≤ 8) (hR : rm.frames + 1 ≤ R.frames ∧ 8 + (9 + 11) + rm.locals ≤ R.locals) (hf : cells + mc ≤ R.cells ∧ slots + ms ≤ R.slots) : va_Run p l e R s m args below meth c H locs cells slots mc ms (F0 m pc ls st0) rest (Qc (Value.ref b :: As).toArray) free :=
  run_V (C := RX0) (T := TX0) (N := 4) (ci := 0) X hM hrc hrs wq_90 wq_328 wq_88 wq_89 wq_18 (by decide +kernel) rfl hdg hP hD q0 he isC hC hnd hl hn hst hroom hR hf
theorem cv_X0_44 (X : Cx p s m args c cc nL RX0 D cI cJ) (hM : Met l yX0_hessianP (.code yX0_hessianP cX0_hessianP 1 (some .long) :: WL) rm (mPre D cI cJ (.ref b :: As) wc H.size) Qc mc ms free) (hrc : rm.cells = mc) (hrs : rm.slots = ms) (hdg : decode cc pc = .ok (.invokevirtual 44, 3)) (hP : va_P D vwCl ws H) (hD : va_D A ws) (q0 : Nat) (he : ws[q0]? = some (b, .inr (0, fs))) (isC : List Nat) (hC : isC.map (fun i => ws[i]?) = wc.map some) (hnd : va_nd isC = true) (hl : ls.size = nL) (hn : As.length = 0) (hst : st0 = As.reverse ++ .ref b :: rest) (hroom : (rest.map fun v => v.category).sum ≤ 8) (hR : rm.frames + 1 ≤ R.frames ∧ 8 + (1 + 11) + rm.locals ≤ R.locals) (hf : cells + mc ≤ R.cells ∧ slots + ms ≤ R.slots) : va_Run p l e R s m args below meth c H locs cells slots mc ms (F0 m pc ls st0) rest (Qc (Value.ref b :: As).toArray) free :=
  run_V (C := RX0) (T := TX0) (N := 4) (ci := 0) X hM hrc hrs wq_191 wq_313 wq_189 wq_190 wq_18 (by decide +kernel) rfl hdg hP hD q0 he isC hC hnd hl hn hst hroom hR hf
theorem cv_X0_48 (X : Cx p s m args c cc nL RX0 D cI cJ) (hM : Met l yX0_hessianQ (.code yX0_hessianQ cX0_hessianQ 1 (some .long) :: WL) rm (mPre D cI cJ (.ref b :: As) wc H.size) Qc mc ms free) (hrc : rm.cells = mc) (hrs : rm.slots = ms) (hdg : decode cc pc = .ok (.invokevirtual 48, 3)) (hP : va_P D vwCl ws H) (hD : va_D A ws) (q0 : Nat) (he : ws[q0]? = some (b, .inr (0, fs))) (isC : List Nat) (hC : isC.map (fun i => ws[i]?) = wc.map some) (hnd : va_nd isC = true) (hl : ls.size = nL) (hn : As.length = 0) (hst : st0 = As.reverse ++ .ref b :: rest) (hroom : (rest.map fun v => v.category).sum ≤ 8) (hR : rm.frames + 1 ≤ R.frames ∧ 8 + (1 + 11) + rm.locals ≤ R.locals) (hf : cells + mc ≤ R.cells ∧ slots + ms ≤ R.slots) : va_Run p l e R s m args below meth c H locs cells slots mc ms (F0 m pc ls st0) rest (Qc (Value.ref b :: As).toArray) free :=
  run_V (C := RX0) (T := TX0) (N := 4) (ci := 0) X hM hrc hrs wq_195 wq_314 wq_193 wq_194 wq_18 (by decide +kernel) rfl hdg hP hD q0 he isC hC hnd hl hn hst hroom hR hf
theorem cv_X0_51 (X : Cx p s m args c cc nL RX0 D cI cJ) (hM : Met l yX0_hessianR (.code yX0_hessianR cX0_hessianR 1 (some .long) :: WL) rm (mPre D cI cJ (.ref b :: As) wc H.size) Qc mc ms free) (hrc : rm.cells = mc) (hrs : rm.slots = ms) (hdg : decode cc pc = .ok (.invokevirtual 51, 3)) (hP : va_P D vwCl ws H) (hD : va_D A ws) (q0 : Nat) (he : ws[q0]? = some (b, .inr (0, fs))) (isC : List Nat) (hC : isC.map (fun i => ws[i]?) = wc.map some) (hnd : va_nd isC = true) (hl : ls.size = nL) (hn : As.length = 0) (hst : st0 = As.reverse ++ .ref b :: rest) (hroom : (rest.map fun v => v.category).sum ≤ 8) (hR : rm.frames + 1 ≤ R.frames ∧ 8 + (1 + 11) + rm.locals ≤ R.locals) (hf : cells + mc ≤ R.cells ∧ slots + ms ≤ R.slots) : va_Run p l e R s m args below meth c H locs cells slots mc ms (F0 m pc ls st0) rest (Qc (Value.ref b :: As).toArray) free :=
  run_V (C := RX0) (T := TX0) (N := 4) (ci := 0) X hM hrc hrs wq_199 wq_323 wq_197 wq_198 wq_18 (by decide +kernel) rfl hdg hP hD q0 he isC hC hnd hl hn hst hroom hR hf
theorem cv_X0_54 (X : Cx p s m args c cc nL RX0 D cI cJ) (hM : Met l yX0_valueAt (.code yX0_valueAt cX0_valueAt 5 (some .long) :: WL) rm (mPre D cI cJ (.ref b :: As) wc H.size) Qc mc ms free) (hrc : rm.cells = mc) (hrs : rm.slots = ms) (hdg : decode cc pc = .ok (.invokevirtual 54, 3)) (hP : va_P D vwCl ws H) (hD : va_D A ws) (q0 : Nat) (he : ws[q0]? = some (b, .inr (0, fs))) (isC : List Nat) (hC : isC.map (fun i => ws[i]?) = wc.map some) (hnd : va_nd isC = true) (hl : ls.size = nL) (hn : As.length = 2) (hst : st0 = As.reverse ++ .ref b :: rest) (hroom : (rest.map fun v => v.category).sum ≤ 8) (hR : rm.frames + 1 ≤ R.frames ∧ 8 + (5 + 11) + rm.locals ≤ R.locals) (hf : cells + mc ≤ R.cells ∧ slots + ms ≤ R.slots) : va_Run p l e R s m args below meth c H locs cells slots mc ms (F0 m pc ls st0) rest (Qc (Value.ref b :: As).toArray) free :=
  run_V (C := RX0) (T := TX0) (N := 4) (ci := 0) X hM hrc hrs wq_226 wq_253 wq_224 wq_225 wq_18 (by decide +kernel) rfl hdg hP hD q0 he isC hC hnd hl hn hst hroom hR hf
theorem cv_X0_65 (X : Cx p s m args c cc nL RX0 D cI cJ) (hM : Met l yX0_shift (.code yX0_shift cX0_shift 3 none :: WL) rm (mPre D cI cJ (.ref b :: As) wc H.size) Qc mc ms free) (hrc : rm.cells = mc) (hrs : rm.slots = ms) (hdg : decode cc pc = .ok (.invokevirtual 65, 3)) (hP : va_P D vwCl ws H) (hD : va_D A ws) (q0 : Nat) (he : ws[q0]? = some (b, .inr (0, fs))) (isC : List Nat) (hC : isC.map (fun i => ws[i]?) = wc.map some) (hnd : va_nd isC = true) (hl : ls.size = nL) (hn : As.length = 1) (hst : st0 = As.reverse ++ .ref b :: rest) (hroom : (rest.map fun v => v.category).sum ≤ 8) (hR : rm.frames + 1 ≤ R.frames ∧ 8 + (3 + 11) + rm.locals ≤ R.locals) (hf : cells + mc ≤ R.cells ∧ slots + ms ≤ R.slots) : va_Run p l e R s m args below meth c H locs cells slots mc ms (F0 m pc ls st0) rest (Qc (Value.ref b :: As).toArray) free :=
  run_V (C := RX0) (T := TX0) (N := 4) (ci := 0) X hM hrc hrs wq_322 wq_319 wq_320 wq_321 wq_18 (by decide +kernel) rfl hdg hP hD q0 he isC hC hnd hl hn hst hroom hR hf
theorem cv_X0_69 (X : Cx p s m args c cc nL RX0 D cI cJ) (hM : Met l yX0_swap (.code yX0_swap cX0_swap 1 none :: WL) rm (mPre D cI cJ (.ref b :: As) wc H.size) Qc mc ms free) (hrc : rm.cells = mc) (hrs : rm.slots = ms) (hdg : decode cc pc = .ok (.invokevirtual 69, 3)) (hP : va_P D vwCl ws H) (hD : va_D A ws) (q0 : Nat) (he : ws[q0]? = some (b, .inr (0, fs))) (isC : List Nat) (hC : isC.map (fun i => ws[i]?) = wc.map some) (hnd : va_nd isC = true) (hl : ls.size = nL) (hn : As.length = 0) (hst : st0 = As.reverse ++ .ref b :: rest) (hroom : (rest.map fun v => v.category).sum ≤ 8) (hR : rm.frames + 1 ≤ R.frames ∧ 8 + (1 + 11) + rm.locals ≤ R.locals) (hf : cells + mc ≤ R.cells ∧ slots + ms ≤ R.slots) : va_Run p l e R s m args below meth c H locs cells slots mc ms (F0 m pc ls st0) rest (Qc (Value.ref b :: As).toArray) free :=
  run_V (C := RX0) (T := TX0) (N := 4) (ci := 0) X hM hrc hrs wq_327 wq_324 wq_325 wq_326 wq_18 (by decide +kernel) rfl hdg hP hD q0 he isC hC hnd hl hn hst hroom hR hf
theorem cv_X0_76 (X : Cx p s m args c cc nL RX0 D cI cJ) (hM : Met l yX0_hasRootOver (.code yX0_hasRootOver cX0_hasRootOver 7 (some .boolean) :: WL) rm (mPre D cI cJ (.ref b :: As) wc H.size) Qc mc ms free) (hrc : rm.cells = mc) (hrs : rm.slots = ms) (hdg : decode cc pc = .ok (.invokevirtual 76, 3)) (hP : va_P D vwCl ws H) (hD : va_D A ws) (q0 : Nat) (he : ws[q0]? = some (b, .inr (0, fs))) (isC : List Nat) (hC : isC.map (fun i => ws[i]?) = wc.map some) (hnd : va_nd isC = true) (hl : ls.size = nL) (hn : As.length = 1) (hst : st0 = As.reverse ++ .ref b :: rest) (hroom : (rest.map fun v => v.category).sum ≤ 8) (hR : rm.frames + 1 ≤ R.frames ∧ 8 + (7 + 11) + rm.locals ≤ R.locals) (hf : cells + mc ≤ R.cells ∧ slots + ms ≤ R.slots) : va_Run p l e R s m args below meth c H locs cells slots mc ms (F0 m pc ls st0) rest (Qc (Value.ref b :: As).toArray) free :=
  run_V (C := RX0) (T := TX0) (N := 4) (ci := 0) X hM hrc hrs wq_290 wq_287 wq_288 wq_289 wq_18 (by decide +kernel) rfl hdg hP hD q0 he isC hC hnd hl hn hst hroom hR hf
theorem cv_X0_80 (X : Cx p s m args c cc nL RX0 D cI cJ) (hM : Met l yX0_vanishesAt (.code yX0_vanishesAt cX0_vanishesAt 5 (some .boolean) :: WL) rm (mPre D cI cJ (.ref b :: As) wc H.size) Qc mc ms free) (hrc : rm.cells = mc) (hrs : rm.slots = ms) (hdg : decode cc pc = .ok (.invokevirtual 80, 3)) (hP : va_P D vwCl ws H) (hD : va_D A ws) (q0 : Nat) (he : ws[q0]? = some (b, .inr (0, fs))) (isC : List Nat) (hC : isC.map (fun i => ws[i]?) = wc.map some) (hnd : va_nd isC = true) (hl : ls.size = nL) (hn : As.length = 2) (hst : st0 = As.reverse ++ .ref b :: rest) (hroom : (rest.map fun v => v.category).sum ≤ 8) (hR : rm.frames + 1 ≤ R.frames ∧ 8 + (5 + 11) + rm.locals ≤ R.locals) (hf : cells + mc ≤ R.cells ∧ slots + ms ≤ R.slots) : va_Run p l e R s m args below meth c H locs cells slots mc ms (F0 m pc ls st0) rest (Qc (Value.ref b :: As).toArray) free :=
  run_V (C := RX0) (T := TX0) (N := 4) (ci := 0) X hM hrc hrs wq_294 wq_291 wq_292 wq_293 wq_18 (by decide +kernel) rfl hdg hP hD q0 he isC hC hnd hl hn hst hroom hR hf
theorem cv_X0_83 (X : Cx p s m args c cc nL RX0 D cI cJ) (hM : Met l yX0_disc (.code yX0_disc cX0_disc 1 (some .long) :: WL) rm (mPre D cI cJ (.ref b :: As) wc H.size) Qc mc ms free) (hrc : rm.cells = mc) (hrs : rm.slots = ms) (hdg : decode cc pc = .ok (.invokevirtual 83, 3)) (hP : va_P D vwCl ws H) (hD : va_D A ws) (q0 : Nat) (he : ws[q0]? = some (b, .inr (0, fs))) (isC : List Nat) (hC : isC.map (fun i => ws[i]?) = wc.map some) (hnd : va_nd isC = true) (hl : ls.size = nL) (hn : As.length = 0) (hst : st0 = As.reverse ++ .ref b :: rest) (hroom : (rest.map fun v => v.category).sum ≤ 8) (hR : rm.frames + 1 ≤ R.frames ∧ 8 + (1 + 11) + rm.locals ≤ R.locals) (hf : cells + mc ≤ R.cells ∧ slots + ms ≤ R.slots) : va_Run p l e R s m args below meth c H locs cells slots mc ms (F0 m pc ls st0) rest (Qc (Value.ref b :: As).toArray) free :=
  run_V (C := RX0) (T := TX0) (N := 4) (ci := 0) X hM hrc hrs wq_165 wq_587 wq_163 wq_164 wq_18 (by decide +kernel) rfl hdg hP hD q0 he isC hC hnd hl hn hst hroom hR hf
theorem cv_X0_86 (X : Cx p s m args c cc nL RX0 D cI cJ) (hM : Met l yX0_isMultipleOf (.code yX0_isMultipleOf cX0_isMultipleOf 2 (some .boolean) :: WL) rm (mPre D cI cJ (.ref b :: As) wc H.size) Qc mc ms free) (hrc : rm.cells = mc) (hrs : rm.slots = ms) (hdg : decode cc pc = .ok (.invokevirtual 86, 3)) (hP : va_P D vwCl ws H) (hD : va_D A ws) (q0 : Nat) (he : ws[q0]? = some (b, .inr (0, fs))) (isC : List Nat) (hC : isC.map (fun i => ws[i]?) = wc.map some) (hnd : va_nd isC = true) (hl : ls.size = nL) (hn : As.length = 1) (hst : st0 = As.reverse ++ .ref b :: rest) (hroom : (rest.map fun v => v.category).sum ≤ 8) (hR : rm.frames + 1 ≤ R.frames ∧ 8 + (2 + 11) + rm.locals ≤ R.locals) (hf : cells + mc ≤ R.cells ∧ slots + ms ≤ R.slots) : va_Run p l e R s m args below meth c H locs cells slots mc ms (F0 m pc ls st0) rest (Qc (Value.ref b :: As).toArray) free :=
  run_V (C := RX0) (T := TX0) (N := 4) (ci := 0) X hM hrc hrs wq_553 wq_588 wq_551 wq_552 wq_18 (by decide +kernel) rfl hdg hP hD q0 he isC hC hnd hl hn hst hroom hR hf
theorem cv_X0_90 (X : Cx p s m args c cc nL RX0 D cI cJ) (hM : Met l yX0_becomeAtPoint (.code yX0_becomeAtPoint cX0_becomeAtPoint 5 none :: WL) rm (mPre D cI cJ (.ref b :: As) wc H.size) Qc mc ms free) (hrc : rm.cells = mc) (hrs : rm.slots = ms) (hdg : decode cc pc = .ok (.invokevirtual 90, 3)) (hP : va_P D vwCl ws H) (hD : va_D A ws) (q0 : Nat) (he : ws[q0]? = some (b, .inr (0, fs))) (isC : List Nat) (hC : isC.map (fun i => ws[i]?) = wc.map some) (hnd : va_nd isC = true) (hl : ls.size = nL) (hn : As.length = 3) (hst : st0 = As.reverse ++ .ref b :: rest) (hroom : (rest.map fun v => v.category).sum ≤ 8) (hR : rm.frames + 1 ≤ R.frames ∧ 8 + (5 + 11) + rm.locals ≤ R.locals) (hf : cells + mc ≤ R.cells ∧ slots + ms ≤ R.slots) : va_Run p l e R s m args below meth c H locs cells slots mc ms (F0 m pc ls st0) rest (Qc (Value.ref b :: As).toArray) free :=
  run_V (C := RX0) (T := TX0) (N := 4) (ci := 0) X hM hrc hrs wq_556 wq_589 wq_554 wq_555 wq_18 (by decide +kernel) rfl hdg hP hD q0 he isC hC hnd hl hn hst hroom hR hf
theorem cv_X1_41 (X : Cx p s m args c cc nL RX1 D cI cJ) (hM : Met l yX0_set (.code yX0_set cX0_set 9 none :: WL) rm (mPre D cI cJ (.ref b :: As) wc H.size) Qc mc ms free) (hrc : rm.cells = mc) (hrs : rm.slots = ms) (hdg : decode cc pc = .ok (.invokevirtual 41, 3)) (hP : va_P D vwCl ws H) (hD : va_D A ws) (q0 : Nat) (he : ws[q0]? = some (b, .inr (0, fs))) (isC : List Nat) (hC : isC.map (fun i => ws[i]?) = wc.map some) (hnd : va_nd isC = true) (hl : ls.size = nL) (hn : As.length = 4) (hst : st0 = As.reverse ++ .ref b :: rest) (hroom : (rest.map fun v => v.category).sum ≤ 8) (hR : rm.frames + 1 ≤ R.frames ∧ 8 + (9 + 11) + rm.locals ≤ R.locals) (hf : cells + mc ≤ R.cells ∧ slots + ms ≤ R.slots) : va_Run p l e R s m args below meth c H locs cells slots mc ms (F0 m pc ls st0) rest (Qc (Value.ref b :: As).toArray) free :=
  run_VN (host := "CubicForms") (C := RX0) (T := TX0) (N := 4) (ci := 0) X hM hrc hrs wq_90 nq_66 wq_88 wq_89 wq_18 (by decide +kernel) rfl hdg hP hD q0 he isC hC hnd hl hn hst hroom hR hf
theorem cv_X1_45 (X : Cx p s m args c cc nL RX1 D cI cJ) (hM : Met l yX1_isTabulated (.code yX1_isTabulated cX1_isTabulated 4 (some .boolean) :: WL) rm (mPre D cI cJ (.ref b :: As) wc H.size) Qc mc ms free) (hrc : rm.cells = mc) (hrs : rm.slots = ms) (hdg : decode cc pc = .ok (.invokevirtual 45, 3)) (hP : va_P D vwCl ws H) (hD : va_D A ws) (q0 : Nat) (he : ws[q0]? = some (b, .inr (1, fs))) (isC : List Nat) (hC : isC.map (fun i => ws[i]?) = wc.map some) (hnd : va_nd isC = true) (hl : ls.size = nL) (hn : As.length = 1) (hst : st0 = As.reverse ++ .ref b :: rest) (hroom : (rest.map fun v => v.category).sum ≤ 8) (hR : rm.frames + 1 ≤ R.frames ∧ 8 + (4 + 11) + rm.locals ≤ R.locals) (hf : cells + mc ≤ R.cells ∧ slots + ms ≤ R.slots) : va_Run p l e R s m args below meth c H locs cells slots mc ms (F0 m pc ls st0) rest (Qc (Value.ref b :: As).toArray) free :=
  run_V (C := RX1) (T := TX1) (N := 7) (ci := 1) X hM hrc hrs wq_636 wq_633 wq_634 wq_635 wq_36 (by decide +kernel) rfl hdg hP hD q0 he isC hC hnd hl hn hst hroom hR hf
theorem cv_X1_49 (X : Cx p s m args c cc nL RX1 D cI cJ) (hM : Met l yX1_addTabulated (.code yX1_addTabulated cX1_addTabulated 3 none :: WL) rm (mPre D cI cJ (.ref b :: As) wc H.size) Qc mc ms free) (hrc : rm.cells = mc) (hrs : rm.slots = ms) (hdg : decode cc pc = .ok (.invokevirtual 49, 3)) (hP : va_P D vwCl ws H) (hD : va_D A ws) (q0 : Nat) (he : ws[q0]? = some (b, .inr (1, fs))) (isC : List Nat) (hC : isC.map (fun i => ws[i]?) = wc.map some) (hnd : va_nd isC = true) (hl : ls.size = nL) (hn : As.length = 1) (hst : st0 = As.reverse ++ .ref b :: rest) (hroom : (rest.map fun v => v.category).sum ≤ 8) (hR : rm.frames + 1 ≤ R.frames ∧ 8 + (3 + 11) + rm.locals ≤ R.locals) (hf : cells + mc ≤ R.cells ∧ slots + ms ≤ R.slots) : va_Run p l e R s m args below meth c H locs cells slots mc ms (F0 m pc ls st0) rest (Qc (Value.ref b :: As).toArray) free :=
  run_V (C := RX1) (T := TX1) (N := 7) (ci := 1) X hM hrc hrs wq_641 wq_638 wq_639 wq_640 wq_36 (by decide +kernel) rfl hdg hP hD q0 he isC hC hnd hl hn hst hroom hR hf
theorem cv_X1_53 (X : Cx p s m args c cc nL RX1 D cI cJ) (hM : Met l yX0_hasReducedHessian (.code yX0_hasReducedHessian cX0_hasReducedHessian 3 (some .boolean) :: WL) rm (mPre D cI cJ (.ref b :: As) wc H.size) Qc mc ms free) (hrc : rm.cells = mc) (hrs : rm.slots = ms) (hdg : decode cc pc = .ok (.invokevirtual 53, 3)) (hP : va_P D vwCl ws H) (hD : va_D A ws) (q0 : Nat) (he : ws[q0]? = some (b, .inr (0, fs))) (isC : List Nat) (hC : isC.map (fun i => ws[i]?) = wc.map some) (hnd : va_nd isC = true) (hl : ls.size = nL) (hn : As.length = 0) (hst : st0 = As.reverse ++ .ref b :: rest) (hroom : (rest.map fun v => v.category).sum ≤ 8) (hR : rm.frames + 1 ≤ R.frames ∧ 8 + (3 + 11) + rm.locals ≤ R.locals) (hf : cells + mc ≤ R.cells ∧ slots + ms ≤ R.slots) : va_Run p l e R s m args below meth c H locs cells slots mc ms (F0 m pc ls st0) rest (Qc (Value.ref b :: As).toArray) free :=
  run_VN (host := "CubicForms") (C := RX0) (T := TX0) (N := 4) (ci := 0) X hM hrc hrs wq_339 nq_67 wq_337 wq_338 wq_18 (by decide +kernel) rfl hdg hP hD q0 he isC hC hnd hl hn hst hroom hR hf
theorem cv_X1_57 (X : Cx p s m args c cc nL RX1 D cI cJ) (hM : Met l yX0_disc (.code yX0_disc cX0_disc 1 (some .long) :: WL) rm (mPre D cI cJ (.ref b :: As) wc H.size) Qc mc ms free) (hrc : rm.cells = mc) (hrs : rm.slots = ms) (hdg : decode cc pc = .ok (.invokevirtual 57, 3)) (hP : va_P D vwCl ws H) (hD : va_D A ws) (q0 : Nat) (he : ws[q0]? = some (b, .inr (0, fs))) (isC : List Nat) (hC : isC.map (fun i => ws[i]?) = wc.map some) (hnd : va_nd isC = true) (hl : ls.size = nL) (hn : As.length = 0) (hst : st0 = As.reverse ++ .ref b :: rest) (hroom : (rest.map fun v => v.category).sum ≤ 8) (hR : rm.frames + 1 ≤ R.frames ∧ 8 + (1 + 11) + rm.locals ≤ R.locals) (hf : cells + mc ≤ R.cells ∧ slots + ms ≤ R.slots) : va_Run p l e R s m args below meth c H locs cells slots mc ms (F0 m pc ls st0) rest (Qc (Value.ref b :: As).toArray) free :=
  run_VN (host := "CubicForms") (C := RX0) (T := TX0) (N := 4) (ci := 0) X hM hrc hrs wq_165 nq_68 wq_163 wq_164 wq_18 (by decide +kernel) rfl hdg hP hD q0 he isC hC hnd hl hn hst hroom hR hf
theorem cv_X1_63 (X : Cx p s m args c cc nL RX1 D cI cJ) (hM : Met l yX0_hasRationalRoot (.code yX0_hasRationalRoot cX0_hasRationalRoot 5 (some .boolean) :: WL) rm (mPre D cI cJ (.ref b :: As) wc H.size) Qc mc ms free) (hrc : rm.cells = mc) (hrs : rm.slots = ms) (hdg : decode cc pc = .ok (.invokevirtual 63, 3)) (hP : va_P D vwCl ws H) (hD : va_D A ws) (q0 : Nat) (he : ws[q0]? = some (b, .inr (0, fs))) (isC : List Nat) (hC : isC.map (fun i => ws[i]?) = wc.map some) (hnd : va_nd isC = true) (hl : ls.size = nL) (hn : As.length = 0) (hst : st0 = As.reverse ++ .ref b :: rest) (hroom : (rest.map fun v => v.category).sum ≤ 8) (hR : rm.frames + 1 ≤ R.frames ∧ 8 + (5 + 11) + rm.locals ≤ R.locals) (hf : cells + mc ≤ R.cells ∧ slots + ms ≤ R.slots) : va_Run p l e R s m args below meth c H locs cells slots mc ms (F0 m pc ls st0) rest (Qc (Value.ref b :: As).toArray) free :=
  run_VN (host := "CubicForms") (C := RX0) (T := TX0) (N := 4) (ci := 0) X hM hrc hrs wq_283 nq_69 wq_281 wq_282 wq_18 (by decide +kernel) rfl hdg hP hD q0 he isC hC hnd hl hn hst hroom hR hf
theorem cv_X1_66 (X : Cx p s m args c cc nL RX1 D cI cJ) (hM : Met l yX0_copyFrom (.code yX0_copyFrom cX0_copyFrom 2 none :: WL) rm (mPre D cI cJ (.ref b :: As) wc H.size) Qc mc ms free) (hrc : rm.cells = mc) (hrs : rm.slots = ms) (hdg : decode cc pc = .ok (.invokevirtual 66, 3)) (hP : va_P D vwCl ws H) (hD : va_D A ws) (q0 : Nat) (he : ws[q0]? = some (b, .inr (0, fs))) (isC : List Nat) (hC : isC.map (fun i => ws[i]?) = wc.map some) (hnd : va_nd isC = true) (hl : ls.size = nL) (hn : As.length = 1) (hst : st0 = As.reverse ++ .ref b :: rest) (hroom : (rest.map fun v => v.category).sum ≤ 8) (hR : rm.frames + 1 ≤ R.frames ∧ 8 + (2 + 11) + rm.locals ≤ R.locals) (hf : cells + mc ≤ R.cells ∧ slots + ms ≤ R.slots) : va_Run p l e R s m args below meth c H locs cells slots mc ms (F0 m pc ls st0) rest (Qc (Value.ref b :: As).toArray) free :=
  run_VN (host := "CubicForms") (C := RX0) (T := TX0) (N := 4) (ci := 0) X hM hrc hrs wq_331 nq_70 wq_329 wq_330 wq_18 (by decide +kernel) rfl hdg hP hD q0 he isC hC hnd hl hn hst hroom hR hf
theorem cv_X1_70 (X : Cx p s m args c cc nL RX1 D cI cJ) (hM : Met l yX4_makeCanonical (.code yX4_makeCanonical cX4_makeCanonical 3 none :: WL) rm (mPre D cI cJ (.ref b :: As) wc H.size) Qc mc ms free) (hrc : rm.cells = mc) (hrs : rm.slots = ms) (hdg : decode cc pc = .ok (.invokevirtual 70, 3)) (hP : va_P D vwCl ws H) (hD : va_D A ws) (q0 : Nat) (he : ws[q0]? = some (b, .inr (4, fs))) (isC : List Nat) (hC : isC.map (fun i => ws[i]?) = wc.map some) (hnd : va_nd isC = true) (hl : ls.size = nL) (hn : As.length = 1) (hst : st0 = As.reverse ++ .ref b :: rest) (hroom : (rest.map fun v => v.category).sum ≤ 8) (hR : rm.frames + 1 ≤ R.frames ∧ 8 + (3 + 11) + rm.locals ≤ R.locals) (hf : cells + mc ≤ R.cells ∧ slots + ms ≤ R.slots) : va_Run p l e R s m args below meth c H locs cells slots mc ms (F0 m pc ls st0) rest (Qc (Value.ref b :: As).toArray) free :=
  run_VN (host := "CubicForms") (C := RX4) (T := TX4) (N := 2) (ci := 4) X hM hrc hrs wq_309 nq_71 wq_307 wq_308 wq_28 (by decide +kernel) rfl hdg hP hD q0 he isC hC hnd hl hn hst hroom hR hf
theorem cv_X1_75 (X : Cx p s m args c cc nL RX1 D cI cJ) (hM : Met l yX0_isSameAs (.code yX0_isSameAs cX0_isSameAs 2 (some .boolean) :: WL) rm (mPre D cI cJ (.ref b :: As) wc H.size) Qc mc ms free) (hrc : rm.cells = mc) (hrs : rm.slots = ms) (hdg : decode cc pc = .ok (.invokevirtual 75, 3)) (hP : va_P D vwCl ws H) (hD : va_D A ws) (q0 : Nat) (he : ws[q0]? = some (b, .inr (0, fs))) (isC : List Nat) (hC : isC.map (fun i => ws[i]?) = wc.map some) (hnd : va_nd isC = true) (hl : ls.size = nL) (hn : As.length = 1) (hst : st0 = As.reverse ++ .ref b :: rest) (hroom : (rest.map fun v => v.category).sum ≤ 8) (hR : rm.frames + 1 ≤ R.frames ∧ 8 + (2 + 11) + rm.locals ≤ R.locals) (hf : cells + mc ≤ R.cells ∧ slots + ms ≤ R.slots) : va_Run p l e R s m args below meth c H locs cells slots mc ms (F0 m pc ls st0) rest (Qc (Value.ref b :: As).toArray) free :=
  run_VN (host := "CubicForms") (C := RX0) (T := TX0) (N := 4) (ci := 0) X hM hrc hrs wq_384 nq_72 wq_382 wq_383 wq_18 (by decide +kernel) rfl hdg hP hD q0 he isC hC hnd hl hn hst hroom hR hf
theorem cv_X1_83 (X : Cx p s m args c cc nL RX1 D cI cJ) (hM : Met l yX4_growAtLeastPrime (.code yX4_growAtLeastPrime cX4_growAtLeastPrime 5 (some .boolean) :: WL) rm (mPre D cI cJ (.ref b :: As) wc H.size) Qc mc ms free) (hrc : rm.cells = mc) (hrs : rm.slots = ms) (hdg : decode cc pc = .ok (.invokevirtual 83, 3)) (hP : va_P D vwCl ws H) (hD : va_D A ws) (q0 : Nat) (he : ws[q0]? = some (b, .inr (4, fs))) (isC : List Nat) (hC : isC.map (fun i => ws[i]?) = wc.map some) (hnd : va_nd isC = true) (hl : ls.size = nL) (hn : As.length = 1) (hst : st0 = As.reverse ++ .ref b :: rest) (hroom : (rest.map fun v => v.category).sum ≤ 8) (hR : rm.frames + 1 ≤ R.frames ∧ 8 + (5 + 11) + rm.locals ≤ R.locals) (hf : cells + mc ≤ R.cells ∧ slots + ms ≤ R.slots) : va_Run p l e R s m args below meth c H locs cells slots mc ms (F0 m pc ls st0) rest (Qc (Value.ref b :: As).toArray) free :=
  run_VN (host := "CubicForms") (C := RX4) (T := TX4) (N := 2) (ci := 4) X hM hrc hrs wq_617 nq_73 wq_615 wq_616 wq_28 (by decide +kernel) rfl hdg hP hD q0 he isC hC hnd hl hn hst hroom hR hf
theorem cv_X2_44 (X : Cx p s m args c cc nL RX2 D cI cJ) (hM : Met l yX3_becomeProduct (.code yX3_becomeProduct cX3_becomeProduct 10 none :: WL) rm (mPre D cI cJ (.ref b :: As) wc H.size) Qc mc ms free) (hrc : rm.cells = mc) (hrs : rm.slots = ms) (hdg : decode cc pc = .ok (.invokevirtual 44, 3)) (hP : va_P D vwCl ws H) (hD : va_D A ws) (q0 : Nat) (he : ws[q0]? = some (b, .inr (3, fs))) (isC : List Nat) (hC : isC.map (fun i => ws[i]?) = wc.map some) (hnd : va_nd isC = true) (hl : ls.size = nL) (hn : As.length = 3) (hst : st0 = As.reverse ++ .ref b :: rest) (hroom : (rest.map fun v => v.category).sum ≤ 8) (hR : rm.frames + 1 ≤ R.frames ∧ 8 + (10 + 11) + rm.locals ≤ R.locals) (hf : cells + mc ≤ R.cells ∧ slots + ms ≤ R.slots) : va_Run p l e R s m args below meth c H locs cells slots mc ms (F0 m pc ls st0) rest (Qc (Value.ref b :: As).toArray) free :=
  run_VN (host := "CubicForms") (C := RX3) (T := TX3) (N := 3) (ci := 3) X hM hrc hrs wq_457 nq_50 wq_455 wq_456 wq_23 (by decide +kernel) rfl hdg hP hD q0 he isC hC hnd hl hn hst hroom hR hf
theorem cv_X2_48 (X : Cx p s m args c cc nL RX2 D cI cJ) (hM : Met l yX2_determinantOfRows (.code yX2_determinantOfRows cX2_determinantOfRows 1 (some .long) :: WL) rm (mPre D cI cJ (.ref b :: As) wc H.size) Qc mc ms free) (hrc : rm.cells = mc) (hrs : rm.slots = ms) (hdg : decode cc pc = .ok (.invokevirtual 48, 3)) (hP : va_P D vwCl ws H) (hD : va_D A ws) (q0 : Nat) (he : ws[q0]? = some (b, .inr (2, fs))) (isC : List Nat) (hC : isC.map (fun i => ws[i]?) = wc.map some) (hnd : va_nd isC = true) (hl : ls.size = nL) (hn : As.length = 0) (hst : st0 = As.reverse ++ .ref b :: rest) (hroom : (rest.map fun v => v.category).sum ≤ 8) (hR : rm.frames + 1 ≤ R.frames ∧ 8 + (1 + 11) + rm.locals ≤ R.locals) (hf : cells + mc ≤ R.cells ∧ slots + ms ≤ R.slots) : va_Run p l e R s m args below meth c H locs cells slots mc ms (F0 m pc ls st0) rest (Qc (Value.ref b :: As).toArray) free :=
  run_V (C := RX2) (T := TX2) (N := 7) (ci := 2) X hM hrc hrs wq_504 wq_501 wq_502 wq_503 wq_32 (by decide +kernel) rfl hdg hP hD q0 he isC hC hnd hl hn hst hroom hR hf
theorem cv_X2_52 (X : Cx p s m args c cc nL RX2 D cI cJ) (hM : Met l yX2_setTraces (.code yX2_setTraces cX2_setTraces 4 none :: WL) rm (mPre D cI cJ (.ref b :: As) wc H.size) Qc mc ms free) (hrc : rm.cells = mc) (hrs : rm.slots = ms) (hdg : decode cc pc = .ok (.invokevirtual 52, 3)) (hP : va_P D vwCl ws H) (hD : va_D A ws) (q0 : Nat) (he : ws[q0]? = some (b, .inr (2, fs))) (isC : List Nat) (hC : isC.map (fun i => ws[i]?) = wc.map some) (hnd : va_nd isC = true) (hl : ls.size = nL) (hn : As.length = 3) (hst : st0 = As.reverse ++ .ref b :: rest) (hroom : (rest.map fun v => v.category).sum ≤ 8) (hR : rm.frames + 1 ≤ R.frames ∧ 8 + (4 + 11) + rm.locals ≤ R.locals) (hf : cells + mc ≤ R.cells ∧ slots + ms ≤ R.slots) : va_Run p l e R s m args below meth c H locs cells slots mc ms (F0 m pc ls st0) rest (Qc (Value.ref b :: As).toArray) free :=
  run_V (C := RX2) (T := TX2) (N := 7) (ci := 2) X hM hrc hrs wq_523 wq_520 wq_521 wq_522 wq_32 (by decide +kernel) rfl hdg hP hD q0 he isC hC hnd hl hn hst hroom hR hf
theorem cv_X2_55 (X : Cx p s m args c cc nL RX2 D cI cJ) (hM : Met l yX2_productOf (.code yX2_productOf cX2_productOf 4 (some (.object "CubicForms$RingElement")) :: WL) rm (mPre D cI cJ (.ref b :: As) wc H.size) Qc mc ms free) (hrc : rm.cells = mc) (hrs : rm.slots = ms) (hdg : decode cc pc = .ok (.invokevirtual 55, 3)) (hP : va_P D vwCl ws H) (hD : va_D A ws) (q0 : Nat) (he : ws[q0]? = some (b, .inr (2, fs))) (isC : List Nat) (hC : isC.map (fun i => ws[i]?) = wc.map some) (hnd : va_nd isC = true) (hl : ls.size = nL) (hn : As.length = 3) (hst : st0 = As.reverse ++ .ref b :: rest) (hroom : (rest.map fun v => v.category).sum ≤ 8) (hR : rm.frames + 1 ≤ R.frames ∧ 8 + (4 + 11) + rm.locals ≤ R.locals) (hf : cells + mc ≤ R.cells ∧ slots + ms ≤ R.slots) : va_Run p l e R s m args below meth c H locs cells slots mc ms (F0 m pc ls st0) rest (Qc (Value.ref b :: As).toArray) free :=
  run_V (C := RX2) (T := TX2) (N := 7) (ci := 2) X hM hrc hrs wq_454 wq_524 wq_452 wq_453 wq_32 (by decide +kernel) rfl hdg hP hD q0 he isC hC hnd hl hn hst hroom hR hf
theorem cv_X2_59 (X : Cx p s m args c cc nL RX2 D cI cJ) (hM : Met l yX3_traceIn (.code yX3_traceIn cX3_traceIn 2 (some .long) :: WL) rm (mPre D cI cJ (.ref b :: As) wc H.size) Qc mc ms free) (hrc : rm.cells = mc) (hrs : rm.slots = ms) (hdg : decode cc pc = .ok (.invokevirtual 59, 3)) (hP : va_P D vwCl ws H) (hD : va_D A ws) (q0 : Nat) (he : ws[q0]? = some (b, .inr (3, fs))) (isC : List Nat) (hC : isC.map (fun i => ws[i]?) = wc.map some) (hnd : va_nd isC = true) (hl : ls.size = nL) (hn : As.length = 1) (hst : st0 = As.reverse ++ .ref b :: rest) (hroom : (rest.map fun v => v.category).sum ≤ 8) (hR : rm.frames + 1 ≤ R.frames ∧ 8 + (2 + 11) + rm.locals ≤ R.locals) (hf : cells + mc ≤ R.cells ∧ slots + ms ≤ R.slots) : va_Run p l e R s m args below meth c H locs cells slots mc ms (F0 m pc ls st0) rest (Qc (Value.ref b :: As).toArray) free :=
  run_VN (host := "CubicForms") (C := RX3) (T := TX3) (N := 3) (ci := 3) X hM hrc hrs wq_476 nq_54 wq_474 wq_475 wq_23 (by decide +kernel) rfl hdg hP hD q0 he isC hC hnd hl hn hst hroom hR hf
theorem cv_X2_63 (X : Cx p s m args c cc nL RX2 D cI cJ) (hM : Met l yX3_set (.code yX3_set cX3_set 7 none :: WL) rm (mPre D cI cJ (.ref b :: As) wc H.size) Qc mc ms free) (hrc : rm.cells = mc) (hrs : rm.slots = ms) (hdg : decode cc pc = .ok (.invokevirtual 63, 3)) (hP : va_P D vwCl ws H) (hD : va_D A ws) (q0 : Nat) (he : ws[q0]? = some (b, .inr (3, fs))) (isC : List Nat) (hC : isC.map (fun i => ws[i]?) = wc.map some) (hnd : va_nd isC = true) (hl : ls.size = nL) (hn : As.length = 3) (hst : st0 = As.reverse ++ .ref b :: rest) (hroom : (rest.map fun v => v.category).sum ≤ 8) (hR : rm.frames + 1 ≤ R.frames ∧ 8 + (7 + 11) + rm.locals ≤ R.locals) (hf : cells + mc ≤ R.cells ∧ slots + ms ≤ R.slots) : va_Run p l e R s m args below meth c H locs cells slots mc ms (F0 m pc ls st0) rest (Qc (Value.ref b :: As).toArray) free :=
  run_VN (host := "CubicForms") (C := RX3) (T := TX3) (N := 3) (ci := 3) X hM hrc hrs wq_417 nq_55 wq_415 wq_416 wq_23 (by decide +kernel) rfl hdg hP hD q0 he isC hC hnd hl hn hst hroom hR hf
theorem cv_X3_43 (X : Cx p s m args c cc nL RX3 D cI cJ) (hM : Met l yX3_set (.code yX3_set cX3_set 7 none :: WL) rm (mPre D cI cJ (.ref b :: As) wc H.size) Qc mc ms free) (hrc : rm.cells = mc) (hrs : rm.slots = ms) (hdg : decode cc pc = .ok (.invokevirtual 43, 3)) (hP : va_P D vwCl ws H) (hD : va_D A ws) (q0 : Nat) (he : ws[q0]? = some (b, .inr (3, fs))) (isC : List Nat) (hC : isC.map (fun i => ws[i]?) = wc.map some) (hnd : va_nd isC = true) (hl : ls.size = nL) (hn : As.length = 3) (hst : st0 = As.reverse ++ .ref b :: rest) (hroom : (rest.map fun v => v.category).sum ≤ 8) (hR : rm.frames + 1 ≤ R.frames ∧ 8 + (7 + 11) + rm.locals ≤ R.locals) (hf : cells + mc ≤ R.cells ∧ slots + ms ≤ R.slots) : va_Run p l e R s m args below meth c H locs cells slots mc ms (F0 m pc ls st0) rest (Qc (Value.ref b :: As).toArray) free :=
  run_V (C := RX3) (T := TX3) (N := 3) (ci := 3) X hM hrc hrs wq_417 wq_458 wq_415 wq_416 wq_23 (by decide +kernel) rfl hdg hP hD q0 he isC hC hnd hl hn hst hroom hR hf
theorem cv_X4_21 (X : Cx p s m args c cc nL RX4 D cI cJ) (hM : Met l yX0_reduceHessian (.code yX0_reduceHessian cX0_reduceHessian 6 none :: WL) rm (mPre D cI cJ (.ref b :: As) wc H.size) Qc mc ms free) (hrc : rm.cells = mc) (hrs : rm.slots = ms) (hdg : decode cc pc = .ok (.invokevirtual 21, 3)) (hP : va_P D vwCl ws H) (hD : va_D A ws) (q0 : Nat) (he : ws[q0]? = some (b, .inr (0, fs))) (isC : List Nat) (hC : isC.map (fun i => ws[i]?) = wc.map some) (hnd : va_nd isC = true) (hl : ls.size = nL) (hn : As.length = 0) (hst : st0 = As.reverse ++ .ref b :: rest) (hroom : (rest.map fun v => v.category).sum ≤ 8) (hR : rm.frames + 1 ≤ R.frames ∧ 8 + (6 + 11) + rm.locals ≤ R.locals) (hf : cells + mc ≤ R.cells ∧ slots + ms ≤ R.slots) : va_Run p l e R s m args below meth c H locs cells slots mc ms (F0 m pc ls st0) rest (Qc (Value.ref b :: As).toArray) free :=
  run_VN (host := "CubicForms") (C := RX0) (T := TX0) (N := 4) (ci := 0) X hM hrc hrs wq_312 nq_37 wq_310 wq_311 wq_18 (by decide +kernel) rfl hdg hP hD q0 he isC hC hnd hl hn hst hroom hR hf
theorem cv_X4_24 (X : Cx p s m args c cc nL RX4 D cI cJ) (hM : Met l yX0_copyFrom (.code yX0_copyFrom cX0_copyFrom 2 none :: WL) rm (mPre D cI cJ (.ref b :: As) wc H.size) Qc mc ms free) (hrc : rm.cells = mc) (hrs : rm.slots = ms) (hdg : decode cc pc = .ok (.invokevirtual 24, 3)) (hP : va_P D vwCl ws H) (hD : va_D A ws) (q0 : Nat) (he : ws[q0]? = some (b, .inr (0, fs))) (isC : List Nat) (hC : isC.map (fun i => ws[i]?) = wc.map some) (hnd : va_nd isC = true) (hl : ls.size = nL) (hn : As.length = 1) (hst : st0 = As.reverse ++ .ref b :: rest) (hroom : (rest.map fun v => v.category).sum ≤ 8) (hR : rm.frames + 1 ≤ R.frames ∧ 8 + (2 + 11) + rm.locals ≤ R.locals) (hf : cells + mc ≤ R.cells ∧ slots + ms ≤ R.slots) : va_Run p l e R s m args below meth c H locs cells slots mc ms (F0 m pc ls st0) rest (Qc (Value.ref b :: As).toArray) free :=
  run_VN (host := "CubicForms") (C := RX0) (T := TX0) (N := 4) (ci := 0) X hM hrc hrs wq_331 nq_38 wq_329 wq_330 wq_18 (by decide +kernel) rfl hdg hP hD q0 he isC hC hnd hl hn hst hroom hR hf
theorem cv_X4_28 (X : Cx p s m args c cc nL RX4 D cI cJ) (hM : Met l yX4_makeCandidate (.code yX4_makeCandidate cX4_makeCandidate 6 (some .boolean) :: WL) rm (mPre D cI cJ (.ref b :: As) wc H.size) Qc mc ms free) (hrc : rm.cells = mc) (hrs : rm.slots = ms) (hdg : decode cc pc = .ok (.invokevirtual 28, 3)) (hP : va_P D vwCl ws H) (hD : va_D A ws) (q0 : Nat) (he : ws[q0]? = some (b, .inr (4, fs))) (isC : List Nat) (hC : isC.map (fun i => ws[i]?) = wc.map some) (hnd : va_nd isC = true) (hl : ls.size = nL) (hn : As.length = 1) (hst : st0 = As.reverse ++ .ref b :: rest) (hroom : (rest.map fun v => v.category).sum ≤ 8) (hR : rm.frames + 1 ≤ R.frames ∧ 8 + (6 + 11) + rm.locals ≤ R.locals) (hf : cells + mc ≤ R.cells ∧ slots + ms ≤ R.slots) : va_Run p l e R s m args below meth c H locs cells slots mc ms (F0 m pc ls st0) rest (Qc (Value.ref b :: As).toArray) free :=
  run_V (C := RX4) (T := TX4) (N := 2) (ci := 4) X hM hrc hrs wq_335 wq_332 wq_333 wq_334 wq_28 (by decide +kernel) rfl hdg hP hD q0 he isC hC hnd hl hn hst hroom hR hf
theorem cv_X4_32 (X : Cx p s m args c cc nL RX4 D cI cJ) (hM : Met l yX0_hasReducedHessian (.code yX0_hasReducedHessian cX0_hasReducedHessian 3 (some .boolean) :: WL) rm (mPre D cI cJ (.ref b :: As) wc H.size) Qc mc ms free) (hrc : rm.cells = mc) (hrs : rm.slots = ms) (hdg : decode cc pc = .ok (.invokevirtual 32, 3)) (hP : va_P D vwCl ws H) (hD : va_D A ws) (q0 : Nat) (he : ws[q0]? = some (b, .inr (0, fs))) (isC : List Nat) (hC : isC.map (fun i => ws[i]?) = wc.map some) (hnd : va_nd isC = true) (hl : ls.size = nL) (hn : As.length = 0) (hst : st0 = As.reverse ++ .ref b :: rest) (hroom : (rest.map fun v => v.category).sum ≤ 8) (hR : rm.frames + 1 ≤ R.frames ∧ 8 + (3 + 11) + rm.locals ≤ R.locals) (hf : cells + mc ≤ R.cells ∧ slots + ms ≤ R.slots) : va_Run p l e R s m args below meth c H locs cells slots mc ms (F0 m pc ls st0) rest (Qc (Value.ref b :: As).toArray) free :=
  run_VN (host := "CubicForms") (C := RX0) (T := TX0) (N := 4) (ci := 0) X hM hrc hrs wq_339 nq_40 wq_337 wq_338 wq_18 (by decide +kernel) rfl hdg hP hD q0 he isC hC hnd hl hn hst hroom hR hf
theorem cv_X4_36 (X : Cx p s m args c cc nL RX4 D cI cJ) (hM : Met l yX0_isBefore (.code yX0_isBefore cX0_isBefore 2 (some .boolean) :: WL) rm (mPre D cI cJ (.ref b :: As) wc H.size) Qc mc ms free) (hrc : rm.cells = mc) (hrs : rm.slots = ms) (hdg : decode cc pc = .ok (.invokevirtual 36, 3)) (hP : va_P D vwCl ws H) (hD : va_D A ws) (q0 : Nat) (he : ws[q0]? = some (b, .inr (0, fs))) (isC : List Nat) (hC : isC.map (fun i => ws[i]?) = wc.map some) (hnd : va_nd isC = true) (hl : ls.size = nL) (hn : As.length = 1) (hst : st0 = As.reverse ++ .ref b :: rest) (hroom : (rest.map fun v => v.category).sum ≤ 8) (hR : rm.frames + 1 ≤ R.frames ∧ 8 + (2 + 11) + rm.locals ≤ R.locals) (hf : cells + mc ≤ R.cells ∧ slots + ms ≤ R.slots) : va_Run p l e R s m args below meth c H locs cells slots mc ms (F0 m pc ls st0) rest (Qc (Value.ref b :: As).toArray) free :=
  run_VN (host := "CubicForms") (C := RX0) (T := TX0) (N := 4) (ci := 0) X hM hrc hrs wq_342 nq_41 wq_340 wq_341 wq_18 (by decide +kernel) rfl hdg hP hD q0 he isC hC hnd hl hn hst hroom hR hf
theorem cv_X4_40 (X : Cx p s m args c cc nL RX4 D cI cJ) (hM : Met l yX0_isSameAs (.code yX0_isSameAs cX0_isSameAs 2 (some .boolean) :: WL) rm (mPre D cI cJ (.ref b :: As) wc H.size) Qc mc ms free) (hrc : rm.cells = mc) (hrs : rm.slots = ms) (hdg : decode cc pc = .ok (.invokevirtual 40, 3)) (hP : va_P D vwCl ws H) (hD : va_D A ws) (q0 : Nat) (he : ws[q0]? = some (b, .inr (0, fs))) (isC : List Nat) (hC : isC.map (fun i => ws[i]?) = wc.map some) (hnd : va_nd isC = true) (hl : ls.size = nL) (hn : As.length = 1) (hst : st0 = As.reverse ++ .ref b :: rest) (hroom : (rest.map fun v => v.category).sum ≤ 8) (hR : rm.frames + 1 ≤ R.frames ∧ 8 + (2 + 11) + rm.locals ≤ R.locals) (hf : cells + mc ≤ R.cells ∧ slots + ms ≤ R.slots) : va_Run p l e R s m args below meth c H locs cells slots mc ms (F0 m pc ls st0) rest (Qc (Value.ref b :: As).toArray) free :=
  run_VN (host := "CubicForms") (C := RX0) (T := TX0) (N := 4) (ci := 0) X hM hrc hrs wq_384 nq_44 wq_382 wq_383 wq_18 (by decide +kernel) rfl hdg hP hD q0 he isC hC hnd hl hn hst hroom hR hf
theorem cv_X4_49 (X : Cx p s m args c cc nL RX4 D cI cJ) (hM : Met l yX0_becomeSubstituted (.code yX0_becomeSubstituted cX0_becomeSubstituted 10 none :: WL) rm (mPre D cI cJ (.ref b :: As) wc H.size) Qc mc ms free) (hrc : rm.cells = mc) (hrs : rm.slots = ms) (hdg : decode cc pc = .ok (.invokevirtual 49, 3)) (hP : va_P D vwCl ws H) (hD : va_D A ws) (q0 : Nat) (he : ws[q0]? = some (b, .inr (0, fs))) (isC : List Nat) (hC : isC.map (fun i => ws[i]?) = wc.map some) (hnd : va_nd isC = true) (hl : ls.size = nL) (hn : As.length = 5) (hst : st0 = As.reverse ++ .ref b :: rest) (hroom : (rest.map fun v => v.category).sum ≤ 8) (hR : rm.frames + 1 ≤ R.frames ∧ 8 + (10 + 11) + rm.locals ≤ R.locals) (hf : cells + mc ≤ R.cells ∧ slots + ms ≤ R.slots) : va_Run p l e R s m args below meth c H locs cells slots mc ms (F0 m pc ls st0) rest (Qc (Value.ref b :: As).toArray) free :=
  run_VN (host := "CubicForms") (C := RX0) (T := TX0) (N := 4) (ci := 0) X hM hrc hrs wq_251 nq_39 wq_249 wq_250 wq_18 (by decide +kernel) rfl hdg hP hD q0 he isC hC hnd hl hn hst hroom hR hf
theorem cv_X4_53 (X : Cx p s m args c cc nL RX4 D cI cJ) (hM : Met l yX0_isMultipleOf (.code yX0_isMultipleOf cX0_isMultipleOf 2 (some .boolean) :: WL) rm (mPre D cI cJ (.ref b :: As) wc H.size) Qc mc ms free) (hrc : rm.cells = mc) (hrs : rm.slots = ms) (hdg : decode cc pc = .ok (.invokevirtual 53, 3)) (hP : va_P D vwCl ws H) (hD : va_D A ws) (q0 : Nat) (he : ws[q0]? = some (b, .inr (0, fs))) (isC : List Nat) (hC : isC.map (fun i => ws[i]?) = wc.map some) (hnd : va_nd isC = true) (hl : ls.size = nL) (hn : As.length = 1) (hst : st0 = As.reverse ++ .ref b :: rest) (hroom : (rest.map fun v => v.category).sum ≤ 8) (hR : rm.frames + 1 ≤ R.frames ∧ 8 + (2 + 11) + rm.locals ≤ R.locals) (hf : cells + mc ≤ R.cells ∧ slots + ms ≤ R.slots) : va_Run p l e R s m args below meth c H locs cells slots mc ms (F0 m pc ls st0) rest (Qc (Value.ref b :: As).toArray) free :=
  run_VN (host := "CubicForms") (C := RX0) (T := TX0) (N := 4) (ci := 0) X hM hrc hrs wq_553 nq_58 wq_551 wq_552 wq_18 (by decide +kernel) rfl hdg hP hD q0 he isC hC hnd hl hn hst hroom hR hf
theorem cv_X4_56 (X : Cx p s m args c cc nL RX4 D cI cJ) (hM : Met l yX0_becomeAtPoint (.code yX0_becomeAtPoint cX0_becomeAtPoint 5 none :: WL) rm (mPre D cI cJ (.ref b :: As) wc H.size) Qc mc ms free) (hrc : rm.cells = mc) (hrs : rm.slots = ms) (hdg : decode cc pc = .ok (.invokevirtual 56, 3)) (hP : va_P D vwCl ws H) (hD : va_D A ws) (q0 : Nat) (he : ws[q0]? = some (b, .inr (0, fs))) (isC : List Nat) (hC : isC.map (fun i => ws[i]?) = wc.map some) (hnd : va_nd isC = true) (hl : ls.size = nL) (hn : As.length = 3) (hst : st0 = As.reverse ++ .ref b :: rest) (hroom : (rest.map fun v => v.category).sum ≤ 8) (hR : rm.frames + 1 ≤ R.frames ∧ 8 + (5 + 11) + rm.locals ≤ R.locals) (hf : cells + mc ≤ R.cells ∧ slots + ms ≤ R.slots) : va_Run p l e R s m args below meth c H locs cells slots mc ms (F0 m pc ls st0) rest (Qc (Value.ref b :: As).toArray) free :=
  run_VN (host := "CubicForms") (C := RX0) (T := TX0) (N := 4) (ci := 0) X hM hrc hrs wq_556 nq_59 wq_554 wq_555 wq_18 (by decide +kernel) rfl hdg hP hD q0 he isC hC hnd hl hn hst hroom hR hf
theorem cv_X4_67 (X : Cx p s m args c cc nL RX4 D cI cJ) (hM : Met l yX0_becomeOverring (.code yX0_becomeOverring cX0_becomeOverring 6 (some .boolean) :: WL) rm (mPre D cI cJ (.ref b :: As) wc H.size) Qc mc ms free) (hrc : rm.cells = mc) (hrs : rm.slots = ms) (hdg : decode cc pc = .ok (.invokevirtual 67, 3)) (hP : va_P D vwCl ws H) (hD : va_D A ws) (q0 : Nat) (he : ws[q0]? = some (b, .inr (0, fs))) (isC : List Nat) (hC : isC.map (fun i => ws[i]?) = wc.map some) (hnd : va_nd isC = true) (hl : ls.size = nL) (hn : As.length = 2) (hst : st0 = As.reverse ++ .ref b :: rest) (hroom : (rest.map fun v => v.category).sum ≤ 8) (hR : rm.frames + 1 ≤ R.frames ∧ 8 + (6 + 11) + rm.locals ≤ R.locals) (hf : cells + mc ≤ R.cells ∧ slots + ms ≤ R.slots) : va_Run p l e R s m args below meth c H locs cells slots mc ms (F0 m pc ls st0) rest (Qc (Value.ref b :: As).toArray) free :=
  run_VN (host := "CubicForms") (C := RX0) (T := TX0) (N := 4) (ci := 0) X hM hrc hrs wq_586 nq_61 wq_584 wq_585 wq_18 (by decide +kernel) rfl hdg hP hD q0 he isC hC hnd hl hn hst hroom hR hf
theorem cv_X4_71 (X : Cx p s m args c cc nL RX4 D cI cJ) (hM : Met l yX0_disc (.code yX0_disc cX0_disc 1 (some .long) :: WL) rm (mPre D cI cJ (.ref b :: As) wc H.size) Qc mc ms free) (hrc : rm.cells = mc) (hrs : rm.slots = ms) (hdg : decode cc pc = .ok (.invokevirtual 71, 3)) (hP : va_P D vwCl ws H) (hD : va_D A ws) (q0 : Nat) (he : ws[q0]? = some (b, .inr (0, fs))) (isC : List Nat) (hC : isC.map (fun i => ws[i]?) = wc.map some) (hnd : va_nd isC = true) (hl : ls.size = nL) (hn : As.length = 0) (hst : st0 = As.reverse ++ .ref b :: rest) (hroom : (rest.map fun v => v.category).sum ≤ 8) (hR : rm.frames + 1 ≤ R.frames ∧ 8 + (1 + 11) + rm.locals ≤ R.locals) (hf : cells + mc ≤ R.cells ∧ slots + ms ≤ R.slots) : va_Run p l e R s m args below meth c H locs cells slots mc ms (F0 m pc ls st0) rest (Qc (Value.ref b :: As).toArray) free :=
  run_VN (host := "CubicForms") (C := RX0) (T := TX0) (N := 4) (ci := 0) X hM hrc hrs wq_165 nq_63 wq_163 wq_164 wq_18 (by decide +kernel) rfl hdg hP hD q0 he isC hC hnd hl hn hst hroom hR hf
theorem cv_X4_78 (X : Cx p s m args c cc nL RX4 D cI cJ) (hM : Met l yX4_makeCanonical (.code yX4_makeCanonical cX4_makeCanonical 3 none :: WL) rm (mPre D cI cJ (.ref b :: As) wc H.size) Qc mc ms free) (hrc : rm.cells = mc) (hrs : rm.slots = ms) (hdg : decode cc pc = .ok (.invokevirtual 78, 3)) (hP : va_P D vwCl ws H) (hD : va_D A ws) (q0 : Nat) (he : ws[q0]? = some (b, .inr (4, fs))) (isC : List Nat) (hC : isC.map (fun i => ws[i]?) = wc.map some) (hnd : va_nd isC = true) (hl : ls.size = nL) (hn : As.length = 1) (hst : st0 = As.reverse ++ .ref b :: rest) (hroom : (rest.map fun v => v.category).sum ≤ 8) (hR : rm.frames + 1 ≤ R.frames ∧ 8 + (3 + 11) + rm.locals ≤ R.locals) (hf : cells + mc ≤ R.cells ∧ slots + ms ≤ R.slots) : va_Run p l e R s m args below meth c H locs cells slots mc ms (F0 m pc ls st0) rest (Qc (Value.ref b :: As).toArray) free :=
  run_V (C := RX4) (T := TX4) (N := 2) (ci := 4) X hM hrc hrs wq_309 wq_613 wq_307 wq_308 wq_28 (by decide +kernel) rfl hdg hP hD q0 he isC hC hnd hl hn hst hroom hR hf
theorem cv_X4_81 (X : Cx p s m args c cc nL RX4 D cI cJ) (hM : Met l yX4_growAtLeastPrime (.code yX4_growAtLeastPrime cX4_growAtLeastPrime 5 (some .boolean) :: WL) rm (mPre D cI cJ (.ref b :: As) wc H.size) Qc mc ms free) (hrc : rm.cells = mc) (hrs : rm.slots = ms) (hdg : decode cc pc = .ok (.invokevirtual 81, 3)) (hP : va_P D vwCl ws H) (hD : va_D A ws) (q0 : Nat) (he : ws[q0]? = some (b, .inr (4, fs))) (isC : List Nat) (hC : isC.map (fun i => ws[i]?) = wc.map some) (hnd : va_nd isC = true) (hl : ls.size = nL) (hn : As.length = 1) (hst : st0 = As.reverse ++ .ref b :: rest) (hroom : (rest.map fun v => v.category).sum ≤ 8) (hR : rm.frames + 1 ≤ R.frames ∧ 8 + (5 + 11) + rm.locals ≤ R.locals) (hf : cells + mc ≤ R.cells ∧ slots + ms ≤ R.slots) : va_Run p l e R s m args below meth c H locs cells slots mc ms (F0 m pc ls st0) rest (Qc (Value.ref b :: As).toArray) free :=
  run_V (C := RX4) (T := TX4) (N := 2) (ci := 4) X hM hrc hrs wq_617 wq_614 wq_615 wq_616 wq_28 (by decide +kernel) rfl hdg hP hD q0 he isC hC hnd hl hn hst hroom hR hf
theorem cv_X5_63 (X : Cx p s m args c cc nL RX5 D cI cJ) (hM : Met l yX0_set (.code yX0_set cX0_set 9 none :: WL) rm (mPre D cI cJ (.ref b :: As) wc H.size) Qc mc ms free) (hrc : rm.cells = mc) (hrs : rm.slots = ms) (hdg : decode cc pc = .ok (.invokevirtual 63, 3)) (hP : va_P D vwCl ws H) (hD : va_D A ws) (q0 : Nat) (he : ws[q0]? = some (b, .inr (0, fs))) (isC : List Nat) (hC : isC.map (fun i => ws[i]?) = wc.map some) (hnd : va_nd isC = true) (hl : ls.size = nL) (hn : As.length = 4) (hst : st0 = As.reverse ++ .ref b :: rest) (hroom : (rest.map fun v => v.category).sum ≤ 8) (hR : rm.frames + 1 ≤ R.frames ∧ 8 + (9 + 11) + rm.locals ≤ R.locals) (hf : cells + mc ≤ R.cells ∧ slots + ms ≤ R.slots) : va_Run p l e R s m args below meth c H locs cells slots mc ms (F0 m pc ls st0) rest (Qc (Value.ref b :: As).toArray) free :=
  run_VN (host := "CubicForms") (C := RX0) (T := TX0) (N := 4) (ci := 0) X hM hrc hrs wq_90 nq_26 wq_88 wq_89 wq_18 (by decide +kernel) rfl hdg hP hD q0 he isC hC hnd hl hn hst hroom hR hf
theorem cv_X5_67 (X : Cx p s m args c cc nL RX5 D cI cJ) (hM : Met l yX0_fitsStore (.code yX0_fitsStore cX0_fitsStore 1 (some .boolean) :: WL) rm (mPre D cI cJ (.ref b :: As) wc H.size) Qc mc ms free) (hrc : rm.cells = mc) (hrs : rm.slots = ms) (hdg : decode cc pc = .ok (.invokevirtual 67, 3)) (hP : va_P D vwCl ws H) (hD : va_D A ws) (q0 : Nat) (he : ws[q0]? = some (b, .inr (0, fs))) (isC : List Nat) (hC : isC.map (fun i => ws[i]?) = wc.map some) (hnd : va_nd isC = true) (hl : ls.size = nL) (hn : As.length = 0) (hst : st0 = As.reverse ++ .ref b :: rest) (hroom : (rest.map fun v => v.category).sum ≤ 8) (hR : rm.frames + 1 ≤ R.frames ∧ 8 + (1 + 11) + rm.locals ≤ R.locals) (hf : cells + mc ≤ R.cells ∧ slots + ms ≤ R.slots) : va_Run p l e R s m args below meth c H locs cells slots mc ms (F0 m pc ls st0) rest (Qc (Value.ref b :: As).toArray) free :=
  run_VN (host := "CubicForms") (C := RX0) (T := TX0) (N := 4) (ci := 0) X hM hrc hrs wq_97 nq_27 wq_95 wq_96 wq_18 (by decide +kernel) rfl hdg hP hD q0 he isC hC hnd hl hn hst hroom hR hf
theorem cv_X5_71 (X : Cx p s m args c cc nL RX5 D cI cJ) (hM : Met l yX5_store (.code yX5_store cX5_store 3 (some .int) :: WL) rm (mPre D cI cJ (.ref b :: As) wc H.size) Qc mc ms free) (hrc : rm.cells = mc) (hrs : rm.slots = ms) (hdg : decode cc pc = .ok (.invokevirtual 71, 3)) (hP : va_P D vwCl ws H) (hD : va_D A ws) (q0 : Nat) (he : ws[q0]? = some (b, .inr (5, fs))) (isC : List Nat) (hC : isC.map (fun i => ws[i]?) = wc.map some) (hnd : va_nd isC = true) (hl : ls.size = nL) (hn : As.length = 1) (hst : st0 = As.reverse ++ .ref b :: rest) (hroom : (rest.map fun v => v.category).sum ≤ 8) (hR : rm.frames + 1 ≤ R.frames ∧ 8 + (3 + 11) + rm.locals ≤ R.locals) (hf : cells + mc ≤ R.cells ∧ slots + ms ≤ R.slots) : va_Run p l e R s m args below meth c H locs cells slots mc ms (F0 m pc ls st0) rest (Qc (Value.ref b :: As).toArray) free :=
  run_V (C := RX5) (T := TX5) (N := 10) (ci := 5) X hM hrc hrs wq_104 wq_101 wq_102 wq_103 wq_2 (by decide +kernel) rfl hdg hP hD q0 he isC hC hnd hl hn hst hroom hR hf
theorem cv_X5_75 (X : Cx p s m args c cc nL RX5 D cI cJ) (hM : Met l yX5_isForm (.code yX5_isForm cX5_isForm 2 (some .boolean) :: WL) rm (mPre D cI cJ (.ref b :: As) wc H.size) Qc mc ms free) (hrc : rm.cells = mc) (hrs : rm.slots = ms) (hdg : decode cc pc = .ok (.invokevirtual 75, 3)) (hP : va_P D vwCl ws H) (hD : va_D A ws) (q0 : Nat) (he : ws[q0]? = some (b, .inr (5, fs))) (isC : List Nat) (hC : isC.map (fun i => ws[i]?) = wc.map some) (hnd : va_nd isC = true) (hl : ls.size = nL) (hn : As.length = 1) (hst : st0 = As.reverse ++ .ref b :: rest) (hroom : (rest.map fun v => v.category).sum ≤ 8) (hR : rm.frames + 1 ≤ R.frames ∧ 8 + (2 + 11) + rm.locals ≤ R.locals) (hf : cells + mc ≤ R.cells ∧ slots + ms ≤ R.slots) : va_Run p l e R s m args below meth c H locs cells slots mc ms (F0 m pc ls st0) rest (Qc (Value.ref b :: As).toArray) free :=
  run_V (C := RX5) (T := TX5) (N := 10) (ci := 5) X hM hrc hrs wq_144 wq_141 wq_142 wq_143 wq_2 (by decide +kernel) rfl hdg hP hD q0 he isC hC hnd hl hn hst hroom hR hf
theorem cv_X5_79 (X : Cx p s m args c cc nL RX5 D cI cJ) (hM : Met l yX5_load (.code yX5_load cX5_load 4 (some .boolean) :: WL) rm (mPre D cI cJ (.ref b :: As) wc H.size) Qc mc ms free) (hrc : rm.cells = mc) (hrs : rm.slots = ms) (hdg : decode cc pc = .ok (.invokevirtual 79, 3)) (hP : va_P D vwCl ws H) (hD : va_D A ws) (q0 : Nat) (he : ws[q0]? = some (b, .inr (5, fs))) (isC : List Nat) (hC : isC.map (fun i => ws[i]?) = wc.map some) (hnd : va_nd isC = true) (hl : ls.size = nL) (hn : As.length = 2) (hst : st0 = As.reverse ++ .ref b :: rest) (hroom : (rest.map fun v => v.category).sum ≤ 8) (hR : rm.frames + 1 ≤ R.frames ∧ 8 + (4 + 11) + rm.locals ≤ R.locals) (hf : cells + mc ≤ R.cells ∧ slots + ms ≤ R.slots) : va_Run p l e R s m args below meth c H locs cells slots mc ms (F0 m pc ls st0) rest (Qc (Value.ref b :: As).toArray) free :=
  run_V (C := RX5) (T := TX5) (N := 10) (ci := 5) X hM hrc hrs wq_162 wq_159 wq_160 wq_161 wq_2 (by decide +kernel) rfl hdg hP hD q0 he isC hC hnd hl hn hst hroom hR hf
theorem cv_X5_83 (X : Cx p s m args c cc nL RX5 D cI cJ) (hM : Met l yX0_disc (.code yX0_disc cX0_disc 1 (some .long) :: WL) rm (mPre D cI cJ (.ref b :: As) wc H.size) Qc mc ms free) (hrc : rm.cells = mc) (hrs : rm.slots = ms) (hdg : decode cc pc = .ok (.invokevirtual 83, 3)) (hP : va_P D vwCl ws H) (hD : va_D A ws) (q0 : Nat) (he : ws[q0]? = some (b, .inr (0, fs))) (isC : List Nat) (hC : isC.map (fun i => ws[i]?) = wc.map some) (hnd : va_nd isC = true) (hl : ls.size = nL) (hn : As.length = 0) (hst : st0 = As.reverse ++ .ref b :: rest) (hroom : (rest.map fun v => v.category).sum ≤ 8) (hR : rm.frames + 1 ≤ R.frames ∧ 8 + (1 + 11) + rm.locals ≤ R.locals) (hf : cells + mc ≤ R.cells ∧ slots + ms ≤ R.slots) : va_Run p l e R s m args below meth c H locs cells slots mc ms (F0 m pc ls st0) rest (Qc (Value.ref b :: As).toArray) free :=
  run_VN (host := "CubicForms") (C := RX0) (T := TX0) (N := 4) (ci := 0) X hM hrc hrs wq_165 nq_29 wq_163 wq_164 wq_18 (by decide +kernel) rfl hdg hP hD q0 he isC hC hnd hl hn hst hroom hR hf
theorem cv_X5_89 (X : Cx p s m args c cc nL RX5 D cI cJ) (hM : Met l yX0_hessianP (.code yX0_hessianP cX0_hessianP 1 (some .long) :: WL) rm (mPre D cI cJ (.ref b :: As) wc H.size) Qc mc ms free) (hrc : rm.cells = mc) (hrs : rm.slots = ms) (hdg : decode cc pc = .ok (.invokevirtual 89, 3)) (hP : va_P D vwCl ws H) (hD : va_D A ws) (q0 : Nat) (he : ws[q0]? = some (b, .inr (0, fs))) (isC : List Nat) (hC : isC.map (fun i => ws[i]?) = wc.map some) (hnd : va_nd isC = true) (hl : ls.size = nL) (hn : As.length = 0) (hst : st0 = As.reverse ++ .ref b :: rest) (hroom : (rest.map fun v => v.category).sum ≤ 8) (hR : rm.frames + 1 ≤ R.frames ∧ 8 + (1 + 11) + rm.locals ≤ R.locals) (hf : cells + mc ≤ R.cells ∧ slots + ms ≤ R.slots) : va_Run p l e R s m args below meth c H locs cells slots mc ms (F0 m pc ls st0) rest (Qc (Value.ref b :: As).toArray) free :=
  run_VN (host := "CubicForms") (C := RX0) (T := TX0) (N := 4) (ci := 0) X hM hrc hrs wq_191 nq_30 wq_189 wq_190 wq_18 (by decide +kernel) rfl hdg hP hD q0 he isC hC hnd hl hn hst hroom hR hf
theorem cv_X5_92 (X : Cx p s m args c cc nL RX5 D cI cJ) (hM : Met l yX0_hessianQ (.code yX0_hessianQ cX0_hessianQ 1 (some .long) :: WL) rm (mPre D cI cJ (.ref b :: As) wc H.size) Qc mc ms free) (hrc : rm.cells = mc) (hrs : rm.slots = ms) (hdg : decode cc pc = .ok (.invokevirtual 92, 3)) (hP : va_P D vwCl ws H) (hD : va_D A ws) (q0 : Nat) (he : ws[q0]? = some (b, .inr (0, fs))) (isC : List Nat) (hC : isC.map (fun i => ws[i]?) = wc.map some) (hnd : va_nd isC = true) (hl : ls.size = nL) (hn : As.length = 0) (hst : st0 = As.reverse ++ .ref b :: rest) (hroom : (rest.map fun v => v.category).sum ≤ 8) (hR : rm.frames + 1 ≤ R.frames ∧ 8 + (1 + 11) + rm.locals ≤ R.locals) (hf : cells + mc ≤ R.cells ∧ slots + ms ≤ R.slots) : va_Run p l e R s m args below meth c H locs cells slots mc ms (F0 m pc ls st0) rest (Qc (Value.ref b :: As).toArray) free :=
  run_VN (host := "CubicForms") (C := RX0) (T := TX0) (N := 4) (ci := 0) X hM hrc hrs wq_195 nq_31 wq_193 wq_194 wq_18 (by decide +kernel) rfl hdg hP hD q0 he isC hC hnd hl hn hst hroom hR hf
theorem cv_X5_95 (X : Cx p s m args c cc nL RX5 D cI cJ) (hM : Met l yX0_hessianR (.code yX0_hessianR cX0_hessianR 1 (some .long) :: WL) rm (mPre D cI cJ (.ref b :: As) wc H.size) Qc mc ms free) (hrc : rm.cells = mc) (hrs : rm.slots = ms) (hdg : decode cc pc = .ok (.invokevirtual 95, 3)) (hP : va_P D vwCl ws H) (hD : va_D A ws) (q0 : Nat) (he : ws[q0]? = some (b, .inr (0, fs))) (isC : List Nat) (hC : isC.map (fun i => ws[i]?) = wc.map some) (hnd : va_nd isC = true) (hl : ls.size = nL) (hn : As.length = 0) (hst : st0 = As.reverse ++ .ref b :: rest) (hroom : (rest.map fun v => v.category).sum ≤ 8) (hR : rm.frames + 1 ≤ R.frames ∧ 8 + (1 + 11) + rm.locals ≤ R.locals) (hf : cells + mc ≤ R.cells ∧ slots + ms ≤ R.slots) : va_Run p l e R s m args below meth c H locs cells slots mc ms (F0 m pc ls st0) rest (Qc (Value.ref b :: As).toArray) free :=
  run_VN (host := "CubicForms") (C := RX0) (T := TX0) (N := 4) (ci := 0) X hM hrc hrs wq_199 nq_32 wq_197 wq_198 wq_18 (by decide +kernel) rfl hdg hP hD q0 he isC hC hnd hl hn hst hroom hR hf
theorem cv_X5_104 (X : Cx p s m args c cc nL RX5 D cI cJ) (hM : Met l yX0_valueAt (.code yX0_valueAt cX0_valueAt 5 (some .long) :: WL) rm (mPre D cI cJ (.ref b :: As) wc H.size) Qc mc ms free) (hrc : rm.cells = mc) (hrs : rm.slots = ms) (hdg : decode cc pc = .ok (.invokevirtual 104, 3)) (hP : va_P D vwCl ws H) (hD : va_D A ws) (q0 : Nat) (he : ws[q0]? = some (b, .inr (0, fs))) (isC : List Nat) (hC : isC.map (fun i => ws[i]?) = wc.map some) (hnd : va_nd isC = true) (hl : ls.size = nL) (hn : As.length = 2) (hst : st0 = As.reverse ++ .ref b :: rest) (hroom : (rest.map fun v => v.category).sum ≤ 8) (hR : rm.frames + 1 ≤ R.frames ∧ 8 + (5 + 11) + rm.locals ≤ R.locals) (hf : cells + mc ≤ R.cells ∧ slots + ms ≤ R.slots) : va_Run p l e R s m args below meth c H locs cells slots mc ms (F0 m pc ls st0) rest (Qc (Value.ref b :: As).toArray) free :=
  run_VN (host := "CubicForms") (C := RX0) (T := TX0) (N := 4) (ci := 0) X hM hrc hrs wq_226 nq_33 wq_224 wq_225 wq_18 (by decide +kernel) rfl hdg hP hD q0 he isC hC hnd hl hn hst hroom hR hf
theorem cv_X5_112 (X : Cx p s m args c cc nL RX5 D cI cJ) (hM : Met l yX0_becomeSubstituted (.code yX0_becomeSubstituted cX0_becomeSubstituted 10 none :: WL) rm (mPre D cI cJ (.ref b :: As) wc H.size) Qc mc ms free) (hrc : rm.cells = mc) (hrs : rm.slots = ms) (hdg : decode cc pc = .ok (.invokevirtual 112, 3)) (hP : va_P D vwCl ws H) (hD : va_D A ws) (q0 : Nat) (he : ws[q0]? = some (b, .inr (0, fs))) (isC : List Nat) (hC : isC.map (fun i => ws[i]?) = wc.map some) (hnd : va_nd isC = true) (hl : ls.size = nL) (hn : As.length = 5) (hst : st0 = As.reverse ++ .ref b :: rest) (hroom : (rest.map fun v => v.category).sum ≤ 8) (hR : rm.frames + 1 ≤ R.frames ∧ 8 + (10 + 11) + rm.locals ≤ R.locals) (hf : cells + mc ≤ R.cells ∧ slots + ms ≤ R.slots) : va_Run p l e R s m args below meth c H locs cells slots mc ms (F0 m pc ls st0) rest (Qc (Value.ref b :: As).toArray) free :=
  run_VN (host := "CubicForms") (C := RX0) (T := TX0) (N := 4) (ci := 0) X hM hrc hrs wq_251 nq_34 wq_249 wq_250 wq_18 (by decide +kernel) rfl hdg hP hD q0 he isC hC hnd hl hn hst hroom hR hf
theorem cv_X5_116 (X : Cx p s m args c cc nL RX5 D cI cJ) (hM : Met l yX5_storeIfFits (.code yX5_storeIfFits cX5_storeIfFits 2 (some .int) :: WL) rm (mPre D cI cJ (.ref b :: As) wc H.size) Qc mc ms free) (hrc : rm.cells = mc) (hrs : rm.slots = ms) (hdg : decode cc pc = .ok (.invokevirtual 116, 3)) (hP : va_P D vwCl ws H) (hD : va_D A ws) (q0 : Nat) (he : ws[q0]? = some (b, .inr (5, fs))) (isC : List Nat) (hC : isC.map (fun i => ws[i]?) = wc.map some) (hnd : va_nd isC = true) (hl : ls.size = nL) (hn : As.length = 1) (hst : st0 = As.reverse ++ .ref b :: rest) (hroom : (rest.map fun v => v.category).sum ≤ 8) (hR : rm.frames + 1 ≤ R.frames ∧ 8 + (2 + 11) + rm.locals ≤ R.locals) (hf : cells + mc ≤ R.cells ∧ slots + ms ≤ R.slots) : va_Run p l e R s m args below meth c H locs cells slots mc ms (F0 m pc ls st0) rest (Qc (Value.ref b :: As).toArray) free :=
  run_V (C := RX5) (T := TX5) (N := 10) (ci := 5) X hM hrc hrs wq_257 wq_254 wq_255 wq_256 wq_2 (by decide +kernel) rfl hdg hP hD q0 he isC hC hnd hl hn hst hroom hR hf
theorem cv_X5_119 (X : Cx p s m args c cc nL RX5 D cI cJ) (hM : Met l yX0_hasRationalRoot (.code yX0_hasRationalRoot cX0_hasRationalRoot 5 (some .boolean) :: WL) rm (mPre D cI cJ (.ref b :: As) wc H.size) Qc mc ms free) (hrc : rm.cells = mc) (hrs : rm.slots = ms) (hdg : decode cc pc = .ok (.invokevirtual 119, 3)) (hP : va_P D vwCl ws H) (hD : va_D A ws) (q0 : Nat) (he : ws[q0]? = some (b, .inr (0, fs))) (isC : List Nat) (hC : isC.map (fun i => ws[i]?) = wc.map some) (hnd : va_nd isC = true) (hl : ls.size = nL) (hn : As.length = 0) (hst : st0 = As.reverse ++ .ref b :: rest) (hroom : (rest.map fun v => v.category).sum ≤ 8) (hR : rm.frames + 1 ≤ R.frames ∧ 8 + (5 + 11) + rm.locals ≤ R.locals) (hf : cells + mc ≤ R.cells ∧ slots + ms ≤ R.slots) : va_Run p l e R s m args below meth c H locs cells slots mc ms (F0 m pc ls st0) rest (Qc (Value.ref b :: As).toArray) free :=
  run_VN (host := "CubicForms") (C := RX0) (T := TX0) (N := 4) (ci := 0) X hM hrc hrs wq_283 nq_35 wq_281 wq_282 wq_18 (by decide +kernel) rfl hdg hP hD q0 he isC hC hnd hl hn hst hroom hR hf
theorem cv_X5_122 (X : Cx p s m args c cc nL RX5 D cI cJ) (hM : Met l yX4_makeCanonical (.code yX4_makeCanonical cX4_makeCanonical 3 none :: WL) rm (mPre D cI cJ (.ref b :: As) wc H.size) Qc mc ms free) (hrc : rm.cells = mc) (hrs : rm.slots = ms) (hdg : decode cc pc = .ok (.invokevirtual 122, 3)) (hP : va_P D vwCl ws H) (hD : va_D A ws) (q0 : Nat) (he : ws[q0]? = some (b, .inr (4, fs))) (isC : List Nat) (hC : isC.map (fun i => ws[i]?) = wc.map some) (hnd : va_nd isC = true) (hl : ls.size = nL) (hn : As.length = 1) (hst : st0 = As.reverse ++ .ref b :: rest) (hroom : (rest.map fun v => v.category).sum ≤ 8) (hR : rm.frames + 1 ≤ R.frames ∧ 8 + (3 + 11) + rm.locals ≤ R.locals) (hf : cells + mc ≤ R.cells ∧ slots + ms ≤ R.slots) : va_Run p l e R s m args below meth c H locs cells slots mc ms (F0 m pc ls st0) rest (Qc (Value.ref b :: As).toArray) free :=
  run_VN (host := "CubicForms") (C := RX4) (T := TX4) (N := 2) (ci := 4) X hM hrc hrs wq_309 nq_36 wq_307 wq_308 wq_28 (by decide +kernel) rfl hdg hP hD q0 he isC hC hnd hl hn hst hroom hR hf
theorem cv_X5_126 (X : Cx p s m args c cc nL RX5 D cI cJ) (hM : Met l yX0_isSameAs (.code yX0_isSameAs cX0_isSameAs 2 (some .boolean) :: WL) rm (mPre D cI cJ (.ref b :: As) wc H.size) Qc mc ms free) (hrc : rm.cells = mc) (hrs : rm.slots = ms) (hdg : decode cc pc = .ok (.invokevirtual 126, 3)) (hP : va_P D vwCl ws H) (hD : va_D A ws) (q0 : Nat) (he : ws[q0]? = some (b, .inr (0, fs))) (isC : List Nat) (hC : isC.map (fun i => ws[i]?) = wc.map some) (hnd : va_nd isC = true) (hl : ls.size = nL) (hn : As.length = 1) (hst : st0 = As.reverse ++ .ref b :: rest) (hroom : (rest.map fun v => v.category).sum ≤ 8) (hR : rm.frames + 1 ≤ R.frames ∧ 8 + (2 + 11) + rm.locals ≤ R.locals) (hf : cells + mc ≤ R.cells ∧ slots + ms ≤ R.slots) : va_Run p l e R s m args below meth c H locs cells slots mc ms (F0 m pc ls st0) rest (Qc (Value.ref b :: As).toArray) free :=
  run_VN (host := "CubicForms") (C := RX0) (T := TX0) (N := 4) (ci := 0) X hM hrc hrs wq_384 nq_42 wq_382 wq_383 wq_18 (by decide +kernel) rfl hdg hP hD q0 he isC hC hnd hl hn hst hroom hR hf
theorem cv_X5_130 (X : Cx p s m args c cc nL RX5 D cI cJ) (hM : Met l yX4_countAutomorphisms (.code yX4_countAutomorphisms cX4_countAutomorphisms 4 (some .int) :: WL) rm (mPre D cI cJ (.ref b :: As) wc H.size) Qc mc ms free) (hrc : rm.cells = mc) (hrs : rm.slots = ms) (hdg : decode cc pc = .ok (.invokevirtual 130, 3)) (hP : va_P D vwCl ws H) (hD : va_D A ws) (q0 : Nat) (he : ws[q0]? = some (b, .inr (4, fs))) (isC : List Nat) (hC : isC.map (fun i => ws[i]?) = wc.map some) (hnd : va_nd isC = true) (hl : ls.size = nL) (hn : As.length = 1) (hst : st0 = As.reverse ++ .ref b :: rest) (hroom : (rest.map fun v => v.category).sum ≤ 8) (hR : rm.frames + 1 ≤ R.frames ∧ 8 + (4 + 11) + rm.locals ≤ R.locals) (hf : cells + mc ≤ R.cells ∧ slots + ms ≤ R.slots) : va_Run p l e R s m args below meth c H locs cells slots mc ms (F0 m pc ls st0) rest (Qc (Value.ref b :: As).toArray) free :=
  run_VN (host := "CubicForms") (C := RX4) (T := TX4) (N := 2) (ci := 4) X hM hrc hrs wq_395 nq_43 wq_393 wq_394 wq_28 (by decide +kernel) rfl hdg hP hD q0 he isC hC hnd hl hn hst hroom hR hf
theorem cv_X5_133 (X : Cx p s m args c cc nL RX5 D cI cJ) (hM : Met l yX5_loadElement (.code yX5_loadElement cX5_loadElement 4 (some .boolean) :: WL) rm (mPre D cI cJ (.ref b :: As) wc H.size) Qc mc ms free) (hrc : rm.cells = mc) (hrs : rm.slots = ms) (hdg : decode cc pc = .ok (.invokevirtual 133, 3)) (hP : va_P D vwCl ws H) (hD : va_D A ws) (q0 : Nat) (he : ws[q0]? = some (b, .inr (5, fs))) (isC : List Nat) (hC : isC.map (fun i => ws[i]?) = wc.map some) (hnd : va_nd isC = true) (hl : ls.size = nL) (hn : As.length = 2) (hst : st0 = As.reverse ++ .ref b :: rest) (hroom : (rest.map fun v => v.category).sum ≤ 8) (hR : rm.frames + 1 ≤ R.frames ∧ 8 + (4 + 11) + rm.locals ≤ R.locals) (hf : cells + mc ≤ R.cells ∧ slots + ms ≤ R.slots) : va_Run p l e R s m args below meth c H locs cells slots mc ms (F0 m pc ls st0) rest (Qc (Value.ref b :: As).toArray) free :=
  run_V (C := RX5) (T := TX5) (N := 10) (ci := 5) X hM hrc hrs wq_411 wq_408 wq_409 wq_410 wq_2 (by decide +kernel) rfl hdg hP hD q0 he isC hC hnd hl hn hst hroom hR hf
theorem cv_X5_137 (X : Cx p s m args c cc nL RX5 D cI cJ) (hM : Met l yX3_set (.code yX3_set cX3_set 7 none :: WL) rm (mPre D cI cJ (.ref b :: As) wc H.size) Qc mc ms free) (hrc : rm.cells = mc) (hrs : rm.slots = ms) (hdg : decode cc pc = .ok (.invokevirtual 137, 3)) (hP : va_P D vwCl ws H) (hD : va_D A ws) (q0 : Nat) (he : ws[q0]? = some (b, .inr (3, fs))) (isC : List Nat) (hC : isC.map (fun i => ws[i]?) = wc.map some) (hnd : va_nd isC = true) (hl : ls.size = nL) (hn : As.length = 3) (hst : st0 = As.reverse ++ .ref b :: rest) (hroom : (rest.map fun v => v.category).sum ≤ 8) (hR : rm.frames + 1 ≤ R.frames ∧ 8 + (7 + 11) + rm.locals ≤ R.locals) (hf : cells + mc ≤ R.cells ∧ slots + ms ≤ R.slots) : va_Run p l e R s m args below meth c H locs cells slots mc ms (F0 m pc ls st0) rest (Qc (Value.ref b :: As).toArray) free :=
  run_VN (host := "CubicForms") (C := RX3) (T := TX3) (N := 3) (ci := 3) X hM hrc hrs wq_417 nq_45 wq_415 wq_416 wq_23 (by decide +kernel) rfl hdg hP hD q0 he isC hC hnd hl hn hst hroom hR hf
theorem cv_X5_140 (X : Cx p s m args c cc nL RX5 D cI cJ) (hM : Met l yX3_fitsRegister (.code yX3_fitsRegister cX3_fitsRegister 1 (some .boolean) :: WL) rm (mPre D cI cJ (.ref b :: As) wc H.size) Qc mc ms free) (hrc : rm.cells = mc) (hrs : rm.slots = ms) (hdg : decode cc pc = .ok (.invokevirtual 140, 3)) (hP : va_P D vwCl ws H) (hD : va_D A ws) (q0 : Nat) (he : ws[q0]? = some (b, .inr (3, fs))) (isC : List Nat) (hC : isC.map (fun i => ws[i]?) = wc.map some) (hnd : va_nd isC = true) (hl : ls.size = nL) (hn : As.length = 0) (hst : st0 = As.reverse ++ .ref b :: rest) (hroom : (rest.map fun v => v.category).sum ≤ 8) (hR : rm.frames + 1 ≤ R.frames ∧ 8 + (1 + 11) + rm.locals ≤ R.locals) (hf : cells + mc ≤ R.cells ∧ slots + ms ≤ R.slots) : va_Run p l e R s m args below meth c H locs cells slots mc ms (F0 m pc ls st0) rest (Qc (Value.ref b :: As).toArray) free :=
  run_VN (host := "CubicForms") (C := RX3) (T := TX3) (N := 3) (ci := 3) X hM hrc hrs wq_423 nq_46 wq_421 wq_422 wq_23 (by decide +kernel) rfl hdg hP hD q0 he isC hC hnd hl hn hst hroom hR hf
theorem cv_X5_143 (X : Cx p s m args c cc nL RX5 D cI cJ) (hM : Met l yX5_storeElement (.code yX5_storeElement cX5_storeElement 4 none :: WL) rm (mPre D cI cJ (.ref b :: As) wc H.size) Qc mc ms free) (hrc : rm.cells = mc) (hrs : rm.slots = ms) (hdg : decode cc pc = .ok (.invokevirtual 143, 3)) (hP : va_P D vwCl ws H) (hD : va_D A ws) (q0 : Nat) (he : ws[q0]? = some (b, .inr (5, fs))) (isC : List Nat) (hC : isC.map (fun i => ws[i]?) = wc.map some) (hnd : va_nd isC = true) (hl : ls.size = nL) (hn : As.length = 2) (hst : st0 = As.reverse ++ .ref b :: rest) (hroom : (rest.map fun v => v.category).sum ≤ 8) (hR : rm.frames + 1 ≤ R.frames ∧ 8 + (4 + 11) + rm.locals ≤ R.locals) (hf : cells + mc ≤ R.cells ∧ slots + ms ≤ R.slots) : va_Run p l e R s m args below meth c H locs cells slots mc ms (F0 m pc ls st0) rest (Qc (Value.ref b :: As).toArray) free :=
  run_V (C := RX5) (T := TX5) (N := 10) (ci := 5) X hM hrc hrs wq_428 wq_425 wq_426 wq_427 wq_2 (by decide +kernel) rfl hdg hP hD q0 he isC hC hnd hl hn hst hroom hR hf
theorem cv_X5_147 (X : Cx p s m args c cc nL RX5 D cI cJ) (hM : Met l yX3_isSameAs (.code yX3_isSameAs cX3_isSameAs 2 (some .boolean) :: WL) rm (mPre D cI cJ (.ref b :: As) wc H.size) Qc mc ms free) (hrc : rm.cells = mc) (hrs : rm.slots = ms) (hdg : decode cc pc = .ok (.invokevirtual 147, 3)) (hP : va_P D vwCl ws H) (hD : va_D A ws) (q0 : Nat) (he : ws[q0]? = some (b, .inr (3, fs))) (isC : List Nat) (hC : isC.map (fun i => ws[i]?) = wc.map some) (hnd : va_nd isC = true) (hl : ls.size = nL) (hn : As.length = 1) (hst : st0 = As.reverse ++ .ref b :: rest) (hroom : (rest.map fun v => v.category).sum ≤ 8) (hR : rm.frames + 1 ≤ R.frames ∧ 8 + (2 + 11) + rm.locals ≤ R.locals) (hf : cells + mc ≤ R.cells ∧ slots + ms ≤ R.slots) : va_Run p l e R s m args below meth c H locs cells slots mc ms (F0 m pc ls st0) rest (Qc (Value.ref b :: As).toArray) free :=
  run_VN (host := "CubicForms") (C := RX3) (T := TX3) (N := 3) (ci := 3) X hM hrc hrs wq_431 nq_48 wq_429 wq_430 wq_23 (by decide +kernel) rfl hdg hP hD q0 he isC hC hnd hl hn hst hroom hR hf
theorem cv_X5_153 (X : Cx p s m args c cc nL RX5 D cI cJ) (hM : Met l yX2_productOf (.code yX2_productOf cX2_productOf 4 (some (.object "CubicForms$RingElement")) :: WL) rm (mPre D cI cJ (.ref b :: As) wc H.size) Qc mc ms free) (hrc : rm.cells = mc) (hrs : rm.slots = ms) (hdg : decode cc pc = .ok (.invokevirtual 153, 3)) (hP : va_P D vwCl ws H) (hD : va_D A ws) (q0 : Nat) (he : ws[q0]? = some (b, .inr (2, fs))) (isC : List Nat) (hC : isC.map (fun i => ws[i]?) = wc.map some) (hnd : va_nd isC = true) (hl : ls.size = nL) (hn : As.length = 3) (hst : st0 = As.reverse ++ .ref b :: rest) (hroom : (rest.map fun v => v.category).sum ≤ 8) (hR : rm.frames + 1 ≤ R.frames ∧ 8 + (4 + 11) + rm.locals ≤ R.locals) (hf : cells + mc ≤ R.cells ∧ slots + ms ≤ R.slots) : va_Run p l e R s m args below meth c H locs cells slots mc ms (F0 m pc ls st0) rest (Qc (Value.ref b :: As).toArray) free :=
  run_VN (host := "CubicForms") (C := RX2) (T := TX2) (N := 7) (ci := 2) X hM hrc hrs wq_454 nq_49 wq_452 wq_453 wq_32 (by decide +kernel) rfl hdg hP hD q0 he isC hC hnd hl hn hst hroom hR hf
theorem cv_X5_157 (X : Cx p s m args c cc nL RX5 D cI cJ) (hM : Met l yX3_traceIn (.code yX3_traceIn cX3_traceIn 2 (some .long) :: WL) rm (mPre D cI cJ (.ref b :: As) wc H.size) Qc mc ms free) (hrc : rm.cells = mc) (hrs : rm.slots = ms) (hdg : decode cc pc = .ok (.invokevirtual 157, 3)) (hP : va_P D vwCl ws H) (hD : va_D A ws) (q0 : Nat) (he : ws[q0]? = some (b, .inr (3, fs))) (isC : List Nat) (hC : isC.map (fun i => ws[i]?) = wc.map some) (hnd : va_nd isC = true) (hl : ls.size = nL) (hn : As.length = 1) (hst : st0 = As.reverse ++ .ref b :: rest) (hroom : (rest.map fun v => v.category).sum ≤ 8) (hR : rm.frames + 1 ≤ R.frames ∧ 8 + (2 + 11) + rm.locals ≤ R.locals) (hf : cells + mc ≤ R.cells ∧ slots + ms ≤ R.slots) : va_Run p l e R s m args below meth c H locs cells slots mc ms (F0 m pc ls st0) rest (Qc (Value.ref b :: As).toArray) free :=
  run_VN (host := "CubicForms") (C := RX3) (T := TX3) (N := 3) (ci := 3) X hM hrc hrs wq_476 nq_51 wq_474 wq_475 wq_23 (by decide +kernel) rfl hdg hP hD q0 he isC hC hnd hl hn hst hroom hR hf
theorem cv_X5_161 (X : Cx p s m args c cc nL RX5 D cI cJ) (hM : Met l yX2_normOf (.code yX2_normOf cX2_normOf 3 (some .long) :: WL) rm (mPre D cI cJ (.ref b :: As) wc H.size) Qc mc ms free) (hrc : rm.cells = mc) (hrs : rm.slots = ms) (hdg : decode cc pc = .ok (.invokevirtual 161, 3)) (hP : va_P D vwCl ws H) (hD : va_D A ws) (q0 : Nat) (he : ws[q0]? = some (b, .inr (2, fs))) (isC : List Nat) (hC : isC.map (fun i => ws[i]?) = wc.map some) (hnd : va_nd isC = true) (hl : ls.size = nL) (hn : As.length = 2) (hst : st0 = As.reverse ++ .ref b :: rest) (hroom : (rest.map fun v => v.category).sum ≤ 8) (hR : rm.frames + 1 ≤ R.frames ∧ 8 + (3 + 11) + rm.locals ≤ R.locals) (hf : cells + mc ≤ R.cells ∧ slots + ms ≤ R.slots) : va_Run p l e R s m args below meth c H locs cells slots mc ms (F0 m pc ls st0) rest (Qc (Value.ref b :: As).toArray) free :=
  run_VN (host := "CubicForms") (C := RX2) (T := TX2) (N := 7) (ci := 2) X hM hrc hrs wq_500 nq_52 wq_498 wq_499 wq_32 (by decide +kernel) rfl hdg hP hD q0 he isC hC hnd hl hn hst hroom hR hf
theorem cv_X5_165 (X : Cx p s m args c cc nL RX5 D cI cJ) (hM : Met l yX2_determinantOfTraces (.code yX2_determinantOfTraces cX2_determinantOfTraces 2 (some .long) :: WL) rm (mPre D cI cJ (.ref b :: As) wc H.size) Qc mc ms free) (hrc : rm.cells = mc) (hrs : rm.slots = ms) (hdg : decode cc pc = .ok (.invokevirtual 165, 3)) (hP : va_P D vwCl ws H) (hD : va_D A ws) (q0 : Nat) (he : ws[q0]? = some (b, .inr (2, fs))) (isC : List Nat) (hC : isC.map (fun i => ws[i]?) = wc.map some) (hnd : va_nd isC = true) (hl : ls.size = nL) (hn : As.length = 1) (hst : st0 = As.reverse ++ .ref b :: rest) (hroom : (rest.map fun v => v.category).sum ≤ 8) (hR : rm.frames + 1 ≤ R.frames ∧ 8 + (2 + 11) + rm.locals ≤ R.locals) (hf : cells + mc ≤ R.cells ∧ slots + ms ≤ R.slots) : va_Run p l e R s m args below meth c H locs cells slots mc ms (F0 m pc ls st0) rest (Qc (Value.ref b :: As).toArray) free :=
  run_VN (host := "CubicForms") (C := RX2) (T := TX2) (N := 7) (ci := 2) X hM hrc hrs wq_519 nq_53 wq_517 wq_518 wq_32 (by decide +kernel) rfl hdg hP hD q0 he isC hC hnd hl hn hst hroom hR hf
theorem cv_X5_168 (X : Cx p s m args c cc nL RX5 D cI cJ) (hM : Met l yX2_indexOf (.code yX2_indexOf cX2_indexOf 4 (some .long) :: WL) rm (mPre D cI cJ (.ref b :: As) wc H.size) Qc mc ms free) (hrc : rm.cells = mc) (hrs : rm.slots = ms) (hdg : decode cc pc = .ok (.invokevirtual 168, 3)) (hP : va_P D vwCl ws H) (hD : va_D A ws) (q0 : Nat) (he : ws[q0]? = some (b, .inr (2, fs))) (isC : List Nat) (hC : isC.map (fun i => ws[i]?) = wc.map some) (hnd : va_nd isC = true) (hl : ls.size = nL) (hn : As.length = 2) (hst : st0 = As.reverse ++ .ref b :: rest) (hroom : (rest.map fun v => v.category).sum ≤ 8) (hR : rm.frames + 1 ≤ R.frames ∧ 8 + (4 + 11) + rm.locals ≤ R.locals) (hf : cells + mc ≤ R.cells ∧ slots + ms ≤ R.slots) : va_Run p l e R s m args below meth c H locs cells slots mc ms (F0 m pc ls st0) rest (Qc (Value.ref b :: As).toArray) free :=
  run_VN (host := "CubicForms") (C := RX2) (T := TX2) (N := 7) (ci := 2) X hM hrc hrs wq_535 nq_56 wq_533 wq_534 wq_32 (by decide +kernel) rfl hdg hP hD q0 he isC hC hnd hl hn hst hroom hR hf
theorem cv_X5_174 (X : Cx p s m args c cc nL RX5 D cI cJ) (hM : Met l yX4_splittingCode (.code yX4_splittingCode cX4_splittingCode 6 (some .int) :: WL) rm (mPre D cI cJ (.ref b :: As) wc H.size) Qc mc ms free) (hrc : rm.cells = mc) (hrs : rm.slots = ms) (hdg : decode cc pc = .ok (.invokevirtual 174, 3)) (hP : va_P D vwCl ws H) (hD : va_D A ws) (q0 : Nat) (he : ws[q0]? = some (b, .inr (4, fs))) (isC : List Nat) (hC : isC.map (fun i => ws[i]?) = wc.map some) (hnd : va_nd isC = true) (hl : ls.size = nL) (hn : As.length = 2) (hst : st0 = As.reverse ++ .ref b :: rest) (hroom : (rest.map fun v => v.category).sum ≤ 8) (hR : rm.frames + 1 ≤ R.frames ∧ 8 + (6 + 11) + rm.locals ≤ R.locals) (hf : cells + mc ≤ R.cells ∧ slots + ms ≤ R.slots) : va_Run p l e R s m args below meth c H locs cells slots mc ms (F0 m pc ls st0) rest (Qc (Value.ref b :: As).toArray) free :=
  run_VN (host := "CubicForms") (C := RX4) (T := TX4) (N := 2) (ci := 4) X hM hrc hrs wq_550 nq_57 wq_548 wq_549 wq_28 (by decide +kernel) rfl hdg hP hD q0 he isC hC hnd hl hn hst hroom hR hf
theorem cv_X5_178 (X : Cx p s m args c cc nL RX5 D cI cJ) (hM : Met l yX4_growAt (.code yX4_growAt cX4_growAt 3 (some .boolean) :: WL) rm (mPre D cI cJ (.ref b :: As) wc H.size) Qc mc ms free) (hrc : rm.cells = mc) (hrs : rm.slots = ms) (hdg : decode cc pc = .ok (.invokevirtual 178, 3)) (hP : va_P D vwCl ws H) (hD : va_D A ws) (q0 : Nat) (he : ws[q0]? = some (b, .inr (4, fs))) (isC : List Nat) (hC : isC.map (fun i => ws[i]?) = wc.map some) (hnd : va_nd isC = true) (hl : ls.size = nL) (hn : As.length = 2) (hst : st0 = As.reverse ++ .ref b :: rest) (hroom : (rest.map fun v => v.category).sum ≤ 8) (hR : rm.frames + 1 ≤ R.frames ∧ 8 + (3 + 11) + rm.locals ≤ R.locals) (hf : cells + mc ≤ R.cells ∧ slots + ms ≤ R.slots) : va_Run p l e R s m args below meth c H locs cells slots mc ms (F0 m pc ls st0) rest (Qc (Value.ref b :: As).toArray) free :=
  run_VN (host := "CubicForms") (C := RX4) (T := TX4) (N := 2) (ci := 4) X hM hrc hrs wq_583 nq_60 wq_581 wq_582 wq_28 (by decide +kernel) rfl hdg hP hD q0 he isC hC hnd hl hn hst hroom hR hf
theorem cv_X5_182 (X : Cx p s m args c cc nL RX5 D cI cJ) (hM : Met l yX4_makeMaximal (.code yX4_makeMaximal cX4_makeMaximal 3 none :: WL) rm (mPre D cI cJ (.ref b :: As) wc H.size) Qc mc ms free) (hrc : rm.cells = mc) (hrs : rm.slots = ms) (hdg : decode cc pc = .ok (.invokevirtual 182, 3)) (hP : va_P D vwCl ws H) (hD : va_D A ws) (q0 : Nat) (he : ws[q0]? = some (b, .inr (4, fs))) (isC : List Nat) (hC : isC.map (fun i => ws[i]?) = wc.map some) (hnd : va_nd isC = true) (hl : ls.size = nL) (hn : As.length = 1) (hst : st0 = As.reverse ++ .ref b :: rest) (hroom : (rest.map fun v => v.category).sum ≤ 8) (hR : rm.frames + 1 ≤ R.frames ∧ 8 + (3 + 11) + rm.locals ≤ R.locals) (hf : cells + mc ≤ R.cells ∧ slots + ms ≤ R.slots) : va_Run p l e R s m args below meth c H locs cells slots mc ms (F0 m pc ls st0) rest (Qc (Value.ref b :: As).toArray) free :=
  run_VN (host := "CubicForms") (C := RX4) (T := TX4) (N := 2) (ci := 4) X hM hrc hrs wq_612 nq_62 wq_610 wq_611 wq_28 (by decide +kernel) rfl hdg hP hD q0 he isC hC hnd hl hn hst hroom hR hf
theorem cv_X5_185 (X : Cx p s m args c cc nL RX5 D cI cJ) (hM : Met l yX1_fillOnce (.code yX1_fillOnce cX1_fillOnce 8 none :: WL) rm (mPre D cI cJ (.ref b :: As) wc H.size) Qc mc ms free) (hrc : rm.cells = mc) (hrs : rm.slots = ms) (hdg : decode cc pc = .ok (.invokevirtual 185, 3)) (hP : va_P D vwCl ws H) (hD : va_D A ws) (q0 : Nat) (he : ws[q0]? = some (b, .inr (1, fs))) (isC : List Nat) (hC : isC.map (fun i => ws[i]?) = wc.map some) (hnd : va_nd isC = true) (hl : ls.size = nL) (hn : As.length = 1) (hst : st0 = As.reverse ++ .ref b :: rest) (hroom : (rest.map fun v => v.category).sum ≤ 8) (hR : rm.frames + 1 ≤ R.frames ∧ 8 + (8 + 11) + rm.locals ≤ R.locals) (hf : cells + mc ≤ R.cells ∧ slots + ms ≤ R.slots) : va_Run p l e R s m args below meth c H locs cells slots mc ms (F0 m pc ls st0) rest (Qc (Value.ref b :: As).toArray) free :=
  run_VN (host := "CubicForms") (C := RX1) (T := TX1) (N := 7) (ci := 1) X hM hrc hrs wq_632 nq_65 wq_630 wq_631 wq_36 (by decide +kernel) rfl hdg hP hD q0 he isC hC hnd hl hn hst hroom hR hf
theorem cv_X5_189 (X : Cx p s m args c cc nL RX5 D cI cJ) (hM : Met l yX1_countFormsTo (.code yX1_countFormsTo cX1_countFormsTo 2 (some .int) :: WL) rm (mPre D cI cJ (.ref b :: As) wc H.size) Qc mc ms free) (hrc : rm.cells = mc) (hrs : rm.slots = ms) (hdg : decode cc pc = .ok (.invokevirtual 189, 3)) (hP : va_P D vwCl ws H) (hD : va_D A ws) (q0 : Nat) (he : ws[q0]? = some (b, .inr (1, fs))) (isC : List Nat) (hC : isC.map (fun i => ws[i]?) = wc.map some) (hnd : va_nd isC = true) (hl : ls.size = nL) (hn : As.length = 1) (hst : st0 = As.reverse ++ .ref b :: rest) (hroom : (rest.map fun v => v.category).sum ≤ 8) (hR : rm.frames + 1 ≤ R.frames ∧ 8 + (2 + 11) + rm.locals ≤ R.locals) (hf : cells + mc ≤ R.cells ∧ slots + ms ≤ R.slots) : va_Run p l e R s m args below meth c H locs cells slots mc ms (F0 m pc ls st0) rest (Qc (Value.ref b :: As).toArray) free :=
  run_VN (host := "CubicForms") (C := RX1) (T := TX1) (N := 7) (ci := 1) X hM hrc hrs wq_647 nq_74 wq_645 wq_646 wq_36 (by decide +kernel) rfl hdg hP hD q0 he isC hC hnd hl hn hst hroom hR hf
theorem cv_X5_193 (X : Cx p s m args c cc nL RX5 D cI cJ) (hM : Met l yX1_countFieldsTo (.code yX1_countFieldsTo cX1_countFieldsTo 2 (some .int) :: WL) rm (mPre D cI cJ (.ref b :: As) wc H.size) Qc mc ms free) (hrc : rm.cells = mc) (hrs : rm.slots = ms) (hdg : decode cc pc = .ok (.invokevirtual 193, 3)) (hP : va_P D vwCl ws H) (hD : va_D A ws) (q0 : Nat) (he : ws[q0]? = some (b, .inr (1, fs))) (isC : List Nat) (hC : isC.map (fun i => ws[i]?) = wc.map some) (hnd : va_nd isC = true) (hl : ls.size = nL) (hn : As.length = 1) (hst : st0 = As.reverse ++ .ref b :: rest) (hroom : (rest.map fun v => v.category).sum ≤ 8) (hR : rm.frames + 1 ≤ R.frames ∧ 8 + (2 + 11) + rm.locals ≤ R.locals) (hf : cells + mc ≤ R.cells ∧ slots + ms ≤ R.slots) : va_Run p l e R s m args below meth c H locs cells slots mc ms (F0 m pc ls st0) rest (Qc (Value.ref b :: As).toArray) free :=
  run_VN (host := "CubicForms") (C := RX1) (T := TX1) (N := 7) (ci := 1) X hM hrc hrs wq_675 nq_75 wq_673 wq_674 wq_36 (by decide +kernel) rfl hdg hP hD q0 he isC hC hnd hl hn hst hroom hR hf
theorem cv_X6_58 (X : Cx p s m args c cc nL RX6 D cI cJ) (hM : Met l yX6_set (.code yX6_set cX6_set 9 none :: WL) rm (mPre D cI cJ (.ref b :: As) wc H.size) Qc mc ms free) (hrc : rm.cells = mc) (hrs : rm.slots = ms) (hdg : decode cc pc = .ok (.invokevirtual 58, 3)) (hP : va_P D vwCl ws H) (hD : va_D A ws) (q0 : Nat) (he : ws[q0]? = some (b, .inr (6, fs))) (isC : List Nat) (hC : isC.map (fun i => ws[i]?) = wc.map some) (hnd : va_nd isC = true) (hl : ls.size = nL) (hn : As.length = 4) (hst : st0 = As.reverse ++ .ref b :: rest) (hroom : (rest.map fun v => v.category).sum ≤ 8) (hR : rm.frames + 1 ≤ R.frames ∧ 8 + (9 + 11) + rm.locals ≤ R.locals) (hf : cells + mc ≤ R.cells ∧ slots + ms ≤ R.slots) : va_Run p l e R s m args below meth c H locs cells slots mc ms (F0 m pc ls st0) rest (Qc (Value.ref b :: As).toArray) free :=
  run_V (C := RX6) (T := TX6) (N := 23) (ci := 6) X hM hrc hrs wq_112 wq_109 wq_110 wq_111 wq_5 (by decide +kernel) rfl hdg hP hD q0 he isC hC hnd hl hn hst hroom hR hf
theorem cv_X6_62 (X : Cx p s m args c cc nL RX6 D cI cJ) (hM : Met l yX6_store (.code yX6_store cX6_store 1 (some .int) :: WL) rm (mPre D cI cJ (.ref b :: As) wc H.size) Qc mc ms free) (hrc : rm.cells = mc) (hrs : rm.slots = ms) (hdg : decode cc pc = .ok (.invokevirtual 62, 3)) (hP : va_P D vwCl ws H) (hD : va_D A ws) (q0 : Nat) (he : ws[q0]? = some (b, .inr (6, fs))) (isC : List Nat) (hC : isC.map (fun i => ws[i]?) = wc.map some) (hnd : va_nd isC = true) (hl : ls.size = nL) (hn : As.length = 0) (hst : st0 = As.reverse ++ .ref b :: rest) (hroom : (rest.map fun v => v.category).sum ≤ 8) (hR : rm.frames + 1 ≤ R.frames ∧ 8 + (1 + 11) + rm.locals ≤ R.locals) (hf : cells + mc ≤ R.cells ∧ slots + ms ≤ R.slots) : va_Run p l e R s m args below meth c H locs cells slots mc ms (F0 m pc ls st0) rest (Qc (Value.ref b :: As).toArray) free :=
  run_V (C := RX6) (T := TX6) (N := 23) (ci := 6) X hM hrc hrs wq_120 wq_117 wq_118 wq_119 wq_5 (by decide +kernel) rfl hdg hP hD q0 he isC hC hnd hl hn hst hroom hR hf
theorem cv_X6_66 (X : Cx p s m args c cc nL RX6 D cI cJ) (hM : Met l yX6_isForm (.code yX6_isForm cX6_isForm 2 (some .boolean) :: WL) rm (mPre D cI cJ (.ref b :: As) wc H.size) Qc mc ms free) (hrc : rm.cells = mc) (hrs : rm.slots = ms) (hdg : decode cc pc = .ok (.invokevirtual 66, 3)) (hP : va_P D vwCl ws H) (hD : va_D A ws) (q0 : Nat) (he : ws[q0]? = some (b, .inr (6, fs))) (isC : List Nat) (hC : isC.map (fun i => ws[i]?) = wc.map some) (hnd : va_nd isC = true) (hl : ls.size = nL) (hn : As.length = 1) (hst : st0 = As.reverse ++ .ref b :: rest) (hroom : (rest.map fun v => v.category).sum ≤ 8) (hR : rm.frames + 1 ≤ R.frames ∧ 8 + (2 + 11) + rm.locals ≤ R.locals) (hf : cells + mc ≤ R.cells ∧ slots + ms ≤ R.slots) : va_Run p l e R s m args below meth c H locs cells slots mc ms (F0 m pc ls st0) rest (Qc (Value.ref b :: As).toArray) free :=
  run_V (C := RX6) (T := TX6) (N := 23) (ci := 6) X hM hrc hrs wq_153 wq_150 wq_151 wq_152 wq_5 (by decide +kernel) rfl hdg hP hD q0 he isC hC hnd hl hn hst hroom hR hf
theorem cv_X6_82 (X : Cx p s m args c cc nL RX6 D cI cJ) (hM : Met l yX6_load (.code yX6_load cX6_load 2 none :: WL) rm (mPre D cI cJ (.ref b :: As) wc H.size) Qc mc ms free) (hrc : rm.cells = mc) (hrs : rm.slots = ms) (hdg : decode cc pc = .ok (.invokevirtual 82, 3)) (hP : va_P D vwCl ws H) (hD : va_D A ws) (q0 : Nat) (he : ws[q0]? = some (b, .inr (6, fs))) (isC : List Nat) (hC : isC.map (fun i => ws[i]?) = wc.map some) (hnd : va_nd isC = true) (hl : ls.size = nL) (hn : As.length = 1) (hst : st0 = As.reverse ++ .ref b :: rest) (hroom : (rest.map fun v => v.category).sum ≤ 8) (hR : rm.frames + 1 ≤ R.frames ∧ 8 + (2 + 11) + rm.locals ≤ R.locals) (hf : cells + mc ≤ R.cells ∧ slots + ms ≤ R.slots) : va_Run p l e R s m args below meth c H locs cells slots mc ms (F0 m pc ls st0) rest (Qc (Value.ref b :: As).toArray) free :=
  run_V (C := RX6) (T := TX6) (N := 23) (ci := 6) X hM hrc hrs wq_177 wq_174 wq_175 wq_176 wq_5 (by decide +kernel) rfl hdg hP hD q0 he isC hC hnd hl hn hst hroom hR hf
theorem cv_X6_86 (X : Cx p s m args c cc nL RX6 D cI cJ) (hM : Met l yX6_discriminantNow (.code yX6_discriminantNow cX6_discriminantNow 1 (some .long) :: WL) rm (mPre D cI cJ (.ref b :: As) wc H.size) Qc mc ms free) (hrc : rm.cells = mc) (hrs : rm.slots = ms) (hdg : decode cc pc = .ok (.invokevirtual 86, 3)) (hP : va_P D vwCl ws H) (hD : va_D A ws) (q0 : Nat) (he : ws[q0]? = some (b, .inr (6, fs))) (isC : List Nat) (hC : isC.map (fun i => ws[i]?) = wc.map some) (hnd : va_nd isC = true) (hl : ls.size = nL) (hn : As.length = 0) (hst : st0 = As.reverse ++ .ref b :: rest) (hroom : (rest.map fun v => v.category).sum ≤ 8) (hR : rm.frames + 1 ≤ R.frames ∧ 8 + (1 + 11) + rm.locals ≤ R.locals) (hf : cells + mc ≤ R.cells ∧ slots + ms ≤ R.slots) : va_Run p l e R s m args below meth c H locs cells slots mc ms (F0 m pc ls st0) rest (Qc (Value.ref b :: As).toArray) free :=
  run_V (C := RX6) (T := TX6) (N := 23) (ci := 6) X hM hrc hrs wq_181 wq_178 wq_179 wq_180 wq_5 (by decide +kernel) rfl hdg hP hD q0 he isC hC hnd hl hn hst hroom hR hf
theorem cv_X6_92 (X : Cx p s m args c cc nL RX6 D cI cJ) (hM : Met l yX6_hessianP (.code yX6_hessianP cX6_hessianP 1 (some .long) :: WL) rm (mPre D cI cJ (.ref b :: As) wc H.size) Qc mc ms free) (hrc : rm.cells = mc) (hrs : rm.slots = ms) (hdg : decode cc pc = .ok (.invokevirtual 92, 3)) (hP : va_P D vwCl ws H) (hD : va_D A ws) (q0 : Nat) (he : ws[q0]? = some (b, .inr (6, fs))) (isC : List Nat) (hC : isC.map (fun i => ws[i]?) = wc.map some) (hnd : va_nd isC = true) (hl : ls.size = nL) (hn : As.length = 0) (hst : st0 = As.reverse ++ .ref b :: rest) (hroom : (rest.map fun v => v.category).sum ≤ 8) (hR : rm.frames + 1 ≤ R.frames ∧ 8 + (1 + 11) + rm.locals ≤ R.locals) (hf : cells + mc ≤ R.cells ∧ slots + ms ≤ R.slots) : va_Run p l e R s m args below meth c H locs cells slots mc ms (F0 m pc ls st0) rest (Qc (Value.ref b :: As).toArray) free :=
  run_V (C := RX6) (T := TX6) (N := 23) (ci := 6) X hM hrc hrs wq_208 wq_205 wq_206 wq_207 wq_5 (by decide +kernel) rfl hdg hP hD q0 he isC hC hnd hl hn hst hroom hR hf
theorem cv_X6_95 (X : Cx p s m args c cc nL RX6 D cI cJ) (hM : Met l yX6_hessianQ (.code yX6_hessianQ cX6_hessianQ 1 (some .long) :: WL) rm (mPre D cI cJ (.ref b :: As) wc H.size) Qc mc ms free) (hrc : rm.cells = mc) (hrs : rm.slots = ms) (hdg : decode cc pc = .ok (.invokevirtual 95, 3)) (hP : va_P D vwCl ws H) (hD : va_D A ws) (q0 : Nat) (he : ws[q0]? = some (b, .inr (6, fs))) (isC : List Nat) (hC : isC.map (fun i => ws[i]?) = wc.map some) (hnd : va_nd isC = true) (hl : ls.size = nL) (hn : As.length = 0) (hst : st0 = As.reverse ++ .ref b :: rest) (hroom : (rest.map fun v => v.category).sum ≤ 8) (hR : rm.frames + 1 ≤ R.frames ∧ 8 + (1 + 11) + rm.locals ≤ R.locals) (hf : cells + mc ≤ R.cells ∧ slots + ms ≤ R.slots) : va_Run p l e R s m args below meth c H locs cells slots mc ms (F0 m pc ls st0) rest (Qc (Value.ref b :: As).toArray) free :=
  run_V (C := RX6) (T := TX6) (N := 23) (ci := 6) X hM hrc hrs wq_212 wq_209 wq_210 wq_211 wq_5 (by decide +kernel) rfl hdg hP hD q0 he isC hC hnd hl hn hst hroom hR hf
theorem cv_X6_98 (X : Cx p s m args c cc nL RX6 D cI cJ) (hM : Met l yX6_hessianR (.code yX6_hessianR cX6_hessianR 1 (some .long) :: WL) rm (mPre D cI cJ (.ref b :: As) wc H.size) Qc mc ms free) (hrc : rm.cells = mc) (hrs : rm.slots = ms) (hdg : decode cc pc = .ok (.invokevirtual 98, 3)) (hP : va_P D vwCl ws H) (hD : va_D A ws) (q0 : Nat) (he : ws[q0]? = some (b, .inr (6, fs))) (isC : List Nat) (hC : isC.map (fun i => ws[i]?) = wc.map some) (hnd : va_nd isC = true) (hl : ls.size = nL) (hn : As.length = 0) (hst : st0 = As.reverse ++ .ref b :: rest) (hroom : (rest.map fun v => v.category).sum ≤ 8) (hR : rm.frames + 1 ≤ R.frames ∧ 8 + (1 + 11) + rm.locals ≤ R.locals) (hf : cells + mc ≤ R.cells ∧ slots + ms ≤ R.slots) : va_Run p l e R s m args below meth c H locs cells slots mc ms (F0 m pc ls st0) rest (Qc (Value.ref b :: As).toArray) free :=
  run_V (C := RX6) (T := TX6) (N := 23) (ci := 6) X hM hrc hrs wq_217 wq_214 wq_215 wq_216 wq_5 (by decide +kernel) rfl hdg hP hD q0 he isC hC hnd hl hn hst hroom hR hf
theorem cv_X6_105 (X : Cx p s m args c cc nL RX6 D cI cJ) (hM : Met l yX6_valueNow (.code yX6_valueNow cX6_valueNow 5 (some .long) :: WL) rm (mPre D cI cJ (.ref b :: As) wc H.size) Qc mc ms free) (hrc : rm.cells = mc) (hrs : rm.slots = ms) (hdg : decode cc pc = .ok (.invokevirtual 105, 3)) (hP : va_P D vwCl ws H) (hD : va_D A ws) (q0 : Nat) (he : ws[q0]? = some (b, .inr (6, fs))) (isC : List Nat) (hC : isC.map (fun i => ws[i]?) = wc.map some) (hnd : va_nd isC = true) (hl : ls.size = nL) (hn : As.length = 2) (hst : st0 = As.reverse ++ .ref b :: rest) (hroom : (rest.map fun v => v.category).sum ≤ 8) (hR : rm.frames + 1 ≤ R.frames ∧ 8 + (5 + 11) + rm.locals ≤ R.locals) (hf : cells + mc ≤ R.cells ∧ slots + ms ≤ R.slots) : va_Run p l e R s m args below meth c H locs cells slots mc ms (F0 m pc ls st0) rest (Qc (Value.ref b :: As).toArray) free :=
  run_V (C := RX6) (T := TX6) (N := 23) (ci := 6) X hM hrc hrs wq_236 wq_233 wq_234 wq_235 wq_5 (by decide +kernel) rfl hdg hP hD q0 he isC hC hnd hl hn hst hroom hR hf
theorem cv_X6_124 (X : Cx p s m args c cc nL RX6 D cI cJ) (hM : Met l yX6_apply (.code yX6_apply cX6_apply 17 none :: WL) rm (mPre D cI cJ (.ref b :: As) wc H.size) Qc mc ms free) (hrc : rm.cells = mc) (hrs : rm.slots = ms) (hdg : decode cc pc = .ok (.invokevirtual 124, 3)) (hP : va_P D vwCl ws H) (hD : va_D A ws) (q0 : Nat) (he : ws[q0]? = some (b, .inr (6, fs))) (isC : List Nat) (hC : isC.map (fun i => ws[i]?) = wc.map some) (hnd : va_nd isC = true) (hl : ls.size = nL) (hn : As.length = 4) (hst : st0 = As.reverse ++ .ref b :: rest) (hroom : (rest.map fun v => v.category).sum ≤ 8) (hR : rm.frames + 1 ≤ R.frames ∧ 8 + (17 + 11) + rm.locals ≤ R.locals) (hf : cells + mc ≤ R.cells ∧ slots + ms ≤ R.slots) : va_Run p l e R s m args below meth c H locs cells slots mc ms (F0 m pc ls st0) rest (Qc (Value.ref b :: As).toArray) free :=
  run_V (C := RX6) (T := TX6) (N := 23) (ci := 6) X hM hrc hrs wq_276 wq_273 wq_274 wq_275 wq_5 (by decide +kernel) rfl hdg hP hD q0 he isC hC hnd hl hn hst hroom hR hf
theorem cv_X6_127 (X : Cx p s m args c cc nL RX6 D cI cJ) (hM : Met l yX6_isReducibleNow (.code yX6_isReducibleNow cX6_isReducibleNow 5 (some .boolean) :: WL) rm (mPre D cI cJ (.ref b :: As) wc H.size) Qc mc ms free) (hrc : rm.cells = mc) (hrs : rm.slots = ms) (hdg : decode cc pc = .ok (.invokevirtual 127, 3)) (hP : va_P D vwCl ws H) (hD : va_D A ws) (q0 : Nat) (he : ws[q0]? = some (b, .inr (6, fs))) (isC : List Nat) (hC : isC.map (fun i => ws[i]?) = wc.map some) (hnd : va_nd isC = true) (hl : ls.size = nL) (hn : As.length = 0) (hst : st0 = As.reverse ++ .ref b :: rest) (hroom : (rest.map fun v => v.category).sum ≤ 8) (hR : rm.frames + 1 ≤ R.frames ∧ 8 + (5 + 11) + rm.locals ≤ R.locals) (hf : cells + mc ≤ R.cells ∧ slots + ms ≤ R.slots) : va_Run p l e R s m args below meth c H locs cells slots mc ms (F0 m pc ls st0) rest (Qc (Value.ref b :: As).toArray) free :=
  run_V (C := RX6) (T := TX6) (N := 23) (ci := 6) X hM hrc hrs wq_302 wq_299 wq_300 wq_301 wq_5 (by decide +kernel) rfl hdg hP hD q0 he isC hC hnd hl hn hst hroom hR hf
theorem cv_X6_131 (X : Cx p s m args c cc nL RX6 D cI cJ) (hM : Met l yX6_isReducedNow (.code yX6_isReducedNow cX6_isReducedNow 1 (some .boolean) :: WL) rm (mPre D cI cJ (.ref b :: As) wc H.size) Qc mc ms free) (hrc : rm.cells = mc) (hrs : rm.slots = ms) (hdg : decode cc pc = .ok (.invokevirtual 131, 3)) (hP : va_P D vwCl ws H) (hD : va_D A ws) (q0 : Nat) (he : ws[q0]? = some (b, .inr (6, fs))) (isC : List Nat) (hC : isC.map (fun i => ws[i]?) = wc.map some) (hnd : va_nd isC = true) (hl : ls.size = nL) (hn : As.length = 0) (hst : st0 = As.reverse ++ .ref b :: rest) (hroom : (rest.map fun v => v.category).sum ≤ 8) (hR : rm.frames + 1 ≤ R.frames ∧ 8 + (1 + 11) + rm.locals ≤ R.locals) (hf : cells + mc ≤ R.cells ∧ slots + ms ≤ R.slots) : va_Run p l e R s m args below meth c H locs cells slots mc ms (F0 m pc ls st0) rest (Qc (Value.ref b :: As).toArray) free :=
  run_V (C := RX6) (T := TX6) (N := 23) (ci := 6) X hM hrc hrs wq_366 wq_363 wq_364 wq_365 wq_5 (by decide +kernel) rfl hdg hP hD q0 he isC hC hnd hl hn hst hroom hR hf
theorem cv_X6_149 (X : Cx p s m args c cc nL RX6 D cI cJ) (hM : Met l yX6_reduce (.code yX6_reduce cX6_reduce 1 none :: WL) rm (mPre D cI cJ (.ref b :: As) wc H.size) Qc mc ms free) (hrc : rm.cells = mc) (hrs : rm.slots = ms) (hdg : decode cc pc = .ok (.invokevirtual 149, 3)) (hP : va_P D vwCl ws H) (hD : va_D A ws) (q0 : Nat) (he : ws[q0]? = some (b, .inr (6, fs))) (isC : List Nat) (hC : isC.map (fun i => ws[i]?) = wc.map some) (hnd : va_nd isC = true) (hl : ls.size = nL) (hn : As.length = 0) (hst : st0 = As.reverse ++ .ref b :: rest) (hroom : (rest.map fun v => v.category).sum ≤ 8) (hR : rm.frames + 1 ≤ R.frames ∧ 8 + (1 + 11) + rm.locals ≤ R.locals) (hf : cells + mc ≤ R.cells ∧ slots + ms ≤ R.slots) : va_Run p l e R s m args below meth c H locs cells slots mc ms (F0 m pc ls st0) rest (Qc (Value.ref b :: As).toArray) free :=
  run_V (C := RX6) (T := TX6) (N := 23) (ci := 6) X hM hrc hrs wq_362 wq_359 wq_360 wq_361 wq_5 (by decide +kernel) rfl hdg hP hD q0 he isC hC hnd hl hn hst hroom hR hf
theorem cv_X6_152 (X : Cx p s m args c cc nL RX6 D cI cJ) (hM : Met l yX6_keep (.code yX6_keep cX6_keep 1 none :: WL) rm (mPre D cI cJ (.ref b :: As) wc H.size) Qc mc ms free) (hrc : rm.cells = mc) (hrs : rm.slots = ms) (hdg : decode cc pc = .ok (.invokevirtual 152, 3)) (hP : va_P D vwCl ws H) (hD : va_D A ws) (q0 : Nat) (he : ws[q0]? = some (b, .inr (6, fs))) (isC : List Nat) (hC : isC.map (fun i => ws[i]?) = wc.map some) (hnd : va_nd isC = true) (hl : ls.size = nL) (hn : As.length = 0) (hst : st0 = As.reverse ++ .ref b :: rest) (hroom : (rest.map fun v => v.category).sum ≤ 8) (hR : rm.frames + 1 ≤ R.frames ∧ 8 + (1 + 11) + rm.locals ≤ R.locals) (hf : cells + mc ≤ R.cells ∧ slots + ms ≤ R.slots) : va_Run p l e R s m args below meth c H locs cells slots mc ms (F0 m pc ls st0) rest (Qc (Value.ref b :: As).toArray) free :=
  run_V (C := RX6) (T := TX6) (N := 23) (ci := 6) X hM hrc hrs wq_373 wq_370 wq_371 wq_372 wq_5 (by decide +kernel) rfl hdg hP hD q0 he isC hC hnd hl hn hst hroom hR hf
theorem cv_X6_155 (X : Cx p s m args c cc nL RX6 D cI cJ) (hM : Met l yX6_isLess (.code yX6_isLess cX6_isLess 9 (some .boolean) :: WL) rm (mPre D cI cJ (.ref b :: As) wc H.size) Qc mc ms free) (hrc : rm.cells = mc) (hrs : rm.slots = ms) (hdg : decode cc pc = .ok (.invokevirtual 155, 3)) (hP : va_P D vwCl ws H) (hD : va_D A ws) (q0 : Nat) (he : ws[q0]? = some (b, .inr (6, fs))) (isC : List Nat) (hC : isC.map (fun i => ws[i]?) = wc.map some) (hnd : va_nd isC = true) (hl : ls.size = nL) (hn : As.length = 4) (hst : st0 = As.reverse ++ .ref b :: rest) (hroom : (rest.map fun v => v.category).sum ≤ 8) (hR : rm.frames + 1 ≤ R.frames ∧ 8 + (9 + 11) + rm.locals ≤ R.locals) (hf : cells + mc ≤ R.cells ∧ slots + ms ≤ R.slots) : va_Run p l e R s m args below meth c H locs cells slots mc ms (F0 m pc ls st0) rest (Qc (Value.ref b :: As).toArray) free :=
  run_V (C := RX6) (T := TX6) (N := 23) (ci := 6) X hM hrc hrs wq_377 wq_374 wq_375 wq_376 wq_5 (by decide +kernel) rfl hdg hP hD q0 he isC hC hnd hl hn hst hroom hR hf
theorem cv_X6_159 (X : Cx p s m args c cc nL RX6 D cI cJ) (hM : Met l yX6_isPositive (.code yX6_isPositive cX6_isPositive 2 (some .boolean) :: WL) rm (mPre D cI cJ (.ref b :: As) wc H.size) Qc mc ms free) (hrc : rm.cells = mc) (hrs : rm.slots = ms) (hdg : decode cc pc = .ok (.invokevirtual 159, 3)) (hP : va_P D vwCl ws H) (hD : va_D A ws) (q0 : Nat) (he : ws[q0]? = some (b, .inr (6, fs))) (isC : List Nat) (hC : isC.map (fun i => ws[i]?) = wc.map some) (hnd : va_nd isC = true) (hl : ls.size = nL) (hn : As.length = 1) (hst : st0 = As.reverse ++ .ref b :: rest) (hroom : (rest.map fun v => v.category).sum ≤ 8) (hR : rm.frames + 1 ≤ R.frames ∧ 8 + (2 + 11) + rm.locals ≤ R.locals) (hf : cells + mc ≤ R.cells ∧ slots + ms ≤ R.slots) : va_Run p l e R s m args below meth c H locs cells slots mc ms (F0 m pc ls st0) rest (Qc (Value.ref b :: As).toArray) free :=
  run_V (C := RX6) (T := TX6) (N := 23) (ci := 6) X hM hrc hrs wq_350 wq_347 wq_348 wq_349 wq_5 (by decide +kernel) rfl hdg hP hD q0 he isC hC hnd hl hn hst hroom hR hf
theorem cv_X6_162 (X : Cx p s m args c cc nL RX6 D cI cJ) (hM : Met l yX6_canonise (.code yX6_canonise cX6_canonise 14 none :: WL) rm (mPre D cI cJ (.ref b :: As) wc H.size) Qc mc ms free) (hrc : rm.cells = mc) (hrs : rm.slots = ms) (hdg : decode cc pc = .ok (.invokevirtual 162, 3)) (hP : va_P D vwCl ws H) (hD : va_D A ws) (q0 : Nat) (he : ws[q0]? = some (b, .inr (6, fs))) (isC : List Nat) (hC : isC.map (fun i => ws[i]?) = wc.map some) (hnd : va_nd isC = true) (hl : ls.size = nL) (hn : As.length = 0) (hst : st0 = As.reverse ++ .ref b :: rest) (hroom : (rest.map fun v => v.category).sum ≤ 8) (hR : rm.frames + 1 ≤ R.frames ∧ 8 + (14 + 11) + rm.locals ≤ R.locals) (hf : cells + mc ≤ R.cells ∧ slots + ms ≤ R.slots) : va_Run p l e R s m args below meth c H locs cells slots mc ms (F0 m pc ls st0) rest (Qc (Value.ref b :: As).toArray) free :=
  run_V (C := RX6) (T := TX6) (N := 23) (ci := 6) X hM hrc hrs wq_354 wq_351 wq_352 wq_353 wq_5 (by decide +kernel) rfl hdg hP hD q0 he isC hC hnd hl hn hst hroom hR hf
theorem cv_X6_165 (X : Cx p s m args c cc nL RX6 D cI cJ) (hM : Met l yX6_isKept (.code yX6_isKept cX6_isKept 1 (some .boolean) :: WL) rm (mPre D cI cJ (.ref b :: As) wc H.size) Qc mc ms free) (hrc : rm.cells = mc) (hrs : rm.slots = ms) (hdg : decode cc pc = .ok (.invokevirtual 165, 3)) (hP : va_P D vwCl ws H) (hD : va_D A ws) (q0 : Nat) (he : ws[q0]? = some (b, .inr (6, fs))) (isC : List Nat) (hC : isC.map (fun i => ws[i]?) = wc.map some) (hnd : va_nd isC = true) (hl : ls.size = nL) (hn : As.length = 0) (hst : st0 = As.reverse ++ .ref b :: rest) (hroom : (rest.map fun v => v.category).sum ≤ 8) (hR : rm.frames + 1 ≤ R.frames ∧ 8 + (1 + 11) + rm.locals ≤ R.locals) (hf : cells + mc ≤ R.cells ∧ slots + ms ≤ R.slots) : va_Run p l e R s m args below meth c H locs cells slots mc ms (F0 m pc ls st0) rest (Qc (Value.ref b :: As).toArray) free :=
  run_V (C := RX6) (T := TX6) (N := 23) (ci := 6) X hM hrc hrs wq_403 wq_400 wq_401 wq_402 wq_5 (by decide +kernel) rfl hdg hP hD q0 he isC hC hnd hl hn hst hroom hR hf
theorem cv_X6_182 (X : Cx p s m args c cc nL RX6 D cI cJ) (hM : Met l yX6_product (.code yX6_product cX6_product 13 none :: WL) rm (mPre D cI cJ (.ref b :: As) wc H.size) Qc mc ms free) (hrc : rm.cells = mc) (hrs : rm.slots = ms) (hdg : decode cc pc = .ok (.invokevirtual 182, 3)) (hP : va_P D vwCl ws H) (hD : va_D A ws) (q0 : Nat) (he : ws[q0]? = some (b, .inr (6, fs))) (isC : List Nat) (hC : isC.map (fun i => ws[i]?) = wc.map some) (hnd : va_nd isC = true) (hl : ls.size = nL) (hn : As.length = 6) (hst : st0 = As.reverse ++ .ref b :: rest) (hroom : (rest.map fun v => v.category).sum ≤ 8) (hR : rm.frames + 1 ≤ R.frames ∧ 8 + (13 + 11) + rm.locals ≤ R.locals) (hf : cells + mc ≤ R.cells ∧ slots + ms ≤ R.slots) : va_Run p l e R s m args below meth c H locs cells slots mc ms (F0 m pc ls st0) rest (Qc (Value.ref b :: As).toArray) free :=
  run_V (C := RX6) (T := TX6) (N := 23) (ci := 6) X hM hrc hrs wq_469 wq_466 wq_467 wq_468 wq_5 (by decide +kernel) rfl hdg hP hD q0 he isC hC hnd hl hn hst hroom hR hf
theorem cv_X6_186 (X : Cx p s m args c cc nL RX6 D cI cJ) (hM : Met l yX6_layMatrix (.code yX6_layMatrix cX6_layMatrix 8 none :: WL) rm (mPre D cI cJ (.ref b :: As) wc H.size) Qc mc ms free) (hrc : rm.cells = mc) (hrs : rm.slots = ms) (hdg : decode cc pc = .ok (.invokevirtual 186, 3)) (hP : va_P D vwCl ws H) (hD : va_D A ws) (q0 : Nat) (he : ws[q0]? = some (b, .inr (6, fs))) (isC : List Nat) (hC : isC.map (fun i => ws[i]?) = wc.map some) (hnd : va_nd isC = true) (hl : ls.size = nL) (hn : As.length = 3) (hst : st0 = As.reverse ++ .ref b :: rest) (hroom : (rest.map fun v => v.category).sum ≤ 8) (hR : rm.frames + 1 ≤ R.frames ∧ 8 + (8 + 11) + rm.locals ≤ R.locals) (hf : cells + mc ≤ R.cells ∧ slots + ms ≤ R.slots) : va_Run p l e R s m args below meth c H locs cells slots mc ms (F0 m pc ls st0) rest (Qc (Value.ref b :: As).toArray) free :=
  run_V (C := RX6) (T := TX6) (N := 23) (ci := 6) X hM hrc hrs wq_489 wq_486 wq_487 wq_488 wq_5 (by decide +kernel) rfl hdg hP hD q0 he isC hC hnd hl hn hst hroom hR hf
theorem cv_X6_190 (X : Cx p s m args c cc nL RX6 D cI cJ) (hM : Met l yX6_layElement (.code yX6_layElement cX6_layElement 3 (some .boolean) :: WL) rm (mPre D cI cJ (.ref b :: As) wc H.size) Qc mc ms free) (hrc : rm.cells = mc) (hrs : rm.slots = ms) (hdg : decode cc pc = .ok (.invokevirtual 190, 3)) (hP : va_P D vwCl ws H) (hD : va_D A ws) (q0 : Nat) (he : ws[q0]? = some (b, .inr (6, fs))) (isC : List Nat) (hC : isC.map (fun i => ws[i]?) = wc.map some) (hnd : va_nd isC = true) (hl : ls.size = nL) (hn : As.length = 2) (hst : st0 = As.reverse ++ .ref b :: rest) (hroom : (rest.map fun v => v.category).sum ≤ 8) (hR : rm.frames + 1 ≤ R.frames ∧ 8 + (3 + 11) + rm.locals ≤ R.locals) (hf : cells + mc ≤ R.cells ∧ slots + ms ≤ R.slots) : va_Run p l e R s m args below meth c H locs cells slots mc ms (F0 m pc ls st0) rest (Qc (Value.ref b :: As).toArray) free :=
  run_V (C := RX6) (T := TX6) (N := 23) (ci := 6) X hM hrc hrs wq_485 wq_482 wq_483 wq_484 wq_5 (by decide +kernel) rfl hdg hP hD q0 he isC hC hnd hl hn hst hroom hR hf
theorem cv_X6_194 (X : Cx p s m args c cc nL RX6 D cI cJ) (hM : Met l yX6_traceNow (.code yX6_traceNow cX6_traceNow 1 (some .long) :: WL) rm (mPre D cI cJ (.ref b :: As) wc H.size) Qc mc ms free) (hrc : rm.cells = mc) (hrs : rm.slots = ms) (hdg : decode cc pc = .ok (.invokevirtual 194, 3)) (hP : va_P D vwCl ws H) (hD : va_D A ws) (q0 : Nat) (he : ws[q0]? = some (b, .inr (6, fs))) (isC : List Nat) (hC : isC.map (fun i => ws[i]?) = wc.map some) (hnd : va_nd isC = true) (hl : ls.size = nL) (hn : As.length = 0) (hst : st0 = As.reverse ++ .ref b :: rest) (hroom : (rest.map fun v => v.category).sum ≤ 8) (hR : rm.frames + 1 ≤ R.frames ∧ 8 + (1 + 11) + rm.locals ≤ R.locals) (hf : cells + mc ≤ R.cells ∧ slots + ms ≤ R.slots) : va_Run p l e R s m args below meth c H locs cells slots mc ms (F0 m pc ls st0) rest (Qc (Value.ref b :: As).toArray) free :=
  run_V (C := RX6) (T := TX6) (N := 23) (ci := 6) X hM hrc hrs wq_493 wq_490 wq_491 wq_492 wq_5 (by decide +kernel) rfl hdg hP hD q0 he isC hC hnd hl hn hst hroom hR hf
theorem cv_X6_197 (X : Cx p s m args c cc nL RX6 D cI cJ) (hM : Met l yX6_determinant (.code yX6_determinant cX6_determinant 1 (some .long) :: WL) rm (mPre D cI cJ (.ref b :: As) wc H.size) Qc mc ms free) (hrc : rm.cells = mc) (hrs : rm.slots = ms) (hdg : decode cc pc = .ok (.invokevirtual 197, 3)) (hP : va_P D vwCl ws H) (hD : va_D A ws) (q0 : Nat) (he : ws[q0]? = some (b, .inr (6, fs))) (isC : List Nat) (hC : isC.map (fun i => ws[i]?) = wc.map some) (hnd : va_nd isC = true) (hl : ls.size = nL) (hn : As.length = 0) (hst : st0 = As.reverse ++ .ref b :: rest) (hroom : (rest.map fun v => v.category).sum ≤ 8) (hR : rm.frames + 1 ≤ R.frames ∧ 8 + (1 + 11) + rm.locals ≤ R.locals) (hf : cells + mc ≤ R.cells ∧ slots + ms ≤ R.slots) : va_Run p l e R s m args below meth c H locs cells slots mc ms (F0 m pc ls st0) rest (Qc (Value.ref b :: As).toArray) free :=
  run_V (C := RX6) (T := TX6) (N := 23) (ci := 6) X hM hrc hrs wq_512 wq_509 wq_510 wq_511 wq_5 (by decide +kernel) rfl hdg hP hD q0 he isC hC hnd hl hn hst hroom hR hf
theorem cv_X6_217 (X : Cx p s m args c cc nL RX6 D cI cJ) (hM : Met l yX6_dividesAll (.code yX6_dividesAll cX6_dividesAll 3 (some .boolean) :: WL) rm (mPre D cI cJ (.ref b :: As) wc H.size) Qc mc ms free) (hrc : rm.cells = mc) (hrs : rm.slots = ms) (hdg : decode cc pc = .ok (.invokevirtual 217, 3)) (hP : va_P D vwCl ws H) (hD : va_D A ws) (q0 : Nat) (he : ws[q0]? = some (b, .inr (6, fs))) (isC : List Nat) (hC : isC.map (fun i => ws[i]?) = wc.map some) (hnd : va_nd isC = true) (hl : ls.size = nL) (hn : As.length = 1) (hst : st0 = As.reverse ++ .ref b :: rest) (hroom : (rest.map fun v => v.category).sum ≤ 8) (hR : rm.frames + 1 ≤ R.frames ∧ 8 + (3 + 11) + rm.locals ≤ R.locals) (hf : cells + mc ≤ R.cells ∧ slots + ms ≤ R.slots) : va_Run p l e R s m args below meth c H locs cells slots mc ms (F0 m pc ls st0) rest (Qc (Value.ref b :: As).toArray) free :=
  run_V (C := RX6) (T := TX6) (N := 23) (ci := 6) X hM hrc hrs wq_570 wq_567 wq_568 wq_569 wq_5 (by decide +kernel) rfl hdg hP hD q0 he isC hC hnd hl hn hst hroom hR hf
theorem cv_X6_220 (X : Cx p s m args c cc nL RX6 D cI cJ) (hM : Met l yX6_layPoint (.code yX6_layPoint cX6_layPoint 5 none :: WL) rm (mPre D cI cJ (.ref b :: As) wc H.size) Qc mc ms free) (hrc : rm.cells = mc) (hrs : rm.slots = ms) (hdg : decode cc pc = .ok (.invokevirtual 220, 3)) (hP : va_P D vwCl ws H) (hD : va_D A ws) (q0 : Nat) (he : ws[q0]? = some (b, .inr (6, fs))) (isC : List Nat) (hC : isC.map (fun i => ws[i]?) = wc.map some) (hnd : va_nd isC = true) (hl : ls.size = nL) (hn : As.length = 2) (hst : st0 = As.reverse ++ .ref b :: rest) (hroom : (rest.map fun v => v.category).sum ≤ 8) (hR : rm.frames + 1 ≤ R.frames ∧ 8 + (5 + 11) + rm.locals ≤ R.locals) (hf : cells + mc ≤ R.cells ∧ slots + ms ≤ R.slots) : va_Run p l e R s m args below meth c H locs cells slots mc ms (F0 m pc ls st0) rest (Qc (Value.ref b :: As).toArray) free :=
  run_V (C := RX6) (T := TX6) (N := 23) (ci := 6) X hM hrc hrs wq_574 wq_571 wq_572 wq_573 wq_5 (by decide +kernel) rfl hdg hP hD q0 he isC hC hnd hl hn hst hroom hR hf
theorem cv_X6_224 (X : Cx p s m args c cc nL RX6 D cI cJ) (hM : Met l yX6_enlarge (.code yX6_enlarge cX6_enlarge 5 (some .boolean) :: WL) rm (mPre D cI cJ (.ref b :: As) wc H.size) Qc mc ms free) (hrc : rm.cells = mc) (hrs : rm.slots = ms) (hdg : decode cc pc = .ok (.invokevirtual 224, 3)) (hP : va_P D vwCl ws H) (hD : va_D A ws) (q0 : Nat) (he : ws[q0]? = some (b, .inr (6, fs))) (isC : List Nat) (hC : isC.map (fun i => ws[i]?) = wc.map some) (hnd : va_nd isC = true) (hl : ls.size = nL) (hn : As.length = 1) (hst : st0 = As.reverse ++ .ref b :: rest) (hroom : (rest.map fun v => v.category).sum ≤ 8) (hR : rm.frames + 1 ≤ R.frames ∧ 8 + (5 + 11) + rm.locals ≤ R.locals) (hf : cells + mc ≤ R.cells ∧ slots + ms ≤ R.slots) : va_Run p l e R s m args below meth c H locs cells slots mc ms (F0 m pc ls st0) rest (Qc (Value.ref b :: As).toArray) free :=
  run_V (C := RX6) (T := TX6) (N := 23) (ci := 6) X hM hrc hrs wq_597 wq_594 wq_595 wq_596 wq_5 (by decide +kernel) rfl hdg hP hD q0 he isC hC hnd hl hn hst hroom hR hf
theorem cv_X6_227 (X : Cx p s m args c cc nL RX6 D cI cJ) (hM : Met l yX6_enlargeSomewhere (.code yX6_enlargeSomewhere cX6_enlargeSomewhere 4 (some .boolean) :: WL) rm (mPre D cI cJ (.ref b :: As) wc H.size) Qc mc ms free) (hrc : rm.cells = mc) (hrs : rm.slots = ms) (hdg : decode cc pc = .ok (.invokevirtual 227, 3)) (hP : va_P D vwCl ws H) (hD : va_D A ws) (q0 : Nat) (he : ws[q0]? = some (b, .inr (6, fs))) (isC : List Nat) (hC : isC.map (fun i => ws[i]?) = wc.map some) (hnd : va_nd isC = true) (hl : ls.size = nL) (hn : As.length = 0) (hst : st0 = As.reverse ++ .ref b :: rest) (hroom : (rest.map fun v => v.category).sum ≤ 8) (hR : rm.frames + 1 ≤ R.frames ∧ 8 + (4 + 11) + rm.locals ≤ R.locals) (hf : cells + mc ≤ R.cells ∧ slots + ms ≤ R.slots) : va_Run p l e R s m args below meth c H locs cells slots mc ms (F0 m pc ls st0) rest (Qc (Value.ref b :: As).toArray) free :=
  run_V (C := RX6) (T := TX6) (N := 23) (ci := 6) X hM hrc hrs wq_625 wq_622 wq_623 wq_624 wq_5 (by decide +kernel) rfl hdg hP hD q0 he isC hC hnd hl hn hst hroom hR hf
theorem cv_X6_230 (X : Cx p s m args c cc nL RX6 D cI cJ) (hM : Met l yX6_isCanonicalNow (.code yX6_isCanonicalNow cX6_isCanonicalNow 10 (some .boolean) :: WL) rm (mPre D cI cJ (.ref b :: As) wc H.size) Qc mc ms free) (hrc : rm.cells = mc) (hrs : rm.slots = ms) (hdg : decode cc pc = .ok (.invokevirtual 230, 3)) (hP : va_P D vwCl ws H) (hD : va_D A ws) (q0 : Nat) (he : ws[q0]? = some (b, .inr (6, fs))) (isC : List Nat) (hC : isC.map (fun i => ws[i]?) = wc.map some) (hnd : va_nd isC = true) (hl : ls.size = nL) (hn : As.length = 0) (hst : st0 = As.reverse ++ .ref b :: rest) (hroom : (rest.map fun v => v.category).sum ≤ 8) (hR : rm.frames + 1 ≤ R.frames ∧ 8 + (10 + 11) + rm.locals ≤ R.locals) (hf : cells + mc ≤ R.cells ∧ slots + ms ≤ R.slots) : va_Run p l e R s m args below meth c H locs cells slots mc ms (F0 m pc ls st0) rest (Qc (Value.ref b :: As).toArray) free :=
  run_V (C := RX6) (T := TX6) (N := 23) (ci := 6) X hM hrc hrs wq_668 wq_665 wq_666 wq_667 wq_5 (by decide +kernel) rfl hdg hP hD q0 he isC hC hnd hl hn hst hroom hR hf
theorem cv_X6_238 (X : Cx p s m args c cc nL RX6 D cI cJ) (hM : Met l yX6_tabulateNow (.code yX6_tabulateNow cX6_tabulateNow 3 none :: WL) rm (mPre D cI cJ (.ref b :: As) wc H.size) Qc mc ms free) (hrc : rm.cells = mc) (hrs : rm.slots = ms) (hdg : decode cc pc = .ok (.invokevirtual 238, 3)) (hP : va_P D vwCl ws H) (hD : va_D A ws) (q0 : Nat) (he : ws[q0]? = some (b, .inr (6, fs))) (isC : List Nat) (hC : isC.map (fun i => ws[i]?) = wc.map some) (hnd : va_nd isC = true) (hl : ls.size = nL) (hn : As.length = 0) (hst : st0 = As.reverse ++ .ref b :: rest) (hroom : (rest.map fun v => v.category).sum ≤ 8) (hR : rm.frames + 1 ≤ R.frames ∧ 8 + (3 + 11) + rm.locals ≤ R.locals) (hf : cells + mc ≤ R.cells ∧ slots + ms ≤ R.slots) : va_Run p l e R s m args below meth c H locs cells slots mc ms (F0 m pc ls st0) rest (Qc (Value.ref b :: As).toArray) free :=
  run_V (C := RX6) (T := TX6) (N := 23) (ci := 6) X hM hrc hrs wq_664 wq_661 wq_662 wq_663 wq_5 (by decide +kernel) rfl hdg hP hD q0 he isC hC hnd hl hn hst hroom hR hf
theorem cv_X6_241 (X : Cx p s m args c cc nL RX6 D cI cJ) (hM : Met l yX6_tabulate (.code yX6_tabulate cX6_tabulate 2 none :: WL) rm (mPre D cI cJ (.ref b :: As) wc H.size) Qc mc ms free) (hrc : rm.cells = mc) (hrs : rm.slots = ms) (hdg : decode cc pc = .ok (.invokevirtual 241, 3)) (hP : va_P D vwCl ws H) (hD : va_D A ws) (q0 : Nat) (he : ws[q0]? = some (b, .inr (6, fs))) (isC : List Nat) (hC : isC.map (fun i => ws[i]?) = wc.map some) (hnd : va_nd isC = true) (hl : ls.size = nL) (hn : As.length = 0) (hst : st0 = As.reverse ++ .ref b :: rest) (hroom : (rest.map fun v => v.category).sum ≤ 8) (hR : rm.frames + 1 ≤ R.frames ∧ 8 + (2 + 11) + rm.locals ≤ R.locals) (hf : cells + mc ≤ R.cells ∧ slots + ms ≤ R.slots) : va_Run p l e R s m args below meth c H locs cells slots mc ms (F0 m pc ls st0) rest (Qc (Value.ref b :: As).toArray) free :=
  run_V (C := RX6) (T := TX6) (N := 23) (ci := 6) X hM hrc hrs wq_658 wq_655 wq_656 wq_657 wq_5 (by decide +kernel) rfl hdg hP hD q0 he isC hC hnd hl hn hst hroom hR hf
theorem lc_X6_233 (X : Cx p s m args c cc nL RX6 D cI cJ) (hdg : decode cc pc = .ok (.ldc 233, 2)) (kk : W p l e R s m args below meth c H locs cells slots Q (F0 m (pc + 2) ls (.int (130321) :: rest))) : W p l e R s m args below meth c H locs cells slots Q (F0 m pc ls rest) :=
  lv_ldc X.1 X.2.1 X.2.2.2.1 (X.w wq_659) hdg kk
theorem lc_X0_28 (X : Cx p s m args c cc nL RX0 D cI cJ) (hdg : decode cc pc = .ok (.ldc2_w 28, 3)) (kk : W p l e R s m args below meth c H locs cells slots Q (F0 m (pc + 3) ls (.long (300) :: rest))) : W p l e R s m args below meth c H locs cells slots Q (F0 m pc ls rest) :=
  lv_ldc2 X.1 X.2.1 X.2.2.2.1 (X.w wq_98) hdg kk
theorem lc_X0_34 (X : Cx p s m args c cc nL RX0 D cI cJ) (hdg : decode cc pc = .ok (.ldc2_w 34, 3)) (kk : W p l e R s m args below meth c H locs cells slots Q (F0 m (pc + 3) ls (.long (4) :: rest))) : W p l e R s m args below meth c H locs cells slots Q (F0 m pc ls rest) :=
  lv_ldc2 X.1 X.2.1 X.2.2.2.1 (X.w wq_166) hdg kk
theorem lc_X0_36 (X : Cx p s m args c cc nL RX0 D cI cJ) (hdg : decode cc pc = .ok (.ldc2_w 36, 3)) (kk : W p l e R s m args below meth c H locs cells slots Q (F0 m (pc + 3) ls (.long (27) :: rest))) : W p l e R s m args below meth c H locs cells slots Q (F0 m pc ls rest) :=
  lv_ldc2 X.1 X.2.1 X.2.2.2.1 (X.w wq_167) hdg kk
theorem lc_X0_38 (X : Cx p s m args c cc nL RX0 D cI cJ) (hdg : decode cc pc = .ok (.ldc2_w 38, 3)) (kk : W p l e R s m args below meth c H locs cells slots Q (F0 m (pc + 3) ls (.long (18) :: rest))) : W p l e R s m args below meth c H locs cells slots Q (F0 m pc ls rest) :=
  lv_ldc2 X.1 X.2.1 X.2.2.2.1 (X.w wq_168) hdg kk
theorem lc_X0_40 (X : Cx p s m args c cc nL RX0 D cI cJ) (hdg : decode cc pc = .ok (.ldc2_w 40, 3)) (kk : W p l e R s m args below meth c H locs cells slots Q (F0 m (pc + 3) ls (.long (3) :: rest))) : W p l e R s m args below meth c H locs cells slots Q (F0 m pc ls rest) :=
  lv_ldc2 X.1 X.2.1 X.2.2.2.1 (X.w wq_192) hdg kk
theorem lc_X0_42 (X : Cx p s m args c cc nL RX0 D cI cJ) (hdg : decode cc pc = .ok (.ldc2_w 42, 3)) (kk : W p l e R s m args below meth c H locs cells slots Q (F0 m (pc + 3) ls (.long (9) :: rest))) : W p l e R s m args below meth c H locs cells slots Q (F0 m pc ls rest) :=
  lv_ldc2 X.1 X.2.1 X.2.2.2.1 (X.w wq_196) hdg kk
theorem lc_X0_58 (X : Cx p s m args c cc nL RX0 D cI cJ) (hdg : decode cc pc = .ok (.ldc2_w 58, 3)) (kk : W p l e R s m args below meth c H locs cells slots Q (F0 m (pc + 3) ls (.long (2) :: rest))) : W p l e R s m args below meth c H locs cells slots Q (F0 m pc ls rest) :=
  lv_ldc2 X.1 X.2.1 X.2.2.2.1 (X.w wq_252) hdg kk
theorem lc_X1_61 (X : Cx p s m args c cc nL RX1 D cI cJ) (hdg : decode cc pc = .ok (.ldc2_w 61, 3)) (kk : W p l e R s m args below meth c H locs cells slots Q (F0 m (pc + 3) ls (.long (1000) :: rest))) : W p l e R s m args below meth c H locs cells slots Q (F0 m pc ls rest) :=
  lv_ldc2 X.1 X.2.1 X.2.2.2.1 (X.w wq_637) hdg kk
theorem lc_X3_21 (X : Cx p s m args c cc nL RX3 D cI cJ) (hdg : decode cc pc = .ok (.ldc2_w 21, 3)) (kk : W p l e R s m args below meth c H locs cells slots Q (F0 m (pc + 3) ls (.long (100) :: rest))) : W p l e R s m args below meth c H locs cells slots Q (F0 m pc ls rest) :=
  lv_ldc2 X.1 X.2.1 X.2.2.2.1 (X.w wq_424) hdg kk
theorem lc_X3_27 (X : Cx p s m args c cc nL RX3 D cI cJ) (hdg : decode cc pc = .ok (.ldc2_w 27, 3)) (kk : W p l e R s m args below meth c H locs cells slots Q (F0 m (pc + 3) ls (.long (3) :: rest))) : W p l e R s m args below meth c H locs cells slots Q (F0 m pc ls rest) :=
  lv_ldc2 X.1 X.2.1 X.2.2.2.1 (X.w wq_477) hdg kk
theorem lc_X5_87 (X : Cx p s m args c cc nL RX5 D cI cJ) (hdg : decode cc pc = .ok (.ldc2_w 87, 3)) (kk : W p l e R s m args below meth c H locs cells slots Q (F0 m (pc + 3) ls (.long (-9223372036854775808) :: rest))) : W p l e R s m args below meth c H locs cells slots Q (F0 m pc ls rest) :=
  lv_ldc2 X.1 X.2.1 X.2.2.2.1 (X.w wq_158) hdg kk
theorem lc_X5_98 (X : Cx p s m args c cc nL RX5 D cI cJ) (hdg : decode cc pc = .ok (.ldc2_w 98, 3)) (kk : W p l e R s m args below meth c H locs cells slots Q (F0 m (pc + 3) ls (.long (1000) :: rest))) : W p l e R s m args below meth c H locs cells slots Q (F0 m pc ls rest) :=
  lv_ldc2 X.1 X.2.1 X.2.2.2.1 (X.w wq_222) hdg kk
theorem lc_X5_202 (X : Cx p s m args c cc nL RX5 D cI cJ) (hdg : decode cc pc = .ok (.ldc2_w 202, 3)) (kk : W p l e R s m args below meth c H locs cells slots Q (F0 m (pc + 3) ls (.long (100) :: rest))) : W p l e R s m args below meth c H locs cells slots Q (F0 m pc ls rest) :=
  lv_ldc2 X.1 X.2.1 X.2.2.2.1 (X.w wq_244) hdg kk
theorem lc_X6_37 (X : Cx p s m args c cc nL RX6 D cI cJ) (hdg : decode cc pc = .ok (.ldc2_w 37, 3)) (kk : W p l e R s m args below meth c H locs cells slots Q (F0 m (pc + 3) ls (.long (-300) :: rest))) : W p l e R s m args below meth c H locs cells slots Q (F0 m pc ls rest) :=
  lv_ldc2 X.1 X.2.1 X.2.2.2.1 (X.w wq_124) hdg kk
theorem lc_X6_39 (X : Cx p s m args c cc nL RX6 D cI cJ) (hdg : decode cc pc = .ok (.ldc2_w 39, 3)) (kk : W p l e R s m args below meth c H locs cells slots Q (F0 m (pc + 3) ls (.long (300) :: rest))) : W p l e R s m args below meth c H locs cells slots Q (F0 m pc ls rest) :=
  lv_ldc2 X.1 X.2.1 X.2.2.2.1 (X.w wq_125) hdg kk
theorem lc_X6_70 (X : Cx p s m args c cc nL RX6 D cI cJ) (hdg : decode cc pc = .ok (.ldc2_w 70, 3)) (kk : W p l e R s m args below meth c H locs cells slots Q (F0 m (pc + 3) ls (.long (3) :: rest))) : W p l e R s m args below meth c H locs cells slots Q (F0 m pc ls rest) :=
  lv_ldc2 X.1 X.2.1 X.2.2.2.1 (X.w wq_149) hdg kk
theorem lc_X6_72 (X : Cx p s m args c cc nL RX6 D cI cJ) (hdg : decode cc pc = .ok (.ldc2_w 72, 3)) (kk : W p l e R s m args below meth c H locs cells slots Q (F0 m (pc + 3) ls (.long (4) :: rest))) : W p l e R s m args below meth c H locs cells slots Q (F0 m pc ls rest) :=
  lv_ldc2 X.1 X.2.1 X.2.2.2.1 (X.w wq_182) hdg kk
theorem lc_X6_74 (X : Cx p s m args c cc nL RX6 D cI cJ) (hdg : decode cc pc = .ok (.ldc2_w 74, 3)) (kk : W p l e R s m args below meth c H locs cells slots Q (F0 m (pc + 3) ls (.long (27) :: rest))) : W p l e R s m args below meth c H locs cells slots Q (F0 m pc ls rest) :=
  lv_ldc2 X.1 X.2.1 X.2.2.2.1 (X.w wq_183) hdg kk
theorem lc_X6_76 (X : Cx p s m args c cc nL RX6 D cI cJ) (hdg : decode cc pc = .ok (.ldc2_w 76, 3)) (kk : W p l e R s m args below meth c H locs cells slots Q (F0 m (pc + 3) ls (.long (18) :: rest))) : W p l e R s m args below meth c H locs cells slots Q (F0 m pc ls rest) :=
  lv_ldc2 X.1 X.2.1 X.2.2.2.1 (X.w wq_184) hdg kk
theorem lc_X6_78 (X : Cx p s m args c cc nL RX6 D cI cJ) (hdg : decode cc pc = .ok (.ldc2_w 78, 3)) (kk : W p l e R s m args below meth c H locs cells slots Q (F0 m (pc + 3) ls (.long (9) :: rest))) : W p l e R s m args below meth c H locs cells slots Q (F0 m pc ls rest) :=
  lv_ldc2 X.1 X.2.1 X.2.2.2.1 (X.w wq_213) hdg kk
theorem lc_X6_80 (X : Cx p s m args c cc nL RX6 D cI cJ) (hdg : decode cc pc = .ok (.ldc2_w 80, 3)) (kk : W p l e R s m args below meth c H locs cells slots Q (F0 m (pc + 3) ls (.long (-9223372036854775808) :: rest))) : W p l e R s m args below meth c H locs cells slots Q (F0 m pc ls rest) :=
  lv_ldc2 X.1 X.2.1 X.2.2.2.1 (X.w wq_173) hdg kk
theorem lc_X6_90 (X : Cx p s m args c cc nL RX6 D cI cJ) (hdg : decode cc pc = .ok (.ldc2_w 90, 3)) (kk : W p l e R s m args below meth c H locs cells slots Q (F0 m (pc + 3) ls (.long (2) :: rest))) : W p l e R s m args below meth c H locs cells slots Q (F0 m pc ls rest) :=
  lv_ldc2 X.1 X.2.1 X.2.2.2.1 (X.w wq_204) hdg kk
theorem lc_X6_101 (X : Cx p s m args c cc nL RX6 D cI cJ) (hdg : decode cc pc = .ok (.ldc2_w 101, 3)) (kk : W p l e R s m args below meth c H locs cells slots Q (F0 m (pc + 3) ls (.long (-1000) :: rest))) : W p l e R s m args below meth c H locs cells slots Q (F0 m pc ls rest) :=
  lv_ldc2 X.1 X.2.1 X.2.2.2.1 (X.w wq_231) hdg kk
theorem lc_X6_103 (X : Cx p s m args c cc nL RX6 D cI cJ) (hdg : decode cc pc = .ok (.ldc2_w 103, 3)) (kk : W p l e R s m args below meth c H locs cells slots Q (F0 m (pc + 3) ls (.long (1000) :: rest))) : W p l e R s m args below meth c H locs cells slots Q (F0 m pc ls rest) :=
  lv_ldc2 X.1 X.2.1 X.2.2.2.1 (X.w wq_232) hdg kk
theorem lc_X6_113 (X : Cx p s m args c cc nL RX6 D cI cJ) (hdg : decode cc pc = .ok (.ldc2_w 113, 3)) (kk : W p l e R s m args below meth c H locs cells slots Q (F0 m (pc + 3) ls (.long (-100) :: rest))) : W p l e R s m args below meth c H locs cells slots Q (F0 m pc ls rest) :=
  lv_ldc2 X.1 X.2.1 X.2.2.2.1 (X.w wq_265) hdg kk
theorem lc_X6_115 (X : Cx p s m args c cc nL RX6 D cI cJ) (hdg : decode cc pc = .ok (.ldc2_w 115, 3)) (kk : W p l e R s m args below meth c H locs cells slots Q (F0 m (pc + 3) ls (.long (100) :: rest))) : W p l e R s m args below meth c H locs cells slots Q (F0 m pc ls rest) :=
  lv_ldc2 X.1 X.2.1 X.2.2.2.1 (X.w wq_266) hdg kk
theorem lc_X6_168 (X : Cx p s m args c cc nL RX6 D cI cJ) (hdg : decode cc pc = .ok (.ldc2_w 168, 3)) (kk : W p l e R s m args below meth c H locs cells slots Q (F0 m (pc + 3) ls (.long (5) :: rest))) : W p l e R s m args below meth c H locs cells slots Q (F0 m pc ls rest) :=
  lv_ldc2 X.1 X.2.1 X.2.2.2.1 (X.w wq_439) hdg kk
theorem lc_X6_200 (X : Cx p s m args c cc nL RX6 D cI cJ) (hdg : decode cc pc = .ok (.ldc2_w 200, 3)) (kk : W p l e R s m args below meth c H locs cells slots Q (F0 m (pc + 3) ls (.long (997) :: rest))) : W p l e R s m args below meth c H locs cells slots Q (F0 m pc ls rest) :=
  lv_ldc2 X.1 X.2.1 X.2.2.2.1 (X.w wq_566) hdg kk
theorem pf_X0_9 (X : Cx p s m args c cc nL RX0 D cI cJ) (hP : va_P D vwCl ws H) (hD : va_D A ws) (hS : va_S A H0 H locs) (q0 : Nat) (he : ws[q0]? = some (a, .inr (0, fs))) (hn : narrow (.long) v = v) (hfit : fits (.long) v = true) (hl : 0 < fs.length) (hdg : decode cc pc = .ok (.putfield 9, 3)) (kk : ∀ (H1 : Heap) (locs1 : List Loc), va_P D vwCl (ws.set q0 (a, .inr (0, fs.set 0 v))) H1 → va_D A (ws.set q0 (a, .inr (0, fs.set 0 v))) → va_S A H0 H1 locs1 → W p l e R s m args below meth c H1 locs1 cells slots Q (F0 m (pc + 3) ls rest)) : W p l e R s m args below meth c H locs cells slots Q (F0 m pc ls (v :: .ref a :: rest)) :=
  va_put (D := D) (ci := 0) (ty := .long) (C := RX0) (T := TX0) (N := 4) X.1 X.2.1 X.2.2.2.2.1 inlX0 tyX0 tyX0_ok nmX0 X.2.2.2.1 X.k hP hD hS q0 he rfl 0 (by decide) (X.w wq_91) (fun _ h9 => h9) rfl (by decide +kernel) hn hfit hl hdg kk
theorem pf_X0_15 (X : Cx p s m args c cc nL RX0 D cI cJ) (hP : va_P D vwCl ws H) (hD : va_D A ws) (hS : va_S A H0 H locs) (q0 : Nat) (he : ws[q0]? = some (a, .inr (0, fs))) (hn : narrow (.long) v = v) (hfit : fits (.long) v = true) (hl : 1 < fs.length) (hdg : decode cc pc = .ok (.putfield 15, 3)) (kk : ∀ (H1 : Heap) (locs1 : List Loc), va_P D vwCl (ws.set q0 (a, .inr (0, fs.set 1 v))) H1 → va_D A (ws.set q0 (a, .inr (0, fs.set 1 v))) → va_S A H0 H1 locs1 → W p l e R s m args below meth c H1 locs1 cells slots Q (F0 m (pc + 3) ls rest)) : W p l e R s m args below meth c H locs cells slots Q (F0 m pc ls (v :: .ref a :: rest)) :=
  va_put (D := D) (ci := 0) (ty := .long) (C := RX0) (T := TX0) (N := 4) X.1 X.2.1 X.2.2.2.2.1 inlX0 tyX0 tyX0_ok nmX0 X.2.2.2.1 X.k hP hD hS q0 he rfl 1 (by decide) (X.w wq_92) (fun _ h9 => h9) rfl (by decide +kernel) hn hfit hl hdg kk
theorem pf_X0_18 (X : Cx p s m args c cc nL RX0 D cI cJ) (hP : va_P D vwCl ws H) (hD : va_D A ws) (hS : va_S A H0 H locs) (q0 : Nat) (he : ws[q0]? = some (a, .inr (0, fs))) (hn : narrow (.long) v = v) (hfit : fits (.long) v = true) (hl : 2 < fs.length) (hdg : decode cc pc = .ok (.putfield 18, 3)) (kk : ∀ (H1 : Heap) (locs1 : List Loc), va_P D vwCl (ws.set q0 (a, .inr (0, fs.set 2 v))) H1 → va_D A (ws.set q0 (a, .inr (0, fs.set 2 v))) → va_S A H0 H1 locs1 → W p l e R s m args below meth c H1 locs1 cells slots Q (F0 m (pc + 3) ls rest)) : W p l e R s m args below meth c H locs cells slots Q (F0 m pc ls (v :: .ref a :: rest)) :=
  va_put (D := D) (ci := 0) (ty := .long) (C := RX0) (T := TX0) (N := 4) X.1 X.2.1 X.2.2.2.2.1 inlX0 tyX0 tyX0_ok nmX0 X.2.2.2.1 X.k hP hD hS q0 he rfl 2 (by decide) (X.w wq_93) (fun _ h9 => h9) rfl (by decide +kernel) hn hfit hl hdg kk
theorem pf_X0_21 (X : Cx p s m args c cc nL RX0 D cI cJ) (hP : va_P D vwCl ws H) (hD : va_D A ws) (hS : va_S A H0 H locs) (q0 : Nat) (he : ws[q0]? = some (a, .inr (0, fs))) (hn : narrow (.long) v = v) (hfit : fits (.long) v = true) (hl : 3 < fs.length) (hdg : decode cc pc = .ok (.putfield 21, 3)) (kk : ∀ (H1 : Heap) (locs1 : List Loc), va_P D vwCl (ws.set q0 (a, .inr (0, fs.set 3 v))) H1 → va_D A (ws.set q0 (a, .inr (0, fs.set 3 v))) → va_S A H0 H1 locs1 → W p l e R s m args below meth c H1 locs1 cells slots Q (F0 m (pc + 3) ls rest)) : W p l e R s m args below meth c H locs cells slots Q (F0 m pc ls (v :: .ref a :: rest)) :=
  va_put (D := D) (ci := 0) (ty := .long) (C := RX0) (T := TX0) (N := 4) X.1 X.2.1 X.2.2.2.2.1 inlX0 tyX0 tyX0_ok nmX0 X.2.2.2.1 X.k hP hD hS q0 he rfl 3 (by decide) (X.w wq_94) (fun _ h9 => h9) rfl (by decide +kernel) hn hfit hl hdg kk
theorem pf_X1_9 (hin : meth.name = "<init>") (X : Cx p s m args c cc nL RX1 D cI cJ) (hP : va_P D vwCl ws H) (hD : va_D A ws) (hS : va_S A H0 H locs) (q0 : Nat) (he : ws[q0]? = some (a, .inr (1, fs))) (hn : narrow (.array .int) v = v) (hfit : fits (.array .int) v = true) (hl : 0 < fs.length) (hdg : decode cc pc = .ok (.putfield 9, 3)) (kk : ∀ (H1 : Heap) (locs1 : List Loc), va_P D vwCl (ws.set q0 (a, .inr (1, fs.set 0 v))) H1 → va_D A (ws.set q0 (a, .inr (1, fs.set 0 v))) → va_S A H0 H1 locs1 → W p l e R s m args below meth c H1 locs1 cells slots Q (F0 m (pc + 3) ls rest)) : W p l e R s m args below meth c H locs cells slots Q (F0 m pc ls (v :: .ref a :: rest)) :=
  va_putF (D := D) (ci := 1) (ty := .array .int) (C := RX1) (T := TX1) (N := 7) X.1 X.2.1 X.2.2.2.2.1 inlX1 tyX1 tyX1_ok nmX1 X.2.2.2.1 X.k hP hD hS q0 he rfl 0 (by decide) (X.w wq_64) (fun _ h9 => h9) rfl hin rfl (by decide +kernel) hn hfit hl hdg kk
theorem pf_X1_13 (X : Cx p s m args c cc nL RX1 D cI cJ) (hP : va_P D vwCl ws H) (hD : va_D A ws) (hS : va_S A H0 H locs) (q0 : Nat) (he : ws[q0]? = some (a, .inr (1, fs))) (hn : narrow (.int) v = v) (hfit : fits (.int) v = true) (hl : 1 < fs.length) (hdg : decode cc pc = .ok (.putfield 13, 3)) (kk : ∀ (H1 : Heap) (locs1 : List Loc), va_P D vwCl (ws.set q0 (a, .inr (1, fs.set 1 v))) H1 → va_D A (ws.set q0 (a, .inr (1, fs.set 1 v))) → va_S A H0 H1 locs1 → W p l e R s m args below meth c H1 locs1 cells slots Q (F0 m (pc + 3) ls rest)) : W p l e R s m args below meth c H locs cells slots Q (F0 m pc ls (v :: .ref a :: rest)) :=
  va_put (D := D) (ci := 1) (ty := .int) (C := RX1) (T := TX1) (N := 7) X.1 X.2.1 X.2.2.2.2.1 inlX1 tyX1 tyX1_ok nmX1 X.2.2.2.1 X.k hP hD hS q0 he rfl 1 (by decide) (X.w wq_65) (fun _ h9 => h9) rfl (by decide +kernel) hn hfit hl hdg kk
theorem pf_X1_17 (hin : meth.name = "<init>") (X : Cx p s m args c cc nL RX1 D cI cJ) (hP : va_P D vwCl ws H) (hD : va_D A ws) (hS : va_S A H0 H locs) (q0 : Nat) (he : ws[q0]? = some (a, .inr (1, fs))) (hn : narrow (.array .int) v = v) (hfit : fits (.array .int) v = true) (hl : 2 < fs.length) (hdg : decode cc pc = .ok (.putfield 17, 3)) (kk : ∀ (H1 : Heap) (locs1 : List Loc), va_P D vwCl (ws.set q0 (a, .inr (1, fs.set 2 v))) H1 → va_D A (ws.set q0 (a, .inr (1, fs.set 2 v))) → va_S A H0 H1 locs1 → W p l e R s m args below meth c H1 locs1 cells slots Q (F0 m (pc + 3) ls rest)) : W p l e R s m args below meth c H locs cells slots Q (F0 m pc ls (v :: .ref a :: rest)) :=
  va_putF (D := D) (ci := 1) (ty := .array .int) (C := RX1) (T := TX1) (N := 7) X.1 X.2.1 X.2.2.2.2.1 inlX1 tyX1 tyX1_ok nmX1 X.2.2.2.1 X.k hP hD hS q0 he rfl 2 (by decide) (X.w wq_66) (fun _ h9 => h9) rfl hin rfl (by decide +kernel) hn hfit hl hdg kk
theorem pf_X1_20 (X : Cx p s m args c cc nL RX1 D cI cJ) (hP : va_P D vwCl ws H) (hD : va_D A ws) (hS : va_S A H0 H locs) (q0 : Nat) (he : ws[q0]? = some (a, .inr (1, fs))) (hn : narrow (.int) v = v) (hfit : fits (.int) v = true) (hl : 3 < fs.length) (hdg : decode cc pc = .ok (.putfield 20, 3)) (kk : ∀ (H1 : Heap) (locs1 : List Loc), va_P D vwCl (ws.set q0 (a, .inr (1, fs.set 3 v))) H1 → va_D A (ws.set q0 (a, .inr (1, fs.set 3 v))) → va_S A H0 H1 locs1 → W p l e R s m args below meth c H1 locs1 cells slots Q (F0 m (pc + 3) ls rest)) : W p l e R s m args below meth c H locs cells slots Q (F0 m pc ls (v :: .ref a :: rest)) :=
  va_put (D := D) (ci := 1) (ty := .int) (C := RX1) (T := TX1) (N := 7) X.1 X.2.1 X.2.2.2.2.1 inlX1 tyX1 tyX1_ok nmX1 X.2.2.2.1 X.k hP hD hS q0 he rfl 3 (by decide) (X.w wq_67) (fun _ h9 => h9) rfl (by decide +kernel) hn hfit hl hdg kk
theorem pf_X1_23 (X : Cx p s m args c cc nL RX1 D cI cJ) (hP : va_P D vwCl ws H) (hD : va_D A ws) (hS : va_S A H0 H locs) (q0 : Nat) (he : ws[q0]? = some (a, .inr (1, fs))) (hn : narrow (.boolean) v = v) (hfit : fits (.boolean) v = true) (hl : 4 < fs.length) (hdg : decode cc pc = .ok (.putfield 23, 3)) (kk : ∀ (H1 : Heap) (locs1 : List Loc), va_P D vwCl (ws.set q0 (a, .inr (1, fs.set 4 v))) H1 → va_D A (ws.set q0 (a, .inr (1, fs.set 4 v))) → va_S A H0 H1 locs1 → W p l e R s m args below meth c H1 locs1 cells slots Q (F0 m (pc + 3) ls rest)) : W p l e R s m args below meth c H locs cells slots Q (F0 m pc ls (v :: .ref a :: rest)) :=
  va_put (D := D) (ci := 1) (ty := .boolean) (C := RX1) (T := TX1) (N := 7) X.1 X.2.1 X.2.2.2.2.1 inlX1 tyX1 tyX1_ok nmX1 X.2.2.2.1 X.k hP hD hS q0 he rfl 4 (by decide) (X.w wq_68) (fun _ h9 => h9) rfl (by decide +kernel) hn hfit hl hdg kk
theorem pf_X1_30 (hin : meth.name = "<init>") (X : Cx p s m args c cc nL RX1 D cI cJ) (hP : va_P D vwCl ws H) (hD : va_D A ws) (hS : va_S A H0 H locs) (q0 : Nat) (he : ws[q0]? = some (a, .inr (1, fs))) (hn : narrow (.object "CubicForms$Cubic") v = v) (hfit : fits (.object "CubicForms$Cubic") v = true) (hl : 5 < fs.length) (hdg : decode cc pc = .ok (.putfield 30, 3)) (kk : ∀ (H1 : Heap) (locs1 : List Loc), va_P D vwCl (ws.set q0 (a, .inr (1, fs.set 5 v))) H1 → va_D A (ws.set q0 (a, .inr (1, fs.set 5 v))) → va_S A H0 H1 locs1 → W p l e R s m args below meth c H1 locs1 cells slots Q (F0 m (pc + 3) ls rest)) : W p l e R s m args below meth c H locs cells slots Q (F0 m pc ls (v :: .ref a :: rest)) :=
  va_putF (D := D) (ci := 1) (ty := .object "CubicForms$Cubic") (C := RX1) (T := TX1) (N := 7) X.1 X.2.1 X.2.2.2.2.1 inlX1 tyX1 tyX1_ok nmX1 X.2.2.2.1 X.k hP hD hS q0 he rfl 5 (by decide) (X.w wq_70) (fun _ h9 => h9) rfl hin rfl (by decide +kernel) hn hfit hl hdg kk
theorem pf_X1_34 (hin : meth.name = "<init>") (X : Cx p s m args c cc nL RX1 D cI cJ) (hP : va_P D vwCl ws H) (hD : va_D A ws) (hS : va_S A H0 H locs) (q0 : Nat) (he : ws[q0]? = some (a, .inr (1, fs))) (hn : narrow (.object "CubicForms$Cubic") v = v) (hfit : fits (.object "CubicForms$Cubic") v = true) (hl : 6 < fs.length) (hdg : decode cc pc = .ok (.putfield 34, 3)) (kk : ∀ (H1 : Heap) (locs1 : List Loc), va_P D vwCl (ws.set q0 (a, .inr (1, fs.set 6 v))) H1 → va_D A (ws.set q0 (a, .inr (1, fs.set 6 v))) → va_S A H0 H1 locs1 → W p l e R s m args below meth c H1 locs1 cells slots Q (F0 m (pc + 3) ls rest)) : W p l e R s m args below meth c H locs cells slots Q (F0 m pc ls (v :: .ref a :: rest)) :=
  va_putF (D := D) (ci := 1) (ty := .object "CubicForms$Cubic") (C := RX1) (T := TX1) (N := 7) X.1 X.2.1 X.2.2.2.2.1 inlX1 tyX1 tyX1_ok nmX1 X.2.2.2.1 X.k hP hD hS q0 he rfl 6 (by decide) (X.w wq_71) (fun _ h9 => h9) rfl hin rfl (by decide +kernel) hn hfit hl hdg kk
theorem pf_X2_10 (hin : meth.name = "<init>") (X : Cx p s m args c cc nL RX2 D cI cJ) (hP : va_P D vwCl ws H) (hD : va_D A ws) (hS : va_S A H0 H locs) (q0 : Nat) (he : ws[q0]? = some (a, .inr (2, fs))) (hn : narrow (.object "CubicForms$RingElement") v = v) (hfit : fits (.object "CubicForms$RingElement") v = true) (hl : 0 < fs.length) (hdg : decode cc pc = .ok (.putfield 10, 3)) (kk : ∀ (H1 : Heap) (locs1 : List Loc), va_P D vwCl (ws.set q0 (a, .inr (2, fs.set 0 v))) H1 → va_D A (ws.set q0 (a, .inr (2, fs.set 0 v))) → va_S A H0 H1 locs1 → W p l e R s m args below meth c H1 locs1 cells slots Q (F0 m (pc + 3) ls rest)) : W p l e R s m args below meth c H locs cells slots Q (F0 m pc ls (v :: .ref a :: rest)) :=
  va_putF (D := D) (ci := 2) (ty := .object "CubicForms$RingElement") (C := RX2) (T := TX2) (N := 7) X.1 X.2.1 X.2.2.2.2.1 inlX2 tyX2 tyX2_ok nmX2 X.2.2.2.1 X.k hP hD hS q0 he rfl 0 (by decide) (X.w wq_54) (fun _ h9 => h9) rfl hin rfl (by decide +kernel) hn hfit hl hdg kk
theorem pf_X2_16 (hin : meth.name = "<init>") (X : Cx p s m args c cc nL RX2 D cI cJ) (hP : va_P D vwCl ws H) (hD : va_D A ws) (hS : va_S A H0 H locs) (q0 : Nat) (he : ws[q0]? = some (a, .inr (2, fs))) (hn : narrow (.object "CubicForms$RingElement") v = v) (hfit : fits (.object "CubicForms$RingElement") v = true) (hl : 1 < fs.length) (hdg : decode cc pc = .ok (.putfield 16, 3)) (kk : ∀ (H1 : Heap) (locs1 : List Loc), va_P D vwCl (ws.set q0 (a, .inr (2, fs.set 1 v))) H1 → va_D A (ws.set q0 (a, .inr (2, fs.set 1 v))) → va_S A H0 H1 locs1 → W p l e R s m args below meth c H1 locs1 cells slots Q (F0 m (pc + 3) ls rest)) : W p l e R s m args below meth c H locs cells slots Q (F0 m pc ls (v :: .ref a :: rest)) :=
  va_putF (D := D) (ci := 2) (ty := .object "CubicForms$RingElement") (C := RX2) (T := TX2) (N := 7) X.1 X.2.1 X.2.2.2.2.1 inlX2 tyX2 tyX2_ok nmX2 X.2.2.2.1 X.k hP hD hS q0 he rfl 1 (by decide) (X.w wq_55) (fun _ h9 => h9) rfl hin rfl (by decide +kernel) hn hfit hl hdg kk
theorem pf_X2_19 (hin : meth.name = "<init>") (X : Cx p s m args c cc nL RX2 D cI cJ) (hP : va_P D vwCl ws H) (hD : va_D A ws) (hS : va_S A H0 H locs) (q0 : Nat) (he : ws[q0]? = some (a, .inr (2, fs))) (hn : narrow (.object "CubicForms$RingElement") v = v) (hfit : fits (.object "CubicForms$RingElement") v = true) (hl : 2 < fs.length) (hdg : decode cc pc = .ok (.putfield 19, 3)) (kk : ∀ (H1 : Heap) (locs1 : List Loc), va_P D vwCl (ws.set q0 (a, .inr (2, fs.set 2 v))) H1 → va_D A (ws.set q0 (a, .inr (2, fs.set 2 v))) → va_S A H0 H1 locs1 → W p l e R s m args below meth c H1 locs1 cells slots Q (F0 m (pc + 3) ls rest)) : W p l e R s m args below meth c H locs cells slots Q (F0 m pc ls (v :: .ref a :: rest)) :=
  va_putF (D := D) (ci := 2) (ty := .object "CubicForms$RingElement") (C := RX2) (T := TX2) (N := 7) X.1 X.2.1 X.2.2.2.2.1 inlX2 tyX2 tyX2_ok nmX2 X.2.2.2.1 X.k hP hD hS q0 he rfl 2 (by decide) (X.w wq_56) (fun _ h9 => h9) rfl hin rfl (by decide +kernel) hn hfit hl hdg kk
theorem pf_X2_22 (hin : meth.name = "<init>") (X : Cx p s m args c cc nL RX2 D cI cJ) (hP : va_P D vwCl ws H) (hD : va_D A ws) (hS : va_S A H0 H locs) (q0 : Nat) (he : ws[q0]? = some (a, .inr (2, fs))) (hn : narrow (.object "CubicForms$RingElement") v = v) (hfit : fits (.object "CubicForms$RingElement") v = true) (hl : 3 < fs.length) (hdg : decode cc pc = .ok (.putfield 22, 3)) (kk : ∀ (H1 : Heap) (locs1 : List Loc), va_P D vwCl (ws.set q0 (a, .inr (2, fs.set 3 v))) H1 → va_D A (ws.set q0 (a, .inr (2, fs.set 3 v))) → va_S A H0 H1 locs1 → W p l e R s m args below meth c H1 locs1 cells slots Q (F0 m (pc + 3) ls rest)) : W p l e R s m args below meth c H locs cells slots Q (F0 m pc ls (v :: .ref a :: rest)) :=
  va_putF (D := D) (ci := 2) (ty := .object "CubicForms$RingElement") (C := RX2) (T := TX2) (N := 7) X.1 X.2.1 X.2.2.2.2.1 inlX2 tyX2 tyX2_ok nmX2 X.2.2.2.1 X.k hP hD hS q0 he rfl 3 (by decide) (X.w wq_57) (fun _ h9 => h9) rfl hin rfl (by decide +kernel) hn hfit hl hdg kk
theorem pf_X2_25 (hin : meth.name = "<init>") (X : Cx p s m args c cc nL RX2 D cI cJ) (hP : va_P D vwCl ws H) (hD : va_D A ws) (hS : va_S A H0 H locs) (q0 : Nat) (he : ws[q0]? = some (a, .inr (2, fs))) (hn : narrow (.object "CubicForms$RingElement") v = v) (hfit : fits (.object "CubicForms$RingElement") v = true) (hl : 4 < fs.length) (hdg : decode cc pc = .ok (.putfield 25, 3)) (kk : ∀ (H1 : Heap) (locs1 : List Loc), va_P D vwCl (ws.set q0 (a, .inr (2, fs.set 4 v))) H1 → va_D A (ws.set q0 (a, .inr (2, fs.set 4 v))) → va_S A H0 H1 locs1 → W p l e R s m args below meth c H1 locs1 cells slots Q (F0 m (pc + 3) ls rest)) : W p l e R s m args below meth c H locs cells slots Q (F0 m pc ls (v :: .ref a :: rest)) :=
  va_putF (D := D) (ci := 2) (ty := .object "CubicForms$RingElement") (C := RX2) (T := TX2) (N := 7) X.1 X.2.1 X.2.2.2.2.1 inlX2 tyX2 tyX2_ok nmX2 X.2.2.2.1 X.k hP hD hS q0 he rfl 4 (by decide) (X.w wq_58) (fun _ h9 => h9) rfl hin rfl (by decide +kernel) hn hfit hl hdg kk
theorem pf_X2_28 (hin : meth.name = "<init>") (X : Cx p s m args c cc nL RX2 D cI cJ) (hP : va_P D vwCl ws H) (hD : va_D A ws) (hS : va_S A H0 H locs) (q0 : Nat) (he : ws[q0]? = some (a, .inr (2, fs))) (hn : narrow (.object "CubicForms$RingElement") v = v) (hfit : fits (.object "CubicForms$RingElement") v = true) (hl : 5 < fs.length) (hdg : decode cc pc = .ok (.putfield 28, 3)) (kk : ∀ (H1 : Heap) (locs1 : List Loc), va_P D vwCl (ws.set q0 (a, .inr (2, fs.set 5 v))) H1 → va_D A (ws.set q0 (a, .inr (2, fs.set 5 v))) → va_S A H0 H1 locs1 → W p l e R s m args below meth c H1 locs1 cells slots Q (F0 m (pc + 3) ls rest)) : W p l e R s m args below meth c H locs cells slots Q (F0 m pc ls (v :: .ref a :: rest)) :=
  va_putF (D := D) (ci := 2) (ty := .object "CubicForms$RingElement") (C := RX2) (T := TX2) (N := 7) X.1 X.2.1 X.2.2.2.2.1 inlX2 tyX2 tyX2_ok nmX2 X.2.2.2.1 X.k hP hD hS q0 he rfl 5 (by decide) (X.w wq_59) (fun _ h9 => h9) rfl hin rfl (by decide +kernel) hn hfit hl hdg kk
theorem pf_X2_31 (hin : meth.name = "<init>") (X : Cx p s m args c cc nL RX2 D cI cJ) (hP : va_P D vwCl ws H) (hD : va_D A ws) (hS : va_S A H0 H locs) (q0 : Nat) (he : ws[q0]? = some (a, .inr (2, fs))) (hn : narrow (.object "CubicForms$RingElement") v = v) (hfit : fits (.object "CubicForms$RingElement") v = true) (hl : 6 < fs.length) (hdg : decode cc pc = .ok (.putfield 31, 3)) (kk : ∀ (H1 : Heap) (locs1 : List Loc), va_P D vwCl (ws.set q0 (a, .inr (2, fs.set 6 v))) H1 → va_D A (ws.set q0 (a, .inr (2, fs.set 6 v))) → va_S A H0 H1 locs1 → W p l e R s m args below meth c H1 locs1 cells slots Q (F0 m (pc + 3) ls rest)) : W p l e R s m args below meth c H locs cells slots Q (F0 m pc ls (v :: .ref a :: rest)) :=
  va_putF (D := D) (ci := 2) (ty := .object "CubicForms$RingElement") (C := RX2) (T := TX2) (N := 7) X.1 X.2.1 X.2.2.2.2.1 inlX2 tyX2 tyX2_ok nmX2 X.2.2.2.1 X.k hP hD hS q0 he rfl 6 (by decide) (X.w wq_60) (fun _ h9 => h9) rfl hin rfl (by decide +kernel) hn hfit hl hdg kk
theorem pf_X2_34 (X : Cx p s m args c cc nL RX2 D cI cJ) (hP : va_P D vwCl ws H) (hD : va_D A ws) (hS : va_S A H0 H locs) (q0 : Nat) (he : ws[q0]? = some (a, .inr (3, fs))) (hn : narrow (.long) v = v) (hfit : fits (.long) v = true) (hl : 0 < fs.length) (hdg : decode cc pc = .ok (.putfield 34, 3)) (kk : ∀ (H1 : Heap) (locs1 : List Loc), va_P D vwCl (ws.set q0 (a, .inr (3, fs.set 0 v))) H1 → va_D A (ws.set q0 (a, .inr (3, fs.set 0 v))) → va_S A H0 H1 locs1 → W p l e R s m args below meth c H1 locs1 cells slots Q (F0 m (pc + 3) ls rest)) : W p l e R s m args below meth c H locs cells slots Q (F0 m pc ls (v :: .ref a :: rest)) :=
  va_putN (host := "CubicForms") (D := D) (ci := 3) (ty := .long) (C := RX3) (T := TX3) (N := 3) X.1 X.2.1 X.2.2.2.2.1 inlX3 tyX3 tyX3_ok nmX3 X.2.2.2.1 X.k hP hD hS q0 he rfl 0 (by decide) (va_Nw.use rfl (X.nw (w := .fieldLinkNest RX2 34 "CubicForms$RingElement" "u" "J" "CubicForms") nq_10)) (fun _ h9 => h9) rfl (by decide +kernel) hn hfit hl hdg kk
theorem pf_X2_38 (X : Cx p s m args c cc nL RX2 D cI cJ) (hP : va_P D vwCl ws H) (hD : va_D A ws) (hS : va_S A H0 H locs) (q0 : Nat) (he : ws[q0]? = some (a, .inr (3, fs))) (hn : narrow (.long) v = v) (hfit : fits (.long) v = true) (hl : 1 < fs.length) (hdg : decode cc pc = .ok (.putfield 38, 3)) (kk : ∀ (H1 : Heap) (locs1 : List Loc), va_P D vwCl (ws.set q0 (a, .inr (3, fs.set 1 v))) H1 → va_D A (ws.set q0 (a, .inr (3, fs.set 1 v))) → va_S A H0 H1 locs1 → W p l e R s m args below meth c H1 locs1 cells slots Q (F0 m (pc + 3) ls rest)) : W p l e R s m args below meth c H locs cells slots Q (F0 m pc ls (v :: .ref a :: rest)) :=
  va_putN (host := "CubicForms") (D := D) (ci := 3) (ty := .long) (C := RX3) (T := TX3) (N := 3) X.1 X.2.1 X.2.2.2.2.1 inlX3 tyX3 tyX3_ok nmX3 X.2.2.2.1 X.k hP hD hS q0 he rfl 1 (by decide) (va_Nw.use rfl (X.nw (w := .fieldLinkNest RX2 38 "CubicForms$RingElement" "v" "J" "CubicForms") nq_12)) (fun _ h9 => h9) rfl (by decide +kernel) hn hfit hl hdg kk
theorem pf_X2_41 (X : Cx p s m args c cc nL RX2 D cI cJ) (hP : va_P D vwCl ws H) (hD : va_D A ws) (hS : va_S A H0 H locs) (q0 : Nat) (he : ws[q0]? = some (a, .inr (3, fs))) (hn : narrow (.long) v = v) (hfit : fits (.long) v = true) (hl : 2 < fs.length) (hdg : decode cc pc = .ok (.putfield 41, 3)) (kk : ∀ (H1 : Heap) (locs1 : List Loc), va_P D vwCl (ws.set q0 (a, .inr (3, fs.set 2 v))) H1 → va_D A (ws.set q0 (a, .inr (3, fs.set 2 v))) → va_S A H0 H1 locs1 → W p l e R s m args below meth c H1 locs1 cells slots Q (F0 m (pc + 3) ls rest)) : W p l e R s m args below meth c H locs cells slots Q (F0 m pc ls (v :: .ref a :: rest)) :=
  va_putN (host := "CubicForms") (D := D) (ci := 3) (ty := .long) (C := RX3) (T := TX3) (N := 3) X.1 X.2.1 X.2.2.2.2.1 inlX3 tyX3 tyX3_ok nmX3 X.2.2.2.1 X.k hP hD hS q0 he rfl 2 (by decide) (va_Nw.use rfl (X.nw (w := .fieldLinkNest RX2 41 "CubicForms$RingElement" "t" "J" "CubicForms") nq_14)) (fun _ h9 => h9) rfl (by decide +kernel) hn hfit hl hdg kk
theorem pf_X3_9 (X : Cx p s m args c cc nL RX3 D cI cJ) (hP : va_P D vwCl ws H) (hD : va_D A ws) (hS : va_S A H0 H locs) (q0 : Nat) (he : ws[q0]? = some (a, .inr (3, fs))) (hn : narrow (.long) v = v) (hfit : fits (.long) v = true) (hl : 0 < fs.length) (hdg : decode cc pc = .ok (.putfield 9, 3)) (kk : ∀ (H1 : Heap) (locs1 : List Loc), va_P D vwCl (ws.set q0 (a, .inr (3, fs.set 0 v))) H1 → va_D A (ws.set q0 (a, .inr (3, fs.set 0 v))) → va_S A H0 H1 locs1 → W p l e R s m args below meth c H1 locs1 cells slots Q (F0 m (pc + 3) ls rest)) : W p l e R s m args below meth c H locs cells slots Q (F0 m pc ls (v :: .ref a :: rest)) :=
  va_put (D := D) (ci := 3) (ty := .long) (C := RX3) (T := TX3) (N := 3) X.1 X.2.1 X.2.2.2.2.1 inlX3 tyX3 tyX3_ok nmX3 X.2.2.2.1 X.k hP hD hS q0 he rfl 0 (by decide) (X.w wq_418) (fun _ h9 => h9) rfl (by decide +kernel) hn hfit hl hdg kk
theorem pf_X3_15 (X : Cx p s m args c cc nL RX3 D cI cJ) (hP : va_P D vwCl ws H) (hD : va_D A ws) (hS : va_S A H0 H locs) (q0 : Nat) (he : ws[q0]? = some (a, .inr (3, fs))) (hn : narrow (.long) v = v) (hfit : fits (.long) v = true) (hl : 1 < fs.length) (hdg : decode cc pc = .ok (.putfield 15, 3)) (kk : ∀ (H1 : Heap) (locs1 : List Loc), va_P D vwCl (ws.set q0 (a, .inr (3, fs.set 1 v))) H1 → va_D A (ws.set q0 (a, .inr (3, fs.set 1 v))) → va_S A H0 H1 locs1 → W p l e R s m args below meth c H1 locs1 cells slots Q (F0 m (pc + 3) ls rest)) : W p l e R s m args below meth c H locs cells slots Q (F0 m pc ls (v :: .ref a :: rest)) :=
  va_put (D := D) (ci := 3) (ty := .long) (C := RX3) (T := TX3) (N := 3) X.1 X.2.1 X.2.2.2.2.1 inlX3 tyX3 tyX3_ok nmX3 X.2.2.2.1 X.k hP hD hS q0 he rfl 1 (by decide) (X.w wq_419) (fun _ h9 => h9) rfl (by decide +kernel) hn hfit hl hdg kk
theorem pf_X3_18 (X : Cx p s m args c cc nL RX3 D cI cJ) (hP : va_P D vwCl ws H) (hD : va_D A ws) (hS : va_S A H0 H locs) (q0 : Nat) (he : ws[q0]? = some (a, .inr (3, fs))) (hn : narrow (.long) v = v) (hfit : fits (.long) v = true) (hl : 2 < fs.length) (hdg : decode cc pc = .ok (.putfield 18, 3)) (kk : ∀ (H1 : Heap) (locs1 : List Loc), va_P D vwCl (ws.set q0 (a, .inr (3, fs.set 2 v))) H1 → va_D A (ws.set q0 (a, .inr (3, fs.set 2 v))) → va_S A H0 H1 locs1 → W p l e R s m args below meth c H1 locs1 cells slots Q (F0 m (pc + 3) ls rest)) : W p l e R s m args below meth c H locs cells slots Q (F0 m pc ls (v :: .ref a :: rest)) :=
  va_put (D := D) (ci := 3) (ty := .long) (C := RX3) (T := TX3) (N := 3) X.1 X.2.1 X.2.2.2.2.1 inlX3 tyX3 tyX3_ok nmX3 X.2.2.2.1 X.k hP hD hS q0 he rfl 2 (by decide) (X.w wq_420) (fun _ h9 => h9) rfl (by decide +kernel) hn hfit hl hdg kk
theorem pf_X4_12 (hin : meth.name = "<init>") (X : Cx p s m args c cc nL RX4 D cI cJ) (hP : va_P D vwCl ws H) (hD : va_D A ws) (hS : va_S A H0 H locs) (q0 : Nat) (he : ws[q0]? = some (a, .inr (4, fs))) (hn : narrow (.object "CubicForms$Cubic") v = v) (hfit : fits (.object "CubicForms$Cubic") v = true) (hl : 0 < fs.length) (hdg : decode cc pc = .ok (.putfield 12, 3)) (kk : ∀ (H1 : Heap) (locs1 : List Loc), va_P D vwCl (ws.set q0 (a, .inr (4, fs.set 0 v))) H1 → va_D A (ws.set q0 (a, .inr (4, fs.set 0 v))) → va_S A H0 H1 locs1 → W p l e R s m args below meth c H1 locs1 cells slots Q (F0 m (pc + 3) ls rest)) : W p l e R s m args below meth c H locs cells slots Q (F0 m pc ls (v :: .ref a :: rest)) :=
  va_putF (D := D) (ci := 4) (ty := .object "CubicForms$Cubic") (C := RX4) (T := TX4) (N := 2) X.1 X.2.1 X.2.2.2.2.1 inlX4 tyX4 tyX4_ok nmX4 X.2.2.2.1 X.k hP hD hS q0 he rfl 0 (by decide) (X.w wq_48) (fun _ h9 => h9) rfl hin rfl (by decide +kernel) hn hfit hl hdg kk
theorem pf_X4_18 (hin : meth.name = "<init>") (X : Cx p s m args c cc nL RX4 D cI cJ) (hP : va_P D vwCl ws H) (hD : va_D A ws) (hS : va_S A H0 H locs) (q0 : Nat) (he : ws[q0]? = some (a, .inr (4, fs))) (hn : narrow (.object "CubicForms$Cubic") v = v) (hfit : fits (.object "CubicForms$Cubic") v = true) (hl : 1 < fs.length) (hdg : decode cc pc = .ok (.putfield 18, 3)) (kk : ∀ (H1 : Heap) (locs1 : List Loc), va_P D vwCl (ws.set q0 (a, .inr (4, fs.set 1 v))) H1 → va_D A (ws.set q0 (a, .inr (4, fs.set 1 v))) → va_S A H0 H1 locs1 → W p l e R s m args below meth c H1 locs1 cells slots Q (F0 m (pc + 3) ls rest)) : W p l e R s m args below meth c H locs cells slots Q (F0 m pc ls (v :: .ref a :: rest)) :=
  va_putF (D := D) (ci := 4) (ty := .object "CubicForms$Cubic") (C := RX4) (T := TX4) (N := 2) X.1 X.2.1 X.2.2.2.2.1 inlX4 tyX4 tyX4_ok nmX4 X.2.2.2.1 X.k hP hD hS q0 he rfl 1 (by decide) (X.w wq_49) (fun _ h9 => h9) rfl hin rfl (by decide +kernel) hn hfit hl hdg kk
theorem pf_X5_11 (hin : meth.name = "<init>") (X : Cx p s m args c cc nL RX5 D cI cJ) (hP : va_P D vwCl ws H) (hD : va_D A ws) (hS : va_S A H0 H locs) (q0 : Nat) (he : ws[q0]? = some (a, .inr (5, fs))) (hn : narrow (.array .int) v = v) (hfit : fits (.array .int) v = true) (hl : 0 < fs.length) (hdg : decode cc pc = .ok (.putfield 11, 3)) (kk : ∀ (H1 : Heap) (locs1 : List Loc), va_P D vwCl (ws.set q0 (a, .inr (5, fs.set 0 v))) H1 → va_D A (ws.set q0 (a, .inr (5, fs.set 0 v))) → va_S A H0 H1 locs1 → W p l e R s m args below meth c H1 locs1 cells slots Q (F0 m (pc + 3) ls rest)) : W p l e R s m args below meth c H locs cells slots Q (F0 m pc ls (v :: .ref a :: rest)) :=
  va_putF (D := D) (ci := 5) (ty := .array .int) (C := RX5) (T := TX5) (N := 10) X.1 X.2.1 X.2.2.2.2.1 inlX5 tyX5 tyX5_ok nmX5 X.2.2.2.1 X.k hP hD hS q0 he rfl 0 (by decide) (X.w wq_13) (fun _ h9 => h9) rfl hin rfl (by decide +kernel) hn hfit hl hdg kk
theorem pf_X5_15 (X : Cx p s m args c cc nL RX5 D cI cJ) (hP : va_P D vwCl ws H) (hD : va_D A ws) (hS : va_S A H0 H locs) (q0 : Nat) (he : ws[q0]? = some (a, .inr (5, fs))) (hn : narrow (.int) v = v) (hfit : fits (.int) v = true) (hl : 1 < fs.length) (hdg : decode cc pc = .ok (.putfield 15, 3)) (kk : ∀ (H1 : Heap) (locs1 : List Loc), va_P D vwCl (ws.set q0 (a, .inr (5, fs.set 1 v))) H1 → va_D A (ws.set q0 (a, .inr (5, fs.set 1 v))) → va_S A H0 H1 locs1 → W p l e R s m args below meth c H1 locs1 cells slots Q (F0 m (pc + 3) ls rest)) : W p l e R s m args below meth c H locs cells slots Q (F0 m pc ls (v :: .ref a :: rest)) :=
  va_put (D := D) (ci := 5) (ty := .int) (C := RX5) (T := TX5) (N := 10) X.1 X.2.1 X.2.2.2.2.1 inlX5 tyX5 tyX5_ok nmX5 X.2.2.2.1 X.k hP hD hS q0 he rfl 1 (by decide) (X.w wq_14) (fun _ h9 => h9) rfl (by decide +kernel) hn hfit hl hdg kk
theorem pf_X5_19 (hin : meth.name = "<init>") (X : Cx p s m args c cc nL RX5 D cI cJ) (hP : va_P D vwCl ws H) (hD : va_D A ws) (hS : va_S A H0 H locs) (q0 : Nat) (he : ws[q0]? = some (a, .inr (5, fs))) (hn : narrow (.array .int) v = v) (hfit : fits (.array .int) v = true) (hl : 2 < fs.length) (hdg : decode cc pc = .ok (.putfield 19, 3)) (kk : ∀ (H1 : Heap) (locs1 : List Loc), va_P D vwCl (ws.set q0 (a, .inr (5, fs.set 2 v))) H1 → va_D A (ws.set q0 (a, .inr (5, fs.set 2 v))) → va_S A H0 H1 locs1 → W p l e R s m args below meth c H1 locs1 cells slots Q (F0 m (pc + 3) ls rest)) : W p l e R s m args below meth c H locs cells slots Q (F0 m pc ls (v :: .ref a :: rest)) :=
  va_putF (D := D) (ci := 5) (ty := .array .int) (C := RX5) (T := TX5) (N := 10) X.1 X.2.1 X.2.2.2.2.1 inlX5 tyX5 tyX5_ok nmX5 X.2.2.2.1 X.k hP hD hS q0 he rfl 2 (by decide) (X.w wq_15) (fun _ h9 => h9) rfl hin rfl (by decide +kernel) hn hfit hl hdg kk
theorem pf_X5_25 (hin : meth.name = "<init>") (X : Cx p s m args c cc nL RX5 D cI cJ) (hP : va_P D vwCl ws H) (hD : va_D A ws) (hS : va_S A H0 H locs) (q0 : Nat) (he : ws[q0]? = some (a, .inr (5, fs))) (hn : narrow (.object "CubicForms$Cubic") v = v) (hfit : fits (.object "CubicForms$Cubic") v = true) (hl : 3 < fs.length) (hdg : decode cc pc = .ok (.putfield 25, 3)) (kk : ∀ (H1 : Heap) (locs1 : List Loc), va_P D vwCl (ws.set q0 (a, .inr (5, fs.set 3 v))) H1 → va_D A (ws.set q0 (a, .inr (5, fs.set 3 v))) → va_S A H0 H1 locs1 → W p l e R s m args below meth c H1 locs1 cells slots Q (F0 m (pc + 3) ls rest)) : W p l e R s m args below meth c H locs cells slots Q (F0 m pc ls (v :: .ref a :: rest)) :=
  va_putF (D := D) (ci := 5) (ty := .object "CubicForms$Cubic") (C := RX5) (T := TX5) (N := 10) X.1 X.2.1 X.2.2.2.2.1 inlX5 tyX5 tyX5_ok nmX5 X.2.2.2.1 X.k hP hD hS q0 he rfl 3 (by decide) (X.w wq_19) (fun _ h9 => h9) rfl hin rfl (by decide +kernel) hn hfit hl hdg kk
theorem pf_X5_29 (hin : meth.name = "<init>") (X : Cx p s m args c cc nL RX5 D cI cJ) (hP : va_P D vwCl ws H) (hD : va_D A ws) (hS : va_S A H0 H locs) (q0 : Nat) (he : ws[q0]? = some (a, .inr (5, fs))) (hn : narrow (.object "CubicForms$Cubic") v = v) (hfit : fits (.object "CubicForms$Cubic") v = true) (hl : 4 < fs.length) (hdg : decode cc pc = .ok (.putfield 29, 3)) (kk : ∀ (H1 : Heap) (locs1 : List Loc), va_P D vwCl (ws.set q0 (a, .inr (5, fs.set 4 v))) H1 → va_D A (ws.set q0 (a, .inr (5, fs.set 4 v))) → va_S A H0 H1 locs1 → W p l e R s m args below meth c H1 locs1 cells slots Q (F0 m (pc + 3) ls rest)) : W p l e R s m args below meth c H locs cells slots Q (F0 m pc ls (v :: .ref a :: rest)) :=
  va_putF (D := D) (ci := 5) (ty := .object "CubicForms$Cubic") (C := RX5) (T := TX5) (N := 10) X.1 X.2.1 X.2.2.2.2.1 inlX5 tyX5 tyX5_ok nmX5 X.2.2.2.1 X.k hP hD hS q0 he rfl 4 (by decide) (X.w wq_20) (fun _ h9 => h9) rfl hin rfl (by decide +kernel) hn hfit hl hdg kk
theorem pf_X5_35 (hin : meth.name = "<init>") (X : Cx p s m args c cc nL RX5 D cI cJ) (hP : va_P D vwCl ws H) (hD : va_D A ws) (hS : va_S A H0 H locs) (q0 : Nat) (he : ws[q0]? = some (a, .inr (5, fs))) (hn : narrow (.object "CubicForms$RingElement") v = v) (hfit : fits (.object "CubicForms$RingElement") v = true) (hl : 5 < fs.length) (hdg : decode cc pc = .ok (.putfield 35, 3)) (kk : ∀ (H1 : Heap) (locs1 : List Loc), va_P D vwCl (ws.set q0 (a, .inr (5, fs.set 5 v))) H1 → va_D A (ws.set q0 (a, .inr (5, fs.set 5 v))) → va_S A H0 H1 locs1 → W p l e R s m args below meth c H1 locs1 cells slots Q (F0 m (pc + 3) ls rest)) : W p l e R s m args below meth c H locs cells slots Q (F0 m pc ls (v :: .ref a :: rest)) :=
  va_putF (D := D) (ci := 5) (ty := .object "CubicForms$RingElement") (C := RX5) (T := TX5) (N := 10) X.1 X.2.1 X.2.2.2.2.1 inlX5 tyX5 tyX5_ok nmX5 X.2.2.2.1 X.k hP hD hS q0 he rfl 5 (by decide) (X.w wq_24) (fun _ h9 => h9) rfl hin rfl (by decide +kernel) hn hfit hl hdg kk
theorem pf_X5_39 (hin : meth.name = "<init>") (X : Cx p s m args c cc nL RX5 D cI cJ) (hP : va_P D vwCl ws H) (hD : va_D A ws) (hS : va_S A H0 H locs) (q0 : Nat) (he : ws[q0]? = some (a, .inr (5, fs))) (hn : narrow (.object "CubicForms$RingElement") v = v) (hfit : fits (.object "CubicForms$RingElement") v = true) (hl : 6 < fs.length) (hdg : decode cc pc = .ok (.putfield 39, 3)) (kk : ∀ (H1 : Heap) (locs1 : List Loc), va_P D vwCl (ws.set q0 (a, .inr (5, fs.set 6 v))) H1 → va_D A (ws.set q0 (a, .inr (5, fs.set 6 v))) → va_S A H0 H1 locs1 → W p l e R s m args below meth c H1 locs1 cells slots Q (F0 m (pc + 3) ls rest)) : W p l e R s m args below meth c H locs cells slots Q (F0 m pc ls (v :: .ref a :: rest)) :=
  va_putF (D := D) (ci := 5) (ty := .object "CubicForms$RingElement") (C := RX5) (T := TX5) (N := 10) X.1 X.2.1 X.2.2.2.2.1 inlX5 tyX5 tyX5_ok nmX5 X.2.2.2.1 X.k hP hD hS q0 he rfl 6 (by decide) (X.w wq_25) (fun _ h9 => h9) rfl hin rfl (by decide +kernel) hn hfit hl hdg kk
theorem pf_X5_45 (hin : meth.name = "<init>") (X : Cx p s m args c cc nL RX5 D cI cJ) (hP : va_P D vwCl ws H) (hD : va_D A ws) (hS : va_S A H0 H locs) (q0 : Nat) (he : ws[q0]? = some (a, .inr (5, fs))) (hn : narrow (.object "CubicForms$Workshop") v = v) (hfit : fits (.object "CubicForms$Workshop") v = true) (hl : 7 < fs.length) (hdg : decode cc pc = .ok (.putfield 45, 3)) (kk : ∀ (H1 : Heap) (locs1 : List Loc), va_P D vwCl (ws.set q0 (a, .inr (5, fs.set 7 v))) H1 → va_D A (ws.set q0 (a, .inr (5, fs.set 7 v))) → va_S A H0 H1 locs1 → W p l e R s m args below meth c H1 locs1 cells slots Q (F0 m (pc + 3) ls rest)) : W p l e R s m args below meth c H locs cells slots Q (F0 m pc ls (v :: .ref a :: rest)) :=
  va_putF (D := D) (ci := 5) (ty := .object "CubicForms$Workshop") (C := RX5) (T := TX5) (N := 10) X.1 X.2.1 X.2.2.2.2.1 inlX5 tyX5 tyX5_ok nmX5 X.2.2.2.1 X.k hP hD hS q0 he rfl 7 (by decide) (X.w wq_29) (fun _ h9 => h9) rfl hin rfl (by decide +kernel) hn hfit hl hdg kk
theorem pf_X5_52 (hin : meth.name = "<init>") (X : Cx p s m args c cc nL RX5 D cI cJ) (hP : va_P D vwCl ws H) (hD : va_D A ws) (hS : va_S A H0 H locs) (q0 : Nat) (he : ws[q0]? = some (a, .inr (5, fs))) (hn : narrow (.object "CubicForms$Ring") v = v) (hfit : fits (.object "CubicForms$Ring") v = true) (hl : 8 < fs.length) (hdg : decode cc pc = .ok (.putfield 52, 3)) (kk : ∀ (H1 : Heap) (locs1 : List Loc), va_P D vwCl (ws.set q0 (a, .inr (5, fs.set 8 v))) H1 → va_D A (ws.set q0 (a, .inr (5, fs.set 8 v))) → va_S A H0 H1 locs1 → W p l e R s m args below meth c H1 locs1 cells slots Q (F0 m (pc + 3) ls rest)) : W p l e R s m args below meth c H locs cells slots Q (F0 m pc ls (v :: .ref a :: rest)) :=
  va_putF (D := D) (ci := 5) (ty := .object "CubicForms$Ring") (C := RX5) (T := TX5) (N := 10) X.1 X.2.1 X.2.2.2.2.1 inlX5 tyX5 tyX5_ok nmX5 X.2.2.2.1 X.k hP hD hS q0 he rfl 8 (by decide) (X.w wq_33) (fun _ h9 => h9) rfl hin rfl (by decide +kernel) hn hfit hl hdg kk
theorem pf_X5_59 (hin : meth.name = "<init>") (X : Cx p s m args c cc nL RX5 D cI cJ) (hP : va_P D vwCl ws H) (hD : va_D A ws) (hS : va_S A H0 H locs) (q0 : Nat) (he : ws[q0]? = some (a, .inr (5, fs))) (hn : narrow (.object "CubicForms$FieldTable") v = v) (hfit : fits (.object "CubicForms$FieldTable") v = true) (hl : 9 < fs.length) (hdg : decode cc pc = .ok (.putfield 59, 3)) (kk : ∀ (H1 : Heap) (locs1 : List Loc), va_P D vwCl (ws.set q0 (a, .inr (5, fs.set 9 v))) H1 → va_D A (ws.set q0 (a, .inr (5, fs.set 9 v))) → va_S A H0 H1 locs1 → W p l e R s m args below meth c H1 locs1 cells slots Q (F0 m (pc + 3) ls rest)) : W p l e R s m args below meth c H locs cells slots Q (F0 m pc ls (v :: .ref a :: rest)) :=
  va_putF (D := D) (ci := 5) (ty := .object "CubicForms$FieldTable") (C := RX5) (T := TX5) (N := 10) X.1 X.2.1 X.2.2.2.2.1 inlX5 tyX5 tyX5_ok nmX5 X.2.2.2.1 X.k hP hD hS q0 he rfl 9 (by decide) (X.w wq_37) (fun _ h9 => h9) rfl hin rfl (by decide +kernel) hn hfit hl hdg kk
theorem pf_X6_7 (hin : meth.name = "<init>") (X : Cx p s m args c cc nL RX6 D cI cJ) (hP : va_P D vwCl ws H) (hD : va_D A ws) (hS : va_S A H0 H locs) (q0 : Nat) (he : ws[q0]? = some (a, .inr (6, fs))) (hn : narrow (.array .int) v = v) (hfit : fits (.array .int) v = true) (hl : 1 < fs.length) (hdg : decode cc pc = .ok (.putfield 7, 3)) (kk : ∀ (H1 : Heap) (locs1 : List Loc), va_P D vwCl (ws.set q0 (a, .inr (6, fs.set 1 v))) H1 → va_D A (ws.set q0 (a, .inr (6, fs.set 1 v))) → va_S A H0 H1 locs1 → W p l e R s m args below meth c H1 locs1 cells slots Q (F0 m (pc + 3) ls rest)) : W p l e R s m args below meth c H locs cells slots Q (F0 m pc ls (v :: .ref a :: rest)) :=
  va_putF (D := D) (ci := 6) (ty := .array .int) (C := RX6) (T := TX6) (N := 23) X.1 X.2.1 X.2.2.2.2.1 inlX6 tyX6 tyX6_ok nmX6 X.2.2.2.1 X.k hP hD hS q0 he rfl 1 (by decide) (X.w wq_76) (fun _ h9 => h9) rfl hin rfl (by decide +kernel) hn hfit hl hdg kk
theorem pf_X6_13 (hin : meth.name = "<init>") (X : Cx p s m args c cc nL RX6 D cI cJ) (hP : va_P D vwCl ws H) (hD : va_D A ws) (hS : va_S A H0 H locs) (q0 : Nat) (he : ws[q0]? = some (a, .inr (6, fs))) (hn : narrow (.array .int) v = v) (hfit : fits (.array .int) v = true) (hl : 10 < fs.length) (hdg : decode cc pc = .ok (.putfield 13, 3)) (kk : ∀ (H1 : Heap) (locs1 : List Loc), va_P D vwCl (ws.set q0 (a, .inr (6, fs.set 10 v))) H1 → va_D A (ws.set q0 (a, .inr (6, fs.set 10 v))) → va_S A H0 H1 locs1 → W p l e R s m args below meth c H1 locs1 cells slots Q (F0 m (pc + 3) ls rest)) : W p l e R s m args below meth c H locs cells slots Q (F0 m pc ls (v :: .ref a :: rest)) :=
  va_putF (D := D) (ci := 6) (ty := .array .int) (C := RX6) (T := TX6) (N := 23) X.1 X.2.1 X.2.2.2.2.1 inlX6 tyX6 tyX6_ok nmX6 X.2.2.2.1 X.k hP hD hS q0 he rfl 10 (by decide) (X.w wq_77) (fun _ h9 => h9) rfl hin rfl (by decide +kernel) hn hfit hl hdg kk
theorem pf_X6_16 (hin : meth.name = "<init>") (X : Cx p s m args c cc nL RX6 D cI cJ) (hP : va_P D vwCl ws H) (hD : va_D A ws) (hS : va_S A H0 H locs) (q0 : Nat) (he : ws[q0]? = some (a, .inr (6, fs))) (hn : narrow (.array .long) v = v) (hfit : fits (.array .long) v = true) (hl : 14 < fs.length) (hdg : decode cc pc = .ok (.putfield 16, 3)) (kk : ∀ (H1 : Heap) (locs1 : List Loc), va_P D vwCl (ws.set q0 (a, .inr (6, fs.set 14 v))) H1 → va_D A (ws.set q0 (a, .inr (6, fs.set 14 v))) → va_S A H0 H1 locs1 → W p l e R s m args below meth c H1 locs1 cells slots Q (F0 m (pc + 3) ls rest)) : W p l e R s m args below meth c H locs cells slots Q (F0 m pc ls (v :: .ref a :: rest)) :=
  va_putF (D := D) (ci := 6) (ty := .array .long) (C := RX6) (T := TX6) (N := 23) X.1 X.2.1 X.2.2.2.2.1 inlX6 tyX6 tyX6_ok nmX6 X.2.2.2.1 X.k hP hD hS q0 he rfl 14 (by decide) (X.w wq_79) (fun _ h9 => h9) rfl hin rfl (by decide +kernel) hn hfit hl hdg kk
theorem pf_X6_20 (hin : meth.name = "<init>") (X : Cx p s m args c cc nL RX6 D cI cJ) (hP : va_P D vwCl ws H) (hD : va_D A ws) (hS : va_S A H0 H locs) (q0 : Nat) (he : ws[q0]? = some (a, .inr (6, fs))) (hn : narrow (.array .long) v = v) (hfit : fits (.array .long) v = true) (hl : 15 < fs.length) (hdg : decode cc pc = .ok (.putfield 20, 3)) (kk : ∀ (H1 : Heap) (locs1 : List Loc), va_P D vwCl (ws.set q0 (a, .inr (6, fs.set 15 v))) H1 → va_D A (ws.set q0 (a, .inr (6, fs.set 15 v))) → va_S A H0 H1 locs1 → W p l e R s m args below meth c H1 locs1 cells slots Q (F0 m (pc + 3) ls rest)) : W p l e R s m args below meth c H locs cells slots Q (F0 m pc ls (v :: .ref a :: rest)) :=
  va_putF (D := D) (ci := 6) (ty := .array .long) (C := RX6) (T := TX6) (N := 23) X.1 X.2.1 X.2.2.2.2.1 inlX6 tyX6 tyX6_ok nmX6 X.2.2.2.1 X.k hP hD hS q0 he rfl 15 (by decide) (X.w wq_80) (fun _ h9 => h9) rfl hin rfl (by decide +kernel) hn hfit hl hdg kk
theorem pf_X6_23 (hin : meth.name = "<init>") (X : Cx p s m args c cc nL RX6 D cI cJ) (hP : va_P D vwCl ws H) (hD : va_D A ws) (hS : va_S A H0 H locs) (q0 : Nat) (he : ws[q0]? = some (a, .inr (6, fs))) (hn : narrow (.array .int) v = v) (hfit : fits (.array .int) v = true) (hl : 21 < fs.length) (hdg : decode cc pc = .ok (.putfield 23, 3)) (kk : ∀ (H1 : Heap) (locs1 : List Loc), va_P D vwCl (ws.set q0 (a, .inr (6, fs.set 21 v))) H1 → va_D A (ws.set q0 (a, .inr (6, fs.set 21 v))) → va_S A H0 H1 locs1 → W p l e R s m args below meth c H1 locs1 cells slots Q (F0 m (pc + 3) ls rest)) : W p l e R s m args below meth c H locs cells slots Q (F0 m pc ls (v :: .ref a :: rest)) :=
  va_putF (D := D) (ci := 6) (ty := .array .int) (C := RX6) (T := TX6) (N := 23) X.1 X.2.1 X.2.2.2.2.1 inlX6 tyX6 tyX6_ok nmX6 X.2.2.2.1 X.k hP hD hS q0 he rfl 21 (by decide) (X.w wq_81) (fun _ h9 => h9) rfl hin rfl (by decide +kernel) hn hfit hl hdg kk
theorem pf_X6_26 (hin : meth.name = "<init>") (X : Cx p s m args c cc nL RX6 D cI cJ) (hP : va_P D vwCl ws H) (hD : va_D A ws) (hS : va_S A H0 H locs) (q0 : Nat) (he : ws[q0]? = some (a, .inr (6, fs))) (hn : narrow (.array .int) v = v) (hfit : fits (.array .int) v = true) (hl : 22 < fs.length) (hdg : decode cc pc = .ok (.putfield 26, 3)) (kk : ∀ (H1 : Heap) (locs1 : List Loc), va_P D vwCl (ws.set q0 (a, .inr (6, fs.set 22 v))) H1 → va_D A (ws.set q0 (a, .inr (6, fs.set 22 v))) → va_S A H0 H1 locs1 → W p l e R s m args below meth c H1 locs1 cells slots Q (F0 m (pc + 3) ls rest)) : W p l e R s m args below meth c H locs cells slots Q (F0 m pc ls (v :: .ref a :: rest)) :=
  va_putF (D := D) (ci := 6) (ty := .array .int) (C := RX6) (T := TX6) (N := 23) X.1 X.2.1 X.2.2.2.2.1 inlX6 tyX6 tyX6_ok nmX6 X.2.2.2.1 X.k hP hD hS q0 he rfl 22 (by decide) (X.w wq_82) (fun _ h9 => h9) rfl hin rfl (by decide +kernel) hn hfit hl hdg kk
theorem pf_X6_29 (X : Cx p s m args c cc nL RX6 D cI cJ) (hP : va_P D vwCl ws H) (hD : va_D A ws) (hS : va_S A H0 H locs) (q0 : Nat) (he : ws[q0]? = some (a, .inr (6, fs))) (hn : narrow (.int) v = v) (hfit : fits (.int) v = true) (hl : 0 < fs.length) (hdg : decode cc pc = .ok (.putfield 29, 3)) (kk : ∀ (H1 : Heap) (locs1 : List Loc), va_P D vwCl (ws.set q0 (a, .inr (6, fs.set 0 v))) H1 → va_D A (ws.set q0 (a, .inr (6, fs.set 0 v))) → va_S A H0 H1 locs1 → W p l e R s m args below meth c H1 locs1 cells slots Q (F0 m (pc + 3) ls rest)) : W p l e R s m args below meth c H locs cells slots Q (F0 m pc ls (v :: .ref a :: rest)) :=
  va_put (D := D) (ci := 6) (ty := .int) (C := RX6) (T := TX6) (N := 23) X.1 X.2.1 X.2.2.2.2.1 inlX6 tyX6 tyX6_ok nmX6 X.2.2.2.1 X.k hP hD hS q0 he rfl 0 (by decide) (X.w wq_83) (fun _ h9 => h9) rfl (by decide +kernel) hn hfit hl hdg kk
theorem pf_X6_41 (X : Cx p s m args c cc nL RX6 D cI cJ) (hP : va_P D vwCl ws H) (hD : va_D A ws) (hS : va_S A H0 H locs) (q0 : Nat) (he : ws[q0]? = some (a, .inr (6, fs))) (hn : narrow (.long) v = v) (hfit : fits (.long) v = true) (hl : 2 < fs.length) (hdg : decode cc pc = .ok (.putfield 41, 3)) (kk : ∀ (H1 : Heap) (locs1 : List Loc), va_P D vwCl (ws.set q0 (a, .inr (6, fs.set 2 v))) H1 → va_D A (ws.set q0 (a, .inr (6, fs.set 2 v))) → va_S A H0 H1 locs1 → W p l e R s m args below meth c H1 locs1 cells slots Q (F0 m (pc + 3) ls rest)) : W p l e R s m args below meth c H locs cells slots Q (F0 m pc ls (v :: .ref a :: rest)) :=
  va_put (D := D) (ci := 6) (ty := .long) (C := RX6) (T := TX6) (N := 23) X.1 X.2.1 X.2.2.2.2.1 inlX6 tyX6 tyX6_ok nmX6 X.2.2.2.1 X.k hP hD hS q0 he rfl 2 (by decide) (X.w wq_113) (fun _ h9 => h9) rfl (by decide +kernel) hn hfit hl hdg kk
theorem pf_X6_45 (X : Cx p s m args c cc nL RX6 D cI cJ) (hP : va_P D vwCl ws H) (hD : va_D A ws) (hS : va_S A H0 H locs) (q0 : Nat) (he : ws[q0]? = some (a, .inr (6, fs))) (hn : narrow (.long) v = v) (hfit : fits (.long) v = true) (hl : 3 < fs.length) (hdg : decode cc pc = .ok (.putfield 45, 3)) (kk : ∀ (H1 : Heap) (locs1 : List Loc), va_P D vwCl (ws.set q0 (a, .inr (6, fs.set 3 v))) H1 → va_D A (ws.set q0 (a, .inr (6, fs.set 3 v))) → va_S A H0 H1 locs1 → W p l e R s m args below meth c H1 locs1 cells slots Q (F0 m (pc + 3) ls rest)) : W p l e R s m args below meth c H locs cells slots Q (F0 m pc ls (v :: .ref a :: rest)) :=
  va_put (D := D) (ci := 6) (ty := .long) (C := RX6) (T := TX6) (N := 23) X.1 X.2.1 X.2.2.2.2.1 inlX6 tyX6 tyX6_ok nmX6 X.2.2.2.1 X.k hP hD hS q0 he rfl 3 (by decide) (X.w wq_114) (fun _ h9 => h9) rfl (by decide +kernel) hn hfit hl hdg kk
theorem pf_X6_48 (X : Cx p s m args c cc nL RX6 D cI cJ) (hP : va_P D vwCl ws H) (hD : va_D A ws) (hS : va_S A H0 H locs) (q0 : Nat) (he : ws[q0]? = some (a, .inr (6, fs))) (hn : narrow (.long) v = v) (hfit : fits (.long) v = true) (hl : 4 < fs.length) (hdg : decode cc pc = .ok (.putfield 48, 3)) (kk : ∀ (H1 : Heap) (locs1 : List Loc), va_P D vwCl (ws.set q0 (a, .inr (6, fs.set 4 v))) H1 → va_D A (ws.set q0 (a, .inr (6, fs.set 4 v))) → va_S A H0 H1 locs1 → W p l e R s m args below meth c H1 locs1 cells slots Q (F0 m (pc + 3) ls rest)) : W p l e R s m args below meth c H locs cells slots Q (F0 m pc ls (v :: .ref a :: rest)) :=
  va_put (D := D) (ci := 6) (ty := .long) (C := RX6) (T := TX6) (N := 23) X.1 X.2.1 X.2.2.2.2.1 inlX6 tyX6 tyX6_ok nmX6 X.2.2.2.1 X.k hP hD hS q0 he rfl 4 (by decide) (X.w wq_115) (fun _ h9 => h9) rfl (by decide +kernel) hn hfit hl hdg kk
theorem pf_X6_51 (X : Cx p s m args c cc nL RX6 D cI cJ) (hP : va_P D vwCl ws H) (hD : va_D A ws) (hS : va_S A H0 H locs) (q0 : Nat) (he : ws[q0]? = some (a, .inr (6, fs))) (hn : narrow (.long) v = v) (hfit : fits (.long) v = true) (hl : 5 < fs.length) (hdg : decode cc pc = .ok (.putfield 51, 3)) (kk : ∀ (H1 : Heap) (locs1 : List Loc), va_P D vwCl (ws.set q0 (a, .inr (6, fs.set 5 v))) H1 → va_D A (ws.set q0 (a, .inr (6, fs.set 5 v))) → va_S A H0 H1 locs1 → W p l e R s m args below meth c H1 locs1 cells slots Q (F0 m (pc + 3) ls rest)) : W p l e R s m args below meth c H locs cells slots Q (F0 m pc ls (v :: .ref a :: rest)) :=
  va_put (D := D) (ci := 6) (ty := .long) (C := RX6) (T := TX6) (N := 23) X.1 X.2.1 X.2.2.2.2.1 inlX6 tyX6 tyX6_ok nmX6 X.2.2.2.1 X.k hP hD hS q0 he rfl 5 (by decide) (X.w wq_116) (fun _ h9 => h9) rfl (by decide +kernel) hn hfit hl hdg kk
theorem pf_X6_137 (X : Cx p s m args c cc nL RX6 D cI cJ) (hP : va_P D vwCl ws H) (hD : va_D A ws) (hS : va_S A H0 H locs) (q0 : Nat) (he : ws[q0]? = some (a, .inr (6, fs))) (hn : narrow (.long) v = v) (hfit : fits (.long) v = true) (hl : 6 < fs.length) (hdg : decode cc pc = .ok (.putfield 137, 3)) (kk : ∀ (H1 : Heap) (locs1 : List Loc), va_P D vwCl (ws.set q0 (a, .inr (6, fs.set 6 v))) H1 → va_D A (ws.set q0 (a, .inr (6, fs.set 6 v))) → va_S A H0 H1 locs1 → W p l e R s m args below meth c H1 locs1 cells slots Q (F0 m (pc + 3) ls rest)) : W p l e R s m args below meth c H locs cells slots Q (F0 m pc ls (v :: .ref a :: rest)) :=
  va_put (D := D) (ci := 6) (ty := .long) (C := RX6) (T := TX6) (N := 23) X.1 X.2.1 X.2.2.2.2.1 inlX6 tyX6 tyX6_ok nmX6 X.2.2.2.1 X.k hP hD hS q0 he rfl 6 (by decide) (X.w wq_355) (fun _ h9 => h9) rfl (by decide +kernel) hn hfit hl hdg kk
theorem pf_X6_140 (X : Cx p s m args c cc nL RX6 D cI cJ) (hP : va_P D vwCl ws H) (hD : va_D A ws) (hS : va_S A H0 H locs) (q0 : Nat) (he : ws[q0]? = some (a, .inr (6, fs))) (hn : narrow (.long) v = v) (hfit : fits (.long) v = true) (hl : 7 < fs.length) (hdg : decode cc pc = .ok (.putfield 140, 3)) (kk : ∀ (H1 : Heap) (locs1 : List Loc), va_P D vwCl (ws.set q0 (a, .inr (6, fs.set 7 v))) H1 → va_D A (ws.set q0 (a, .inr (6, fs.set 7 v))) → va_S A H0 H1 locs1 → W p l e R s m args below meth c H1 locs1 cells slots Q (F0 m (pc + 3) ls rest)) : W p l e R s m args below meth c H locs cells slots Q (F0 m pc ls (v :: .ref a :: rest)) :=
  va_put (D := D) (ci := 6) (ty := .long) (C := RX6) (T := TX6) (N := 23) X.1 X.2.1 X.2.2.2.2.1 inlX6 tyX6 tyX6_ok nmX6 X.2.2.2.1 X.k hP hD hS q0 he rfl 7 (by decide) (X.w wq_356) (fun _ h9 => h9) rfl (by decide +kernel) hn hfit hl hdg kk
theorem pf_X6_143 (X : Cx p s m args c cc nL RX6 D cI cJ) (hP : va_P D vwCl ws H) (hD : va_D A ws) (hS : va_S A H0 H locs) (q0 : Nat) (he : ws[q0]? = some (a, .inr (6, fs))) (hn : narrow (.long) v = v) (hfit : fits (.long) v = true) (hl : 8 < fs.length) (hdg : decode cc pc = .ok (.putfield 143, 3)) (kk : ∀ (H1 : Heap) (locs1 : List Loc), va_P D vwCl (ws.set q0 (a, .inr (6, fs.set 8 v))) H1 → va_D A (ws.set q0 (a, .inr (6, fs.set 8 v))) → va_S A H0 H1 locs1 → W p l e R s m args below meth c H1 locs1 cells slots Q (F0 m (pc + 3) ls rest)) : W p l e R s m args below meth c H locs cells slots Q (F0 m pc ls (v :: .ref a :: rest)) :=
  va_put (D := D) (ci := 6) (ty := .long) (C := RX6) (T := TX6) (N := 23) X.1 X.2.1 X.2.2.2.2.1 inlX6 tyX6 tyX6_ok nmX6 X.2.2.2.1 X.k hP hD hS q0 he rfl 8 (by decide) (X.w wq_357) (fun _ h9 => h9) rfl (by decide +kernel) hn hfit hl hdg kk
theorem pf_X6_146 (X : Cx p s m args c cc nL RX6 D cI cJ) (hP : va_P D vwCl ws H) (hD : va_D A ws) (hS : va_S A H0 H locs) (q0 : Nat) (he : ws[q0]? = some (a, .inr (6, fs))) (hn : narrow (.long) v = v) (hfit : fits (.long) v = true) (hl : 9 < fs.length) (hdg : decode cc pc = .ok (.putfield 146, 3)) (kk : ∀ (H1 : Heap) (locs1 : List Loc), va_P D vwCl (ws.set q0 (a, .inr (6, fs.set 9 v))) H1 → va_D A (ws.set q0 (a, .inr (6, fs.set 9 v))) → va_S A H0 H1 locs1 → W p l e R s m args below meth c H1 locs1 cells slots Q (F0 m (pc + 3) ls rest)) : W p l e R s m args below meth c H locs cells slots Q (F0 m pc ls (v :: .ref a :: rest)) :=
  va_put (D := D) (ci := 6) (ty := .long) (C := RX6) (T := TX6) (N := 23) X.1 X.2.1 X.2.2.2.2.1 inlX6 tyX6 tyX6_ok nmX6 X.2.2.2.1 X.k hP hD hS q0 he rfl 9 (by decide) (X.w wq_358) (fun _ h9 => h9) rfl (by decide +kernel) hn hfit hl hdg kk
theorem pf_X6_173 (X : Cx p s m args c cc nL RX6 D cI cJ) (hP : va_P D vwCl ws H) (hD : va_D A ws) (hS : va_S A H0 H locs) (q0 : Nat) (he : ws[q0]? = some (a, .inr (6, fs))) (hn : narrow (.long) v = v) (hfit : fits (.long) v = true) (hl : 11 < fs.length) (hdg : decode cc pc = .ok (.putfield 173, 3)) (kk : ∀ (H1 : Heap) (locs1 : List Loc), va_P D vwCl (ws.set q0 (a, .inr (6, fs.set 11 v))) H1 → va_D A (ws.set q0 (a, .inr (6, fs.set 11 v))) → va_S A H0 H1 locs1 → W p l e R s m args below meth c H1 locs1 cells slots Q (F0 m (pc + 3) ls rest)) : W p l e R s m args below meth c H locs cells slots Q (F0 m pc ls (v :: .ref a :: rest)) :=
  va_put (D := D) (ci := 6) (ty := .long) (C := RX6) (T := TX6) (N := 23) X.1 X.2.1 X.2.2.2.2.1 inlX6 tyX6 tyX6_ok nmX6 X.2.2.2.1 X.k hP hD hS q0 he rfl 11 (by decide) (X.w wq_463) (fun _ h9 => h9) rfl (by decide +kernel) hn hfit hl hdg kk
theorem pf_X6_176 (X : Cx p s m args c cc nL RX6 D cI cJ) (hP : va_P D vwCl ws H) (hD : va_D A ws) (hS : va_S A H0 H locs) (q0 : Nat) (he : ws[q0]? = some (a, .inr (6, fs))) (hn : narrow (.long) v = v) (hfit : fits (.long) v = true) (hl : 12 < fs.length) (hdg : decode cc pc = .ok (.putfield 176, 3)) (kk : ∀ (H1 : Heap) (locs1 : List Loc), va_P D vwCl (ws.set q0 (a, .inr (6, fs.set 12 v))) H1 → va_D A (ws.set q0 (a, .inr (6, fs.set 12 v))) → va_S A H0 H1 locs1 → W p l e R s m args below meth c H1 locs1 cells slots Q (F0 m (pc + 3) ls rest)) : W p l e R s m args below meth c H locs cells slots Q (F0 m pc ls (v :: .ref a :: rest)) :=
  va_put (D := D) (ci := 6) (ty := .long) (C := RX6) (T := TX6) (N := 23) X.1 X.2.1 X.2.2.2.2.1 inlX6 tyX6 tyX6_ok nmX6 X.2.2.2.1 X.k hP hD hS q0 he rfl 12 (by decide) (X.w wq_464) (fun _ h9 => h9) rfl (by decide +kernel) hn hfit hl hdg kk
theorem pf_X6_179 (X : Cx p s m args c cc nL RX6 D cI cJ) (hP : va_P D vwCl ws H) (hD : va_D A ws) (hS : va_S A H0 H locs) (q0 : Nat) (he : ws[q0]? = some (a, .inr (6, fs))) (hn : narrow (.long) v = v) (hfit : fits (.long) v = true) (hl : 13 < fs.length) (hdg : decode cc pc = .ok (.putfield 179, 3)) (kk : ∀ (H1 : Heap) (locs1 : List Loc), va_P D vwCl (ws.set q0 (a, .inr (6, fs.set 13 v))) H1 → va_D A (ws.set q0 (a, .inr (6, fs.set 13 v))) → va_S A H0 H1 locs1 → W p l e R s m args below meth c H1 locs1 cells slots Q (F0 m (pc + 3) ls rest)) : W p l e R s m args below meth c H locs cells slots Q (F0 m pc ls (v :: .ref a :: rest)) :=
  va_put (D := D) (ci := 6) (ty := .long) (C := RX6) (T := TX6) (N := 23) X.1 X.2.1 X.2.2.2.2.1 inlX6 tyX6 tyX6_ok nmX6 X.2.2.2.1 X.k hP hD hS q0 he rfl 13 (by decide) (X.w wq_465) (fun _ h9 => h9) rfl (by decide +kernel) hn hfit hl hdg kk
theorem pf_X6_202 (X : Cx p s m args c cc nL RX6 D cI cJ) (hP : va_P D vwCl ws H) (hD : va_D A ws) (hS : va_S A H0 H locs) (q0 : Nat) (he : ws[q0]? = some (a, .inr (6, fs))) (hn : narrow (.long) v = v) (hfit : fits (.long) v = true) (hl : 16 < fs.length) (hdg : decode cc pc = .ok (.putfield 202, 3)) (kk : ∀ (H1 : Heap) (locs1 : List Loc), va_P D vwCl (ws.set q0 (a, .inr (6, fs.set 16 v))) H1 → va_D A (ws.set q0 (a, .inr (6, fs.set 16 v))) → va_S A H0 H1 locs1 → W p l e R s m args below meth c H1 locs1 cells slots Q (F0 m (pc + 3) ls rest)) : W p l e R s m args below meth c H locs cells slots Q (F0 m pc ls (v :: .ref a :: rest)) :=
  va_put (D := D) (ci := 6) (ty := .long) (C := RX6) (T := TX6) (N := 23) X.1 X.2.1 X.2.2.2.2.1 inlX6 tyX6 tyX6_ok nmX6 X.2.2.2.1 X.k hP hD hS q0 he rfl 16 (by decide) (X.w wq_561) (fun _ h9 => h9) rfl (by decide +kernel) hn hfit hl hdg kk
theorem pf_X6_205 (X : Cx p s m args c cc nL RX6 D cI cJ) (hP : va_P D vwCl ws H) (hD : va_D A ws) (hS : va_S A H0 H locs) (q0 : Nat) (he : ws[q0]? = some (a, .inr (6, fs))) (hn : narrow (.long) v = v) (hfit : fits (.long) v = true) (hl : 17 < fs.length) (hdg : decode cc pc = .ok (.putfield 205, 3)) (kk : ∀ (H1 : Heap) (locs1 : List Loc), va_P D vwCl (ws.set q0 (a, .inr (6, fs.set 17 v))) H1 → va_D A (ws.set q0 (a, .inr (6, fs.set 17 v))) → va_S A H0 H1 locs1 → W p l e R s m args below meth c H1 locs1 cells slots Q (F0 m (pc + 3) ls rest)) : W p l e R s m args below meth c H locs cells slots Q (F0 m pc ls (v :: .ref a :: rest)) :=
  va_put (D := D) (ci := 6) (ty := .long) (C := RX6) (T := TX6) (N := 23) X.1 X.2.1 X.2.2.2.2.1 inlX6 tyX6 tyX6_ok nmX6 X.2.2.2.1 X.k hP hD hS q0 he rfl 17 (by decide) (X.w wq_562) (fun _ h9 => h9) rfl (by decide +kernel) hn hfit hl hdg kk
theorem pf_X6_208 (X : Cx p s m args c cc nL RX6 D cI cJ) (hP : va_P D vwCl ws H) (hD : va_D A ws) (hS : va_S A H0 H locs) (q0 : Nat) (he : ws[q0]? = some (a, .inr (6, fs))) (hn : narrow (.long) v = v) (hfit : fits (.long) v = true) (hl : 18 < fs.length) (hdg : decode cc pc = .ok (.putfield 208, 3)) (kk : ∀ (H1 : Heap) (locs1 : List Loc), va_P D vwCl (ws.set q0 (a, .inr (6, fs.set 18 v))) H1 → va_D A (ws.set q0 (a, .inr (6, fs.set 18 v))) → va_S A H0 H1 locs1 → W p l e R s m args below meth c H1 locs1 cells slots Q (F0 m (pc + 3) ls rest)) : W p l e R s m args below meth c H locs cells slots Q (F0 m pc ls (v :: .ref a :: rest)) :=
  va_put (D := D) (ci := 6) (ty := .long) (C := RX6) (T := TX6) (N := 23) X.1 X.2.1 X.2.2.2.2.1 inlX6 tyX6 tyX6_ok nmX6 X.2.2.2.1 X.k hP hD hS q0 he rfl 18 (by decide) (X.w wq_575) (fun _ h9 => h9) rfl (by decide +kernel) hn hfit hl hdg kk
theorem pf_X6_211 (X : Cx p s m args c cc nL RX6 D cI cJ) (hP : va_P D vwCl ws H) (hD : va_D A ws) (hS : va_S A H0 H locs) (q0 : Nat) (he : ws[q0]? = some (a, .inr (6, fs))) (hn : narrow (.long) v = v) (hfit : fits (.long) v = true) (hl : 19 < fs.length) (hdg : decode cc pc = .ok (.putfield 211, 3)) (kk : ∀ (H1 : Heap) (locs1 : List Loc), va_P D vwCl (ws.set q0 (a, .inr (6, fs.set 19 v))) H1 → va_D A (ws.set q0 (a, .inr (6, fs.set 19 v))) → va_S A H0 H1 locs1 → W p l e R s m args below meth c H1 locs1 cells slots Q (F0 m (pc + 3) ls rest)) : W p l e R s m args below meth c H locs cells slots Q (F0 m pc ls (v :: .ref a :: rest)) :=
  va_put (D := D) (ci := 6) (ty := .long) (C := RX6) (T := TX6) (N := 23) X.1 X.2.1 X.2.2.2.2.1 inlX6 tyX6 tyX6_ok nmX6 X.2.2.2.1 X.k hP hD hS q0 he rfl 19 (by decide) (X.w wq_576) (fun _ h9 => h9) rfl (by decide +kernel) hn hfit hl hdg kk
theorem pf_X6_234 (X : Cx p s m args c cc nL RX6 D cI cJ) (hP : va_P D vwCl ws H) (hD : va_D A ws) (hS : va_S A H0 H locs) (q0 : Nat) (he : ws[q0]? = some (a, .inr (6, fs))) (hn : narrow (.boolean) v = v) (hfit : fits (.boolean) v = true) (hl : 20 < fs.length) (hdg : decode cc pc = .ok (.putfield 234, 3)) (kk : ∀ (H1 : Heap) (locs1 : List Loc), va_P D vwCl (ws.set q0 (a, .inr (6, fs.set 20 v))) H1 → va_D A (ws.set q0 (a, .inr (6, fs.set 20 v))) → va_S A H0 H1 locs1 → W p l e R s m args below meth c H1 locs1 cells slots Q (F0 m (pc + 3) ls rest)) : W p l e R s m args below meth c H locs cells slots Q (F0 m pc ls (v :: .ref a :: rest)) :=
  va_put (D := D) (ci := 6) (ty := .boolean) (C := RX6) (T := TX6) (N := 23) X.1 X.2.1 X.2.2.2.2.1 inlX6 tyX6 tyX6_ok nmX6 X.2.2.2.1 X.k hP hD hS q0 he rfl 20 (by decide) (X.w wq_660) (fun _ h9 => h9) rfl (by decide +kernel) hn hfit hl hdg kk
end PR
