theorem dX6_product_101 : decode cX6_product 101 = .ok (.lload 7, 2) := by decide +kernel
theorem dX6_product_103 : decode cX6_product 103 = .ok (.lmul, 1) := by decide +kernel
theorem dX6_product_104 : decode cX6_product 104 = .ok (.ladd, 1) := by decide +kernel
theorem dX6_product_105 : decode cX6_product 105 = .ok (.aload_n 0, 1) := by decide +kernel
theorem dX6_product_106 : decode cX6_product 106 = .ok (.getfield 41, 3) := by decide +kernel
theorem dX6_product_109 : decode cX6_product 109 = .ok (.lload_n 3, 1) := by decide +kernel
theorem dX6_product_110 : decode cX6_product 110 = .ok (.lmul, 1) := by decide +kernel
theorem dX6_product_111 : decode cX6_product 111 = .ok (.lload 9, 2) := by decide +kernel
theorem dX6_product_113 : decode cX6_product 113 = .ok (.lmul, 1) := by decide +kernel
theorem dX6_product_114 : decode cX6_product 114 = .ok (.lsub, 1) := by decide +kernel
theorem dX6_product_115 : decode cX6_product 115 = .ok (.aload_n 0, 1) := by decide +kernel
theorem dX6_product_116 : decode cX6_product 116 = .ok (.getfield 48, 3) := by decide +kernel
theorem dX6_product_119 : decode cX6_product 119 = .ok (.lload 5, 2) := by decide +kernel
theorem dX6_product_121 : decode cX6_product 121 = .ok (.lmul, 1) := by decide +kernel
theorem dX6_product_122 : decode cX6_product 122 = .ok (.lload 11, 2) := by decide +kernel
theorem dX6_product_124 : decode cX6_product 124 = .ok (.lmul, 1) := by decide +kernel
theorem dX6_product_125 : decode cX6_product 125 = .ok (.lsub, 1) := by decide +kernel
theorem dX6_product_126 : decode cX6_product 126 = .ok (.putfield 179, 3) := by decide +kernel
theorem dX6_product_129 : decode cX6_product 129 = .ok (.return_, 1) := by decide +kernel
theorem dX6_multiply_0 : decode cX6_multiply 0 = .ok (.aload_n 0, 1) := by decide +kernel
theorem dX6_multiply_1 : decode cX6_multiply 1 = .ok (.iload_n 1, 1) := by decide +kernel
theorem dX6_multiply_2 : decode cX6_multiply 2 = .ok (.invokevirtual 66, 3) := by decide +kernel
theorem dX6_multiply_5 : decode cX6_multiply 5 = .ok (.ifCond .ne 7, 3) := by decide +kernel
theorem dX6_multiply_8 : decode cX6_multiply 8 = .ok (.sipush (-10001), 3) := by decide +kernel
theorem dX6_multiply_11 : decode cX6_multiply 11 = .ok (.ireturn, 1) := by decide +kernel
theorem dX6_multiply_12 : decode cX6_multiply 12 = .ok (.iload_n 2, 1) := by decide +kernel
theorem dX6_multiply_13 : decode cX6_multiply 13 = .ok (.invokestatic 170, 3) := by decide +kernel
theorem dX6_multiply_16 : decode cX6_multiply 16 = .ok (.ifCond .eq 18, 3) := by decide +kernel
theorem dX6_multiply_19 : decode cX6_multiply 19 = .ok (.iload_n 3, 1) := by decide +kernel
theorem dX6_multiply_20 : decode cX6_multiply 20 = .ok (.invokestatic 170, 3) := by decide +kernel
theorem dX6_multiply_23 : decode cX6_multiply 23 = .ok (.ifCond .eq 11, 3) := by decide +kernel
theorem dX6_multiply_26 : decode cX6_multiply 26 = .ok (.iload 4, 2) := by decide +kernel
theorem dX6_multiply_28 : decode cX6_multiply 28 = .ok (.invokestatic 170, 3) := by decide +kernel
theorem dX6_multiply_31 : decode cX6_multiply 31 = .ok (.ifCond .ne 7, 3) := by decide +kernel
theorem dX6_multiply_34 : decode cX6_multiply 34 = .ok (.sipush (-10002), 3) := by decide +kernel
theorem dX6_multiply_37 : decode cX6_multiply 37 = .ok (.ireturn, 1) := by decide +kernel
theorem dX6_multiply_38 : decode cX6_multiply 38 = .ok (.aload_n 0, 1) := by decide +kernel
theorem dX6_multiply_39 : decode cX6_multiply 39 = .ok (.iload_n 1, 1) := by decide +kernel
theorem dX6_multiply_40 : decode cX6_multiply 40 = .ok (.invokevirtual 82, 3) := by decide +kernel
theorem dX6_multiply_43 : decode cX6_multiply 43 = .ok (.aload_n 0, 1) := by decide +kernel
theorem dX6_multiply_44 : decode cX6_multiply 44 = .ok (.aload_n 0, 1) := by decide +kernel
theorem dX6_multiply_45 : decode cX6_multiply 45 = .ok (.getfield 13, 3) := by decide +kernel
theorem dX6_multiply_48 : decode cX6_multiply 48 = .ok (.iconst 3, 1) := by decide +kernel
theorem dX6_multiply_49 : decode cX6_multiply 49 = .ok (.iload_n 2, 1) := by decide +kernel
theorem dX6_multiply_50 : decode cX6_multiply 50 = .ok (.imul, 1) := by decide +kernel
theorem dX6_multiply_51 : decode cX6_multiply 51 = .ok (.iaload, 1) := by decide +kernel
theorem dX6_multiply_52 : decode cX6_multiply 52 = .ok (.i2l, 1) := by decide +kernel
theorem dX6_multiply_53 : decode cX6_multiply 53 = .ok (.aload_n 0, 1) := by decide +kernel
theorem dX6_multiply_54 : decode cX6_multiply 54 = .ok (.getfield 13, 3) := by decide +kernel
theorem dX6_multiply_57 : decode cX6_multiply 57 = .ok (.iconst 3, 1) := by decide +kernel
theorem dX6_multiply_58 : decode cX6_multiply 58 = .ok (.iload_n 2, 1) := by decide +kernel
theorem dX6_multiply_59 : decode cX6_multiply 59 = .ok (.imul, 1) := by decide +kernel
theorem dX6_multiply_60 : decode cX6_multiply 60 = .ok (.iconst 1, 1) := by decide +kernel
theorem dX6_multiply_61 : decode cX6_multiply 61 = .ok (.iadd, 1) := by decide +kernel
theorem dX6_multiply_62 : decode cX6_multiply 62 = .ok (.iaload, 1) := by decide +kernel
theorem dX6_multiply_63 : decode cX6_multiply 63 = .ok (.i2l, 1) := by decide +kernel
theorem dX6_multiply_64 : decode cX6_multiply 64 = .ok (.aload_n 0, 1) := by decide +kernel
theorem dX6_multiply_65 : decode cX6_multiply 65 = .ok (.getfield 13, 3) := by decide +kernel
theorem dX6_multiply_68 : decode cX6_multiply 68 = .ok (.iconst 3, 1) := by decide +kernel
theorem dX6_multiply_69 : decode cX6_multiply 69 = .ok (.iload_n 2, 1) := by decide +kernel
theorem dX6_multiply_70 : decode cX6_multiply 70 = .ok (.imul, 1) := by decide +kernel
theorem dX6_multiply_71 : decode cX6_multiply 71 = .ok (.iconst 2, 1) := by decide +kernel
theorem dX6_multiply_72 : decode cX6_multiply 72 = .ok (.iadd, 1) := by decide +kernel
theorem dX6_multiply_73 : decode cX6_multiply 73 = .ok (.iaload, 1) := by decide +kernel
theorem dX6_multiply_74 : decode cX6_multiply 74 = .ok (.i2l, 1) := by decide +kernel
theorem dX6_multiply_75 : decode cX6_multiply 75 = .ok (.aload_n 0, 1) := by decide +kernel
theorem dX6_multiply_76 : decode cX6_multiply 76 = .ok (.getfield 13, 3) := by decide +kernel
theorem dX6_multiply_79 : decode cX6_multiply 79 = .ok (.iconst 3, 1) := by decide +kernel
theorem dX6_multiply_80 : decode cX6_multiply 80 = .ok (.iload_n 3, 1) := by decide +kernel
theorem dX6_multiply_81 : decode cX6_multiply 81 = .ok (.imul, 1) := by decide +kernel
theorem dX6_multiply_82 : decode cX6_multiply 82 = .ok (.iaload, 1) := by decide +kernel
theorem dX6_multiply_83 : decode cX6_multiply 83 = .ok (.i2l, 1) := by decide +kernel
theorem dX6_multiply_84 : decode cX6_multiply 84 = .ok (.aload_n 0, 1) := by decide +kernel
theorem dX6_multiply_85 : decode cX6_multiply 85 = .ok (.getfield 13, 3) := by decide +kernel
theorem dX6_multiply_88 : decode cX6_multiply 88 = .ok (.iconst 3, 1) := by decide +kernel
theorem dX6_multiply_89 : decode cX6_multiply 89 = .ok (.iload_n 3, 1) := by decide +kernel
theorem dX6_multiply_90 : decode cX6_multiply 90 = .ok (.imul, 1) := by decide +kernel
theorem dX6_multiply_91 : decode cX6_multiply 91 = .ok (.iconst 1, 1) := by decide +kernel
theorem dX6_multiply_92 : decode cX6_multiply 92 = .ok (.iadd, 1) := by decide +kernel
theorem dX6_multiply_93 : decode cX6_multiply 93 = .ok (.iaload, 1) := by decide +kernel
theorem dX6_multiply_94 : decode cX6_multiply 94 = .ok (.i2l, 1) := by decide +kernel
theorem dX6_multiply_95 : decode cX6_multiply 95 = .ok (.aload_n 0, 1) := by decide +kernel
theorem dX6_multiply_96 : decode cX6_multiply 96 = .ok (.getfield 13, 3) := by decide +kernel
theorem dX6_multiply_99 : decode cX6_multiply 99 = .ok (.iconst 3, 1) := by decide +kernel
theorem dX6_multiply_100 : decode cX6_multiply 100 = .ok (.iload_n 3, 1) := by decide +kernel
theorem dX6_multiply_101 : decode cX6_multiply 101 = .ok (.imul, 1) := by decide +kernel
theorem dX6_multiply_102 : decode cX6_multiply 102 = .ok (.iconst 2, 1) := by decide +kernel
theorem dX6_multiply_103 : decode cX6_multiply 103 = .ok (.iadd, 1) := by decide +kernel
theorem dX6_multiply_104 : decode cX6_multiply 104 = .ok (.iaload, 1) := by decide +kernel
theorem dX6_multiply_105 : decode cX6_multiply 105 = .ok (.i2l, 1) := by decide +kernel
theorem dX6_multiply_106 : decode cX6_multiply 106 = .ok (.invokevirtual 182, 3) := by decide +kernel
theorem dX6_multiply_109 : decode cX6_multiply 109 = .ok (.aload_n 0, 1) := by decide +kernel
theorem dX6_multiply_110 : decode cX6_multiply 110 = .ok (.getfield 173, 3) := by decide +kernel
theorem dX6_multiply_113 : decode cX6_multiply 113 = .ok (.ldc2_w 113, 3) := by decide +kernel
theorem dX6_multiply_116 : decode cX6_multiply 116 = .ok (.ldc2_w 115, 3) := by decide +kernel
theorem dX6_multiply_119 : decode cX6_multiply 119 = .ok (.invokestatic 33, 3) := by decide +kernel
theorem dX6_multiply_122 : decode cX6_multiply 122 = .ok (.ifCond .eq 35, 3) := by decide +kernel
theorem dX6_multiply_125 : decode cX6_multiply 125 = .ok (.aload_n 0, 1) := by decide +kernel
theorem dX6_multiply_126 : decode cX6_multiply 126 = .ok (.getfield 176, 3) := by decide +kernel
theorem dX6_multiply_129 : decode cX6_multiply 129 = .ok (.ldc2_w 113, 3) := by decide +kernel
theorem dX6_multiply_132 : decode cX6_multiply 132 = .ok (.ldc2_w 115, 3) := by decide +kernel
theorem dX6_multiply_135 : decode cX6_multiply 135 = .ok (.invokestatic 33, 3) := by decide +kernel
theorem dX6_multiply_138 : decode cX6_multiply 138 = .ok (.ifCond .eq 19, 3) := by decide +kernel
theorem dX6_multiply_141 : decode cX6_multiply 141 = .ok (.aload_n 0, 1) := by decide +kernel
theorem dX6_multiply_142 : decode cX6_multiply 142 = .ok (.getfield 179, 3) := by decide +kernel
theorem dX6_multiply_145 : decode cX6_multiply 145 = .ok (.ldc2_w 113, 3) := by decide +kernel
theorem dX6_multiply_148 : decode cX6_multiply 148 = .ok (.ldc2_w 115, 3) := by decide +kernel
theorem dX6_multiply_151 : decode cX6_multiply 151 = .ok (.invokestatic 33, 3) := by decide +kernel
theorem dX6_multiply_154 : decode cX6_multiply 154 = .ok (.ifCond .ne 7, 3) := by decide +kernel
theorem dX6_multiply_157 : decode cX6_multiply 157 = .ok (.sipush (-10005), 3) := by decide +kernel
theorem dX6_multiply_160 : decode cX6_multiply 160 = .ok (.ireturn, 1) := by decide +kernel
theorem dX6_multiply_161 : decode cX6_multiply 161 = .ok (.aload_n 0, 1) := by decide +kernel
theorem dX6_multiply_162 : decode cX6_multiply 162 = .ok (.getfield 13, 3) := by decide +kernel
theorem dX6_multiply_165 : decode cX6_multiply 165 = .ok (.iconst 3, 1) := by decide +kernel
theorem dX6_multiply_166 : decode cX6_multiply 166 = .ok (.iload 4, 2) := by decide +kernel
theorem dX6_multiply_168 : decode cX6_multiply 168 = .ok (.imul, 1) := by decide +kernel
theorem dX6_multiply_169 : decode cX6_multiply 169 = .ok (.aload_n 0, 1) := by decide +kernel
theorem dX6_multiply_170 : decode cX6_multiply 170 = .ok (.getfield 173, 3) := by decide +kernel
theorem dX6_multiply_173 : decode cX6_multiply 173 = .ok (.l2i, 1) := by decide +kernel
theorem dX6_multiply_174 : decode cX6_multiply 174 = .ok (.iastore, 1) := by decide +kernel
theorem dX6_multiply_175 : decode cX6_multiply 175 = .ok (.aload_n 0, 1) := by decide +kernel
theorem dX6_multiply_176 : decode cX6_multiply 176 = .ok (.getfield 13, 3) := by decide +kernel
theorem dX6_multiply_179 : decode cX6_multiply 179 = .ok (.iconst 3, 1) := by decide +kernel
theorem dX6_multiply_180 : decode cX6_multiply 180 = .ok (.iload 4, 2) := by decide +kernel
theorem dX6_multiply_182 : decode cX6_multiply 182 = .ok (.imul, 1) := by decide +kernel
theorem dX6_multiply_183 : decode cX6_multiply 183 = .ok (.iconst 1, 1) := by decide +kernel
theorem dX6_multiply_184 : decode cX6_multiply 184 = .ok (.iadd, 1) := by decide +kernel
theorem dX6_multiply_185 : decode cX6_multiply 185 = .ok (.aload_n 0, 1) := by decide +kernel
theorem dX6_multiply_186 : decode cX6_multiply 186 = .ok (.getfield 176, 3) := by decide +kernel
theorem dX6_multiply_189 : decode cX6_multiply 189 = .ok (.l2i, 1) := by decide +kernel
theorem dX6_multiply_190 : decode cX6_multiply 190 = .ok (.iastore, 1) := by decide +kernel
theorem dX6_multiply_191 : decode cX6_multiply 191 = .ok (.aload_n 0, 1) := by decide +kernel
theorem dX6_multiply_192 : decode cX6_multiply 192 = .ok (.getfield 13, 3) := by decide +kernel
theorem dX6_multiply_195 : decode cX6_multiply 195 = .ok (.iconst 3, 1) := by decide +kernel
theorem dX6_multiply_196 : decode cX6_multiply 196 = .ok (.iload 4, 2) := by decide +kernel
theorem dX6_multiply_198 : decode cX6_multiply 198 = .ok (.imul, 1) := by decide +kernel
theorem dX6_multiply_199 : decode cX6_multiply 199 = .ok (.iconst 2, 1) := by decide +kernel
theorem dX6_multiply_200 : decode cX6_multiply 200 = .ok (.iadd, 1) := by decide +kernel
theorem dX6_multiply_201 : decode cX6_multiply 201 = .ok (.aload_n 0, 1) := by decide +kernel
theorem dX6_multiply_202 : decode cX6_multiply 202 = .ok (.getfield 179, 3) := by decide +kernel
theorem dX6_multiply_205 : decode cX6_multiply 205 = .ok (.l2i, 1) := by decide +kernel
theorem dX6_multiply_206 : decode cX6_multiply 206 = .ok (.iastore, 1) := by decide +kernel
theorem dX6_multiply_207 : decode cX6_multiply 207 = .ok (.iconst 1, 1) := by decide +kernel
theorem dX6_multiply_208 : decode cX6_multiply 208 = .ok (.ireturn, 1) := by decide +kernel
theorem dX6_layMatrix_0 : decode cX6_layMatrix 0 = .ok (.iconst 0, 1) := by decide +kernel
theorem dX6_layMatrix_1 : decode cX6_layMatrix 1 = .ok (.istore 7, 2) := by decide +kernel
theorem dX6_layMatrix_3 : decode cX6_layMatrix 3 = .ok (.iload 7, 2) := by decide +kernel
theorem dX6_layMatrix_5 : decode cX6_layMatrix 5 = .ok (.iconst 3, 1) := by decide +kernel
theorem dX6_layMatrix_6 : decode cX6_layMatrix 6 = .ok (.if_icmp .ge 92, 3) := by decide +kernel
theorem dX6_layMatrix_9 : decode cX6_layMatrix 9 = .ok (.aload_n 0, 1) := by decide +kernel
theorem dX6_layMatrix_10 : decode cX6_layMatrix 10 = .ok (.lload_n 1, 1) := by decide +kernel
theorem dX6_layMatrix_11 : decode cX6_layMatrix 11 = .ok (.lload_n 3, 1) := by decide +kernel
theorem dX6_layMatrix_12 : decode cX6_layMatrix 12 = .ok (.lload 5, 2) := by decide +kernel
theorem dX6_layMatrix_14 : decode cX6_layMatrix 14 = .ok (.iload 7, 2) := by decide +kernel
theorem dX6_layMatrix_16 : decode cX6_layMatrix 16 = .ok (.ifCond .ne 7, 3) := by decide +kernel
theorem dX6_layMatrix_19 : decode cX6_layMatrix 19 = .ok (.lconst 1, 1) := by decide +kernel
theorem dX6_layMatrix_20 : decode cX6_layMatrix 20 = .ok (.goto 4, 3) := by decide +kernel
theorem dX6_layMatrix_23 : decode cX6_layMatrix 23 = .ok (.lconst 0, 1) := by decide +kernel
theorem dX6_layMatrix_24 : decode cX6_layMatrix 24 = .ok (.iload 7, 2) := by decide +kernel
theorem dX6_layMatrix_26 : decode cX6_layMatrix 26 = .ok (.iconst 1, 1) := by decide +kernel
theorem dX6_layMatrix_27 : decode cX6_layMatrix 27 = .ok (.if_icmp .ne 7, 3) := by decide +kernel
theorem dX6_layMatrix_30 : decode cX6_layMatrix 30 = .ok (.lconst 1, 1) := by decide +kernel
theorem dX6_layMatrix_31 : decode cX6_layMatrix 31 = .ok (.goto 4, 3) := by decide +kernel
theorem dX6_layMatrix_34 : decode cX6_layMatrix 34 = .ok (.lconst 0, 1) := by decide +kernel
theorem dX6_layMatrix_35 : decode cX6_layMatrix 35 = .ok (.iload 7, 2) := by decide +kernel
theorem dX6_layMatrix_37 : decode cX6_layMatrix 37 = .ok (.iconst 2, 1) := by decide +kernel
theorem dX6_layMatrix_38 : decode cX6_layMatrix 38 = .ok (.if_icmp .ne 7, 3) := by decide +kernel
theorem dX6_layMatrix_41 : decode cX6_layMatrix 41 = .ok (.lconst 1, 1) := by decide +kernel
theorem dX6_layMatrix_42 : decode cX6_layMatrix 42 = .ok (.goto 4, 3) := by decide +kernel
theorem dX6_layMatrix_45 : decode cX6_layMatrix 45 = .ok (.lconst 0, 1) := by decide +kernel
theorem dX6_layMatrix_46 : decode cX6_layMatrix 46 = .ok (.invokevirtual 182, 3) := by decide +kernel
theorem dX6_layMatrix_49 : decode cX6_layMatrix 49 = .ok (.aload_n 0, 1) := by decide +kernel
theorem dX6_layMatrix_50 : decode cX6_layMatrix 50 = .ok (.getfield 16, 3) := by decide +kernel
theorem dX6_layMatrix_53 : decode cX6_layMatrix 53 = .ok (.iconst 3, 1) := by decide +kernel
theorem dX6_layMatrix_54 : decode cX6_layMatrix 54 = .ok (.iload 7, 2) := by decide +kernel
theorem dX6_layMatrix_56 : decode cX6_layMatrix 56 = .ok (.imul, 1) := by decide +kernel
theorem dX6_layMatrix_57 : decode cX6_layMatrix 57 = .ok (.aload_n 0, 1) := by decide +kernel
theorem dX6_layMatrix_58 : decode cX6_layMatrix 58 = .ok (.getfield 173, 3) := by decide +kernel
theorem dX6_layMatrix_61 : decode cX6_layMatrix 61 = .ok (.lastore, 1) := by decide +kernel
theorem dX6_layMatrix_62 : decode cX6_layMatrix 62 = .ok (.aload_n 0, 1) := by decide +kernel
theorem dX6_layMatrix_63 : decode cX6_layMatrix 63 = .ok (.getfield 16, 3) := by decide +kernel
theorem dX6_layMatrix_66 : decode cX6_layMatrix 66 = .ok (.iconst 3, 1) := by decide +kernel
theorem dX6_layMatrix_67 : decode cX6_layMatrix 67 = .ok (.iload 7, 2) := by decide +kernel
theorem dX6_layMatrix_69 : decode cX6_layMatrix 69 = .ok (.imul, 1) := by decide +kernel
theorem dX6_layMatrix_70 : decode cX6_layMatrix 70 = .ok (.iconst 1, 1) := by decide +kernel
theorem dX6_layMatrix_71 : decode cX6_layMatrix 71 = .ok (.iadd, 1) := by decide +kernel
theorem dX6_layMatrix_72 : decode cX6_layMatrix 72 = .ok (.aload_n 0, 1) := by decide +kernel
theorem dX6_layMatrix_73 : decode cX6_layMatrix 73 = .ok (.getfield 176, 3) := by decide +kernel
theorem dX6_layMatrix_76 : decode cX6_layMatrix 76 = .ok (.lastore, 1) := by decide +kernel
theorem dX6_layMatrix_77 : decode cX6_layMatrix 77 = .ok (.aload_n 0, 1) := by decide +kernel
theorem dX6_layMatrix_78 : decode cX6_layMatrix 78 = .ok (.getfield 16, 3) := by decide +kernel
theorem dX6_layMatrix_81 : decode cX6_layMatrix 81 = .ok (.iconst 3, 1) := by decide +kernel
theorem dX6_layMatrix_82 : decode cX6_layMatrix 82 = .ok (.iload 7, 2) := by decide +kernel
theorem dX6_layMatrix_84 : decode cX6_layMatrix 84 = .ok (.imul, 1) := by decide +kernel
theorem dX6_layMatrix_85 : decode cX6_layMatrix 85 = .ok (.iconst 2, 1) := by decide +kernel
theorem dX6_layMatrix_86 : decode cX6_layMatrix 86 = .ok (.iadd, 1) := by decide +kernel
theorem dX6_layMatrix_87 : decode cX6_layMatrix 87 = .ok (.aload_n 0, 1) := by decide +kernel
theorem dX6_layMatrix_88 : decode cX6_layMatrix 88 = .ok (.getfield 179, 3) := by decide +kernel
theorem dX6_layMatrix_91 : decode cX6_layMatrix 91 = .ok (.lastore, 1) := by decide +kernel
theorem dX6_layMatrix_92 : decode cX6_layMatrix 92 = .ok (.iinc 7 1, 3) := by decide +kernel
theorem dX6_layMatrix_95 : decode cX6_layMatrix 95 = .ok (.goto (-92), 3) := by decide +kernel
theorem dX6_layMatrix_98 : decode cX6_layMatrix 98 = .ok (.return_, 1) := by decide +kernel
theorem dX6_traceNow_0 : decode cX6_traceNow 0 = .ok (.aload_n 0, 1) := by decide +kernel
theorem dX6_traceNow_1 : decode cX6_traceNow 1 = .ok (.getfield 16, 3) := by decide +kernel
theorem dX6_traceNow_4 : decode cX6_traceNow 4 = .ok (.iconst 0, 1) := by decide +kernel
theorem dX6_traceNow_5 : decode cX6_traceNow 5 = .ok (.laload, 1) := by decide +kernel
theorem dX6_traceNow_6 : decode cX6_traceNow 6 = .ok (.aload_n 0, 1) := by decide +kernel
theorem dX6_traceNow_7 : decode cX6_traceNow 7 = .ok (.getfield 16, 3) := by decide +kernel
theorem dX6_traceNow_10 : decode cX6_traceNow 10 = .ok (.iconst 4, 1) := by decide +kernel
theorem dX6_traceNow_11 : decode cX6_traceNow 11 = .ok (.laload, 1) := by decide +kernel
theorem dX6_traceNow_12 : decode cX6_traceNow 12 = .ok (.ladd, 1) := by decide +kernel
theorem dX6_traceNow_13 : decode cX6_traceNow 13 = .ok (.aload_n 0, 1) := by decide +kernel
theorem dX6_traceNow_14 : decode cX6_traceNow 14 = .ok (.getfield 16, 3) := by decide +kernel
theorem dX6_traceNow_17 : decode cX6_traceNow 17 = .ok (.bipush 8, 2) := by decide +kernel
theorem dX6_traceNow_19 : decode cX6_traceNow 19 = .ok (.laload, 1) := by decide +kernel
theorem dX6_traceNow_20 : decode cX6_traceNow 20 = .ok (.ladd, 1) := by decide +kernel
theorem dX6_traceNow_21 : decode cX6_traceNow 21 = .ok (.lreturn, 1) := by decide +kernel
theorem dX6_determinant_0 : decode cX6_determinant 0 = .ok (.aload_n 0, 1) := by decide +kernel
theorem dX6_determinant_1 : decode cX6_determinant 1 = .ok (.getfield 16, 3) := by decide +kernel
theorem dX6_determinant_4 : decode cX6_determinant 4 = .ok (.iconst 0, 1) := by decide +kernel
theorem dX6_determinant_5 : decode cX6_determinant 5 = .ok (.laload, 1) := by decide +kernel
theorem dX6_determinant_6 : decode cX6_determinant 6 = .ok (.aload_n 0, 1) := by decide +kernel
theorem dX6_determinant_7 : decode cX6_determinant 7 = .ok (.getfield 16, 3) := by decide +kernel
theorem dX6_determinant_10 : decode cX6_determinant 10 = .ok (.iconst 4, 1) := by decide +kernel
theorem dX6_determinant_11 : decode cX6_determinant 11 = .ok (.laload, 1) := by decide +kernel
theorem dX6_determinant_12 : decode cX6_determinant 12 = .ok (.aload_n 0, 1) := by decide +kernel
theorem dX6_determinant_13 : decode cX6_determinant 13 = .ok (.getfield 16, 3) := by decide +kernel
theorem dX6_determinant_16 : decode cX6_determinant 16 = .ok (.bipush 8, 2) := by decide +kernel
theorem dX6_determinant_18 : decode cX6_determinant 18 = .ok (.laload, 1) := by decide +kernel
theorem dX6_determinant_19 : decode cX6_determinant 19 = .ok (.lmul, 1) := by decide +kernel
theorem dX6_determinant_20 : decode cX6_determinant 20 = .ok (.aload_n 0, 1) := by decide +kernel
theorem dX6_determinant_21 : decode cX6_determinant 21 = .ok (.getfield 16, 3) := by decide +kernel
theorem dX6_determinant_24 : decode cX6_determinant 24 = .ok (.iconst 5, 1) := by decide +kernel
theorem dX6_determinant_25 : decode cX6_determinant 25 = .ok (.laload, 1) := by decide +kernel
theorem dX6_determinant_26 : decode cX6_determinant 26 = .ok (.aload_n 0, 1) := by decide +kernel
theorem dX6_determinant_27 : decode cX6_determinant 27 = .ok (.getfield 16, 3) := by decide +kernel
theorem dX6_determinant_30 : decode cX6_determinant 30 = .ok (.bipush 7, 2) := by decide +kernel
theorem dX6_determinant_32 : decode cX6_determinant 32 = .ok (.laload, 1) := by decide +kernel
theorem dX6_determinant_33 : decode cX6_determinant 33 = .ok (.lmul, 1) := by decide +kernel
theorem dX6_determinant_34 : decode cX6_determinant 34 = .ok (.lsub, 1) := by decide +kernel
theorem dX6_determinant_35 : decode cX6_determinant 35 = .ok (.lmul, 1) := by decide +kernel
theorem dX6_determinant_36 : decode cX6_determinant 36 = .ok (.aload_n 0, 1) := by decide +kernel
theorem dX6_determinant_37 : decode cX6_determinant 37 = .ok (.getfield 16, 3) := by decide +kernel
theorem dX6_determinant_40 : decode cX6_determinant 40 = .ok (.iconst 1, 1) := by decide +kernel
theorem dX6_determinant_41 : decode cX6_determinant 41 = .ok (.laload, 1) := by decide +kernel
theorem dX6_determinant_42 : decode cX6_determinant 42 = .ok (.aload_n 0, 1) := by decide +kernel
theorem dX6_determinant_43 : decode cX6_determinant 43 = .ok (.getfield 16, 3) := by decide +kernel
theorem dX6_determinant_46 : decode cX6_determinant 46 = .ok (.iconst 3, 1) := by decide +kernel
theorem dX6_determinant_47 : decode cX6_determinant 47 = .ok (.laload, 1) := by decide +kernel
theorem dX6_determinant_48 : decode cX6_determinant 48 = .ok (.aload_n 0, 1) := by decide +kernel
theorem dX6_determinant_49 : decode cX6_determinant 49 = .ok (.getfield 16, 3) := by decide +kernel
theorem dX6_determinant_52 : decode cX6_determinant 52 = .ok (.bipush 8, 2) := by decide +kernel
theorem dX6_determinant_54 : decode cX6_determinant 54 = .ok (.laload, 1) := by decide +kernel
theorem dX6_determinant_55 : decode cX6_determinant 55 = .ok (.lmul, 1) := by decide +kernel
theorem dX6_determinant_56 : decode cX6_determinant 56 = .ok (.aload_n 0, 1) := by decide +kernel
theorem dX6_determinant_57 : decode cX6_determinant 57 = .ok (.getfield 16, 3) := by decide +kernel
theorem dX6_determinant_60 : decode cX6_determinant 60 = .ok (.iconst 5, 1) := by decide +kernel
theorem dX6_determinant_61 : decode cX6_determinant 61 = .ok (.laload, 1) := by decide +kernel
theorem dX6_determinant_62 : decode cX6_determinant 62 = .ok (.aload_n 0, 1) := by decide +kernel
theorem dX6_determinant_63 : decode cX6_determinant 63 = .ok (.getfield 16, 3) := by decide +kernel
theorem dX6_determinant_66 : decode cX6_determinant 66 = .ok (.bipush 6, 2) := by decide +kernel
theorem dX6_determinant_68 : decode cX6_determinant 68 = .ok (.laload, 1) := by decide +kernel
theorem dX6_determinant_69 : decode cX6_determinant 69 = .ok (.lmul, 1) := by decide +kernel
theorem dX6_determinant_70 : decode cX6_determinant 70 = .ok (.lsub, 1) := by decide +kernel
theorem dX6_determinant_71 : decode cX6_determinant 71 = .ok (.lmul, 1) := by decide +kernel
theorem dX6_determinant_72 : decode cX6_determinant 72 = .ok (.lsub, 1) := by decide +kernel
theorem dX6_determinant_73 : decode cX6_determinant 73 = .ok (.aload_n 0, 1) := by decide +kernel
theorem dX6_determinant_74 : decode cX6_determinant 74 = .ok (.getfield 16, 3) := by decide +kernel
theorem dX6_determinant_77 : decode cX6_determinant 77 = .ok (.iconst 2, 1) := by decide +kernel
theorem dX6_determinant_78 : decode cX6_determinant 78 = .ok (.laload, 1) := by decide +kernel
theorem dX6_determinant_79 : decode cX6_determinant 79 = .ok (.aload_n 0, 1) := by decide +kernel
theorem dX6_determinant_80 : decode cX6_determinant 80 = .ok (.getfield 16, 3) := by decide +kernel
theorem dX6_determinant_83 : decode cX6_determinant 83 = .ok (.iconst 3, 1) := by decide +kernel
theorem dX6_determinant_84 : decode cX6_determinant 84 = .ok (.laload, 1) := by decide +kernel
theorem dX6_determinant_85 : decode cX6_determinant 85 = .ok (.aload_n 0, 1) := by decide +kernel
theorem dX6_determinant_86 : decode cX6_determinant 86 = .ok (.getfield 16, 3) := by decide +kernel
theorem dX6_determinant_89 : decode cX6_determinant 89 = .ok (.bipush 7, 2) := by decide +kernel
theorem dX6_determinant_91 : decode cX6_determinant 91 = .ok (.laload, 1) := by decide +kernel
theorem dX6_determinant_92 : decode cX6_determinant 92 = .ok (.lmul, 1) := by decide +kernel
theorem dX6_determinant_93 : decode cX6_determinant 93 = .ok (.aload_n 0, 1) := by decide +kernel
theorem dX6_determinant_94 : decode cX6_determinant 94 = .ok (.getfield 16, 3) := by decide +kernel
theorem dX6_determinant_97 : decode cX6_determinant 97 = .ok (.iconst 4, 1) := by decide +kernel
theorem dX6_determinant_98 : decode cX6_determinant 98 = .ok (.laload, 1) := by decide +kernel
theorem dX6_determinant_99 : decode cX6_determinant 99 = .ok (.aload_n 0, 1) := by decide +kernel
theorem dX6_determinant_100 : decode cX6_determinant 100 = .ok (.getfield 16, 3) := by decide +kernel
theorem dX6_determinant_103 : decode cX6_determinant 103 = .ok (.bipush 6, 2) := by decide +kernel
theorem dX6_determinant_105 : decode cX6_determinant 105 = .ok (.laload, 1) := by decide +kernel
theorem dX6_determinant_106 : decode cX6_determinant 106 = .ok (.lmul, 1) := by decide +kernel
theorem dX6_determinant_107 : decode cX6_determinant 107 = .ok (.lsub, 1) := by decide +kernel
theorem dX6_determinant_108 : decode cX6_determinant 108 = .ok (.lmul, 1) := by decide +kernel
theorem dX6_determinant_109 : decode cX6_determinant 109 = .ok (.ladd, 1) := by decide +kernel
theorem dX6_determinant_110 : decode cX6_determinant 110 = .ok (.lreturn, 1) := by decide +kernel
theorem dX6_layElement_0 : decode cX6_layElement 0 = .ok (.aload_n 0, 1) := by decide +kernel
theorem dX6_layElement_1 : decode cX6_layElement 1 = .ok (.iload_n 1, 1) := by decide +kernel
theorem dX6_layElement_2 : decode cX6_layElement 2 = .ok (.invokevirtual 66, 3) := by decide +kernel
theorem dX6_layElement_5 : decode cX6_layElement 5 = .ok (.ifCond .eq 10, 3) := by decide +kernel
theorem dX6_layElement_8 : decode cX6_layElement 8 = .ok (.iload_n 2, 1) := by decide +kernel
theorem dX6_layElement_9 : decode cX6_layElement 9 = .ok (.invokestatic 170, 3) := by decide +kernel
theorem dX6_layElement_12 : decode cX6_layElement 12 = .ok (.ifCond .ne 5, 3) := by decide +kernel
theorem dX6_layElement_15 : decode cX6_layElement 15 = .ok (.iconst 0, 1) := by decide +kernel
theorem dX6_layElement_16 : decode cX6_layElement 16 = .ok (.ireturn, 1) := by decide +kernel
theorem dX6_layElement_17 : decode cX6_layElement 17 = .ok (.aload_n 0, 1) := by decide +kernel
theorem dX6_layElement_18 : decode cX6_layElement 18 = .ok (.iload_n 1, 1) := by decide +kernel
theorem dX6_layElement_19 : decode cX6_layElement 19 = .ok (.invokevirtual 82, 3) := by decide +kernel
theorem dX6_layElement_22 : decode cX6_layElement 22 = .ok (.aload_n 0, 1) := by decide +kernel
theorem dX6_layElement_23 : decode cX6_layElement 23 = .ok (.aload_n 0, 1) := by decide +kernel
theorem dX6_layElement_24 : decode cX6_layElement 24 = .ok (.getfield 13, 3) := by decide +kernel
theorem dX6_layElement_27 : decode cX6_layElement 27 = .ok (.iconst 3, 1) := by decide +kernel
theorem dX6_layElement_28 : decode cX6_layElement 28 = .ok (.iload_n 2, 1) := by decide +kernel
theorem dX6_layElement_29 : decode cX6_layElement 29 = .ok (.imul, 1) := by decide +kernel
theorem dX6_layElement_30 : decode cX6_layElement 30 = .ok (.iaload, 1) := by decide +kernel
theorem dX6_layElement_31 : decode cX6_layElement 31 = .ok (.i2l, 1) := by decide +kernel
theorem dX6_layElement_32 : decode cX6_layElement 32 = .ok (.aload_n 0, 1) := by decide +kernel
theorem dX6_layElement_33 : decode cX6_layElement 33 = .ok (.getfield 13, 3) := by decide +kernel
theorem dX6_layElement_36 : decode cX6_layElement 36 = .ok (.iconst 3, 1) := by decide +kernel
theorem dX6_layElement_37 : decode cX6_layElement 37 = .ok (.iload_n 2, 1) := by decide +kernel
theorem dX6_layElement_38 : decode cX6_layElement 38 = .ok (.imul, 1) := by decide +kernel
theorem dX6_layElement_39 : decode cX6_layElement 39 = .ok (.iconst 1, 1) := by decide +kernel
theorem dX6_layElement_40 : decode cX6_layElement 40 = .ok (.iadd, 1) := by decide +kernel
theorem dX6_layElement_41 : decode cX6_layElement 41 = .ok (.iaload, 1) := by decide +kernel
theorem dX6_layElement_42 : decode cX6_layElement 42 = .ok (.i2l, 1) := by decide +kernel
theorem dX6_layElement_43 : decode cX6_layElement 43 = .ok (.aload_n 0, 1) := by decide +kernel
theorem dX6_layElement_44 : decode cX6_layElement 44 = .ok (.getfield 13, 3) := by decide +kernel
theorem dX6_layElement_47 : decode cX6_layElement 47 = .ok (.iconst 3, 1) := by decide +kernel
theorem dX6_layElement_48 : decode cX6_layElement 48 = .ok (.iload_n 2, 1) := by decide +kernel
theorem dX6_layElement_49 : decode cX6_layElement 49 = .ok (.imul, 1) := by decide +kernel
theorem dX6_layElement_50 : decode cX6_layElement 50 = .ok (.iconst 2, 1) := by decide +kernel
theorem dX6_layElement_51 : decode cX6_layElement 51 = .ok (.iadd, 1) := by decide +kernel
theorem dX6_layElement_52 : decode cX6_layElement 52 = .ok (.iaload, 1) := by decide +kernel
theorem dX6_layElement_53 : decode cX6_layElement 53 = .ok (.i2l, 1) := by decide +kernel
theorem dX6_layElement_54 : decode cX6_layElement 54 = .ok (.invokevirtual 186, 3) := by decide +kernel
theorem dX6_layElement_57 : decode cX6_layElement 57 = .ok (.iconst 1, 1) := by decide +kernel
theorem dX6_layElement_58 : decode cX6_layElement 58 = .ok (.ireturn, 1) := by decide +kernel
theorem dX6_trace_0 : decode cX6_trace 0 = .ok (.aload_n 0, 1) := by decide +kernel
theorem dX6_trace_1 : decode cX6_trace 1 = .ok (.iload_n 1, 1) := by decide +kernel
theorem dX6_trace_2 : decode cX6_trace 2 = .ok (.iload_n 2, 1) := by decide +kernel
theorem dX6_trace_3 : decode cX6_trace 3 = .ok (.invokevirtual 190, 3) := by decide +kernel
theorem dX6_trace_6 : decode cX6_trace 6 = .ok (.ifCond .eq 10, 3) := by decide +kernel
theorem dX6_trace_9 : decode cX6_trace 9 = .ok (.aload_n 0, 1) := by decide +kernel
theorem dX6_trace_10 : decode cX6_trace 10 = .ok (.invokevirtual 194, 3) := by decide +kernel
theorem dX6_trace_13 : decode cX6_trace 13 = .ok (.goto 6, 3) := by decide +kernel
theorem dX6_trace_16 : decode cX6_trace 16 = .ok (.ldc2_w 80, 3) := by decide +kernel
theorem dX6_trace_19 : decode cX6_trace 19 = .ok (.lreturn, 1) := by decide +kernel
theorem dX6_norm_0 : decode cX6_norm 0 = .ok (.aload_n 0, 1) := by decide +kernel
theorem dX6_norm_1 : decode cX6_norm 1 = .ok (.iload_n 1, 1) := by decide +kernel
theorem dX6_norm_2 : decode cX6_norm 2 = .ok (.iload_n 2, 1) := by decide +kernel
theorem dX6_norm_3 : decode cX6_norm 3 = .ok (.invokevirtual 190, 3) := by decide +kernel
theorem dX6_norm_6 : decode cX6_norm 6 = .ok (.ifCond .eq 10, 3) := by decide +kernel
theorem dX6_norm_9 : decode cX6_norm 9 = .ok (.aload_n 0, 1) := by decide +kernel
theorem dX6_norm_10 : decode cX6_norm 10 = .ok (.invokevirtual 197, 3) := by decide +kernel
theorem dX6_norm_13 : decode cX6_norm 13 = .ok (.goto 6, 3) := by decide +kernel
theorem dX6_norm_16 : decode cX6_norm 16 = .ok (.ldc2_w 80, 3) := by decide +kernel
theorem dX6_norm_19 : decode cX6_norm 19 = .ok (.lreturn, 1) := by decide +kernel
theorem dX6_traceDeterminant_0 : decode cX6_traceDeterminant 0 = .ok (.aload_n 0, 1) := by decide +kernel
theorem dX6_traceDeterminant_1 : decode cX6_traceDeterminant 1 = .ok (.iload_n 1, 1) := by decide +kernel
theorem dX6_traceDeterminant_2 : decode cX6_traceDeterminant 2 = .ok (.invokevirtual 66, 3) := by decide +kernel
theorem dX6_traceDeterminant_5 : decode cX6_traceDeterminant 5 = .ok (.ifCond .ne 7, 3) := by decide +kernel
theorem dX6_traceDeterminant_8 : decode cX6_traceDeterminant 8 = .ok (.ldc2_w 80, 3) := by decide +kernel
theorem dX6_traceDeterminant_11 : decode cX6_traceDeterminant 11 = .ok (.lreturn, 1) := by decide +kernel
theorem dX6_traceDeterminant_12 : decode cX6_traceDeterminant 12 = .ok (.aload_n 0, 1) := by decide +kernel
theorem dX6_traceDeterminant_13 : decode cX6_traceDeterminant 13 = .ok (.iload_n 1, 1) := by decide +kernel
theorem dX6_traceDeterminant_14 : decode cX6_traceDeterminant 14 = .ok (.invokevirtual 82, 3) := by decide +kernel
theorem dX6_traceDeterminant_17 : decode cX6_traceDeterminant 17 = .ok (.iconst 0, 1) := by decide +kernel
theorem dX6_traceDeterminant_18 : decode cX6_traceDeterminant 18 = .ok (.istore_n 2, 1) := by decide +kernel
theorem dX6_traceDeterminant_19 : decode cX6_traceDeterminant 19 = .ok (.iload_n 2, 1) := by decide +kernel
theorem dX6_traceDeterminant_20 : decode cX6_traceDeterminant 20 = .ok (.bipush 9, 2) := by decide +kernel
theorem dX6_traceDeterminant_22 : decode cX6_traceDeterminant 22 = .ok (.if_icmp .ge 109, 3) := by decide +kernel
theorem dX6_traceDeterminant_25 : decode cX6_traceDeterminant 25 = .ok (.iload_n 2, 1) := by decide +kernel
theorem dX6_traceDeterminant_26 : decode cX6_traceDeterminant 26 = .ok (.iconst 3, 1) := by decide +kernel
theorem dX6_traceDeterminant_27 : decode cX6_traceDeterminant 27 = .ok (.idiv, 1) := by decide +kernel
theorem dX6_traceDeterminant_28 : decode cX6_traceDeterminant 28 = .ok (.istore_n 3, 1) := by decide +kernel
theorem dX6_traceDeterminant_29 : decode cX6_traceDeterminant 29 = .ok (.iload_n 2, 1) := by decide +kernel
theorem dX6_traceDeterminant_30 : decode cX6_traceDeterminant 30 = .ok (.iconst 3, 1) := by decide +kernel
theorem dX6_traceDeterminant_31 : decode cX6_traceDeterminant 31 = .ok (.irem, 1) := by decide +kernel
theorem dX6_traceDeterminant_32 : decode cX6_traceDeterminant 32 = .ok (.istore 4, 2) := by decide +kernel
theorem dX6_traceDeterminant_34 : decode cX6_traceDeterminant 34 = .ok (.aload_n 0, 1) := by decide +kernel
theorem dX6_traceDeterminant_35 : decode cX6_traceDeterminant 35 = .ok (.iload_n 3, 1) := by decide +kernel
theorem dX6_traceDeterminant_36 : decode cX6_traceDeterminant 36 = .ok (.ifCond .ne 7, 3) := by decide +kernel
theorem dX6_traceDeterminant_39 : decode cX6_traceDeterminant 39 = .ok (.lconst 1, 1) := by decide +kernel
theorem dX6_traceDeterminant_40 : decode cX6_traceDeterminant 40 = .ok (.goto 4, 3) := by decide +kernel
theorem dX6_traceDeterminant_43 : decode cX6_traceDeterminant 43 = .ok (.lconst 0, 1) := by decide +kernel
theorem dX6_traceDeterminant_44 : decode cX6_traceDeterminant 44 = .ok (.iload_n 3, 1) := by decide +kernel
theorem dX6_traceDeterminant_45 : decode cX6_traceDeterminant 45 = .ok (.iconst 1, 1) := by decide +kernel
theorem dX6_traceDeterminant_46 : decode cX6_traceDeterminant 46 = .ok (.if_icmp .ne 7, 3) := by decide +kernel
theorem dX6_traceDeterminant_49 : decode cX6_traceDeterminant 49 = .ok (.lconst 1, 1) := by decide +kernel
theorem dX6_traceDeterminant_50 : decode cX6_traceDeterminant 50 = .ok (.goto 4, 3) := by decide +kernel
theorem dX6_traceDeterminant_53 : decode cX6_traceDeterminant 53 = .ok (.lconst 0, 1) := by decide +kernel
theorem dX6_traceDeterminant_54 : decode cX6_traceDeterminant 54 = .ok (.iload_n 3, 1) := by decide +kernel
theorem dX6_traceDeterminant_55 : decode cX6_traceDeterminant 55 = .ok (.iconst 2, 1) := by decide +kernel
theorem dX6_traceDeterminant_56 : decode cX6_traceDeterminant 56 = .ok (.if_icmp .ne 7, 3) := by decide +kernel
theorem dX6_traceDeterminant_59 : decode cX6_traceDeterminant 59 = .ok (.lconst 1, 1) := by decide +kernel
theorem dX6_traceDeterminant_60 : decode cX6_traceDeterminant 60 = .ok (.goto 4, 3) := by decide +kernel
theorem dX6_traceDeterminant_63 : decode cX6_traceDeterminant 63 = .ok (.lconst 0, 1) := by decide +kernel
theorem dX6_traceDeterminant_64 : decode cX6_traceDeterminant 64 = .ok (.iload 4, 2) := by decide +kernel
theorem dX6_traceDeterminant_66 : decode cX6_traceDeterminant 66 = .ok (.ifCond .ne 7, 3) := by decide +kernel
theorem dX6_traceDeterminant_69 : decode cX6_traceDeterminant 69 = .ok (.lconst 1, 1) := by decide +kernel
theorem dX6_traceDeterminant_70 : decode cX6_traceDeterminant 70 = .ok (.goto 4, 3) := by decide +kernel
theorem dX6_traceDeterminant_73 : decode cX6_traceDeterminant 73 = .ok (.lconst 0, 1) := by decide +kernel
theorem dX6_traceDeterminant_74 : decode cX6_traceDeterminant 74 = .ok (.iload 4, 2) := by decide +kernel
theorem dX6_traceDeterminant_76 : decode cX6_traceDeterminant 76 = .ok (.iconst 1, 1) := by decide +kernel
theorem dX6_traceDeterminant_77 : decode cX6_traceDeterminant 77 = .ok (.if_icmp .ne 7, 3) := by decide +kernel
theorem dX6_traceDeterminant_80 : decode cX6_traceDeterminant 80 = .ok (.lconst 1, 1) := by decide +kernel
theorem dX6_traceDeterminant_81 : decode cX6_traceDeterminant 81 = .ok (.goto 4, 3) := by decide +kernel
theorem dX6_traceDeterminant_84 : decode cX6_traceDeterminant 84 = .ok (.lconst 0, 1) := by decide +kernel
theorem dX6_traceDeterminant_85 : decode cX6_traceDeterminant 85 = .ok (.iload 4, 2) := by decide +kernel
theorem dX6_traceDeterminant_87 : decode cX6_traceDeterminant 87 = .ok (.iconst 2, 1) := by decide +kernel
theorem dX6_traceDeterminant_88 : decode cX6_traceDeterminant 88 = .ok (.if_icmp .ne 7, 3) := by decide +kernel
theorem dX6_traceDeterminant_91 : decode cX6_traceDeterminant 91 = .ok (.lconst 1, 1) := by decide +kernel
theorem dX6_traceDeterminant_92 : decode cX6_traceDeterminant 92 = .ok (.goto 4, 3) := by decide +kernel
theorem dX6_traceDeterminant_95 : decode cX6_traceDeterminant 95 = .ok (.lconst 0, 1) := by decide +kernel
theorem dX6_traceDeterminant_96 : decode cX6_traceDeterminant 96 = .ok (.invokevirtual 182, 3) := by decide +kernel
theorem dX6_traceDeterminant_99 : decode cX6_traceDeterminant 99 = .ok (.aload_n 0, 1) := by decide +kernel
theorem dX6_traceDeterminant_100 : decode cX6_traceDeterminant 100 = .ok (.aload_n 0, 1) := by decide +kernel
theorem dX6_traceDeterminant_101 : decode cX6_traceDeterminant 101 = .ok (.getfield 173, 3) := by decide +kernel
theorem dX6_traceDeterminant_104 : decode cX6_traceDeterminant 104 = .ok (.aload_n 0, 1) := by decide +kernel
theorem dX6_traceDeterminant_105 : decode cX6_traceDeterminant 105 = .ok (.getfield 176, 3) := by decide +kernel
theorem dX6_traceDeterminant_108 : decode cX6_traceDeterminant 108 = .ok (.aload_n 0, 1) := by decide +kernel
theorem dX6_traceDeterminant_109 : decode cX6_traceDeterminant 109 = .ok (.getfield 179, 3) := by decide +kernel
theorem dX6_traceDeterminant_112 : decode cX6_traceDeterminant 112 = .ok (.invokevirtual 186, 3) := by decide +kernel
theorem dX6_traceDeterminant_115 : decode cX6_traceDeterminant 115 = .ok (.aload_n 0, 1) := by decide +kernel
theorem dX6_traceDeterminant_116 : decode cX6_traceDeterminant 116 = .ok (.getfield 20, 3) := by decide +kernel
theorem dX6_traceDeterminant_119 : decode cX6_traceDeterminant 119 = .ok (.iload_n 2, 1) := by decide +kernel
theorem dX6_traceDeterminant_120 : decode cX6_traceDeterminant 120 = .ok (.aload_n 0, 1) := by decide +kernel
theorem dX6_traceDeterminant_121 : decode cX6_traceDeterminant 121 = .ok (.invokevirtual 194, 3) := by decide +kernel
theorem dX6_traceDeterminant_124 : decode cX6_traceDeterminant 124 = .ok (.lastore, 1) := by decide +kernel
theorem dX6_traceDeterminant_125 : decode cX6_traceDeterminant 125 = .ok (.iinc 2 1, 3) := by decide +kernel
theorem dX6_traceDeterminant_128 : decode cX6_traceDeterminant 128 = .ok (.goto (-109), 3) := by decide +kernel
theorem dX6_traceDeterminant_131 : decode cX6_traceDeterminant 131 = .ok (.iconst 0, 1) := by decide +kernel
theorem dX6_traceDeterminant_132 : decode cX6_traceDeterminant 132 = .ok (.istore_n 2, 1) := by decide +kernel
theorem dX6_traceDeterminant_133 : decode cX6_traceDeterminant 133 = .ok (.iload_n 2, 1) := by decide +kernel
theorem dX6_traceDeterminant_134 : decode cX6_traceDeterminant 134 = .ok (.bipush 9, 2) := by decide +kernel
theorem dX6_traceDeterminant_136 : decode cX6_traceDeterminant 136 = .ok (.if_icmp .ge 21, 3) := by decide +kernel
theorem dX6_traceDeterminant_139 : decode cX6_traceDeterminant 139 = .ok (.aload_n 0, 1) := by decide +kernel
theorem dX6_traceDeterminant_140 : decode cX6_traceDeterminant 140 = .ok (.getfield 16, 3) := by decide +kernel
theorem dX6_traceDeterminant_143 : decode cX6_traceDeterminant 143 = .ok (.iload_n 2, 1) := by decide +kernel
theorem dX6_traceDeterminant_144 : decode cX6_traceDeterminant 144 = .ok (.aload_n 0, 1) := by decide +kernel
theorem dX6_traceDeterminant_145 : decode cX6_traceDeterminant 145 = .ok (.getfield 20, 3) := by decide +kernel
theorem dX6_traceDeterminant_148 : decode cX6_traceDeterminant 148 = .ok (.iload_n 2, 1) := by decide +kernel
theorem dX6_traceDeterminant_149 : decode cX6_traceDeterminant 149 = .ok (.laload, 1) := by decide +kernel
theorem dX6_traceDeterminant_150 : decode cX6_traceDeterminant 150 = .ok (.lastore, 1) := by decide +kernel
theorem dX6_traceDeterminant_151 : decode cX6_traceDeterminant 151 = .ok (.iinc 2 1, 3) := by decide +kernel
theorem dX6_traceDeterminant_154 : decode cX6_traceDeterminant 154 = .ok (.goto (-21), 3) := by decide +kernel
theorem dX6_traceDeterminant_157 : decode cX6_traceDeterminant 157 = .ok (.aload_n 0, 1) := by decide +kernel
theorem dX6_traceDeterminant_158 : decode cX6_traceDeterminant 158 = .ok (.invokevirtual 197, 3) := by decide +kernel
theorem dX6_traceDeterminant_161 : decode cX6_traceDeterminant 161 = .ok (.lreturn, 1) := by decide +kernel
theorem dX6_elementIndex_0 : decode cX6_elementIndex 0 = .ok (.aload_n 0, 1) := by decide +kernel
theorem dX6_elementIndex_1 : decode cX6_elementIndex 1 = .ok (.iload_n 1, 1) := by decide +kernel
theorem dX6_elementIndex_2 : decode cX6_elementIndex 2 = .ok (.invokevirtual 66, 3) := by decide +kernel
theorem dX6_elementIndex_5 : decode cX6_elementIndex 5 = .ok (.ifCond .eq 10, 3) := by decide +kernel
theorem dX6_elementIndex_8 : decode cX6_elementIndex 8 = .ok (.iload_n 2, 1) := by decide +kernel
theorem dX6_elementIndex_9 : decode cX6_elementIndex 9 = .ok (.invokestatic 170, 3) := by decide +kernel
theorem dX6_elementIndex_12 : decode cX6_elementIndex 12 = .ok (.ifCond .ne 7, 3) := by decide +kernel
theorem dX6_elementIndex_15 : decode cX6_elementIndex 15 = .ok (.ldc2_w 80, 3) := by decide +kernel
theorem dX6_elementIndex_18 : decode cX6_elementIndex 18 = .ok (.lreturn, 1) := by decide +kernel
theorem dX6_elementIndex_19 : decode cX6_elementIndex 19 = .ok (.aload_n 0, 1) := by decide +kernel
theorem dX6_elementIndex_20 : decode cX6_elementIndex 20 = .ok (.iload_n 1, 1) := by decide +kernel
theorem dX6_elementIndex_21 : decode cX6_elementIndex 21 = .ok (.invokevirtual 82, 3) := by decide +kernel
theorem dX6_elementIndex_24 : decode cX6_elementIndex 24 = .ok (.aload_n 0, 1) := by decide +kernel
theorem dX6_elementIndex_25 : decode cX6_elementIndex 25 = .ok (.getfield 13, 3) := by decide +kernel
theorem dX6_elementIndex_28 : decode cX6_elementIndex 28 = .ok (.iconst 3, 1) := by decide +kernel
theorem dX6_elementIndex_29 : decode cX6_elementIndex 29 = .ok (.iload_n 2, 1) := by decide +kernel
theorem dX6_elementIndex_30 : decode cX6_elementIndex 30 = .ok (.imul, 1) := by decide +kernel
theorem dX6_elementIndex_31 : decode cX6_elementIndex 31 = .ok (.iaload, 1) := by decide +kernel
theorem dX6_elementIndex_32 : decode cX6_elementIndex 32 = .ok (.i2l, 1) := by decide +kernel
theorem dX6_elementIndex_33 : decode cX6_elementIndex 33 = .ok (.lstore_n 3, 1) := by decide +kernel
theorem dX6_elementIndex_34 : decode cX6_elementIndex 34 = .ok (.aload_n 0, 1) := by decide +kernel
theorem dX6_elementIndex_35 : decode cX6_elementIndex 35 = .ok (.getfield 13, 3) := by decide +kernel
theorem dX6_elementIndex_38 : decode cX6_elementIndex 38 = .ok (.iconst 3, 1) := by decide +kernel
theorem dX6_elementIndex_39 : decode cX6_elementIndex 39 = .ok (.iload_n 2, 1) := by decide +kernel
theorem dX6_elementIndex_40 : decode cX6_elementIndex 40 = .ok (.imul, 1) := by decide +kernel
theorem dX6_elementIndex_41 : decode cX6_elementIndex 41 = .ok (.iconst 1, 1) := by decide +kernel
theorem dX6_elementIndex_42 : decode cX6_elementIndex 42 = .ok (.iadd, 1) := by decide +kernel
theorem dX6_elementIndex_43 : decode cX6_elementIndex 43 = .ok (.iaload, 1) := by decide +kernel
theorem dX6_elementIndex_44 : decode cX6_elementIndex 44 = .ok (.i2l, 1) := by decide +kernel
theorem dX6_elementIndex_45 : decode cX6_elementIndex 45 = .ok (.lstore 5, 2) := by decide +kernel
theorem dX6_elementIndex_47 : decode cX6_elementIndex 47 = .ok (.aload_n 0, 1) := by decide +kernel
theorem dX6_elementIndex_48 : decode cX6_elementIndex 48 = .ok (.getfield 13, 3) := by decide +kernel
theorem dX6_elementIndex_51 : decode cX6_elementIndex 51 = .ok (.iconst 3, 1) := by decide +kernel
theorem dX6_elementIndex_52 : decode cX6_elementIndex 52 = .ok (.iload_n 2, 1) := by decide +kernel
theorem dX6_elementIndex_53 : decode cX6_elementIndex 53 = .ok (.imul, 1) := by decide +kernel
theorem dX6_elementIndex_54 : decode cX6_elementIndex 54 = .ok (.iconst 2, 1) := by decide +kernel
theorem dX6_elementIndex_55 : decode cX6_elementIndex 55 = .ok (.iadd, 1) := by decide +kernel
theorem dX6_elementIndex_56 : decode cX6_elementIndex 56 = .ok (.iaload, 1) := by decide +kernel
theorem dX6_elementIndex_57 : decode cX6_elementIndex 57 = .ok (.i2l, 1) := by decide +kernel
theorem dX6_elementIndex_58 : decode cX6_elementIndex 58 = .ok (.lstore 7, 2) := by decide +kernel
theorem dX6_elementIndex_60 : decode cX6_elementIndex 60 = .ok (.aload_n 0, 1) := by decide +kernel
theorem dX6_elementIndex_61 : decode cX6_elementIndex 61 = .ok (.lload_n 3, 1) := by decide +kernel
theorem dX6_elementIndex_62 : decode cX6_elementIndex 62 = .ok (.lload 5, 2) := by decide +kernel
theorem dX6_elementIndex_64 : decode cX6_elementIndex 64 = .ok (.lload 7, 2) := by decide +kernel
theorem dX6_elementIndex_66 : decode cX6_elementIndex 66 = .ok (.lload_n 3, 1) := by decide +kernel
theorem dX6_elementIndex_67 : decode cX6_elementIndex 67 = .ok (.lload 5, 2) := by decide +kernel
theorem dX6_elementIndex_69 : decode cX6_elementIndex 69 = .ok (.lload 7, 2) := by decide +kernel
theorem dX6_elementIndex_71 : decode cX6_elementIndex 71 = .ok (.invokevirtual 182, 3) := by decide +kernel
theorem dX6_elementIndex_74 : decode cX6_elementIndex 74 = .ok (.lload 5, 2) := by decide +kernel
theorem dX6_elementIndex_76 : decode cX6_elementIndex 76 = .ok (.aload_n 0, 1) := by decide +kernel
theorem dX6_elementIndex_77 : decode cX6_elementIndex 77 = .ok (.getfield 179, 3) := by decide +kernel
theorem dX6_elementIndex_80 : decode cX6_elementIndex 80 = .ok (.lmul, 1) := by decide +kernel
theorem dX6_elementIndex_81 : decode cX6_elementIndex 81 = .ok (.lload 7, 2) := by decide +kernel
theorem dX6_elementIndex_83 : decode cX6_elementIndex 83 = .ok (.aload_n 0, 1) := by decide +kernel
theorem dX6_elementIndex_84 : decode cX6_elementIndex 84 = .ok (.getfield 176, 3) := by decide +kernel
theorem dX6_elementIndex_87 : decode cX6_elementIndex 87 = .ok (.lmul, 1) := by decide +kernel
theorem dX6_elementIndex_88 : decode cX6_elementIndex 88 = .ok (.lsub, 1) := by decide +kernel
theorem dX6_elementIndex_89 : decode cX6_elementIndex 89 = .ok (.invokestatic 109, 3) := by decide +kernel
theorem dX6_elementIndex_92 : decode cX6_elementIndex 92 = .ok (.lreturn, 1) := by decide +kernel
theorem dX6_isPrime_0 : decode cX6_isPrime 0 = .ok (.iload_n 0, 1) := by decide +kernel
theorem dX6_isPrime_1 : decode cX6_isPrime 1 = .ok (.i2l, 1) := by decide +kernel
theorem dX6_isPrime_2 : decode cX6_isPrime 2 = .ok (.ldc2_w 90, 3) := by decide +kernel
theorem dX6_isPrime_5 : decode cX6_isPrime 5 = .ok (.ldc2_w 200, 3) := by decide +kernel
theorem dX6_isPrime_8 : decode cX6_isPrime 8 = .ok (.invokestatic 33, 3) := by decide +kernel
theorem dX6_isPrime_11 : decode cX6_isPrime 11 = .ok (.ifCond .ne 5, 3) := by decide +kernel
theorem dX6_isPrime_14 : decode cX6_isPrime 14 = .ok (.iconst 0, 1) := by decide +kernel
theorem dX6_isPrime_15 : decode cX6_isPrime 15 = .ok (.ireturn, 1) := by decide +kernel
theorem dX6_isPrime_16 : decode cX6_isPrime 16 = .ok (.iconst 2, 1) := by decide +kernel
theorem dX6_isPrime_17 : decode cX6_isPrime 17 = .ok (.istore_n 1, 1) := by decide +kernel
theorem dX6_isPrime_18 : decode cX6_isPrime 18 = .ok (.iload_n 1, 1) := by decide +kernel
theorem dX6_isPrime_19 : decode cX6_isPrime 19 = .ok (.iload_n 1, 1) := by decide +kernel
theorem dX6_isPrime_20 : decode cX6_isPrime 20 = .ok (.imul, 1) := by decide +kernel
theorem dX6_isPrime_21 : decode cX6_isPrime 21 = .ok (.iload_n 0, 1) := by decide +kernel
theorem dX6_isPrime_22 : decode cX6_isPrime 22 = .ok (.if_icmp .gt 17, 3) := by decide +kernel
theorem dX6_isPrime_25 : decode cX6_isPrime 25 = .ok (.iload_n 0, 1) := by decide +kernel
theorem dX6_isPrime_26 : decode cX6_isPrime 26 = .ok (.iload_n 1, 1) := by decide +kernel
theorem dX6_isPrime_27 : decode cX6_isPrime 27 = .ok (.irem, 1) := by decide +kernel
theorem dX6_isPrime_28 : decode cX6_isPrime 28 = .ok (.ifCond .ne 5, 3) := by decide +kernel
theorem dX6_isPrime_31 : decode cX6_isPrime 31 = .ok (.iconst 0, 1) := by decide +kernel
theorem dX6_isPrime_32 : decode cX6_isPrime 32 = .ok (.ireturn, 1) := by decide +kernel
theorem dX6_isPrime_33 : decode cX6_isPrime 33 = .ok (.iinc 1 1, 3) := by decide +kernel
theorem dX6_isPrime_36 : decode cX6_isPrime 36 = .ok (.goto (-18), 3) := by decide +kernel
theorem dX6_isPrime_39 : decode cX6_isPrime 39 = .ok (.iconst 1, 1) := by decide +kernel
theorem dX6_isPrime_40 : decode cX6_isPrime 40 = .ok (.ireturn, 1) := by decide +kernel
theorem dX6_dividesAll_0 : decode cX6_dividesAll 0 = .ok (.aload_n 0, 1) := by decide +kernel
theorem dX6_dividesAll_1 : decode cX6_dividesAll 1 = .ok (.getfield 41, 3) := by decide +kernel
theorem dX6_dividesAll_4 : decode cX6_dividesAll 4 = .ok (.lload_n 1, 1) := by decide +kernel
theorem dX6_dividesAll_5 : decode cX6_dividesAll 5 = .ok (.lrem, 1) := by decide +kernel
theorem dX6_dividesAll_6 : decode cX6_dividesAll 6 = .ok (.lconst 0, 1) := by decide +kernel
theorem dX6_dividesAll_7 : decode cX6_dividesAll 7 = .ok (.lcmp, 1) := by decide +kernel
theorem dX6_dividesAll_8 : decode cX6_dividesAll 8 = .ok (.ifCond .ne 40, 3) := by decide +kernel
theorem dX6_dividesAll_11 : decode cX6_dividesAll 11 = .ok (.aload_n 0, 1) := by decide +kernel
theorem dX6_dividesAll_12 : decode cX6_dividesAll 12 = .ok (.getfield 45, 3) := by decide +kernel
theorem dX6_dividesAll_15 : decode cX6_dividesAll 15 = .ok (.lload_n 1, 1) := by decide +kernel
theorem dX6_dividesAll_16 : decode cX6_dividesAll 16 = .ok (.lrem, 1) := by decide +kernel
theorem dX6_dividesAll_17 : decode cX6_dividesAll 17 = .ok (.lconst 0, 1) := by decide +kernel
theorem dX6_dividesAll_18 : decode cX6_dividesAll 18 = .ok (.lcmp, 1) := by decide +kernel
theorem dX6_dividesAll_19 : decode cX6_dividesAll 19 = .ok (.ifCond .ne 29, 3) := by decide +kernel
theorem dX6_dividesAll_22 : decode cX6_dividesAll 22 = .ok (.aload_n 0, 1) := by decide +kernel
theorem dX6_dividesAll_23 : decode cX6_dividesAll 23 = .ok (.getfield 48, 3) := by decide +kernel
theorem dX6_dividesAll_26 : decode cX6_dividesAll 26 = .ok (.lload_n 1, 1) := by decide +kernel
theorem dX6_dividesAll_27 : decode cX6_dividesAll 27 = .ok (.lrem, 1) := by decide +kernel
theorem dX6_dividesAll_28 : decode cX6_dividesAll 28 = .ok (.lconst 0, 1) := by decide +kernel
theorem dX6_dividesAll_29 : decode cX6_dividesAll 29 = .ok (.lcmp, 1) := by decide +kernel
theorem dX6_dividesAll_30 : decode cX6_dividesAll 30 = .ok (.ifCond .ne 18, 3) := by decide +kernel
theorem dX6_dividesAll_33 : decode cX6_dividesAll 33 = .ok (.aload_n 0, 1) := by decide +kernel
theorem dX6_dividesAll_34 : decode cX6_dividesAll 34 = .ok (.getfield 51, 3) := by decide +kernel
theorem dX6_dividesAll_37 : decode cX6_dividesAll 37 = .ok (.lload_n 1, 1) := by decide +kernel
theorem dX6_dividesAll_38 : decode cX6_dividesAll 38 = .ok (.lrem, 1) := by decide +kernel
theorem dX6_dividesAll_39 : decode cX6_dividesAll 39 = .ok (.lconst 0, 1) := by decide +kernel
theorem dX6_dividesAll_40 : decode cX6_dividesAll 40 = .ok (.lcmp, 1) := by decide +kernel
theorem dX6_dividesAll_41 : decode cX6_dividesAll 41 = .ok (.ifCond .ne 7, 3) := by decide +kernel
theorem dX6_dividesAll_44 : decode cX6_dividesAll 44 = .ok (.iconst 1, 1) := by decide +kernel
theorem dX6_dividesAll_45 : decode cX6_dividesAll 45 = .ok (.goto 4, 3) := by decide +kernel
theorem dX6_dividesAll_48 : decode cX6_dividesAll 48 = .ok (.iconst 0, 1) := by decide +kernel
theorem dX6_dividesAll_49 : decode cX6_dividesAll 49 = .ok (.ireturn, 1) := by decide +kernel
theorem dX6_layPoint_0 : decode cX6_layPoint 0 = .ok (.lload_n 1, 1) := by decide +kernel
theorem dX6_layPoint_1 : decode cX6_layPoint 1 = .ok (.lload_n 3, 1) := by decide +kernel
theorem dX6_layPoint_2 : decode cX6_layPoint 2 = .ok (.lcmp, 1) := by decide +kernel
theorem dX6_layPoint_3 : decode cX6_layPoint 3 = .ok (.ifCond .ne 36, 3) := by decide +kernel
theorem dX6_layPoint_6 : decode cX6_layPoint 6 = .ok (.aload_n 0, 1) := by decide +kernel
theorem dX6_layPoint_7 : decode cX6_layPoint 7 = .ok (.aload_n 0, 1) := by decide +kernel
theorem dX6_layPoint_8 : decode cX6_layPoint 8 = .ok (.getfield 51, 3) := by decide +kernel
theorem dX6_layPoint_11 : decode cX6_layPoint 11 = .ok (.putfield 202, 3) := by decide +kernel
theorem dX6_layPoint_14 : decode cX6_layPoint 14 = .ok (.aload_n 0, 1) := by decide +kernel
theorem dX6_layPoint_15 : decode cX6_layPoint 15 = .ok (.aload_n 0, 1) := by decide +kernel
theorem dX6_layPoint_16 : decode cX6_layPoint 16 = .ok (.getfield 48, 3) := by decide +kernel
theorem dX6_layPoint_19 : decode cX6_layPoint 19 = .ok (.putfield 205, 3) := by decide +kernel
theorem dX6_layPoint_22 : decode cX6_layPoint 22 = .ok (.aload_n 0, 1) := by decide +kernel
theorem dX6_layPoint_23 : decode cX6_layPoint 23 = .ok (.aload_n 0, 1) := by decide +kernel
theorem dX6_layPoint_24 : decode cX6_layPoint 24 = .ok (.getfield 45, 3) := by decide +kernel
theorem dX6_layPoint_27 : decode cX6_layPoint 27 = .ok (.putfield 208, 3) := by decide +kernel
theorem dX6_layPoint_30 : decode cX6_layPoint 30 = .ok (.aload_n 0, 1) := by decide +kernel
theorem dX6_layPoint_31 : decode cX6_layPoint 31 = .ok (.aload_n 0, 1) := by decide +kernel
theorem dX6_layPoint_32 : decode cX6_layPoint 32 = .ok (.getfield 41, 3) := by decide +kernel
theorem dX6_layPoint_35 : decode cX6_layPoint 35 = .ok (.putfield 211, 3) := by decide +kernel
theorem dX6_layPoint_38 : decode cX6_layPoint 38 = .ok (.return_, 1) := by decide +kernel
theorem dX6_layPoint_39 : decode cX6_layPoint 39 = .ok (.aload_n 0, 1) := by decide +kernel
theorem dX6_layPoint_40 : decode cX6_layPoint 40 = .ok (.aload_n 0, 1) := by decide +kernel
theorem dX6_layPoint_41 : decode cX6_layPoint 41 = .ok (.getfield 41, 3) := by decide +kernel
theorem dX6_layPoint_44 : decode cX6_layPoint 44 = .ok (.aload_n 0, 1) := by decide +kernel
theorem dX6_layPoint_45 : decode cX6_layPoint 45 = .ok (.getfield 45, 3) := by decide +kernel
theorem dX6_layPoint_48 : decode cX6_layPoint 48 = .ok (.lload_n 1, 1) := by decide +kernel
theorem dX6_layPoint_49 : decode cX6_layPoint 49 = .ok (.lmul, 1) := by decide +kernel
theorem dX6_layPoint_50 : decode cX6_layPoint 50 = .ok (.ladd, 1) := by decide +kernel
theorem dX6_layPoint_51 : decode cX6_layPoint 51 = .ok (.aload_n 0, 1) := by decide +kernel
theorem dX6_layPoint_52 : decode cX6_layPoint 52 = .ok (.getfield 48, 3) := by decide +kernel
theorem dX6_layPoint_55 : decode cX6_layPoint 55 = .ok (.lload_n 1, 1) := by decide +kernel
theorem dX6_layPoint_56 : decode cX6_layPoint 56 = .ok (.lmul, 1) := by decide +kernel
theorem dX6_layPoint_57 : decode cX6_layPoint 57 = .ok (.lload_n 1, 1) := by decide +kernel
theorem dX6_layPoint_58 : decode cX6_layPoint 58 = .ok (.lmul, 1) := by decide +kernel
theorem dX6_layPoint_59 : decode cX6_layPoint 59 = .ok (.ladd, 1) := by decide +kernel
theorem dX6_layPoint_60 : decode cX6_layPoint 60 = .ok (.aload_n 0, 1) := by decide +kernel
theorem dX6_layPoint_61 : decode cX6_layPoint 61 = .ok (.getfield 51, 3) := by decide +kernel
theorem dX6_layPoint_64 : decode cX6_layPoint 64 = .ok (.lload_n 1, 1) := by decide +kernel
theorem dX6_layPoint_65 : decode cX6_layPoint 65 = .ok (.lmul, 1) := by decide +kernel
theorem dX6_layPoint_66 : decode cX6_layPoint 66 = .ok (.lload_n 1, 1) := by decide +kernel
theorem dX6_layPoint_67 : decode cX6_layPoint 67 = .ok (.lmul, 1) := by decide +kernel
theorem dX6_layPoint_68 : decode cX6_layPoint 68 = .ok (.lload_n 1, 1) := by decide +kernel
theorem dX6_layPoint_69 : decode cX6_layPoint 69 = .ok (.lmul, 1) := by decide +kernel
theorem dX6_layPoint_70 : decode cX6_layPoint 70 = .ok (.ladd, 1) := by decide +kernel
theorem dX6_layPoint_71 : decode cX6_layPoint 71 = .ok (.putfield 202, 3) := by decide +kernel
theorem dX6_layPoint_74 : decode cX6_layPoint 74 = .ok (.aload_n 0, 1) := by decide +kernel
theorem dX6_layPoint_75 : decode cX6_layPoint 75 = .ok (.aload_n 0, 1) := by decide +kernel
theorem dX6_layPoint_76 : decode cX6_layPoint 76 = .ok (.getfield 45, 3) := by decide +kernel
theorem dX6_layPoint_79 : decode cX6_layPoint 79 = .ok (.ldc2_w 90, 3) := by decide +kernel
theorem dX6_layPoint_82 : decode cX6_layPoint 82 = .ok (.aload_n 0, 1) := by decide +kernel
theorem dX6_layPoint_83 : decode cX6_layPoint 83 = .ok (.getfield 48, 3) := by decide +kernel
theorem dX6_layPoint_86 : decode cX6_layPoint 86 = .ok (.lmul, 1) := by decide +kernel
theorem dX6_layPoint_87 : decode cX6_layPoint 87 = .ok (.lload_n 1, 1) := by decide +kernel
theorem dX6_layPoint_88 : decode cX6_layPoint 88 = .ok (.lmul, 1) := by decide +kernel
theorem dX6_layPoint_89 : decode cX6_layPoint 89 = .ok (.ladd, 1) := by decide +kernel
theorem dX6_layPoint_90 : decode cX6_layPoint 90 = .ok (.ldc2_w 70, 3) := by decide +kernel
theorem dX6_layPoint_93 : decode cX6_layPoint 93 = .ok (.aload_n 0, 1) := by decide +kernel
theorem dX6_layPoint_94 : decode cX6_layPoint 94 = .ok (.getfield 51, 3) := by decide +kernel
theorem dX6_layPoint_97 : decode cX6_layPoint 97 = .ok (.lmul, 1) := by decide +kernel
theorem dX6_layPoint_98 : decode cX6_layPoint 98 = .ok (.lload_n 1, 1) := by decide +kernel
theorem dX6_layPoint_99 : decode cX6_layPoint 99 = .ok (.lmul, 1) := by decide +kernel
theorem dX6_layPoint_100 : decode cX6_layPoint 100 = .ok (.lload_n 1, 1) := by decide +kernel
theorem dX6_layPoint_101 : decode cX6_layPoint 101 = .ok (.lmul, 1) := by decide +kernel
theorem dX6_layPoint_102 : decode cX6_layPoint 102 = .ok (.ladd, 1) := by decide +kernel
theorem dX6_layPoint_103 : decode cX6_layPoint 103 = .ok (.putfield 205, 3) := by decide +kernel
theorem dX6_layPoint_106 : decode cX6_layPoint 106 = .ok (.aload_n 0, 1) := by decide +kernel
theorem dX6_layPoint_107 : decode cX6_layPoint 107 = .ok (.aload_n 0, 1) := by decide +kernel
theorem dX6_layPoint_108 : decode cX6_layPoint 108 = .ok (.getfield 48, 3) := by decide +kernel
theorem dX6_layPoint_111 : decode cX6_layPoint 111 = .ok (.ldc2_w 70, 3) := by decide +kernel
theorem dX6_layPoint_114 : decode cX6_layPoint 114 = .ok (.aload_n 0, 1) := by decide +kernel
theorem dX6_layPoint_115 : decode cX6_layPoint 115 = .ok (.getfield 51, 3) := by decide +kernel
theorem dX6_layPoint_118 : decode cX6_layPoint 118 = .ok (.lmul, 1) := by decide +kernel
theorem dX6_layPoint_119 : decode cX6_layPoint 119 = .ok (.lload_n 1, 1) := by decide +kernel
theorem dX6_layPoint_120 : decode cX6_layPoint 120 = .ok (.lmul, 1) := by decide +kernel
theorem dX6_layPoint_121 : decode cX6_layPoint 121 = .ok (.ladd, 1) := by decide +kernel
theorem dX6_layPoint_122 : decode cX6_layPoint 122 = .ok (.putfield 208, 3) := by decide +kernel
theorem dX6_layPoint_125 : decode cX6_layPoint 125 = .ok (.aload_n 0, 1) := by decide +kernel
theorem dX6_layPoint_126 : decode cX6_layPoint 126 = .ok (.aload_n 0, 1) := by decide +kernel
theorem dX6_layPoint_127 : decode cX6_layPoint 127 = .ok (.getfield 51, 3) := by decide +kernel
theorem dX6_layPoint_130 : decode cX6_layPoint 130 = .ok (.putfield 211, 3) := by decide +kernel
theorem dX6_layPoint_133 : decode cX6_layPoint 133 = .ok (.return_, 1) := by decide +kernel
theorem dX6_splitting_0 : decode cX6_splitting 0 = .ok (.aload_n 0, 1) := by decide +kernel
theorem dX6_splitting_1 : decode cX6_splitting 1 = .ok (.iload_n 1, 1) := by decide +kernel
theorem dX6_splitting_2 : decode cX6_splitting 2 = .ok (.invokevirtual 66, 3) := by decide +kernel
theorem dX6_splitting_5 : decode cX6_splitting 5 = .ok (.ifCond .ne 7, 3) := by decide +kernel
theorem dX6_splitting_8 : decode cX6_splitting 8 = .ok (.sipush (-10001), 3) := by decide +kernel
theorem dX6_splitting_11 : decode cX6_splitting 11 = .ok (.ireturn, 1) := by decide +kernel
theorem dX6_splitting_12 : decode cX6_splitting 12 = .ok (.iload_n 2, 1) := by decide +kernel
theorem dX6_splitting_13 : decode cX6_splitting 13 = .ok (.invokestatic 214, 3) := by decide +kernel
theorem dX6_splitting_16 : decode cX6_splitting 16 = .ok (.ifCond .ne 7, 3) := by decide +kernel
theorem dX6_splitting_19 : decode cX6_splitting 19 = .ok (.sipush (-10003), 3) := by decide +kernel
theorem dX6_splitting_22 : decode cX6_splitting 22 = .ok (.ireturn, 1) := by decide +kernel
theorem dX6_splitting_23 : decode cX6_splitting 23 = .ok (.aload_n 0, 1) := by decide +kernel
theorem dX6_splitting_24 : decode cX6_splitting 24 = .ok (.iload_n 1, 1) := by decide +kernel
theorem dX6_splitting_25 : decode cX6_splitting 25 = .ok (.invokevirtual 82, 3) := by decide +kernel
theorem dX6_splitting_28 : decode cX6_splitting 28 = .ok (.aload_n 0, 1) := by decide +kernel
theorem dX6_splitting_29 : decode cX6_splitting 29 = .ok (.iload_n 2, 1) := by decide +kernel
theorem dX6_splitting_30 : decode cX6_splitting 30 = .ok (.i2l, 1) := by decide +kernel
theorem dX6_splitting_31 : decode cX6_splitting 31 = .ok (.invokevirtual 217, 3) := by decide +kernel
theorem dX6_splitting_34 : decode cX6_splitting 34 = .ok (.ifCond .eq 5, 3) := by decide +kernel
theorem dX6_splitting_37 : decode cX6_splitting 37 = .ok (.iconst 0, 1) := by decide +kernel
theorem dX6_splitting_38 : decode cX6_splitting 38 = .ok (.ireturn, 1) := by decide +kernel
theorem dX6_splitting_39 : decode cX6_splitting 39 = .ok (.iconst 0, 1) := by decide +kernel
theorem dX6_splitting_40 : decode cX6_splitting 40 = .ok (.istore_n 3, 1) := by decide +kernel
theorem dX6_splitting_41 : decode cX6_splitting 41 = .ok (.iconst 0, 1) := by decide +kernel
theorem dX6_splitting_42 : decode cX6_splitting 42 = .ok (.istore 4, 2) := by decide +kernel
theorem dX6_splitting_44 : decode cX6_splitting 44 = .ok (.iconst 0, 1) := by decide +kernel
theorem dX6_splitting_45 : decode cX6_splitting 45 = .ok (.istore 5, 2) := by decide +kernel
theorem dX6_splitting_47 : decode cX6_splitting 47 = .ok (.iload 5, 2) := by decide +kernel
theorem dX6_splitting_49 : decode cX6_splitting 49 = .ok (.iload_n 2, 1) := by decide +kernel
theorem dX6_splitting_50 : decode cX6_splitting 50 = .ok (.if_icmp .gt 72, 3) := by decide +kernel
theorem dX6_splitting_53 : decode cX6_splitting 53 = .ok (.aload_n 0, 1) := by decide +kernel
theorem dX6_splitting_54 : decode cX6_splitting 54 = .ok (.iload 5, 2) := by decide +kernel
theorem dX6_splitting_56 : decode cX6_splitting 56 = .ok (.i2l, 1) := by decide +kernel
theorem dX6_splitting_57 : decode cX6_splitting 57 = .ok (.iload_n 2, 1) := by decide +kernel
theorem dX6_splitting_58 : decode cX6_splitting 58 = .ok (.i2l, 1) := by decide +kernel
theorem dX6_splitting_59 : decode cX6_splitting 59 = .ok (.invokevirtual 220, 3) := by decide +kernel
theorem dX6_splitting_62 : decode cX6_splitting 62 = .ok (.iload_n 3, 1) := by decide +kernel
theorem dX6_splitting_63 : decode cX6_splitting 63 = .ok (.aload_n 0, 1) := by decide +kernel
theorem dX6_splitting_64 : decode cX6_splitting 64 = .ok (.getfield 202, 3) := by decide +kernel
theorem dX6_splitting_67 : decode cX6_splitting 67 = .ok (.iload_n 2, 1) := by decide +kernel
theorem dX6_splitting_68 : decode cX6_splitting 68 = .ok (.i2l, 1) := by decide +kernel
theorem dX6_splitting_69 : decode cX6_splitting 69 = .ok (.lrem, 1) := by decide +kernel
theorem dX6_splitting_70 : decode cX6_splitting 70 = .ok (.lconst 0, 1) := by decide +kernel
theorem dX6_splitting_71 : decode cX6_splitting 71 = .ok (.lcmp, 1) := by decide +kernel
theorem dX6_splitting_72 : decode cX6_splitting 72 = .ok (.ifCond .ne 7, 3) := by decide +kernel
theorem dX6_splitting_75 : decode cX6_splitting 75 = .ok (.iconst 1, 1) := by decide +kernel
theorem dX6_splitting_76 : decode cX6_splitting 76 = .ok (.goto 4, 3) := by decide +kernel
theorem dX6_splitting_79 : decode cX6_splitting 79 = .ok (.iconst 0, 1) := by decide +kernel
theorem dX6_splitting_80 : decode cX6_splitting 80 = .ok (.iadd, 1) := by decide +kernel
theorem dX6_splitting_81 : decode cX6_splitting 81 = .ok (.istore_n 3, 1) := by decide +kernel
theorem dX6_splitting_82 : decode cX6_splitting 82 = .ok (.iload 4, 2) := by decide +kernel
theorem dX6_splitting_84 : decode cX6_splitting 84 = .ok (.aload_n 0, 1) := by decide +kernel
theorem dX6_splitting_85 : decode cX6_splitting 85 = .ok (.getfield 202, 3) := by decide +kernel
theorem dX6_splitting_88 : decode cX6_splitting 88 = .ok (.iload_n 2, 1) := by decide +kernel
theorem dX6_splitting_89 : decode cX6_splitting 89 = .ok (.i2l, 1) := by decide +kernel
theorem dX6_splitting_90 : decode cX6_splitting 90 = .ok (.lrem, 1) := by decide +kernel
theorem dX6_splitting_91 : decode cX6_splitting 91 = .ok (.lconst 0, 1) := by decide +kernel
theorem dX6_splitting_92 : decode cX6_splitting 92 = .ok (.lcmp, 1) := by decide +kernel
theorem dX6_splitting_93 : decode cX6_splitting 93 = .ok (.ifCond .ne 19, 3) := by decide +kernel
theorem dX6_splitting_96 : decode cX6_splitting 96 = .ok (.aload_n 0, 1) := by decide +kernel
theorem dX6_splitting_97 : decode cX6_splitting 97 = .ok (.getfield 205, 3) := by decide +kernel
theorem dX6_splitting_100 : decode cX6_splitting 100 = .ok (.iload_n 2, 1) := by decide +kernel
theorem dX6_splitting_101 : decode cX6_splitting 101 = .ok (.i2l, 1) := by decide +kernel
theorem dX6_splitting_102 : decode cX6_splitting 102 = .ok (.lrem, 1) := by decide +kernel
theorem dX6_splitting_103 : decode cX6_splitting 103 = .ok (.lconst 0, 1) := by decide +kernel
theorem dX6_splitting_104 : decode cX6_splitting 104 = .ok (.lcmp, 1) := by decide +kernel
theorem dX6_splitting_105 : decode cX6_splitting 105 = .ok (.ifCond .ne 7, 3) := by decide +kernel
theorem dX6_splitting_108 : decode cX6_splitting 108 = .ok (.iconst 1, 1) := by decide +kernel
theorem dX6_splitting_109 : decode cX6_splitting 109 = .ok (.goto 4, 3) := by decide +kernel
theorem dX6_splitting_112 : decode cX6_splitting 112 = .ok (.iconst 0, 1) := by decide +kernel
theorem dX6_splitting_113 : decode cX6_splitting 113 = .ok (.iadd, 1) := by decide +kernel
theorem dX6_splitting_114 : decode cX6_splitting 114 = .ok (.istore 4, 2) := by decide +kernel
theorem dX6_splitting_116 : decode cX6_splitting 116 = .ok (.iinc 5 1, 3) := by decide +kernel
theorem dX6_splitting_119 : decode cX6_splitting 119 = .ok (.goto (-72), 3) := by decide +kernel
theorem dX6_splitting_122 : decode cX6_splitting 122 = .ok (.iload 4, 2) := by decide +kernel
theorem dX6_splitting_124 : decode cX6_splitting 124 = .ok (.ifCond .le 16, 3) := by decide +kernel
theorem dX6_splitting_127 : decode cX6_splitting 127 = .ok (.iload_n 3, 1) := by decide +kernel
theorem dX6_splitting_128 : decode cX6_splitting 128 = .ok (.iconst 1, 1) := by decide +kernel
theorem dX6_splitting_129 : decode cX6_splitting 129 = .ok (.if_icmp .le 8, 3) := by decide +kernel
theorem dX6_splitting_132 : decode cX6_splitting 132 = .ok (.bipush 121, 2) := by decide +kernel
theorem dX6_splitting_134 : decode cX6_splitting 134 = .ok (.goto 5, 3) := by decide +kernel
theorem dX6_splitting_137 : decode cX6_splitting 137 = .ok (.bipush 13, 2) := by decide +kernel
theorem dX6_splitting_139 : decode cX6_splitting 139 = .ok (.ireturn, 1) := by decide +kernel
theorem dX6_splitting_140 : decode cX6_splitting 140 = .ok (.iload_n 3, 1) := by decide +kernel
theorem dX6_splitting_141 : decode cX6_splitting 141 = .ok (.ifCond .ne 7, 3) := by decide +kernel
theorem dX6_splitting_144 : decode cX6_splitting 144 = .ok (.iconst 3, 1) := by decide +kernel
theorem dX6_splitting_145 : decode cX6_splitting 145 = .ok (.goto 15, 3) := by decide +kernel
theorem dX6_splitting_148 : decode cX6_splitting 148 = .ok (.iload_n 3, 1) := by decide +kernel
theorem dX6_splitting_149 : decode cX6_splitting 149 = .ok (.iconst 1, 1) := by decide +kernel
theorem dX6_splitting_150 : decode cX6_splitting 150 = .ok (.if_icmp .ne 8, 3) := by decide +kernel
theorem dX6_splitting_153 : decode cX6_splitting 153 = .ok (.bipush 21, 2) := by decide +kernel
theorem dX6_splitting_155 : decode cX6_splitting 155 = .ok (.goto 5, 3) := by decide +kernel
theorem dX6_splitting_158 : decode cX6_splitting 158 = .ok (.bipush 111, 2) := by decide +kernel
theorem dX6_splitting_160 : decode cX6_splitting 160 = .ok (.ireturn, 1) := by decide +kernel
theorem dX6_enlarge_0 : decode cX6_enlarge 0 = .ok (.aload_n 0, 1) := by decide +kernel
theorem dX6_enlarge_1 : decode cX6_enlarge 1 = .ok (.lload_n 1, 1) := by decide +kernel
theorem dX6_enlarge_2 : decode cX6_enlarge 2 = .ok (.invokevirtual 217, 3) := by decide +kernel
theorem dX6_enlarge_5 : decode cX6_enlarge 5 = .ok (.ifCond .eq 33, 3) := by decide +kernel
theorem dX6_enlarge_8 : decode cX6_enlarge 8 = .ok (.aload_n 0, 1) := by decide +kernel
theorem dX6_enlarge_9 : decode cX6_enlarge 9 = .ok (.aload_n 0, 1) := by decide +kernel
theorem dX6_enlarge_10 : decode cX6_enlarge 10 = .ok (.getfield 41, 3) := by decide +kernel
theorem dX6_enlarge_13 : decode cX6_enlarge 13 = .ok (.lload_n 1, 1) := by decide +kernel
theorem dX6_enlarge_14 : decode cX6_enlarge 14 = .ok (.ldiv, 1) := by decide +kernel
theorem dX6_enlarge_15 : decode cX6_enlarge 15 = .ok (.aload_n 0, 1) := by decide +kernel
theorem dX6_enlarge_16 : decode cX6_enlarge 16 = .ok (.getfield 45, 3) := by decide +kernel
theorem dX6_enlarge_19 : decode cX6_enlarge 19 = .ok (.lload_n 1, 1) := by decide +kernel
theorem dX6_enlarge_20 : decode cX6_enlarge 20 = .ok (.ldiv, 1) := by decide +kernel
theorem dX6_enlarge_21 : decode cX6_enlarge 21 = .ok (.aload_n 0, 1) := by decide +kernel
theorem dX6_enlarge_22 : decode cX6_enlarge 22 = .ok (.getfield 48, 3) := by decide +kernel
theorem dX6_enlarge_25 : decode cX6_enlarge 25 = .ok (.lload_n 1, 1) := by decide +kernel
theorem dX6_enlarge_26 : decode cX6_enlarge 26 = .ok (.ldiv, 1) := by decide +kernel
theorem dX6_enlarge_27 : decode cX6_enlarge 27 = .ok (.aload_n 0, 1) := by decide +kernel
theorem dX6_enlarge_28 : decode cX6_enlarge 28 = .ok (.getfield 51, 3) := by decide +kernel
theorem dX6_enlarge_31 : decode cX6_enlarge 31 = .ok (.lload_n 1, 1) := by decide +kernel
theorem dX6_enlarge_32 : decode cX6_enlarge 32 = .ok (.ldiv, 1) := by decide +kernel
theorem dX6_enlarge_33 : decode cX6_enlarge 33 = .ok (.invokevirtual 58, 3) := by decide +kernel
theorem dX6_enlarge_36 : decode cX6_enlarge 36 = .ok (.iconst 1, 1) := by decide +kernel
theorem dX6_enlarge_37 : decode cX6_enlarge 37 = .ok (.ireturn, 1) := by decide +kernel
theorem dX6_enlarge_38 : decode cX6_enlarge 38 = .ok (.lconst 0, 1) := by decide +kernel
theorem dX6_enlarge_39 : decode cX6_enlarge 39 = .ok (.lstore_n 3, 1) := by decide +kernel
theorem dX6_enlarge_40 : decode cX6_enlarge 40 = .ok (.lload_n 3, 1) := by decide +kernel
theorem dX6_enlarge_41 : decode cX6_enlarge 41 = .ok (.lload_n 1, 1) := by decide +kernel
theorem dX6_enlarge_42 : decode cX6_enlarge 42 = .ok (.lcmp, 1) := by decide +kernel
theorem dX6_enlarge_43 : decode cX6_enlarge 43 = .ok (.ifCond .gt 70, 3) := by decide +kernel
theorem dX6_enlarge_46 : decode cX6_enlarge 46 = .ok (.aload_n 0, 1) := by decide +kernel
theorem dX6_enlarge_47 : decode cX6_enlarge 47 = .ok (.lload_n 3, 1) := by decide +kernel
theorem dX6_enlarge_48 : decode cX6_enlarge 48 = .ok (.lload_n 1, 1) := by decide +kernel
theorem dX6_enlarge_49 : decode cX6_enlarge 49 = .ok (.invokevirtual 220, 3) := by decide +kernel
theorem dX6_enlarge_52 : decode cX6_enlarge 52 = .ok (.aload_n 0, 1) := by decide +kernel
theorem dX6_enlarge_53 : decode cX6_enlarge 53 = .ok (.getfield 202, 3) := by decide +kernel
theorem dX6_enlarge_56 : decode cX6_enlarge 56 = .ok (.lload_n 1, 1) := by decide +kernel
theorem dX6_enlarge_57 : decode cX6_enlarge 57 = .ok (.lload_n 1, 1) := by decide +kernel
theorem dX6_enlarge_58 : decode cX6_enlarge 58 = .ok (.lmul, 1) := by decide +kernel
theorem dX6_enlarge_59 : decode cX6_enlarge 59 = .ok (.lrem, 1) := by decide +kernel
theorem dX6_enlarge_60 : decode cX6_enlarge 60 = .ok (.lconst 0, 1) := by decide +kernel
theorem dX6_enlarge_61 : decode cX6_enlarge 61 = .ok (.lcmp, 1) := by decide +kernel
theorem dX6_enlarge_62 : decode cX6_enlarge 62 = .ok (.ifCond .ne 44, 3) := by decide +kernel
theorem dX6_enlarge_65 : decode cX6_enlarge 65 = .ok (.aload_n 0, 1) := by decide +kernel
theorem dX6_enlarge_66 : decode cX6_enlarge 66 = .ok (.getfield 205, 3) := by decide +kernel
theorem dX6_enlarge_69 : decode cX6_enlarge 69 = .ok (.lload_n 1, 1) := by decide +kernel
theorem dX6_enlarge_70 : decode cX6_enlarge 70 = .ok (.lrem, 1) := by decide +kernel
theorem dX6_enlarge_71 : decode cX6_enlarge 71 = .ok (.lconst 0, 1) := by decide +kernel
theorem dX6_enlarge_72 : decode cX6_enlarge 72 = .ok (.lcmp, 1) := by decide +kernel
theorem dX6_enlarge_73 : decode cX6_enlarge 73 = .ok (.ifCond .ne 33, 3) := by decide +kernel
theorem dX6_enlarge_76 : decode cX6_enlarge 76 = .ok (.aload_n 0, 1) := by decide +kernel
theorem dX6_enlarge_77 : decode cX6_enlarge 77 = .ok (.aload_n 0, 1) := by decide +kernel
theorem dX6_enlarge_78 : decode cX6_enlarge 78 = .ok (.getfield 202, 3) := by decide +kernel
theorem dX6_enlarge_81 : decode cX6_enlarge 81 = .ok (.lload_n 1, 1) := by decide +kernel
theorem dX6_enlarge_82 : decode cX6_enlarge 82 = .ok (.lload_n 1, 1) := by decide +kernel
theorem dX6_enlarge_83 : decode cX6_enlarge 83 = .ok (.lmul, 1) := by decide +kernel
theorem dX6_enlarge_84 : decode cX6_enlarge 84 = .ok (.ldiv, 1) := by decide +kernel
theorem dX6_enlarge_85 : decode cX6_enlarge 85 = .ok (.aload_n 0, 1) := by decide +kernel
theorem dX6_enlarge_86 : decode cX6_enlarge 86 = .ok (.getfield 205, 3) := by decide +kernel
theorem dX6_enlarge_89 : decode cX6_enlarge 89 = .ok (.lload_n 1, 1) := by decide +kernel
theorem dX6_enlarge_90 : decode cX6_enlarge 90 = .ok (.ldiv, 1) := by decide +kernel
theorem dX6_enlarge_91 : decode cX6_enlarge 91 = .ok (.aload_n 0, 1) := by decide +kernel
theorem dX6_enlarge_92 : decode cX6_enlarge 92 = .ok (.getfield 208, 3) := by decide +kernel
theorem dX6_enlarge_95 : decode cX6_enlarge 95 = .ok (.aload_n 0, 1) := by decide +kernel
theorem dX6_enlarge_96 : decode cX6_enlarge 96 = .ok (.getfield 211, 3) := by decide +kernel
theorem dX6_enlarge_99 : decode cX6_enlarge 99 = .ok (.lload_n 1, 1) := by decide +kernel
theorem dX6_enlarge_100 : decode cX6_enlarge 100 = .ok (.lmul, 1) := by decide +kernel
theorem dX6_enlarge_101 : decode cX6_enlarge 101 = .ok (.invokevirtual 58, 3) := by decide +kernel
theorem dX6_enlarge_104 : decode cX6_enlarge 104 = .ok (.iconst 1, 1) := by decide +kernel
theorem dX6_enlarge_105 : decode cX6_enlarge 105 = .ok (.ireturn, 1) := by decide +kernel
theorem dX6_enlarge_106 : decode cX6_enlarge 106 = .ok (.lload_n 3, 1) := by decide +kernel
theorem dX6_enlarge_107 : decode cX6_enlarge 107 = .ok (.lconst 1, 1) := by decide +kernel
theorem dX6_enlarge_108 : decode cX6_enlarge 108 = .ok (.ladd, 1) := by decide +kernel
theorem dX6_enlarge_109 : decode cX6_enlarge 109 = .ok (.lstore_n 3, 1) := by decide +kernel
theorem dX6_enlarge_110 : decode cX6_enlarge 110 = .ok (.goto (-70), 3) := by decide +kernel
theorem dX6_enlarge_113 : decode cX6_enlarge 113 = .ok (.iconst 0, 1) := by decide +kernel
theorem dX6_enlarge_114 : decode cX6_enlarge 114 = .ok (.ireturn, 1) := by decide +kernel
theorem dX6_isMaximalAt_0 : decode cX6_isMaximalAt 0 = .ok (.aload_n 0, 1) := by decide +kernel
theorem dX6_isMaximalAt_1 : decode cX6_isMaximalAt 1 = .ok (.iload_n 1, 1) := by decide +kernel
theorem dX6_isMaximalAt_2 : decode cX6_isMaximalAt 2 = .ok (.invokevirtual 66, 3) := by decide +kernel
theorem dX6_isMaximalAt_5 : decode cX6_isMaximalAt 5 = .ok (.ifCond .ne 7, 3) := by decide +kernel
theorem dX6_isMaximalAt_8 : decode cX6_isMaximalAt 8 = .ok (.sipush (-10001), 3) := by decide +kernel
theorem dX6_isMaximalAt_11 : decode cX6_isMaximalAt 11 = .ok (.ireturn, 1) := by decide +kernel
theorem dX6_isMaximalAt_12 : decode cX6_isMaximalAt 12 = .ok (.iload_n 2, 1) := by decide +kernel
theorem dX6_isMaximalAt_13 : decode cX6_isMaximalAt 13 = .ok (.invokestatic 214, 3) := by decide +kernel
theorem dX6_isMaximalAt_16 : decode cX6_isMaximalAt 16 = .ok (.ifCond .ne 7, 3) := by decide +kernel
theorem dX6_isMaximalAt_19 : decode cX6_isMaximalAt 19 = .ok (.sipush (-10003), 3) := by decide +kernel
theorem dX6_isMaximalAt_22 : decode cX6_isMaximalAt 22 = .ok (.ireturn, 1) := by decide +kernel
theorem dX6_isMaximalAt_23 : decode cX6_isMaximalAt 23 = .ok (.aload_n 0, 1) := by decide +kernel
theorem dX6_isMaximalAt_24 : decode cX6_isMaximalAt 24 = .ok (.iload_n 1, 1) := by decide +kernel
theorem dX6_isMaximalAt_25 : decode cX6_isMaximalAt 25 = .ok (.invokevirtual 82, 3) := by decide +kernel
theorem dX6_isMaximalAt_28 : decode cX6_isMaximalAt 28 = .ok (.aload_n 0, 1) := by decide +kernel
theorem dX6_isMaximalAt_29 : decode cX6_isMaximalAt 29 = .ok (.iload_n 2, 1) := by decide +kernel
theorem dX6_isMaximalAt_30 : decode cX6_isMaximalAt 30 = .ok (.i2l, 1) := by decide +kernel
theorem dX6_isMaximalAt_31 : decode cX6_isMaximalAt 31 = .ok (.invokevirtual 224, 3) := by decide +kernel
theorem dX6_isMaximalAt_34 : decode cX6_isMaximalAt 34 = .ok (.ifCond .eq 7, 3) := by decide +kernel
theorem dX6_isMaximalAt_37 : decode cX6_isMaximalAt 37 = .ok (.iconst 0, 1) := by decide +kernel
theorem dX6_isMaximalAt_38 : decode cX6_isMaximalAt 38 = .ok (.goto 4, 3) := by decide +kernel
theorem dX6_isMaximalAt_41 : decode cX6_isMaximalAt 41 = .ok (.iconst 1, 1) := by decide +kernel
theorem dX6_isMaximalAt_42 : decode cX6_isMaximalAt 42 = .ok (.ireturn, 1) := by decide +kernel
theorem dX6_overring_0 : decode cX6_overring 0 = .ok (.aload_n 0, 1) := by decide +kernel
theorem dX6_overring_1 : decode cX6_overring 1 = .ok (.iload_n 1, 1) := by decide +kernel
theorem dX6_overring_2 : decode cX6_overring 2 = .ok (.invokevirtual 66, 3) := by decide +kernel
theorem dX6_overring_5 : decode cX6_overring 5 = .ok (.ifCond .ne 7, 3) := by decide +kernel
theorem dX6_overring_8 : decode cX6_overring 8 = .ok (.sipush (-10001), 3) := by decide +kernel
theorem dX6_overring_11 : decode cX6_overring 11 = .ok (.ireturn, 1) := by decide +kernel
theorem dX6_overring_12 : decode cX6_overring 12 = .ok (.iload_n 2, 1) := by decide +kernel
theorem dX6_overring_13 : decode cX6_overring 13 = .ok (.invokestatic 214, 3) := by decide +kernel
theorem dX6_overring_16 : decode cX6_overring 16 = .ok (.ifCond .ne 7, 3) := by decide +kernel
theorem dX6_overring_19 : decode cX6_overring 19 = .ok (.sipush (-10003), 3) := by decide +kernel
theorem dX6_overring_22 : decode cX6_overring 22 = .ok (.ireturn, 1) := by decide +kernel
theorem dX6_overring_23 : decode cX6_overring 23 = .ok (.aload_n 0, 1) := by decide +kernel
theorem dX6_overring_24 : decode cX6_overring 24 = .ok (.iload_n 1, 1) := by decide +kernel
theorem dX6_overring_25 : decode cX6_overring 25 = .ok (.invokevirtual 82, 3) := by decide +kernel
theorem dX6_overring_28 : decode cX6_overring 28 = .ok (.aload_n 0, 1) := by decide +kernel
theorem dX6_overring_29 : decode cX6_overring 29 = .ok (.iload_n 2, 1) := by decide +kernel
theorem dX6_overring_30 : decode cX6_overring 30 = .ok (.i2l, 1) := by decide +kernel
theorem dX6_overring_31 : decode cX6_overring 31 = .ok (.invokevirtual 224, 3) := by decide +kernel
theorem dX6_overring_34 : decode cX6_overring 34 = .ok (.ifCond .eq 10, 3) := by decide +kernel
theorem dX6_overring_37 : decode cX6_overring 37 = .ok (.aload_n 0, 1) := by decide +kernel
theorem dX6_overring_38 : decode cX6_overring 38 = .ok (.invokevirtual 62, 3) := by decide +kernel
theorem dX6_overring_41 : decode cX6_overring 41 = .ok (.goto 6, 3) := by decide +kernel
theorem dX6_overring_44 : decode cX6_overring 44 = .ok (.sipush (-10008), 3) := by decide +kernel
theorem dX6_overring_47 : decode cX6_overring 47 = .ok (.ireturn, 1) := by decide +kernel
theorem dX6_enlargeSomewhere_0 : decode cX6_enlargeSomewhere 0 = .ok (.aload_n 0, 1) := by decide +kernel
theorem dX6_enlargeSomewhere_1 : decode cX6_enlargeSomewhere 1 = .ok (.invokevirtual 86, 3) := by decide +kernel
theorem dX6_enlargeSomewhere_4 : decode cX6_enlargeSomewhere 4 = .ok (.lstore_n 1, 1) := by decide +kernel
theorem dX6_enlargeSomewhere_5 : decode cX6_enlargeSomewhere 5 = .ok (.iconst 2, 1) := by decide +kernel
theorem dX6_enlargeSomewhere_6 : decode cX6_enlargeSomewhere 6 = .ok (.istore_n 3, 1) := by decide +kernel
theorem dX6_enlargeSomewhere_7 : decode cX6_enlargeSomewhere 7 = .ok (.iload_n 3, 1) := by decide +kernel
theorem dX6_enlargeSomewhere_8 : decode cX6_enlargeSomewhere 8 = .ok (.sipush 997, 3) := by decide +kernel
theorem dX6_enlargeSomewhere_11 : decode cX6_enlargeSomewhere 11 = .ok (.if_icmp .gt 39, 3) := by decide +kernel
theorem dX6_enlargeSomewhere_14 : decode cX6_enlargeSomewhere 14 = .ok (.lload_n 1, 1) := by decide +kernel
theorem dX6_enlargeSomewhere_15 : decode cX6_enlargeSomewhere 15 = .ok (.iload_n 3, 1) := by decide +kernel
theorem dX6_enlargeSomewhere_16 : decode cX6_enlargeSomewhere 16 = .ok (.i2l, 1) := by decide +kernel
theorem dX6_enlargeSomewhere_17 : decode cX6_enlargeSomewhere 17 = .ok (.iload_n 3, 1) := by decide +kernel
theorem dX6_enlargeSomewhere_18 : decode cX6_enlargeSomewhere 18 = .ok (.i2l, 1) := by decide +kernel
theorem dX6_enlargeSomewhere_19 : decode cX6_enlargeSomewhere 19 = .ok (.lmul, 1) := by decide +kernel
theorem dX6_enlargeSomewhere_20 : decode cX6_enlargeSomewhere 20 = .ok (.lrem, 1) := by decide +kernel
theorem dX6_enlargeSomewhere_21 : decode cX6_enlargeSomewhere 21 = .ok (.lconst 0, 1) := by decide +kernel
theorem dX6_enlargeSomewhere_22 : decode cX6_enlargeSomewhere 22 = .ok (.lcmp, 1) := by decide +kernel
theorem dX6_enlargeSomewhere_23 : decode cX6_enlargeSomewhere 23 = .ok (.ifCond .ne 21, 3) := by decide +kernel
theorem dX6_enlargeSomewhere_26 : decode cX6_enlargeSomewhere 26 = .ok (.iload_n 3, 1) := by decide +kernel
theorem dX6_enlargeSomewhere_27 : decode cX6_enlargeSomewhere 27 = .ok (.invokestatic 214, 3) := by decide +kernel
theorem dX6_enlargeSomewhere_30 : decode cX6_enlargeSomewhere 30 = .ok (.ifCond .eq 14, 3) := by decide +kernel
theorem dX6_enlargeSomewhere_33 : decode cX6_enlargeSomewhere 33 = .ok (.aload_n 0, 1) := by decide +kernel
theorem dX6_enlargeSomewhere_34 : decode cX6_enlargeSomewhere 34 = .ok (.iload_n 3, 1) := by decide +kernel
theorem dX6_enlargeSomewhere_35 : decode cX6_enlargeSomewhere 35 = .ok (.i2l, 1) := by decide +kernel
theorem dX6_enlargeSomewhere_36 : decode cX6_enlargeSomewhere 36 = .ok (.invokevirtual 224, 3) := by decide +kernel
theorem dX6_enlargeSomewhere_39 : decode cX6_enlargeSomewhere 39 = .ok (.ifCond .eq 5, 3) := by decide +kernel
theorem dX6_enlargeSomewhere_42 : decode cX6_enlargeSomewhere 42 = .ok (.iconst 1, 1) := by decide +kernel
theorem dX6_enlargeSomewhere_43 : decode cX6_enlargeSomewhere 43 = .ok (.ireturn, 1) := by decide +kernel
theorem dX6_enlargeSomewhere_44 : decode cX6_enlargeSomewhere 44 = .ok (.iinc 3 1, 3) := by decide +kernel
theorem dX6_enlargeSomewhere_47 : decode cX6_enlargeSomewhere 47 = .ok (.goto (-40), 3) := by decide +kernel
theorem dX6_enlargeSomewhere_50 : decode cX6_enlargeSomewhere 50 = .ok (.iconst 0, 1) := by decide +kernel
theorem dX6_enlargeSomewhere_51 : decode cX6_enlargeSomewhere 51 = .ok (.ireturn, 1) := by decide +kernel
theorem dX6_maximalOverring_0 : decode cX6_maximalOverring 0 = .ok (.aload_n 0, 1) := by decide +kernel
theorem dX6_maximalOverring_1 : decode cX6_maximalOverring 1 = .ok (.iload_n 1, 1) := by decide +kernel
theorem dX6_maximalOverring_2 : decode cX6_maximalOverring 2 = .ok (.invokevirtual 66, 3) := by decide +kernel
theorem dX6_maximalOverring_5 : decode cX6_maximalOverring 5 = .ok (.ifCond .ne 7, 3) := by decide +kernel
theorem dX6_maximalOverring_8 : decode cX6_maximalOverring 8 = .ok (.sipush (-10001), 3) := by decide +kernel
theorem dX6_maximalOverring_11 : decode cX6_maximalOverring 11 = .ok (.ireturn, 1) := by decide +kernel
theorem dX6_maximalOverring_12 : decode cX6_maximalOverring 12 = .ok (.aload_n 0, 1) := by decide +kernel
theorem dX6_maximalOverring_13 : decode cX6_maximalOverring 13 = .ok (.iload_n 1, 1) := by decide +kernel
theorem dX6_maximalOverring_14 : decode cX6_maximalOverring 14 = .ok (.invokevirtual 159, 3) := by decide +kernel
theorem dX6_maximalOverring_17 : decode cX6_maximalOverring 17 = .ok (.ifCond .ne 7, 3) := by decide +kernel
theorem dX6_maximalOverring_20 : decode cX6_maximalOverring 20 = .ok (.sipush (-10006), 3) := by decide +kernel
theorem dX6_maximalOverring_23 : decode cX6_maximalOverring 23 = .ok (.ireturn, 1) := by decide +kernel
theorem dX6_maximalOverring_24 : decode cX6_maximalOverring 24 = .ok (.aload_n 0, 1) := by decide +kernel
theorem dX6_maximalOverring_25 : decode cX6_maximalOverring 25 = .ok (.invokevirtual 127, 3) := by decide +kernel
theorem dX6_maximalOverring_28 : decode cX6_maximalOverring 28 = .ok (.ifCond .eq 7, 3) := by decide +kernel
theorem dX6_maximalOverring_31 : decode cX6_maximalOverring 31 = .ok (.sipush (-10007), 3) := by decide +kernel
theorem dX6_maximalOverring_34 : decode cX6_maximalOverring 34 = .ok (.ireturn, 1) := by decide +kernel
theorem dX6_maximalOverring_35 : decode cX6_maximalOverring 35 = .ok (.aload_n 0, 1) := by decide +kernel
theorem dX6_maximalOverring_36 : decode cX6_maximalOverring 36 = .ok (.invokevirtual 162, 3) := by decide +kernel
theorem dX6_maximalOverring_39 : decode cX6_maximalOverring 39 = .ok (.aload_n 0, 1) := by decide +kernel
theorem dX6_maximalOverring_40 : decode cX6_maximalOverring 40 = .ok (.invokevirtual 227, 3) := by decide +kernel
theorem dX6_maximalOverring_43 : decode cX6_maximalOverring 43 = .ok (.ifCond .eq 10, 3) := by decide +kernel
theorem dX6_maximalOverring_46 : decode cX6_maximalOverring 46 = .ok (.aload_n 0, 1) := by decide +kernel
theorem dX6_maximalOverring_47 : decode cX6_maximalOverring 47 = .ok (.invokevirtual 162, 3) := by decide +kernel
theorem dX6_maximalOverring_50 : decode cX6_maximalOverring 50 = .ok (.goto (-11), 3) := by decide +kernel
theorem dX6_maximalOverring_53 : decode cX6_maximalOverring 53 = .ok (.aload_n 0, 1) := by decide +kernel
theorem dX6_maximalOverring_54 : decode cX6_maximalOverring 54 = .ok (.invokevirtual 62, 3) := by decide +kernel
theorem dX6_maximalOverring_57 : decode cX6_maximalOverring 57 = .ok (.ireturn, 1) := by decide +kernel
theorem dX6_isCanonicalNow_0 : decode cX6_isCanonicalNow 0 = .ok (.aload_n 0, 1) := by decide +kernel
theorem dX6_isCanonicalNow_1 : decode cX6_isCanonicalNow 1 = .ok (.getfield 41, 3) := by decide +kernel
theorem dX6_isCanonicalNow_4 : decode cX6_isCanonicalNow 4 = .ok (.lstore_n 1, 1) := by decide +kernel
theorem dX6_isCanonicalNow_5 : decode cX6_isCanonicalNow 5 = .ok (.aload_n 0, 1) := by decide +kernel
theorem dX6_isCanonicalNow_6 : decode cX6_isCanonicalNow 6 = .ok (.getfield 45, 3) := by decide +kernel
theorem dX6_isCanonicalNow_9 : decode cX6_isCanonicalNow 9 = .ok (.lstore_n 3, 1) := by decide +kernel
theorem dX6_isCanonicalNow_10 : decode cX6_isCanonicalNow 10 = .ok (.aload_n 0, 1) := by decide +kernel
theorem dX6_isCanonicalNow_11 : decode cX6_isCanonicalNow 11 = .ok (.getfield 48, 3) := by decide +kernel
theorem dX6_isCanonicalNow_14 : decode cX6_isCanonicalNow 14 = .ok (.lstore 5, 2) := by decide +kernel
theorem dX6_isCanonicalNow_16 : decode cX6_isCanonicalNow 16 = .ok (.aload_n 0, 1) := by decide +kernel
theorem dX6_isCanonicalNow_17 : decode cX6_isCanonicalNow 17 = .ok (.getfield 51, 3) := by decide +kernel
theorem dX6_isCanonicalNow_20 : decode cX6_isCanonicalNow 20 = .ok (.lstore 7, 2) := by decide +kernel
theorem dX6_isCanonicalNow_22 : decode cX6_isCanonicalNow 22 = .ok (.aload_n 0, 1) := by decide +kernel
theorem dX6_isCanonicalNow_23 : decode cX6_isCanonicalNow 23 = .ok (.invokevirtual 131, 3) := by decide +kernel
theorem dX6_isCanonicalNow_26 : decode cX6_isCanonicalNow 26 = .ok (.ifCond .ne 5, 3) := by decide +kernel
theorem dX6_isCanonicalNow_29 : decode cX6_isCanonicalNow 29 = .ok (.iconst 0, 1) := by decide +kernel
theorem dX6_isCanonicalNow_30 : decode cX6_isCanonicalNow 30 = .ok (.ireturn, 1) := by decide +kernel
theorem dX6_isCanonicalNow_31 : decode cX6_isCanonicalNow 31 = .ok (.aload_n 0, 1) := by decide +kernel
theorem dX6_isCanonicalNow_32 : decode cX6_isCanonicalNow 32 = .ok (.invokevirtual 162, 3) := by decide +kernel
theorem dX6_isCanonicalNow_35 : decode cX6_isCanonicalNow 35 = .ok (.aload_n 0, 1) := by decide +kernel
theorem dX6_isCanonicalNow_36 : decode cX6_isCanonicalNow 36 = .ok (.getfield 41, 3) := by decide +kernel
theorem dX6_isCanonicalNow_39 : decode cX6_isCanonicalNow 39 = .ok (.lload_n 1, 1) := by decide +kernel
theorem dX6_isCanonicalNow_40 : decode cX6_isCanonicalNow 40 = .ok (.lcmp, 1) := by decide +kernel
theorem dX6_isCanonicalNow_41 : decode cX6_isCanonicalNow 41 = .ok (.ifCond .ne 36, 3) := by decide +kernel
theorem dX6_isCanonicalNow_44 : decode cX6_isCanonicalNow 44 = .ok (.aload_n 0, 1) := by decide +kernel
theorem dX6_isCanonicalNow_45 : decode cX6_isCanonicalNow 45 = .ok (.getfield 45, 3) := by decide +kernel
theorem dX6_isCanonicalNow_48 : decode cX6_isCanonicalNow 48 = .ok (.lload_n 3, 1) := by decide +kernel
theorem dX6_isCanonicalNow_49 : decode cX6_isCanonicalNow 49 = .ok (.lcmp, 1) := by decide +kernel
theorem dX6_isCanonicalNow_50 : decode cX6_isCanonicalNow 50 = .ok (.ifCond .ne 27, 3) := by decide +kernel
theorem dX6_isCanonicalNow_53 : decode cX6_isCanonicalNow 53 = .ok (.aload_n 0, 1) := by decide +kernel
theorem dX6_isCanonicalNow_54 : decode cX6_isCanonicalNow 54 = .ok (.getfield 48, 3) := by decide +kernel
theorem dX6_isCanonicalNow_57 : decode cX6_isCanonicalNow 57 = .ok (.lload 5, 2) := by decide +kernel
theorem dX6_isCanonicalNow_59 : decode cX6_isCanonicalNow 59 = .ok (.lcmp, 1) := by decide +kernel
theorem dX6_isCanonicalNow_60 : decode cX6_isCanonicalNow 60 = .ok (.ifCond .ne 17, 3) := by decide +kernel
theorem dX6_isCanonicalNow_63 : decode cX6_isCanonicalNow 63 = .ok (.aload_n 0, 1) := by decide +kernel
theorem dX6_isCanonicalNow_64 : decode cX6_isCanonicalNow 64 = .ok (.getfield 51, 3) := by decide +kernel
theorem dX6_isCanonicalNow_67 : decode cX6_isCanonicalNow 67 = .ok (.lload 7, 2) := by decide +kernel
theorem dX6_isCanonicalNow_69 : decode cX6_isCanonicalNow 69 = .ok (.lcmp, 1) := by decide +kernel
theorem dX6_isCanonicalNow_70 : decode cX6_isCanonicalNow 70 = .ok (.ifCond .ne 7, 3) := by decide +kernel
theorem dX6_isCanonicalNow_73 : decode cX6_isCanonicalNow 73 = .ok (.iconst 1, 1) := by decide +kernel
theorem dX6_isCanonicalNow_74 : decode cX6_isCanonicalNow 74 = .ok (.goto 4, 3) := by decide +kernel
theorem dX6_isCanonicalNow_77 : decode cX6_isCanonicalNow 77 = .ok (.iconst 0, 1) := by decide +kernel
theorem dX6_isCanonicalNow_78 : decode cX6_isCanonicalNow 78 = .ok (.istore 9, 2) := by decide +kernel
theorem dX6_isCanonicalNow_80 : decode cX6_isCanonicalNow 80 = .ok (.aload_n 0, 1) := by decide +kernel
theorem dX6_isCanonicalNow_81 : decode cX6_isCanonicalNow 81 = .ok (.lload_n 1, 1) := by decide +kernel
theorem dX6_isCanonicalNow_82 : decode cX6_isCanonicalNow 82 = .ok (.lload_n 3, 1) := by decide +kernel
theorem dX6_isCanonicalNow_83 : decode cX6_isCanonicalNow 83 = .ok (.lload 5, 2) := by decide +kernel
theorem dX6_isCanonicalNow_85 : decode cX6_isCanonicalNow 85 = .ok (.lload 7, 2) := by decide +kernel
theorem dX6_isCanonicalNow_87 : decode cX6_isCanonicalNow 87 = .ok (.invokevirtual 58, 3) := by decide +kernel
theorem dX6_isCanonicalNow_90 : decode cX6_isCanonicalNow 90 = .ok (.iload 9, 2) := by decide +kernel
theorem dX6_isCanonicalNow_92 : decode cX6_isCanonicalNow 92 = .ok (.ireturn, 1) := by decide +kernel
theorem dX6_tabulateNow_0 : decode cX6_tabulateNow 0 = .ok (.aload_n 0, 1) := by decide +kernel
theorem dX6_tabulateNow_1 : decode cX6_tabulateNow 1 = .ok (.invokevirtual 86, 3) := by decide +kernel
theorem dX6_tabulateNow_4 : decode cX6_tabulateNow 4 = .ok (.lstore_n 1, 1) := by decide +kernel
theorem dX6_tabulateNow_5 : decode cX6_tabulateNow 5 = .ok (.lload_n 1, 1) := by decide +kernel
theorem dX6_tabulateNow_6 : decode cX6_tabulateNow 6 = .ok (.lconst 1, 1) := by decide +kernel
theorem dX6_tabulateNow_7 : decode cX6_tabulateNow 7 = .ok (.ldc2_w 103, 3) := by decide +kernel
theorem dX6_tabulateNow_10 : decode cX6_tabulateNow 10 = .ok (.invokestatic 33, 3) := by decide +kernel
theorem dX6_tabulateNow_13 : decode cX6_tabulateNow 13 = .ok (.ifCond .eq 50, 3) := by decide +kernel
theorem dX6_tabulateNow_16 : decode cX6_tabulateNow 16 = .ok (.aload_n 0, 1) := by decide +kernel
theorem dX6_tabulateNow_17 : decode cX6_tabulateNow 17 = .ok (.invokevirtual 230, 3) := by decide +kernel
theorem dX6_tabulateNow_20 : decode cX6_tabulateNow 20 = .ok (.ifCond .eq 43, 3) := by decide +kernel
theorem dX6_tabulateNow_23 : decode cX6_tabulateNow 23 = .ok (.aload_n 0, 1) := by decide +kernel
theorem dX6_tabulateNow_24 : decode cX6_tabulateNow 24 = .ok (.invokevirtual 127, 3) := by decide +kernel
theorem dX6_tabulateNow_27 : decode cX6_tabulateNow 27 = .ok (.ifCond .ne 36, 3) := by decide +kernel
theorem dX6_tabulateNow_30 : decode cX6_tabulateNow 30 = .ok (.aload_n 0, 1) := by decide +kernel
theorem dX6_tabulateNow_31 : decode cX6_tabulateNow 31 = .ok (.getfield 23, 3) := by decide +kernel
theorem dX6_tabulateNow_34 : decode cX6_tabulateNow 34 = .ok (.lload_n 1, 1) := by decide +kernel
theorem dX6_tabulateNow_35 : decode cX6_tabulateNow 35 = .ok (.l2i, 1) := by decide +kernel
theorem dX6_tabulateNow_36 : decode cX6_tabulateNow 36 = .ok (.dup2, 1) := by decide +kernel
theorem dX6_tabulateNow_37 : decode cX6_tabulateNow 37 = .ok (.iaload, 1) := by decide +kernel
theorem dX6_tabulateNow_38 : decode cX6_tabulateNow 38 = .ok (.iconst 1, 1) := by decide +kernel
theorem dX6_tabulateNow_39 : decode cX6_tabulateNow 39 = .ok (.iadd, 1) := by decide +kernel
theorem dX6_tabulateNow_40 : decode cX6_tabulateNow 40 = .ok (.iastore, 1) := by decide +kernel
theorem dX6_tabulateNow_41 : decode cX6_tabulateNow 41 = .ok (.aload_n 0, 1) := by decide +kernel
theorem dX6_tabulateNow_42 : decode cX6_tabulateNow 42 = .ok (.getfield 26, 3) := by decide +kernel
theorem dX6_tabulateNow_45 : decode cX6_tabulateNow 45 = .ok (.lload_n 1, 1) := by decide +kernel
theorem dX6_tabulateNow_46 : decode cX6_tabulateNow 46 = .ok (.l2i, 1) := by decide +kernel
theorem dX6_tabulateNow_47 : decode cX6_tabulateNow 47 = .ok (.dup2, 1) := by decide +kernel
theorem dX6_tabulateNow_48 : decode cX6_tabulateNow 48 = .ok (.iaload, 1) := by decide +kernel
theorem dX6_tabulateNow_49 : decode cX6_tabulateNow 49 = .ok (.aload_n 0, 1) := by decide +kernel
theorem dX6_tabulateNow_50 : decode cX6_tabulateNow 50 = .ok (.invokevirtual 227, 3) := by decide +kernel
theorem dX6_tabulateNow_53 : decode cX6_tabulateNow 53 = .ok (.ifCond .eq 7, 3) := by decide +kernel
theorem dX6_tabulateNow_56 : decode cX6_tabulateNow 56 = .ok (.iconst 0, 1) := by decide +kernel
theorem dX6_tabulateNow_57 : decode cX6_tabulateNow 57 = .ok (.goto 4, 3) := by decide +kernel
theorem dX6_tabulateNow_60 : decode cX6_tabulateNow 60 = .ok (.iconst 1, 1) := by decide +kernel
theorem dX6_tabulateNow_61 : decode cX6_tabulateNow 61 = .ok (.iadd, 1) := by decide +kernel
theorem dX6_tabulateNow_62 : decode cX6_tabulateNow 62 = .ok (.iastore, 1) := by decide +kernel
theorem dX6_tabulateNow_63 : decode cX6_tabulateNow 63 = .ok (.return_, 1) := by decide +kernel
theorem dX6_tabulate_0 : decode cX6_tabulate 0 = .ok (.iconst 0, 1) := by decide +kernel
theorem dX6_tabulate_1 : decode cX6_tabulate 1 = .ok (.istore_n 1, 1) := by decide +kernel
theorem dX6_tabulate_2 : decode cX6_tabulate 2 = .ok (.iload_n 1, 1) := by decide +kernel
theorem dX6_tabulate_3 : decode cX6_tabulate 3 = .ok (.ldc 233, 2) := by decide +kernel
theorem dX6_tabulate_5 : decode cX6_tabulate 5 = .ok (.if_icmp .ge 64, 3) := by decide +kernel
theorem dX6_tabulate_8 : decode cX6_tabulate 8 = .ok (.aload_n 0, 1) := by decide +kernel
theorem dX6_tabulate_9 : decode cX6_tabulate 9 = .ok (.getfield 234, 3) := by decide +kernel
theorem dX6_tabulate_12 : decode cX6_tabulate 12 = .ok (.ifCond .ne 57, 3) := by decide +kernel
theorem dX6_tabulate_15 : decode cX6_tabulate 15 = .ok (.aload_n 0, 1) := by decide +kernel
theorem dX6_tabulate_16 : decode cX6_tabulate 16 = .ok (.iload_n 1, 1) := by decide +kernel
theorem dX6_tabulate_17 : decode cX6_tabulate 17 = .ok (.sipush 6859, 3) := by decide +kernel
theorem dX6_tabulate_20 : decode cX6_tabulate 20 = .ok (.idiv, 1) := by decide +kernel
theorem dX6_tabulate_21 : decode cX6_tabulate 21 = .ok (.bipush 9, 2) := by decide +kernel
theorem dX6_tabulate_23 : decode cX6_tabulate 23 = .ok (.isub, 1) := by decide +kernel
theorem dX6_tabulate_24 : decode cX6_tabulate 24 = .ok (.i2l, 1) := by decide +kernel
theorem dX6_tabulate_25 : decode cX6_tabulate 25 = .ok (.iload_n 1, 1) := by decide +kernel
theorem dX6_tabulate_26 : decode cX6_tabulate 26 = .ok (.sipush 361, 3) := by decide +kernel
theorem dX6_tabulate_29 : decode cX6_tabulate 29 = .ok (.idiv, 1) := by decide +kernel
theorem dX6_tabulate_30 : decode cX6_tabulate 30 = .ok (.bipush 19, 2) := by decide +kernel
theorem dX6_tabulate_32 : decode cX6_tabulate 32 = .ok (.irem, 1) := by decide +kernel
theorem dX6_tabulate_33 : decode cX6_tabulate 33 = .ok (.bipush 9, 2) := by decide +kernel
theorem dX6_tabulate_35 : decode cX6_tabulate 35 = .ok (.isub, 1) := by decide +kernel
theorem dX6_tabulate_36 : decode cX6_tabulate 36 = .ok (.i2l, 1) := by decide +kernel
theorem dX6_tabulate_37 : decode cX6_tabulate 37 = .ok (.iload_n 1, 1) := by decide +kernel
theorem dX6_tabulate_38 : decode cX6_tabulate 38 = .ok (.bipush 19, 2) := by decide +kernel
theorem dX6_tabulate_40 : decode cX6_tabulate 40 = .ok (.idiv, 1) := by decide +kernel
theorem dX6_tabulate_41 : decode cX6_tabulate 41 = .ok (.bipush 19, 2) := by decide +kernel
theorem dX6_tabulate_43 : decode cX6_tabulate 43 = .ok (.irem, 1) := by decide +kernel
theorem dX6_tabulate_44 : decode cX6_tabulate 44 = .ok (.bipush 9, 2) := by decide +kernel
theorem dX6_tabulate_46 : decode cX6_tabulate 46 = .ok (.isub, 1) := by decide +kernel
theorem dX6_tabulate_47 : decode cX6_tabulate 47 = .ok (.i2l, 1) := by decide +kernel
theorem dX6_tabulate_48 : decode cX6_tabulate 48 = .ok (.iload_n 1, 1) := by decide +kernel
theorem dX6_tabulate_49 : decode cX6_tabulate 49 = .ok (.bipush 19, 2) := by decide +kernel
theorem dX6_tabulate_51 : decode cX6_tabulate 51 = .ok (.irem, 1) := by decide +kernel
theorem dX6_tabulate_52 : decode cX6_tabulate 52 = .ok (.bipush 9, 2) := by decide +kernel
theorem dX6_tabulate_54 : decode cX6_tabulate 54 = .ok (.isub, 1) := by decide +kernel
theorem dX6_tabulate_55 : decode cX6_tabulate 55 = .ok (.i2l, 1) := by decide +kernel
theorem dX6_tabulate_56 : decode cX6_tabulate 56 = .ok (.invokevirtual 58, 3) := by decide +kernel
theorem dX6_tabulate_59 : decode cX6_tabulate 59 = .ok (.aload_n 0, 1) := by decide +kernel
theorem dX6_tabulate_60 : decode cX6_tabulate 60 = .ok (.invokevirtual 238, 3) := by decide +kernel
theorem dX6_tabulate_63 : decode cX6_tabulate 63 = .ok (.iinc 1 1, 3) := by decide +kernel
theorem dX6_tabulate_66 : decode cX6_tabulate 66 = .ok (.goto (-64), 3) := by decide +kernel
theorem dX6_tabulate_69 : decode cX6_tabulate 69 = .ok (.aload_n 0, 1) := by decide +kernel
theorem dX6_tabulate_70 : decode cX6_tabulate 70 = .ok (.iconst 1, 1) := by decide +kernel
theorem dX6_tabulate_71 : decode cX6_tabulate 71 = .ok (.putfield 234, 3) := by decide +kernel
theorem dX6_tabulate_74 : decode cX6_tabulate 74 = .ok (.return_, 1) := by decide +kernel
theorem dX6_countForms_0 : decode cX6_countForms 0 = .ok (.iload_n 1, 1) := by decide +kernel
theorem dX6_countForms_1 : decode cX6_countForms 1 = .ok (.i2l, 1) := by decide +kernel
theorem dX6_countForms_2 : decode cX6_countForms 2 = .ok (.lconst 1, 1) := by decide +kernel
theorem dX6_countForms_3 : decode cX6_countForms 3 = .ok (.ldc2_w 103, 3) := by decide +kernel
theorem dX6_countForms_6 : decode cX6_countForms 6 = .ok (.invokestatic 33, 3) := by decide +kernel
theorem dX6_countForms_9 : decode cX6_countForms 9 = .ok (.ifCond .ne 7, 3) := by decide +kernel
theorem dX6_countForms_12 : decode cX6_countForms 12 = .ok (.sipush (-10003), 3) := by decide +kernel
theorem dX6_countForms_15 : decode cX6_countForms 15 = .ok (.ireturn, 1) := by decide +kernel
theorem dX6_countForms_16 : decode cX6_countForms 16 = .ok (.aload_n 0, 1) := by decide +kernel
theorem dX6_countForms_17 : decode cX6_countForms 17 = .ok (.invokevirtual 241, 3) := by decide +kernel
theorem dX6_countForms_20 : decode cX6_countForms 20 = .ok (.iconst 0, 1) := by decide +kernel
theorem dX6_countForms_21 : decode cX6_countForms 21 = .ok (.istore_n 2, 1) := by decide +kernel
theorem dX6_countForms_22 : decode cX6_countForms 22 = .ok (.iconst 1, 1) := by decide +kernel
theorem dX6_countForms_23 : decode cX6_countForms 23 = .ok (.istore_n 3, 1) := by decide +kernel
theorem dX6_countForms_24 : decode cX6_countForms 24 = .ok (.iload_n 3, 1) := by decide +kernel
theorem dX6_countForms_25 : decode cX6_countForms 25 = .ok (.iload_n 1, 1) := by decide +kernel
theorem dX6_countForms_26 : decode cX6_countForms 26 = .ok (.if_icmp .gt 18, 3) := by decide +kernel
theorem dX6_countForms_29 : decode cX6_countForms 29 = .ok (.iload_n 2, 1) := by decide +kernel
theorem dX6_countForms_30 : decode cX6_countForms 30 = .ok (.aload_n 0, 1) := by decide +kernel
theorem dX6_countForms_31 : decode cX6_countForms 31 = .ok (.getfield 23, 3) := by decide +kernel
theorem dX6_countForms_34 : decode cX6_countForms 34 = .ok (.iload_n 3, 1) := by decide +kernel
theorem dX6_countForms_35 : decode cX6_countForms 35 = .ok (.iaload, 1) := by decide +kernel
theorem dX6_countForms_36 : decode cX6_countForms 36 = .ok (.iadd, 1) := by decide +kernel
theorem dX6_countForms_37 : decode cX6_countForms 37 = .ok (.istore_n 2, 1) := by decide +kernel
theorem dX6_countForms_38 : decode cX6_countForms 38 = .ok (.iinc 3 1, 3) := by decide +kernel
theorem dX6_countForms_41 : decode cX6_countForms 41 = .ok (.goto (-17), 3) := by decide +kernel
theorem dX6_countForms_44 : decode cX6_countForms 44 = .ok (.iload_n 2, 1) := by decide +kernel
theorem dX6_countForms_45 : decode cX6_countForms 45 = .ok (.ireturn, 1) := by decide +kernel
theorem dX6_countFields_0 : decode cX6_countFields 0 = .ok (.iload_n 1, 1) := by decide +kernel
theorem dX6_countFields_1 : decode cX6_countFields 1 = .ok (.i2l, 1) := by decide +kernel
theorem dX6_countFields_2 : decode cX6_countFields 2 = .ok (.lconst 1, 1) := by decide +kernel
theorem dX6_countFields_3 : decode cX6_countFields 3 = .ok (.ldc2_w 103, 3) := by decide +kernel
theorem dX6_countFields_6 : decode cX6_countFields 6 = .ok (.invokestatic 33, 3) := by decide +kernel
theorem dX6_countFields_9 : decode cX6_countFields 9 = .ok (.ifCond .ne 7, 3) := by decide +kernel
theorem dX6_countFields_12 : decode cX6_countFields 12 = .ok (.sipush (-10003), 3) := by decide +kernel
theorem dX6_countFields_15 : decode cX6_countFields 15 = .ok (.ireturn, 1) := by decide +kernel
theorem dX6_countFields_16 : decode cX6_countFields 16 = .ok (.aload_n 0, 1) := by decide +kernel
theorem dX6_countFields_17 : decode cX6_countFields 17 = .ok (.invokevirtual 241, 3) := by decide +kernel
theorem dX6_countFields_20 : decode cX6_countFields 20 = .ok (.iconst 0, 1) := by decide +kernel
theorem dX6_countFields_21 : decode cX6_countFields 21 = .ok (.istore_n 2, 1) := by decide +kernel
theorem dX6_countFields_22 : decode cX6_countFields 22 = .ok (.iconst 1, 1) := by decide +kernel
theorem dX6_countFields_23 : decode cX6_countFields 23 = .ok (.istore_n 3, 1) := by decide +kernel
theorem dX6_countFields_24 : decode cX6_countFields 24 = .ok (.iload_n 3, 1) := by decide +kernel
theorem dX6_countFields_25 : decode cX6_countFields 25 = .ok (.iload_n 1, 1) := by decide +kernel
theorem dX6_countFields_26 : decode cX6_countFields 26 = .ok (.if_icmp .gt 18, 3) := by decide +kernel
theorem dX6_countFields_29 : decode cX6_countFields 29 = .ok (.iload_n 2, 1) := by decide +kernel
theorem dX6_countFields_30 : decode cX6_countFields 30 = .ok (.aload_n 0, 1) := by decide +kernel
theorem dX6_countFields_31 : decode cX6_countFields 31 = .ok (.getfield 26, 3) := by decide +kernel
theorem dX6_countFields_34 : decode cX6_countFields 34 = .ok (.iload_n 3, 1) := by decide +kernel
theorem dX6_countFields_35 : decode cX6_countFields 35 = .ok (.iaload, 1) := by decide +kernel
theorem dX6_countFields_36 : decode cX6_countFields 36 = .ok (.iadd, 1) := by decide +kernel
theorem dX6_countFields_37 : decode cX6_countFields 37 = .ok (.istore_n 2, 1) := by decide +kernel
theorem dX6_countFields_38 : decode cX6_countFields 38 = .ok (.iinc 3 1, 3) := by decide +kernel
theorem dX6_countFields_41 : decode cX6_countFields 41 = .ok (.goto (-17), 3) := by decide +kernel
theorem dX6_countFields_44 : decode cX6_countFields 44 = .ok (.iload_n 2, 1) := by decide +kernel
theorem dX6_countFields_45 : decode cX6_countFields 45 = .ok (.ireturn, 1) := by decide +kernel
theorem dX6_fieldDiscriminant_0 : decode cX6_fieldDiscriminant 0 = .ok (.iload_n 1, 1) := by decide +kernel
theorem dX6_fieldDiscriminant_1 : decode cX6_fieldDiscriminant 1 = .ok (.ifCond .ge 7, 3) := by decide +kernel
theorem dX6_fieldDiscriminant_4 : decode cX6_fieldDiscriminant 4 = .ok (.sipush (-10003), 3) := by decide +kernel
theorem dX6_fieldDiscriminant_7 : decode cX6_fieldDiscriminant 7 = .ok (.ireturn, 1) := by decide +kernel
theorem dX6_fieldDiscriminant_8 : decode cX6_fieldDiscriminant 8 = .ok (.aload_n 0, 1) := by decide +kernel
theorem dX6_fieldDiscriminant_9 : decode cX6_fieldDiscriminant 9 = .ok (.invokevirtual 241, 3) := by decide +kernel
theorem dX6_fieldDiscriminant_12 : decode cX6_fieldDiscriminant 12 = .ok (.iload_n 1, 1) := by decide +kernel
theorem dX6_fieldDiscriminant_13 : decode cX6_fieldDiscriminant 13 = .ok (.istore_n 2, 1) := by decide +kernel
theorem dX6_fieldDiscriminant_14 : decode cX6_fieldDiscriminant 14 = .ok (.iconst 1, 1) := by decide +kernel
theorem dX6_fieldDiscriminant_15 : decode cX6_fieldDiscriminant 15 = .ok (.istore_n 3, 1) := by decide +kernel
theorem dX6_fieldDiscriminant_16 : decode cX6_fieldDiscriminant 16 = .ok (.iload_n 3, 1) := by decide +kernel
theorem dX6_fieldDiscriminant_17 : decode cX6_fieldDiscriminant 17 = .ok (.sipush 1000, 3) := by decide +kernel
theorem dX6_fieldDiscriminant_20 : decode cX6_fieldDiscriminant 20 = .ok (.if_icmp .gt 30, 3) := by decide +kernel
theorem dX6_fieldDiscriminant_23 : decode cX6_fieldDiscriminant 23 = .ok (.iload_n 2, 1) := by decide +kernel
theorem dX6_fieldDiscriminant_24 : decode cX6_fieldDiscriminant 24 = .ok (.aload_n 0, 1) := by decide +kernel
theorem dX6_fieldDiscriminant_25 : decode cX6_fieldDiscriminant 25 = .ok (.getfield 26, 3) := by decide +kernel
theorem dX6_fieldDiscriminant_28 : decode cX6_fieldDiscriminant 28 = .ok (.iload_n 3, 1) := by decide +kernel
theorem dX6_fieldDiscriminant_29 : decode cX6_fieldDiscriminant 29 = .ok (.iaload, 1) := by decide +kernel
theorem dX6_fieldDiscriminant_30 : decode cX6_fieldDiscriminant 30 = .ok (.if_icmp .ge 5, 3) := by decide +kernel
theorem dX6_fieldDiscriminant_33 : decode cX6_fieldDiscriminant 33 = .ok (.iload_n 3, 1) := by decide +kernel
theorem dX6_fieldDiscriminant_34 : decode cX6_fieldDiscriminant 34 = .ok (.ireturn, 1) := by decide +kernel
theorem dX6_fieldDiscriminant_35 : decode cX6_fieldDiscriminant 35 = .ok (.iload_n 2, 1) := by decide +kernel
theorem dX6_fieldDiscriminant_36 : decode cX6_fieldDiscriminant 36 = .ok (.aload_n 0, 1) := by decide +kernel
theorem dX6_fieldDiscriminant_37 : decode cX6_fieldDiscriminant 37 = .ok (.getfield 26, 3) := by decide +kernel
theorem dX6_fieldDiscriminant_40 : decode cX6_fieldDiscriminant 40 = .ok (.iload_n 3, 1) := by decide +kernel
theorem dX6_fieldDiscriminant_41 : decode cX6_fieldDiscriminant 41 = .ok (.iaload, 1) := by decide +kernel
theorem dX6_fieldDiscriminant_42 : decode cX6_fieldDiscriminant 42 = .ok (.isub, 1) := by decide +kernel
theorem dX6_fieldDiscriminant_43 : decode cX6_fieldDiscriminant 43 = .ok (.istore_n 2, 1) := by decide +kernel
theorem dX6_fieldDiscriminant_44 : decode cX6_fieldDiscriminant 44 = .ok (.iinc 3 1, 3) := by decide +kernel
theorem dX6_fieldDiscriminant_47 : decode cX6_fieldDiscriminant 47 = .ok (.goto (-31), 3) := by decide +kernel
theorem dX6_fieldDiscriminant_50 : decode cX6_fieldDiscriminant 50 = .ok (.sipush (-10008), 3) := by decide +kernel
theorem dX6_fieldDiscriminant_53 : decode cX6_fieldDiscriminant 53 = .ok (.ireturn, 1) := by decide +kernel
theorem dJ9_floorDiv_f86c9_0 : decode cJ9_floorDiv_f86c9 0 = .ok (.lload_n 0, 1) := by decide +kernel
theorem dJ9_floorDiv_f86c9_1 : decode cJ9_floorDiv_f86c9 1 = .ok (.lload_n 2, 1) := by decide +kernel
theorem dJ9_floorDiv_f86c9_2 : decode cJ9_floorDiv_f86c9 2 = .ok (.ldiv, 1) := by decide +kernel
theorem dJ9_floorDiv_f86c9_3 : decode cJ9_floorDiv_f86c9 3 = .ok (.lstore 4, 2) := by decide +kernel
theorem dJ9_floorDiv_f86c9_5 : decode cJ9_floorDiv_f86c9 5 = .ok (.lload_n 0, 1) := by decide +kernel
theorem dJ9_floorDiv_f86c9_6 : decode cJ9_floorDiv_f86c9 6 = .ok (.lload_n 2, 1) := by decide +kernel
theorem dJ9_floorDiv_f86c9_7 : decode cJ9_floorDiv_f86c9 7 = .ok (.lxor, 1) := by decide +kernel
theorem dJ9_floorDiv_f86c9_8 : decode cJ9_floorDiv_f86c9 8 = .ok (.lconst 0, 1) := by decide +kernel
theorem dJ9_floorDiv_f86c9_9 : decode cJ9_floorDiv_f86c9 9 = .ok (.lcmp, 1) := by decide +kernel
theorem dJ9_floorDiv_f86c9_10 : decode cJ9_floorDiv_f86c9 10 = .ok (.ifCond .ge 17, 3) := by decide +kernel
theorem dJ9_floorDiv_f86c9_13 : decode cJ9_floorDiv_f86c9 13 = .ok (.lload 4, 2) := by decide +kernel
theorem dJ9_floorDiv_f86c9_15 : decode cJ9_floorDiv_f86c9 15 = .ok (.lload_n 2, 1) := by decide +kernel
theorem dJ9_floorDiv_f86c9_16 : decode cJ9_floorDiv_f86c9 16 = .ok (.lmul, 1) := by decide +kernel
theorem dJ9_floorDiv_f86c9_17 : decode cJ9_floorDiv_f86c9 17 = .ok (.lload_n 0, 1) := by decide +kernel
theorem dJ9_floorDiv_f86c9_18 : decode cJ9_floorDiv_f86c9 18 = .ok (.lcmp, 1) := by decide +kernel
theorem dJ9_floorDiv_f86c9_19 : decode cJ9_floorDiv_f86c9 19 = .ok (.ifCond .eq 8, 3) := by decide +kernel
theorem dJ9_floorDiv_f86c9_22 : decode cJ9_floorDiv_f86c9 22 = .ok (.lload 4, 2) := by decide +kernel
theorem dJ9_floorDiv_f86c9_24 : decode cJ9_floorDiv_f86c9 24 = .ok (.lconst 1, 1) := by decide +kernel
theorem dJ9_floorDiv_f86c9_25 : decode cJ9_floorDiv_f86c9 25 = .ok (.lsub, 1) := by decide +kernel
theorem dJ9_floorDiv_f86c9_26 : decode cJ9_floorDiv_f86c9 26 = .ok (.lreturn, 1) := by decide +kernel
theorem dJ9_floorDiv_f86c9_27 : decode cJ9_floorDiv_f86c9 27 = .ok (.lload 4, 2) := by decide +kernel
theorem dJ9_floorDiv_f86c9_29 : decode cJ9_floorDiv_f86c9 29 = .ok (.lreturn, 1) := by decide +kernel
theorem dJ9_abs_0f7a4_0 : decode cJ9_abs_0f7a4 0 = .ok (.iload_n 0, 1) := by decide +kernel
theorem dJ9_abs_0f7a4_1 : decode cJ9_abs_0f7a4 1 = .ok (.ifCond .ge 8, 3) := by decide +kernel
theorem dJ9_abs_0f7a4_4 : decode cJ9_abs_0f7a4 4 = .ok (.iload_n 0, 1) := by decide +kernel
theorem dJ9_abs_0f7a4_5 : decode cJ9_abs_0f7a4 5 = .ok (.ineg, 1) := by decide +kernel
theorem dJ9_abs_0f7a4_6 : decode cJ9_abs_0f7a4 6 = .ok (.goto 4, 3) := by decide +kernel
theorem dJ9_abs_0f7a4_9 : decode cJ9_abs_0f7a4 9 = .ok (.iload_n 0, 1) := by decide +kernel
theorem dJ9_abs_0f7a4_10 : decode cJ9_abs_0f7a4 10 = .ok (.ireturn, 1) := by decide +kernel
theorem dJ9_abs_067f4_0 : decode cJ9_abs_067f4 0 = .ok (.lload_n 0, 1) := by decide +kernel
theorem dJ9_abs_067f4_1 : decode cJ9_abs_067f4 1 = .ok (.lconst 0, 1) := by decide +kernel
theorem dJ9_abs_067f4_2 : decode cJ9_abs_067f4 2 = .ok (.lcmp, 1) := by decide +kernel
theorem dJ9_abs_067f4_3 : decode cJ9_abs_067f4 3 = .ok (.ifCond .ge 8, 3) := by decide +kernel
theorem dJ9_abs_067f4_6 : decode cJ9_abs_067f4 6 = .ok (.lload_n 0, 1) := by decide +kernel
theorem dJ9_abs_067f4_7 : decode cJ9_abs_067f4 7 = .ok (.lneg, 1) := by decide +kernel
theorem dJ9_abs_067f4_8 : decode cJ9_abs_067f4 8 = .ok (.goto 4, 3) := by decide +kernel
theorem dJ9_abs_067f4_11 : decode cJ9_abs_067f4 11 = .ok (.lload_n 0, 1) := by decide +kernel
theorem dJ9_abs_067f4_12 : decode cJ9_abs_067f4 12 = .ok (.lreturn, 1) := by decide +kernel
theorem dL_law_0 : decode cL_law 0 = .ok (.new 7, 3) := by decide +kernel
theorem dL_law_3 : decode cL_law 3 = .ok (.dup, 1) := by decide +kernel
theorem dL_law_4 : decode cL_law 4 = .ok (.invokespecial 9, 3) := by decide +kernel
theorem dL_law_7 : decode cL_law 7 = .ok (.astore_n 1, 1) := by decide +kernel
theorem dL_law_8 : decode cL_law 8 = .ok (.new 10, 3) := by decide +kernel
theorem dL_law_11 : decode cL_law 11 = .ok (.dup, 1) := by decide +kernel
theorem dL_law_12 : decode cL_law 12 = .ok (.invokespecial 12, 3) := by decide +kernel
theorem dL_law_15 : decode cL_law 15 = .ok (.astore_n 2, 1) := by decide +kernel
theorem dL_law_16 : decode cL_law 16 = .ok (.iconst 0, 1) := by decide +kernel
theorem dL_law_17 : decode cL_law 17 = .ok (.istore_n 3, 1) := by decide +kernel
theorem dL_law_18 : decode cL_law 18 = .ok (.iload_n 3, 1) := by decide +kernel
theorem dL_law_19 : decode cL_law 19 = .ok (.aload_n 0, 1) := by decide +kernel
theorem dL_law_20 : decode cL_law 20 = .ok (.arraylength, 1) := by decide +kernel
theorem dL_law_21 : decode cL_law 21 = .ok (.bipush 6, 2) := by decide +kernel
theorem dL_law_23 : decode cL_law 23 = .ok (.isub, 1) := by decide +kernel
theorem dL_law_24 : decode cL_law 24 = .ok (.if_icmp .gt 952, 3) := by decide +kernel
theorem dL_law_27 : decode cL_law 27 = .ok (.aload_n 0, 1) := by decide +kernel
theorem dL_law_28 : decode cL_law 28 = .ok (.iload_n 3, 1) := by decide +kernel
theorem dL_law_29 : decode cL_law 29 = .ok (.iaload, 1) := by decide +kernel
theorem dL_law_30 : decode cL_law 30 = .ok (.bipush 31, 2) := by decide +kernel
theorem dL_law_32 : decode cL_law 32 = .ok (.iand, 1) := by decide +kernel
theorem dL_law_33 : decode cL_law 33 = .ok (.tableswitch 937 0 24 #[115, 168, 181, 214, 238, 272, 316, 379, 402, 425, 458, 481, 534, 567, 620, 654, 688, 712, 746, 779, 812, 845, 868, 891, 914], 115) := by decide +kernel
theorem dL_law_148 : decode cL_law 148 = .ok (.aload_n 1, 1) := by decide +kernel
theorem dL_law_149 : decode cL_law 149 = .ok (.aload_n 0, 1) := by decide +kernel
theorem dL_law_150 : decode cL_law 150 = .ok (.iload_n 3, 1) := by decide +kernel
theorem dL_law_151 : decode cL_law 151 = .ok (.iconst 1, 1) := by decide +kernel
theorem dL_law_152 : decode cL_law 152 = .ok (.iadd, 1) := by decide +kernel
theorem dL_law_153 : decode cL_law 153 = .ok (.iaload, 1) := by decide +kernel
theorem dL_law_154 : decode cL_law 154 = .ok (.aload_n 0, 1) := by decide +kernel
theorem dL_law_155 : decode cL_law 155 = .ok (.iload_n 3, 1) := by decide +kernel
theorem dL_law_156 : decode cL_law 156 = .ok (.iconst 2, 1) := by decide +kernel
theorem dL_law_157 : decode cL_law 157 = .ok (.iadd, 1) := by decide +kernel
theorem dL_law_158 : decode cL_law 158 = .ok (.iaload, 1) := by decide +kernel
theorem dL_law_159 : decode cL_law 159 = .ok (.aload_n 0, 1) := by decide +kernel
theorem dL_law_160 : decode cL_law 160 = .ok (.iload_n 3, 1) := by decide +kernel
theorem dL_law_161 : decode cL_law 161 = .ok (.iconst 3, 1) := by decide +kernel
theorem dL_law_162 : decode cL_law 162 = .ok (.iadd, 1) := by decide +kernel
theorem dL_law_163 : decode cL_law 163 = .ok (.iaload, 1) := by decide +kernel
theorem dL_law_164 : decode cL_law 164 = .ok (.aload_n 0, 1) := by decide +kernel
theorem dL_law_165 : decode cL_law 165 = .ok (.iload_n 3, 1) := by decide +kernel
theorem dL_law_166 : decode cL_law 166 = .ok (.iconst 4, 1) := by decide +kernel
theorem dL_law_167 : decode cL_law 167 = .ok (.iadd, 1) := by decide +kernel
theorem dL_law_168 : decode cL_law 168 = .ok (.iaload, 1) := by decide +kernel
theorem dL_law_169 : decode cL_law 169 = .ok (.invokevirtual 13, 3) := by decide +kernel
theorem dL_law_172 : decode cL_law 172 = .ok (.aload_n 2, 1) := by decide +kernel
theorem dL_law_173 : decode cL_law 173 = .ok (.aload_n 0, 1) := by decide +kernel
theorem dL_law_174 : decode cL_law 174 = .ok (.iload_n 3, 1) := by decide +kernel
theorem dL_law_175 : decode cL_law 175 = .ok (.iconst 1, 1) := by decide +kernel
theorem dL_law_176 : decode cL_law 176 = .ok (.iadd, 1) := by decide +kernel
theorem dL_law_177 : decode cL_law 177 = .ok (.iaload, 1) := by decide +kernel
theorem dL_law_178 : decode cL_law 178 = .ok (.aload_n 0, 1) := by decide +kernel
theorem dL_law_179 : decode cL_law 179 = .ok (.iload_n 3, 1) := by decide +kernel
theorem dL_law_180 : decode cL_law 180 = .ok (.iconst 2, 1) := by decide +kernel
theorem dL_law_181 : decode cL_law 181 = .ok (.iadd, 1) := by decide +kernel
theorem dL_law_182 : decode cL_law 182 = .ok (.iaload, 1) := by decide +kernel
theorem dL_law_183 : decode cL_law 183 = .ok (.aload_n 0, 1) := by decide +kernel
theorem dL_law_184 : decode cL_law 184 = .ok (.iload_n 3, 1) := by decide +kernel
theorem dL_law_185 : decode cL_law 185 = .ok (.iconst 3, 1) := by decide +kernel
theorem dL_law_186 : decode cL_law 186 = .ok (.iadd, 1) := by decide +kernel
theorem dL_law_187 : decode cL_law 187 = .ok (.iaload, 1) := by decide +kernel
theorem dL_law_188 : decode cL_law 188 = .ok (.aload_n 0, 1) := by decide +kernel
theorem dL_law_189 : decode cL_law 189 = .ok (.iload_n 3, 1) := by decide +kernel
theorem dL_law_190 : decode cL_law 190 = .ok (.iconst 4, 1) := by decide +kernel
theorem dL_law_191 : decode cL_law 191 = .ok (.iadd, 1) := by decide +kernel
theorem dL_law_192 : decode cL_law 192 = .ok (.iaload, 1) := by decide +kernel
theorem dL_law_193 : decode cL_law 193 = .ok (.invokevirtual 17, 3) := by decide +kernel
theorem dL_law_196 : decode cL_law 196 = .ok (.if_icmp .eq 774, 3) := by decide +kernel
theorem dL_law_199 : decode cL_law 199 = .ok (.iconst 0, 1) := by decide +kernel
theorem dL_law_200 : decode cL_law 200 = .ok (.ireturn, 1) := by decide +kernel
theorem dL_law_201 : decode cL_law 201 = .ok (.aload_n 1, 1) := by decide +kernel
theorem dL_law_202 : decode cL_law 202 = .ok (.invokevirtual 18, 3) := by decide +kernel
theorem dL_law_205 : decode cL_law 205 = .ok (.aload_n 2, 1) := by decide +kernel
theorem dL_law_206 : decode cL_law 206 = .ok (.invokevirtual 22, 3) := by decide +kernel
theorem dL_law_209 : decode cL_law 209 = .ok (.if_icmp .eq 761, 3) := by decide +kernel
theorem dL_law_212 : decode cL_law 212 = .ok (.iconst 0, 1) := by decide +kernel
theorem dL_law_213 : decode cL_law 213 = .ok (.ireturn, 1) := by decide +kernel
theorem dL_law_214 : decode cL_law 214 = .ok (.aload_n 1, 1) := by decide +kernel
theorem dL_law_215 : decode cL_law 215 = .ok (.aload_n 0, 1) := by decide +kernel
theorem dL_law_216 : decode cL_law 216 = .ok (.iload_n 3, 1) := by decide +kernel
theorem dL_law_217 : decode cL_law 217 = .ok (.iconst 1, 1) := by decide +kernel
theorem dL_law_218 : decode cL_law 218 = .ok (.iadd, 1) := by decide +kernel
theorem dL_law_219 : decode cL_law 219 = .ok (.iaload, 1) := by decide +kernel
theorem dL_law_220 : decode cL_law 220 = .ok (.aload_n 0, 1) := by decide +kernel
theorem dL_law_221 : decode cL_law 221 = .ok (.iload_n 3, 1) := by decide +kernel
theorem dL_law_222 : decode cL_law 222 = .ok (.iconst 2, 1) := by decide +kernel
theorem dL_law_223 : decode cL_law 223 = .ok (.iadd, 1) := by decide +kernel
theorem dL_law_224 : decode cL_law 224 = .ok (.iaload, 1) := by decide +kernel
theorem dL_law_225 : decode cL_law 225 = .ok (.invokevirtual 23, 3) := by decide +kernel
theorem dL_law_228 : decode cL_law 228 = .ok (.aload_n 2, 1) := by decide +kernel
theorem dL_law_229 : decode cL_law 229 = .ok (.aload_n 0, 1) := by decide +kernel
theorem dL_law_230 : decode cL_law 230 = .ok (.iload_n 3, 1) := by decide +kernel
theorem dL_law_231 : decode cL_law 231 = .ok (.iconst 1, 1) := by decide +kernel
theorem dL_law_232 : decode cL_law 232 = .ok (.iadd, 1) := by decide +kernel
theorem dL_law_233 : decode cL_law 233 = .ok (.iaload, 1) := by decide +kernel
theorem dL_law_234 : decode cL_law 234 = .ok (.aload_n 0, 1) := by decide +kernel
theorem dL_law_235 : decode cL_law 235 = .ok (.iload_n 3, 1) := by decide +kernel
theorem dL_law_236 : decode cL_law 236 = .ok (.iconst 2, 1) := by decide +kernel
theorem dL_law_237 : decode cL_law 237 = .ok (.iadd, 1) := by decide +kernel
theorem dL_law_238 : decode cL_law 238 = .ok (.iaload, 1) := by decide +kernel
theorem dL_law_239 : decode cL_law 239 = .ok (.invokevirtual 27, 3) := by decide +kernel
theorem dL_law_242 : decode cL_law 242 = .ok (.if_icmp .eq 728, 3) := by decide +kernel
theorem dL_law_245 : decode cL_law 245 = .ok (.iconst 0, 1) := by decide +kernel
theorem dL_law_246 : decode cL_law 246 = .ok (.ireturn, 1) := by decide +kernel
theorem dL_law_247 : decode cL_law 247 = .ok (.aload_n 1, 1) := by decide +kernel
theorem dL_law_248 : decode cL_law 248 = .ok (.aload_n 0, 1) := by decide +kernel
theorem dL_law_249 : decode cL_law 249 = .ok (.iload_n 3, 1) := by decide +kernel
theorem dL_law_250 : decode cL_law 250 = .ok (.iconst 1, 1) := by decide +kernel
theorem dL_law_251 : decode cL_law 251 = .ok (.iadd, 1) := by decide +kernel
theorem dL_law_252 : decode cL_law 252 = .ok (.iaload, 1) := by decide +kernel
theorem dL_law_253 : decode cL_law 253 = .ok (.invokevirtual 28, 3) := by decide +kernel
theorem dL_law_256 : decode cL_law 256 = .ok (.aload_n 2, 1) := by decide +kernel
theorem dL_law_257 : decode cL_law 257 = .ok (.aload_n 0, 1) := by decide +kernel
theorem dL_law_258 : decode cL_law 258 = .ok (.iload_n 3, 1) := by decide +kernel
theorem dL_law_259 : decode cL_law 259 = .ok (.iconst 1, 1) := by decide +kernel
theorem dL_law_260 : decode cL_law 260 = .ok (.iadd, 1) := by decide +kernel
theorem dL_law_261 : decode cL_law 261 = .ok (.iaload, 1) := by decide +kernel
theorem dL_law_262 : decode cL_law 262 = .ok (.invokevirtual 32, 3) := by decide +kernel
theorem dL_law_265 : decode cL_law 265 = .ok (.lcmp, 1) := by decide +kernel
theorem dL_law_266 : decode cL_law 266 = .ok (.ifCond .eq 704, 3) := by decide +kernel
theorem dL_law_269 : decode cL_law 269 = .ok (.iconst 0, 1) := by decide +kernel
theorem dL_law_270 : decode cL_law 270 = .ok (.ireturn, 1) := by decide +kernel
theorem dL_law_271 : decode cL_law 271 = .ok (.aload_n 1, 1) := by decide +kernel
theorem dL_law_272 : decode cL_law 272 = .ok (.aload_n 0, 1) := by decide +kernel
theorem dL_law_273 : decode cL_law 273 = .ok (.iload_n 3, 1) := by decide +kernel
theorem dL_law_274 : decode cL_law 274 = .ok (.iconst 1, 1) := by decide +kernel
theorem dL_law_275 : decode cL_law 275 = .ok (.iadd, 1) := by decide +kernel
theorem dL_law_276 : decode cL_law 276 = .ok (.iaload, 1) := by decide +kernel
theorem dL_law_277 : decode cL_law 277 = .ok (.aload_n 0, 1) := by decide +kernel
theorem dL_law_278 : decode cL_law 278 = .ok (.iload_n 3, 1) := by decide +kernel
theorem dL_law_279 : decode cL_law 279 = .ok (.iconst 2, 1) := by decide +kernel
theorem dL_law_280 : decode cL_law 280 = .ok (.iadd, 1) := by decide +kernel
theorem dL_law_281 : decode cL_law 281 = .ok (.iaload, 1) := by decide +kernel
theorem dL_law_282 : decode cL_law 282 = .ok (.invokevirtual 33, 3) := by decide +kernel
theorem dL_law_285 : decode cL_law 285 = .ok (.aload_n 2, 1) := by decide +kernel
theorem dL_law_286 : decode cL_law 286 = .ok (.aload_n 0, 1) := by decide +kernel
theorem dL_law_287 : decode cL_law 287 = .ok (.iload_n 3, 1) := by decide +kernel
theorem dL_law_288 : decode cL_law 288 = .ok (.iconst 1, 1) := by decide +kernel
theorem dL_law_289 : decode cL_law 289 = .ok (.iadd, 1) := by decide +kernel
theorem dL_law_290 : decode cL_law 290 = .ok (.iaload, 1) := by decide +kernel
theorem dL_law_291 : decode cL_law 291 = .ok (.aload_n 0, 1) := by decide +kernel
theorem dL_law_292 : decode cL_law 292 = .ok (.iload_n 3, 1) := by decide +kernel
theorem dL_law_293 : decode cL_law 293 = .ok (.iconst 2, 1) := by decide +kernel
theorem dL_law_294 : decode cL_law 294 = .ok (.iadd, 1) := by decide +kernel
theorem dL_law_295 : decode cL_law 295 = .ok (.iaload, 1) := by decide +kernel
theorem dL_law_296 : decode cL_law 296 = .ok (.invokevirtual 37, 3) := by decide +kernel
theorem dL_law_299 : decode cL_law 299 = .ok (.lcmp, 1) := by decide +kernel
theorem dL_law_300 : decode cL_law 300 = .ok (.ifCond .eq 670, 3) := by decide +kernel
theorem dL_law_303 : decode cL_law 303 = .ok (.iconst 0, 1) := by decide +kernel
theorem dL_law_304 : decode cL_law 304 = .ok (.ireturn, 1) := by decide +kernel
theorem dL_law_305 : decode cL_law 305 = .ok (.aload_n 1, 1) := by decide +kernel
theorem dL_law_306 : decode cL_law 306 = .ok (.aload_n 0, 1) := by decide +kernel
theorem dL_law_307 : decode cL_law 307 = .ok (.iload_n 3, 1) := by decide +kernel
theorem dL_law_308 : decode cL_law 308 = .ok (.iconst 1, 1) := by decide +kernel
theorem dL_law_309 : decode cL_law 309 = .ok (.iadd, 1) := by decide +kernel
theorem dL_law_310 : decode cL_law 310 = .ok (.iaload, 1) := by decide +kernel
theorem dL_law_311 : decode cL_law 311 = .ok (.aload_n 0, 1) := by decide +kernel
theorem dL_law_312 : decode cL_law 312 = .ok (.iload_n 3, 1) := by decide +kernel
theorem dL_law_313 : decode cL_law 313 = .ok (.iconst 2, 1) := by decide +kernel
theorem dL_law_314 : decode cL_law 314 = .ok (.iadd, 1) := by decide +kernel
theorem dL_law_315 : decode cL_law 315 = .ok (.iaload, 1) := by decide +kernel
theorem dL_law_316 : decode cL_law 316 = .ok (.aload_n 0, 1) := by decide +kernel
theorem dL_law_317 : decode cL_law 317 = .ok (.iload_n 3, 1) := by decide +kernel
theorem dL_law_318 : decode cL_law 318 = .ok (.iconst 3, 1) := by decide +kernel
theorem dL_law_319 : decode cL_law 319 = .ok (.iadd, 1) := by decide +kernel
theorem dL_law_320 : decode cL_law 320 = .ok (.iaload, 1) := by decide +kernel
theorem dL_law_321 : decode cL_law 321 = .ok (.invokevirtual 38, 3) := by decide +kernel
theorem dL_law_324 : decode cL_law 324 = .ok (.aload_n 2, 1) := by decide +kernel
theorem dL_law_325 : decode cL_law 325 = .ok (.aload_n 0, 1) := by decide +kernel
theorem dL_law_326 : decode cL_law 326 = .ok (.iload_n 3, 1) := by decide +kernel
theorem dL_law_327 : decode cL_law 327 = .ok (.iconst 1, 1) := by decide +kernel
theorem dL_law_328 : decode cL_law 328 = .ok (.iadd, 1) := by decide +kernel
theorem dL_law_329 : decode cL_law 329 = .ok (.iaload, 1) := by decide +kernel
theorem dL_law_330 : decode cL_law 330 = .ok (.aload_n 0, 1) := by decide +kernel
theorem dL_law_331 : decode cL_law 331 = .ok (.iload_n 3, 1) := by decide +kernel
theorem dL_law_332 : decode cL_law 332 = .ok (.iconst 2, 1) := by decide +kernel
theorem dL_law_333 : decode cL_law 333 = .ok (.iadd, 1) := by decide +kernel
theorem dL_law_334 : decode cL_law 334 = .ok (.iaload, 1) := by decide +kernel
theorem dL_law_335 : decode cL_law 335 = .ok (.aload_n 0, 1) := by decide +kernel
theorem dL_law_336 : decode cL_law 336 = .ok (.iload_n 3, 1) := by decide +kernel
theorem dL_law_337 : decode cL_law 337 = .ok (.iconst 3, 1) := by decide +kernel
theorem dL_law_338 : decode cL_law 338 = .ok (.iadd, 1) := by decide +kernel
theorem dL_law_339 : decode cL_law 339 = .ok (.iaload, 1) := by decide +kernel
theorem dL_law_340 : decode cL_law 340 = .ok (.invokevirtual 42, 3) := by decide +kernel
theorem dL_law_343 : decode cL_law 343 = .ok (.lcmp, 1) := by decide +kernel
theorem dL_law_344 : decode cL_law 344 = .ok (.ifCond .eq 626, 3) := by decide +kernel
theorem dL_law_347 : decode cL_law 347 = .ok (.iconst 0, 1) := by decide +kernel
theorem dL_law_348 : decode cL_law 348 = .ok (.ireturn, 1) := by decide +kernel
theorem dL_law_349 : decode cL_law 349 = .ok (.aload_n 1, 1) := by decide +kernel
theorem dL_law_350 : decode cL_law 350 = .ok (.aload_n 0, 1) := by decide +kernel
theorem dL_law_351 : decode cL_law 351 = .ok (.iload_n 3, 1) := by decide +kernel
theorem dL_law_352 : decode cL_law 352 = .ok (.iconst 1, 1) := by decide +kernel
theorem dL_law_353 : decode cL_law 353 = .ok (.iadd, 1) := by decide +kernel
theorem dL_law_354 : decode cL_law 354 = .ok (.iaload, 1) := by decide +kernel
theorem dL_law_355 : decode cL_law 355 = .ok (.aload_n 0, 1) := by decide +kernel
theorem dL_law_356 : decode cL_law 356 = .ok (.iload_n 3, 1) := by decide +kernel
theorem dL_law_357 : decode cL_law 357 = .ok (.iconst 2, 1) := by decide +kernel
theorem dL_law_358 : decode cL_law 358 = .ok (.iadd, 1) := by decide +kernel
theorem dL_law_359 : decode cL_law 359 = .ok (.iaload, 1) := by decide +kernel
theorem dL_law_360 : decode cL_law 360 = .ok (.aload_n 0, 1) := by decide +kernel
theorem dL_law_361 : decode cL_law 361 = .ok (.iload_n 3, 1) := by decide +kernel
theorem dL_law_362 : decode cL_law 362 = .ok (.iconst 3, 1) := by decide +kernel
theorem dL_law_363 : decode cL_law 363 = .ok (.iadd, 1) := by decide +kernel
theorem dL_law_364 : decode cL_law 364 = .ok (.iaload, 1) := by decide +kernel
theorem dL_law_365 : decode cL_law 365 = .ok (.aload_n 0, 1) := by decide +kernel
theorem dL_law_366 : decode cL_law 366 = .ok (.iload_n 3, 1) := by decide +kernel
theorem dL_law_367 : decode cL_law 367 = .ok (.iconst 4, 1) := by decide +kernel
theorem dL_law_368 : decode cL_law 368 = .ok (.iadd, 1) := by decide +kernel
theorem dL_law_369 : decode cL_law 369 = .ok (.iaload, 1) := by decide +kernel
theorem dL_law_370 : decode cL_law 370 = .ok (.aload_n 0, 1) := by decide +kernel
theorem dL_law_371 : decode cL_law 371 = .ok (.iload_n 3, 1) := by decide +kernel
theorem dL_law_372 : decode cL_law 372 = .ok (.iconst 5, 1) := by decide +kernel
theorem dL_law_373 : decode cL_law 373 = .ok (.iadd, 1) := by decide +kernel
theorem dL_law_374 : decode cL_law 374 = .ok (.iaload, 1) := by decide +kernel
theorem dL_law_375 : decode cL_law 375 = .ok (.invokevirtual 43, 3) := by decide +kernel
theorem dL_law_378 : decode cL_law 378 = .ok (.aload_n 2, 1) := by decide +kernel
theorem dL_law_379 : decode cL_law 379 = .ok (.aload_n 0, 1) := by decide +kernel
theorem dL_law_380 : decode cL_law 380 = .ok (.iload_n 3, 1) := by decide +kernel
theorem dL_law_381 : decode cL_law 381 = .ok (.iconst 1, 1) := by decide +kernel
theorem dL_law_382 : decode cL_law 382 = .ok (.iadd, 1) := by decide +kernel
theorem dL_law_383 : decode cL_law 383 = .ok (.iaload, 1) := by decide +kernel
theorem dL_law_384 : decode cL_law 384 = .ok (.aload_n 0, 1) := by decide +kernel
theorem dL_law_385 : decode cL_law 385 = .ok (.iload_n 3, 1) := by decide +kernel
theorem dL_law_386 : decode cL_law 386 = .ok (.iconst 2, 1) := by decide +kernel
theorem dL_law_387 : decode cL_law 387 = .ok (.iadd, 1) := by decide +kernel
theorem dL_law_388 : decode cL_law 388 = .ok (.iaload, 1) := by decide +kernel
theorem dL_law_389 : decode cL_law 389 = .ok (.aload_n 0, 1) := by decide +kernel
theorem dL_law_390 : decode cL_law 390 = .ok (.iload_n 3, 1) := by decide +kernel
theorem dL_law_391 : decode cL_law 391 = .ok (.iconst 3, 1) := by decide +kernel
theorem dL_law_392 : decode cL_law 392 = .ok (.iadd, 1) := by decide +kernel
theorem dL_law_393 : decode cL_law 393 = .ok (.iaload, 1) := by decide +kernel
theorem dL_law_394 : decode cL_law 394 = .ok (.aload_n 0, 1) := by decide +kernel
theorem dL_law_395 : decode cL_law 395 = .ok (.iload_n 3, 1) := by decide +kernel
theorem dL_law_396 : decode cL_law 396 = .ok (.iconst 4, 1) := by decide +kernel
theorem dL_law_397 : decode cL_law 397 = .ok (.iadd, 1) := by decide +kernel
theorem dL_law_398 : decode cL_law 398 = .ok (.iaload, 1) := by decide +kernel
theorem dL_law_399 : decode cL_law 399 = .ok (.aload_n 0, 1) := by decide +kernel
theorem dL_law_400 : decode cL_law 400 = .ok (.iload_n 3, 1) := by decide +kernel
theorem dL_law_401 : decode cL_law 401 = .ok (.iconst 5, 1) := by decide +kernel
theorem dL_law_402 : decode cL_law 402 = .ok (.iadd, 1) := by decide +kernel
theorem dL_law_403 : decode cL_law 403 = .ok (.iaload, 1) := by decide +kernel
theorem dL_law_404 : decode cL_law 404 = .ok (.invokevirtual 47, 3) := by decide +kernel
theorem dL_law_407 : decode cL_law 407 = .ok (.if_icmp .eq 563, 3) := by decide +kernel
theorem dL_law_410 : decode cL_law 410 = .ok (.iconst 0, 1) := by decide +kernel
theorem dL_law_411 : decode cL_law 411 = .ok (.ireturn, 1) := by decide +kernel
theorem dL_law_412 : decode cL_law 412 = .ok (.aload_n 1, 1) := by decide +kernel
theorem dL_law_413 : decode cL_law 413 = .ok (.aload_n 0, 1) := by decide +kernel
theorem dL_law_414 : decode cL_law 414 = .ok (.iload_n 3, 1) := by decide +kernel
theorem dL_law_415 : decode cL_law 415 = .ok (.iconst 1, 1) := by decide +kernel
theorem dL_law_416 : decode cL_law 416 = .ok (.iadd, 1) := by decide +kernel
theorem dL_law_417 : decode cL_law 417 = .ok (.iaload, 1) := by decide +kernel
theorem dL_law_418 : decode cL_law 418 = .ok (.invokevirtual 48, 3) := by decide +kernel
theorem dL_law_421 : decode cL_law 421 = .ok (.aload_n 2, 1) := by decide +kernel
theorem dL_law_422 : decode cL_law 422 = .ok (.aload_n 0, 1) := by decide +kernel
theorem dL_law_423 : decode cL_law 423 = .ok (.iload_n 3, 1) := by decide +kernel
theorem dL_law_424 : decode cL_law 424 = .ok (.iconst 1, 1) := by decide +kernel
theorem dL_law_425 : decode cL_law 425 = .ok (.iadd, 1) := by decide +kernel
theorem dL_law_426 : decode cL_law 426 = .ok (.iaload, 1) := by decide +kernel
theorem dL_law_427 : decode cL_law 427 = .ok (.invokevirtual 52, 3) := by decide +kernel
theorem dL_law_430 : decode cL_law 430 = .ok (.if_icmp .eq 540, 3) := by decide +kernel
theorem dL_law_433 : decode cL_law 433 = .ok (.iconst 0, 1) := by decide +kernel
theorem dL_law_434 : decode cL_law 434 = .ok (.ireturn, 1) := by decide +kernel
theorem dL_law_435 : decode cL_law 435 = .ok (.aload_n 1, 1) := by decide +kernel
theorem dL_law_436 : decode cL_law 436 = .ok (.aload_n 0, 1) := by decide +kernel
theorem dL_law_437 : decode cL_law 437 = .ok (.iload_n 3, 1) := by decide +kernel
theorem dL_law_438 : decode cL_law 438 = .ok (.iconst 1, 1) := by decide +kernel
theorem dL_law_439 : decode cL_law 439 = .ok (.iadd, 1) := by decide +kernel
theorem dL_law_440 : decode cL_law 440 = .ok (.iaload, 1) := by decide +kernel
theorem dL_law_441 : decode cL_law 441 = .ok (.invokevirtual 53, 3) := by decide +kernel
theorem dL_law_444 : decode cL_law 444 = .ok (.aload_n 2, 1) := by decide +kernel
theorem dL_law_445 : decode cL_law 445 = .ok (.aload_n 0, 1) := by decide +kernel
theorem dL_law_446 : decode cL_law 446 = .ok (.iload_n 3, 1) := by decide +kernel
theorem dL_law_447 : decode cL_law 447 = .ok (.iconst 1, 1) := by decide +kernel
theorem dL_law_448 : decode cL_law 448 = .ok (.iadd, 1) := by decide +kernel
theorem dL_law_449 : decode cL_law 449 = .ok (.iaload, 1) := by decide +kernel
theorem dL_law_450 : decode cL_law 450 = .ok (.invokevirtual 56, 3) := by decide +kernel
theorem dL_law_453 : decode cL_law 453 = .ok (.if_icmp .eq 517, 3) := by decide +kernel
theorem dL_law_456 : decode cL_law 456 = .ok (.iconst 0, 1) := by decide +kernel
theorem dL_law_457 : decode cL_law 457 = .ok (.ireturn, 1) := by decide +kernel
theorem dL_law_458 : decode cL_law 458 = .ok (.aload_n 1, 1) := by decide +kernel
theorem dL_law_459 : decode cL_law 459 = .ok (.aload_n 0, 1) := by decide +kernel
theorem dL_law_460 : decode cL_law 460 = .ok (.iload_n 3, 1) := by decide +kernel
theorem dL_law_461 : decode cL_law 461 = .ok (.iconst 1, 1) := by decide +kernel
theorem dL_law_462 : decode cL_law 462 = .ok (.iadd, 1) := by decide +kernel
theorem dL_law_463 : decode cL_law 463 = .ok (.iaload, 1) := by decide +kernel
theorem dL_law_464 : decode cL_law 464 = .ok (.aload_n 0, 1) := by decide +kernel
theorem dL_law_465 : decode cL_law 465 = .ok (.iload_n 3, 1) := by decide +kernel
theorem dL_law_466 : decode cL_law 466 = .ok (.iconst 2, 1) := by decide +kernel
theorem dL_law_467 : decode cL_law 467 = .ok (.iadd, 1) := by decide +kernel
theorem dL_law_468 : decode cL_law 468 = .ok (.iaload, 1) := by decide +kernel
theorem dL_law_469 : decode cL_law 469 = .ok (.invokevirtual 57, 3) := by decide +kernel
theorem dL_law_472 : decode cL_law 472 = .ok (.aload_n 2, 1) := by decide +kernel
theorem dL_law_473 : decode cL_law 473 = .ok (.aload_n 0, 1) := by decide +kernel
theorem dL_law_474 : decode cL_law 474 = .ok (.iload_n 3, 1) := by decide +kernel
theorem dL_law_475 : decode cL_law 475 = .ok (.iconst 1, 1) := by decide +kernel
theorem dL_law_476 : decode cL_law 476 = .ok (.iadd, 1) := by decide +kernel
theorem dL_law_477 : decode cL_law 477 = .ok (.iaload, 1) := by decide +kernel
theorem dL_law_478 : decode cL_law 478 = .ok (.aload_n 0, 1) := by decide +kernel
theorem dL_law_479 : decode cL_law 479 = .ok (.iload_n 3, 1) := by decide +kernel
theorem dL_law_480 : decode cL_law 480 = .ok (.iconst 2, 1) := by decide +kernel
theorem dL_law_481 : decode cL_law 481 = .ok (.iadd, 1) := by decide +kernel
theorem dL_law_482 : decode cL_law 482 = .ok (.iaload, 1) := by decide +kernel
theorem dL_law_483 : decode cL_law 483 = .ok (.invokevirtual 60, 3) := by decide +kernel
theorem dL_law_486 : decode cL_law 486 = .ok (.if_icmp .eq 484, 3) := by decide +kernel
theorem dL_law_489 : decode cL_law 489 = .ok (.iconst 0, 1) := by decide +kernel
theorem dL_law_490 : decode cL_law 490 = .ok (.ireturn, 1) := by decide +kernel
theorem dL_law_491 : decode cL_law 491 = .ok (.aload_n 1, 1) := by decide +kernel
theorem dL_law_492 : decode cL_law 492 = .ok (.aload_n 0, 1) := by decide +kernel
theorem dL_law_493 : decode cL_law 493 = .ok (.iload_n 3, 1) := by decide +kernel
theorem dL_law_494 : decode cL_law 494 = .ok (.iconst 1, 1) := by decide +kernel
theorem dL_law_495 : decode cL_law 495 = .ok (.iadd, 1) := by decide +kernel
theorem dL_law_496 : decode cL_law 496 = .ok (.iaload, 1) := by decide +kernel
theorem dL_law_497 : decode cL_law 497 = .ok (.invokevirtual 61, 3) := by decide +kernel
theorem dL_law_500 : decode cL_law 500 = .ok (.aload_n 2, 1) := by decide +kernel
theorem dL_law_501 : decode cL_law 501 = .ok (.aload_n 0, 1) := by decide +kernel
theorem dL_law_502 : decode cL_law 502 = .ok (.iload_n 3, 1) := by decide +kernel
theorem dL_law_503 : decode cL_law 503 = .ok (.iconst 1, 1) := by decide +kernel
theorem dL_law_504 : decode cL_law 504 = .ok (.iadd, 1) := by decide +kernel
theorem dL_law_505 : decode cL_law 505 = .ok (.iaload, 1) := by decide +kernel
theorem dL_law_506 : decode cL_law 506 = .ok (.invokevirtual 64, 3) := by decide +kernel
theorem dL_law_509 : decode cL_law 509 = .ok (.if_icmp .eq 461, 3) := by decide +kernel
theorem dL_law_512 : decode cL_law 512 = .ok (.iconst 0, 1) := by decide +kernel
theorem dL_law_513 : decode cL_law 513 = .ok (.ireturn, 1) := by decide +kernel
theorem dL_law_514 : decode cL_law 514 = .ok (.aload_n 1, 1) := by decide +kernel
theorem dL_law_515 : decode cL_law 515 = .ok (.aload_n 0, 1) := by decide +kernel
theorem dL_law_516 : decode cL_law 516 = .ok (.iload_n 3, 1) := by decide +kernel
theorem dL_law_517 : decode cL_law 517 = .ok (.iconst 1, 1) := by decide +kernel
theorem dL_law_518 : decode cL_law 518 = .ok (.iadd, 1) := by decide +kernel
theorem dL_law_519 : decode cL_law 519 = .ok (.iaload, 1) := by decide +kernel
theorem dL_law_520 : decode cL_law 520 = .ok (.aload_n 0, 1) := by decide +kernel
theorem dL_law_521 : decode cL_law 521 = .ok (.iload_n 3, 1) := by decide +kernel
theorem dL_law_522 : decode cL_law 522 = .ok (.iconst 2, 1) := by decide +kernel
theorem dL_law_523 : decode cL_law 523 = .ok (.iadd, 1) := by decide +kernel
theorem dL_law_524 : decode cL_law 524 = .ok (.iaload, 1) := by decide +kernel
theorem dL_law_525 : decode cL_law 525 = .ok (.aload_n 0, 1) := by decide +kernel
theorem dL_law_526 : decode cL_law 526 = .ok (.iload_n 3, 1) := by decide +kernel
theorem dL_law_527 : decode cL_law 527 = .ok (.iconst 3, 1) := by decide +kernel
theorem dL_law_528 : decode cL_law 528 = .ok (.iadd, 1) := by decide +kernel
theorem dL_law_529 : decode cL_law 529 = .ok (.iaload, 1) := by decide +kernel
theorem dL_law_530 : decode cL_law 530 = .ok (.aload_n 0, 1) := by decide +kernel
theorem dL_law_531 : decode cL_law 531 = .ok (.iload_n 3, 1) := by decide +kernel
theorem dL_law_532 : decode cL_law 532 = .ok (.iconst 4, 1) := by decide +kernel
theorem dL_law_533 : decode cL_law 533 = .ok (.iadd, 1) := by decide +kernel
theorem dL_law_534 : decode cL_law 534 = .ok (.iaload, 1) := by decide +kernel
theorem dL_law_535 : decode cL_law 535 = .ok (.invokevirtual 65, 3) := by decide +kernel
theorem dL_law_538 : decode cL_law 538 = .ok (.aload_n 2, 1) := by decide +kernel
theorem dL_law_539 : decode cL_law 539 = .ok (.aload_n 0, 1) := by decide +kernel
theorem dL_law_540 : decode cL_law 540 = .ok (.iload_n 3, 1) := by decide +kernel
theorem dL_law_541 : decode cL_law 541 = .ok (.iconst 1, 1) := by decide +kernel
theorem dL_law_542 : decode cL_law 542 = .ok (.iadd, 1) := by decide +kernel
theorem dL_law_543 : decode cL_law 543 = .ok (.iaload, 1) := by decide +kernel
theorem dL_law_544 : decode cL_law 544 = .ok (.aload_n 0, 1) := by decide +kernel
theorem dL_law_545 : decode cL_law 545 = .ok (.iload_n 3, 1) := by decide +kernel
theorem dL_law_546 : decode cL_law 546 = .ok (.iconst 2, 1) := by decide +kernel
theorem dL_law_547 : decode cL_law 547 = .ok (.iadd, 1) := by decide +kernel
theorem dL_law_548 : decode cL_law 548 = .ok (.iaload, 1) := by decide +kernel
theorem dL_law_549 : decode cL_law 549 = .ok (.aload_n 0, 1) := by decide +kernel
theorem dL_law_550 : decode cL_law 550 = .ok (.iload_n 3, 1) := by decide +kernel
theorem dL_law_551 : decode cL_law 551 = .ok (.iconst 3, 1) := by decide +kernel
theorem dL_law_552 : decode cL_law 552 = .ok (.iadd, 1) := by decide +kernel
theorem dL_law_553 : decode cL_law 553 = .ok (.iaload, 1) := by decide +kernel
theorem dL_law_554 : decode cL_law 554 = .ok (.aload_n 0, 1) := by decide +kernel
theorem dL_law_555 : decode cL_law 555 = .ok (.iload_n 3, 1) := by decide +kernel
theorem dL_law_556 : decode cL_law 556 = .ok (.iconst 4, 1) := by decide +kernel
theorem dL_law_557 : decode cL_law 557 = .ok (.iadd, 1) := by decide +kernel
theorem dL_law_558 : decode cL_law 558 = .ok (.iaload, 1) := by decide +kernel
theorem dL_law_559 : decode cL_law 559 = .ok (.invokevirtual 68, 3) := by decide +kernel
theorem dL_law_562 : decode cL_law 562 = .ok (.if_icmp .eq 408, 3) := by decide +kernel
theorem dL_law_565 : decode cL_law 565 = .ok (.iconst 0, 1) := by decide +kernel
theorem dL_law_566 : decode cL_law 566 = .ok (.ireturn, 1) := by decide +kernel
theorem dL_law_567 : decode cL_law 567 = .ok (.aload_n 1, 1) := by decide +kernel
theorem dL_law_568 : decode cL_law 568 = .ok (.aload_n 0, 1) := by decide +kernel
theorem dL_law_569 : decode cL_law 569 = .ok (.iload_n 3, 1) := by decide +kernel
theorem dL_law_570 : decode cL_law 570 = .ok (.iconst 1, 1) := by decide +kernel
theorem dL_law_571 : decode cL_law 571 = .ok (.iadd, 1) := by decide +kernel
theorem dL_law_572 : decode cL_law 572 = .ok (.iaload, 1) := by decide +kernel
theorem dL_law_573 : decode cL_law 573 = .ok (.aload_n 0, 1) := by decide +kernel
theorem dL_law_574 : decode cL_law 574 = .ok (.iload_n 3, 1) := by decide +kernel
theorem dL_law_575 : decode cL_law 575 = .ok (.iconst 2, 1) := by decide +kernel
theorem dL_law_576 : decode cL_law 576 = .ok (.iadd, 1) := by decide +kernel
theorem dL_law_577 : decode cL_law 577 = .ok (.iaload, 1) := by decide +kernel
theorem dL_law_578 : decode cL_law 578 = .ok (.invokevirtual 69, 3) := by decide +kernel
theorem dL_law_581 : decode cL_law 581 = .ok (.aload_n 2, 1) := by decide +kernel
theorem dL_law_582 : decode cL_law 582 = .ok (.aload_n 0, 1) := by decide +kernel
theorem dL_law_583 : decode cL_law 583 = .ok (.iload_n 3, 1) := by decide +kernel
theorem dL_law_584 : decode cL_law 584 = .ok (.iconst 1, 1) := by decide +kernel
theorem dL_law_585 : decode cL_law 585 = .ok (.iadd, 1) := by decide +kernel
theorem dL_law_586 : decode cL_law 586 = .ok (.iaload, 1) := by decide +kernel
theorem dL_law_587 : decode cL_law 587 = .ok (.aload_n 0, 1) := by decide +kernel
theorem dL_law_588 : decode cL_law 588 = .ok (.iload_n 3, 1) := by decide +kernel
theorem dL_law_589 : decode cL_law 589 = .ok (.iconst 2, 1) := by decide +kernel
theorem dL_law_590 : decode cL_law 590 = .ok (.iadd, 1) := by decide +kernel
theorem dL_law_591 : decode cL_law 591 = .ok (.iaload, 1) := by decide +kernel
theorem dL_law_592 : decode cL_law 592 = .ok (.invokevirtual 72, 3) := by decide +kernel
theorem dL_law_595 : decode cL_law 595 = .ok (.if_icmp .eq 375, 3) := by decide +kernel
theorem dL_law_598 : decode cL_law 598 = .ok (.iconst 0, 1) := by decide +kernel
theorem dL_law_599 : decode cL_law 599 = .ok (.ireturn, 1) := by decide +kernel
theorem dL_law_600 : decode cL_law 600 = .ok (.aload_n 1, 1) := by decide +kernel
theorem dL_law_601 : decode cL_law 601 = .ok (.aload_n 0, 1) := by decide +kernel
theorem dL_law_602 : decode cL_law 602 = .ok (.iload_n 3, 1) := by decide +kernel
theorem dL_law_603 : decode cL_law 603 = .ok (.iconst 1, 1) := by decide +kernel
theorem dL_law_604 : decode cL_law 604 = .ok (.iadd, 1) := by decide +kernel
theorem dL_law_605 : decode cL_law 605 = .ok (.iaload, 1) := by decide +kernel
theorem dL_law_606 : decode cL_law 606 = .ok (.aload_n 0, 1) := by decide +kernel
theorem dL_law_607 : decode cL_law 607 = .ok (.iload_n 3, 1) := by decide +kernel
theorem dL_law_608 : decode cL_law 608 = .ok (.iconst 2, 1) := by decide +kernel
theorem dL_law_609 : decode cL_law 609 = .ok (.iadd, 1) := by decide +kernel
theorem dL_law_610 : decode cL_law 610 = .ok (.iaload, 1) := by decide +kernel
theorem dL_law_611 : decode cL_law 611 = .ok (.aload_n 0, 1) := by decide +kernel
theorem dL_law_612 : decode cL_law 612 = .ok (.iload_n 3, 1) := by decide +kernel
theorem dL_law_613 : decode cL_law 613 = .ok (.iconst 3, 1) := by decide +kernel
theorem dL_law_614 : decode cL_law 614 = .ok (.iadd, 1) := by decide +kernel
theorem dL_law_615 : decode cL_law 615 = .ok (.iaload, 1) := by decide +kernel
theorem dL_law_616 : decode cL_law 616 = .ok (.aload_n 0, 1) := by decide +kernel
theorem dL_law_617 : decode cL_law 617 = .ok (.iload_n 3, 1) := by decide +kernel
theorem dL_law_618 : decode cL_law 618 = .ok (.iconst 4, 1) := by decide +kernel
theorem dL_law_619 : decode cL_law 619 = .ok (.iadd, 1) := by decide +kernel
theorem dL_law_620 : decode cL_law 620 = .ok (.iaload, 1) := by decide +kernel
theorem dL_law_621 : decode cL_law 621 = .ok (.invokevirtual 73, 3) := by decide +kernel
theorem dL_law_624 : decode cL_law 624 = .ok (.aload_n 2, 1) := by decide +kernel
theorem dL_law_625 : decode cL_law 625 = .ok (.aload_n 0, 1) := by decide +kernel
theorem dL_law_626 : decode cL_law 626 = .ok (.iload_n 3, 1) := by decide +kernel
theorem dL_law_627 : decode cL_law 627 = .ok (.iconst 1, 1) := by decide +kernel
theorem dL_law_628 : decode cL_law 628 = .ok (.iadd, 1) := by decide +kernel
theorem dL_law_629 : decode cL_law 629 = .ok (.iaload, 1) := by decide +kernel
theorem dL_law_630 : decode cL_law 630 = .ok (.aload_n 0, 1) := by decide +kernel
theorem dL_law_631 : decode cL_law 631 = .ok (.iload_n 3, 1) := by decide +kernel
theorem dL_law_632 : decode cL_law 632 = .ok (.iconst 2, 1) := by decide +kernel
theorem dL_law_633 : decode cL_law 633 = .ok (.iadd, 1) := by decide +kernel
theorem dL_law_634 : decode cL_law 634 = .ok (.iaload, 1) := by decide +kernel
theorem dL_law_635 : decode cL_law 635 = .ok (.aload_n 0, 1) := by decide +kernel
theorem dL_law_636 : decode cL_law 636 = .ok (.iload_n 3, 1) := by decide +kernel
theorem dL_law_637 : decode cL_law 637 = .ok (.iconst 3, 1) := by decide +kernel
theorem dL_law_638 : decode cL_law 638 = .ok (.iadd, 1) := by decide +kernel
theorem dL_law_639 : decode cL_law 639 = .ok (.iaload, 1) := by decide +kernel
theorem dL_law_640 : decode cL_law 640 = .ok (.aload_n 0, 1) := by decide +kernel
theorem dL_law_641 : decode cL_law 641 = .ok (.iload_n 3, 1) := by decide +kernel
theorem dL_law_642 : decode cL_law 642 = .ok (.iconst 4, 1) := by decide +kernel
theorem dL_law_643 : decode cL_law 643 = .ok (.iadd, 1) := by decide +kernel
theorem dL_law_644 : decode cL_law 644 = .ok (.iaload, 1) := by decide +kernel
theorem dL_law_645 : decode cL_law 645 = .ok (.invokevirtual 76, 3) := by decide +kernel
theorem dL_law_648 : decode cL_law 648 = .ok (.if_icmp .eq 322, 3) := by decide +kernel
theorem dL_law_651 : decode cL_law 651 = .ok (.iconst 0, 1) := by decide +kernel
theorem dL_law_652 : decode cL_law 652 = .ok (.ireturn, 1) := by decide +kernel
theorem dL_law_653 : decode cL_law 653 = .ok (.aload_n 1, 1) := by decide +kernel
theorem dL_law_654 : decode cL_law 654 = .ok (.aload_n 0, 1) := by decide +kernel
theorem dL_law_655 : decode cL_law 655 = .ok (.iload_n 3, 1) := by decide +kernel
theorem dL_law_656 : decode cL_law 656 = .ok (.iconst 1, 1) := by decide +kernel
theorem dL_law_657 : decode cL_law 657 = .ok (.iadd, 1) := by decide +kernel
theorem dL_law_658 : decode cL_law 658 = .ok (.iaload, 1) := by decide +kernel
theorem dL_law_659 : decode cL_law 659 = .ok (.aload_n 0, 1) := by decide +kernel
theorem dL_law_660 : decode cL_law 660 = .ok (.iload_n 3, 1) := by decide +kernel
theorem dL_law_661 : decode cL_law 661 = .ok (.iconst 2, 1) := by decide +kernel
theorem dL_law_662 : decode cL_law 662 = .ok (.iadd, 1) := by decide +kernel
theorem dL_law_663 : decode cL_law 663 = .ok (.iaload, 1) := by decide +kernel
theorem dL_law_664 : decode cL_law 664 = .ok (.invokevirtual 77, 3) := by decide +kernel
theorem dL_law_667 : decode cL_law 667 = .ok (.aload_n 2, 1) := by decide +kernel
theorem dL_law_668 : decode cL_law 668 = .ok (.aload_n 0, 1) := by decide +kernel
theorem dL_law_669 : decode cL_law 669 = .ok (.iload_n 3, 1) := by decide +kernel
theorem dL_law_670 : decode cL_law 670 = .ok (.iconst 1, 1) := by decide +kernel
theorem dL_law_671 : decode cL_law 671 = .ok (.iadd, 1) := by decide +kernel
theorem dL_law_672 : decode cL_law 672 = .ok (.iaload, 1) := by decide +kernel
theorem dL_law_673 : decode cL_law 673 = .ok (.aload_n 0, 1) := by decide +kernel
theorem dL_law_674 : decode cL_law 674 = .ok (.iload_n 3, 1) := by decide +kernel
theorem dL_law_675 : decode cL_law 675 = .ok (.iconst 2, 1) := by decide +kernel
theorem dL_law_676 : decode cL_law 676 = .ok (.iadd, 1) := by decide +kernel
theorem dL_law_677 : decode cL_law 677 = .ok (.iaload, 1) := by decide +kernel
theorem dL_law_678 : decode cL_law 678 = .ok (.invokevirtual 80, 3) := by decide +kernel
theorem dL_law_681 : decode cL_law 681 = .ok (.lcmp, 1) := by decide +kernel
theorem dL_law_682 : decode cL_law 682 = .ok (.ifCond .eq 288, 3) := by decide +kernel
theorem dL_law_685 : decode cL_law 685 = .ok (.iconst 0, 1) := by decide +kernel
theorem dL_law_686 : decode cL_law 686 = .ok (.ireturn, 1) := by decide +kernel
theorem dL_law_687 : decode cL_law 687 = .ok (.aload_n 1, 1) := by decide +kernel
theorem dL_law_688 : decode cL_law 688 = .ok (.aload_n 0, 1) := by decide +kernel
theorem dL_law_689 : decode cL_law 689 = .ok (.iload_n 3, 1) := by decide +kernel
theorem dL_law_690 : decode cL_law 690 = .ok (.iconst 1, 1) := by decide +kernel
theorem dL_law_691 : decode cL_law 691 = .ok (.iadd, 1) := by decide +kernel
theorem dL_law_692 : decode cL_law 692 = .ok (.iaload, 1) := by decide +kernel
theorem dL_law_693 : decode cL_law 693 = .ok (.aload_n 0, 1) := by decide +kernel
theorem dL_law_694 : decode cL_law 694 = .ok (.iload_n 3, 1) := by decide +kernel
theorem dL_law_695 : decode cL_law 695 = .ok (.iconst 2, 1) := by decide +kernel
theorem dL_law_696 : decode cL_law 696 = .ok (.iadd, 1) := by decide +kernel
theorem dL_law_697 : decode cL_law 697 = .ok (.iaload, 1) := by decide +kernel
theorem dL_law_698 : decode cL_law 698 = .ok (.invokevirtual 81, 3) := by decide +kernel
theorem dL_law_701 : decode cL_law 701 = .ok (.aload_n 2, 1) := by decide +kernel
theorem dL_law_702 : decode cL_law 702 = .ok (.aload_n 0, 1) := by decide +kernel
theorem dL_law_703 : decode cL_law 703 = .ok (.iload_n 3, 1) := by decide +kernel
theorem dL_law_704 : decode cL_law 704 = .ok (.iconst 1, 1) := by decide +kernel
theorem dL_law_705 : decode cL_law 705 = .ok (.iadd, 1) := by decide +kernel
theorem dL_law_706 : decode cL_law 706 = .ok (.iaload, 1) := by decide +kernel
theorem dL_law_707 : decode cL_law 707 = .ok (.aload_n 0, 1) := by decide +kernel
theorem dL_law_708 : decode cL_law 708 = .ok (.iload_n 3, 1) := by decide +kernel
theorem dL_law_709 : decode cL_law 709 = .ok (.iconst 2, 1) := by decide +kernel
theorem dL_law_710 : decode cL_law 710 = .ok (.iadd, 1) := by decide +kernel
theorem dL_law_711 : decode cL_law 711 = .ok (.iaload, 1) := by decide +kernel
theorem dL_law_712 : decode cL_law 712 = .ok (.invokevirtual 84, 3) := by decide +kernel
theorem dL_law_715 : decode cL_law 715 = .ok (.lcmp, 1) := by decide +kernel
theorem dL_law_716 : decode cL_law 716 = .ok (.ifCond .eq 254, 3) := by decide +kernel
theorem dL_law_719 : decode cL_law 719 = .ok (.iconst 0, 1) := by decide +kernel
theorem dL_law_720 : decode cL_law 720 = .ok (.ireturn, 1) := by decide +kernel
theorem dL_law_721 : decode cL_law 721 = .ok (.aload_n 1, 1) := by decide +kernel
theorem dL_law_722 : decode cL_law 722 = .ok (.aload_n 0, 1) := by decide +kernel
theorem dL_law_723 : decode cL_law 723 = .ok (.iload_n 3, 1) := by decide +kernel
theorem dL_law_724 : decode cL_law 724 = .ok (.iconst 1, 1) := by decide +kernel
theorem dL_law_725 : decode cL_law 725 = .ok (.iadd, 1) := by decide +kernel
theorem dL_law_726 : decode cL_law 726 = .ok (.iaload, 1) := by decide +kernel
theorem dL_law_727 : decode cL_law 727 = .ok (.invokevirtual 85, 3) := by decide +kernel
theorem dL_law_730 : decode cL_law 730 = .ok (.aload_n 2, 1) := by decide +kernel
theorem dL_law_731 : decode cL_law 731 = .ok (.aload_n 0, 1) := by decide +kernel
theorem dL_law_732 : decode cL_law 732 = .ok (.iload_n 3, 1) := by decide +kernel
theorem dL_law_733 : decode cL_law 733 = .ok (.iconst 1, 1) := by decide +kernel
theorem dL_law_734 : decode cL_law 734 = .ok (.iadd, 1) := by decide +kernel
theorem dL_law_735 : decode cL_law 735 = .ok (.iaload, 1) := by decide +kernel
theorem dL_law_736 : decode cL_law 736 = .ok (.invokevirtual 88, 3) := by decide +kernel
theorem dL_law_739 : decode cL_law 739 = .ok (.lcmp, 1) := by decide +kernel
theorem dL_law_740 : decode cL_law 740 = .ok (.ifCond .eq 230, 3) := by decide +kernel
theorem dL_law_743 : decode cL_law 743 = .ok (.iconst 0, 1) := by decide +kernel
theorem dL_law_744 : decode cL_law 744 = .ok (.ireturn, 1) := by decide +kernel
theorem dL_law_745 : decode cL_law 745 = .ok (.aload_n 1, 1) := by decide +kernel
theorem dL_law_746 : decode cL_law 746 = .ok (.aload_n 0, 1) := by decide +kernel
theorem dL_law_747 : decode cL_law 747 = .ok (.iload_n 3, 1) := by decide +kernel
theorem dL_law_748 : decode cL_law 748 = .ok (.iconst 1, 1) := by decide +kernel
theorem dL_law_749 : decode cL_law 749 = .ok (.iadd, 1) := by decide +kernel
theorem dL_law_750 : decode cL_law 750 = .ok (.iaload, 1) := by decide +kernel
theorem dL_law_751 : decode cL_law 751 = .ok (.aload_n 0, 1) := by decide +kernel
theorem dL_law_752 : decode cL_law 752 = .ok (.iload_n 3, 1) := by decide +kernel
theorem dL_law_753 : decode cL_law 753 = .ok (.iconst 2, 1) := by decide +kernel
theorem dL_law_754 : decode cL_law 754 = .ok (.iadd, 1) := by decide +kernel
theorem dL_law_755 : decode cL_law 755 = .ok (.iaload, 1) := by decide +kernel
theorem dL_law_756 : decode cL_law 756 = .ok (.invokevirtual 89, 3) := by decide +kernel
theorem dL_law_759 : decode cL_law 759 = .ok (.aload_n 2, 1) := by decide +kernel
theorem dL_law_760 : decode cL_law 760 = .ok (.aload_n 0, 1) := by decide +kernel
theorem dL_law_761 : decode cL_law 761 = .ok (.iload_n 3, 1) := by decide +kernel
theorem dL_law_762 : decode cL_law 762 = .ok (.iconst 1, 1) := by decide +kernel
theorem dL_law_763 : decode cL_law 763 = .ok (.iadd, 1) := by decide +kernel
theorem dL_law_764 : decode cL_law 764 = .ok (.iaload, 1) := by decide +kernel
theorem dL_law_765 : decode cL_law 765 = .ok (.aload_n 0, 1) := by decide +kernel
theorem dL_law_766 : decode cL_law 766 = .ok (.iload_n 3, 1) := by decide +kernel
theorem dL_law_767 : decode cL_law 767 = .ok (.iconst 2, 1) := by decide +kernel
theorem dL_law_768 : decode cL_law 768 = .ok (.iadd, 1) := by decide +kernel
theorem dL_law_769 : decode cL_law 769 = .ok (.iaload, 1) := by decide +kernel
theorem dL_law_770 : decode cL_law 770 = .ok (.invokevirtual 92, 3) := by decide +kernel
theorem dL_law_773 : decode cL_law 773 = .ok (.lcmp, 1) := by decide +kernel
theorem dL_law_774 : decode cL_law 774 = .ok (.ifCond .eq 196, 3) := by decide +kernel
theorem dL_law_777 : decode cL_law 777 = .ok (.iconst 0, 1) := by decide +kernel
theorem dL_law_778 : decode cL_law 778 = .ok (.ireturn, 1) := by decide +kernel
theorem dL_law_779 : decode cL_law 779 = .ok (.aload_n 1, 1) := by decide +kernel
theorem dL_law_780 : decode cL_law 780 = .ok (.aload_n 0, 1) := by decide +kernel
theorem dL_law_781 : decode cL_law 781 = .ok (.iload_n 3, 1) := by decide +kernel
theorem dL_law_782 : decode cL_law 782 = .ok (.iconst 1, 1) := by decide +kernel
theorem dL_law_783 : decode cL_law 783 = .ok (.iadd, 1) := by decide +kernel
theorem dL_law_784 : decode cL_law 784 = .ok (.iaload, 1) := by decide +kernel
theorem dL_law_785 : decode cL_law 785 = .ok (.aload_n 0, 1) := by decide +kernel
theorem dL_law_786 : decode cL_law 786 = .ok (.iload_n 3, 1) := by decide +kernel
theorem dL_law_787 : decode cL_law 787 = .ok (.iconst 2, 1) := by decide +kernel
theorem dL_law_788 : decode cL_law 788 = .ok (.iadd, 1) := by decide +kernel
theorem dL_law_789 : decode cL_law 789 = .ok (.iaload, 1) := by decide +kernel
theorem dL_law_790 : decode cL_law 790 = .ok (.invokevirtual 93, 3) := by decide +kernel
theorem dL_law_793 : decode cL_law 793 = .ok (.aload_n 2, 1) := by decide +kernel
theorem dL_law_794 : decode cL_law 794 = .ok (.aload_n 0, 1) := by decide +kernel
theorem dL_law_795 : decode cL_law 795 = .ok (.iload_n 3, 1) := by decide +kernel
theorem dL_law_796 : decode cL_law 796 = .ok (.iconst 1, 1) := by decide +kernel
theorem dL_law_797 : decode cL_law 797 = .ok (.iadd, 1) := by decide +kernel
theorem dL_law_798 : decode cL_law 798 = .ok (.iaload, 1) := by decide +kernel
theorem dL_law_799 : decode cL_law 799 = .ok (.aload_n 0, 1) := by decide +kernel
theorem dL_law_800 : decode cL_law 800 = .ok (.iload_n 3, 1) := by decide +kernel
theorem dL_law_801 : decode cL_law 801 = .ok (.iconst 2, 1) := by decide +kernel
theorem dL_law_802 : decode cL_law 802 = .ok (.iadd, 1) := by decide +kernel
theorem dL_law_803 : decode cL_law 803 = .ok (.iaload, 1) := by decide +kernel
theorem dL_law_804 : decode cL_law 804 = .ok (.invokevirtual 96, 3) := by decide +kernel
theorem dL_law_807 : decode cL_law 807 = .ok (.if_icmp .eq 163, 3) := by decide +kernel
theorem dL_law_810 : decode cL_law 810 = .ok (.iconst 0, 1) := by decide +kernel
theorem dL_law_811 : decode cL_law 811 = .ok (.ireturn, 1) := by decide +kernel
theorem dL_law_812 : decode cL_law 812 = .ok (.aload_n 1, 1) := by decide +kernel
theorem dL_law_813 : decode cL_law 813 = .ok (.aload_n 0, 1) := by decide +kernel
theorem dL_law_814 : decode cL_law 814 = .ok (.iload_n 3, 1) := by decide +kernel
theorem dL_law_815 : decode cL_law 815 = .ok (.iconst 1, 1) := by decide +kernel
theorem dL_law_816 : decode cL_law 816 = .ok (.iadd, 1) := by decide +kernel
theorem dL_law_817 : decode cL_law 817 = .ok (.iaload, 1) := by decide +kernel
theorem dL_law_818 : decode cL_law 818 = .ok (.aload_n 0, 1) := by decide +kernel
theorem dL_law_819 : decode cL_law 819 = .ok (.iload_n 3, 1) := by decide +kernel
theorem dL_law_820 : decode cL_law 820 = .ok (.iconst 2, 1) := by decide +kernel
theorem dL_law_821 : decode cL_law 821 = .ok (.iadd, 1) := by decide +kernel
theorem dL_law_822 : decode cL_law 822 = .ok (.iaload, 1) := by decide +kernel
theorem dL_law_823 : decode cL_law 823 = .ok (.invokevirtual 97, 3) := by decide +kernel
theorem dL_law_826 : decode cL_law 826 = .ok (.aload_n 2, 1) := by decide +kernel
theorem dL_law_827 : decode cL_law 827 = .ok (.aload_n 0, 1) := by decide +kernel
theorem dL_law_828 : decode cL_law 828 = .ok (.iload_n 3, 1) := by decide +kernel
theorem dL_law_829 : decode cL_law 829 = .ok (.iconst 1, 1) := by decide +kernel
theorem dL_law_830 : decode cL_law 830 = .ok (.iadd, 1) := by decide +kernel
theorem dL_law_831 : decode cL_law 831 = .ok (.iaload, 1) := by decide +kernel
theorem dL_law_832 : decode cL_law 832 = .ok (.aload_n 0, 1) := by decide +kernel
theorem dL_law_833 : decode cL_law 833 = .ok (.iload_n 3, 1) := by decide +kernel
theorem dL_law_834 : decode cL_law 834 = .ok (.iconst 2, 1) := by decide +kernel
theorem dL_law_835 : decode cL_law 835 = .ok (.iadd, 1) := by decide +kernel
theorem dL_law_836 : decode cL_law 836 = .ok (.iaload, 1) := by decide +kernel
theorem dL_law_837 : decode cL_law 837 = .ok (.invokevirtual 100, 3) := by decide +kernel
theorem dL_law_840 : decode cL_law 840 = .ok (.if_icmp .eq 130, 3) := by decide +kernel
theorem dL_law_843 : decode cL_law 843 = .ok (.iconst 0, 1) := by decide +kernel
theorem dL_law_844 : decode cL_law 844 = .ok (.ireturn, 1) := by decide +kernel
theorem dL_law_845 : decode cL_law 845 = .ok (.aload_n 1, 1) := by decide +kernel
theorem dL_law_846 : decode cL_law 846 = .ok (.aload_n 0, 1) := by decide +kernel
theorem dL_law_847 : decode cL_law 847 = .ok (.iload_n 3, 1) := by decide +kernel
theorem dL_law_848 : decode cL_law 848 = .ok (.iconst 1, 1) := by decide +kernel
theorem dL_law_849 : decode cL_law 849 = .ok (.iadd, 1) := by decide +kernel
theorem dL_law_850 : decode cL_law 850 = .ok (.iaload, 1) := by decide +kernel
theorem dL_law_851 : decode cL_law 851 = .ok (.aload_n 0, 1) := by decide +kernel
theorem dL_law_852 : decode cL_law 852 = .ok (.iload_n 3, 1) := by decide +kernel
theorem dL_law_853 : decode cL_law 853 = .ok (.iconst 2, 1) := by decide +kernel
theorem dL_law_854 : decode cL_law 854 = .ok (.iadd, 1) := by decide +kernel
theorem dL_law_855 : decode cL_law 855 = .ok (.iaload, 1) := by decide +kernel
theorem dL_law_856 : decode cL_law 856 = .ok (.invokevirtual 101, 3) := by decide +kernel
theorem dL_law_859 : decode cL_law 859 = .ok (.aload_n 2, 1) := by decide +kernel
theorem dL_law_860 : decode cL_law 860 = .ok (.aload_n 0, 1) := by decide +kernel
theorem dL_law_861 : decode cL_law 861 = .ok (.iload_n 3, 1) := by decide +kernel
theorem dL_law_862 : decode cL_law 862 = .ok (.iconst 1, 1) := by decide +kernel
theorem dL_law_863 : decode cL_law 863 = .ok (.iadd, 1) := by decide +kernel
theorem dL_law_864 : decode cL_law 864 = .ok (.iaload, 1) := by decide +kernel
theorem dL_law_865 : decode cL_law 865 = .ok (.aload_n 0, 1) := by decide +kernel
theorem dL_law_866 : decode cL_law 866 = .ok (.iload_n 3, 1) := by decide +kernel
theorem dL_law_867 : decode cL_law 867 = .ok (.iconst 2, 1) := by decide +kernel
theorem dL_law_868 : decode cL_law 868 = .ok (.iadd, 1) := by decide +kernel
theorem dL_law_869 : decode cL_law 869 = .ok (.iaload, 1) := by decide +kernel
theorem dL_law_870 : decode cL_law 870 = .ok (.invokevirtual 104, 3) := by decide +kernel
theorem dL_law_873 : decode cL_law 873 = .ok (.if_icmp .eq 97, 3) := by decide +kernel
theorem dL_law_876 : decode cL_law 876 = .ok (.iconst 0, 1) := by decide +kernel
theorem dL_law_877 : decode cL_law 877 = .ok (.ireturn, 1) := by decide +kernel
theorem dL_law_878 : decode cL_law 878 = .ok (.aload_n 1, 1) := by decide +kernel
theorem dL_law_879 : decode cL_law 879 = .ok (.aload_n 0, 1) := by decide +kernel
theorem dL_law_880 : decode cL_law 880 = .ok (.iload_n 3, 1) := by decide +kernel
theorem dL_law_881 : decode cL_law 881 = .ok (.iconst 1, 1) := by decide +kernel
theorem dL_law_882 : decode cL_law 882 = .ok (.iadd, 1) := by decide +kernel
theorem dL_law_883 : decode cL_law 883 = .ok (.iaload, 1) := by decide +kernel
theorem dL_law_884 : decode cL_law 884 = .ok (.invokevirtual 105, 3) := by decide +kernel
theorem dL_law_887 : decode cL_law 887 = .ok (.aload_n 2, 1) := by decide +kernel
theorem dL_law_888 : decode cL_law 888 = .ok (.aload_n 0, 1) := by decide +kernel
theorem dL_law_889 : decode cL_law 889 = .ok (.iload_n 3, 1) := by decide +kernel
theorem dL_law_890 : decode cL_law 890 = .ok (.iconst 1, 1) := by decide +kernel
theorem dL_law_891 : decode cL_law 891 = .ok (.iadd, 1) := by decide +kernel
theorem dL_law_892 : decode cL_law 892 = .ok (.iaload, 1) := by decide +kernel
theorem dL_law_893 : decode cL_law 893 = .ok (.invokevirtual 108, 3) := by decide +kernel
theorem dL_law_896 : decode cL_law 896 = .ok (.if_icmp .eq 74, 3) := by decide +kernel
theorem dL_law_899 : decode cL_law 899 = .ok (.iconst 0, 1) := by decide +kernel
theorem dL_law_900 : decode cL_law 900 = .ok (.ireturn, 1) := by decide +kernel
theorem dL_law_901 : decode cL_law 901 = .ok (.aload_n 1, 1) := by decide +kernel
theorem dL_law_902 : decode cL_law 902 = .ok (.aload_n 0, 1) := by decide +kernel
theorem dL_law_903 : decode cL_law 903 = .ok (.iload_n 3, 1) := by decide +kernel
theorem dL_law_904 : decode cL_law 904 = .ok (.iconst 1, 1) := by decide +kernel
theorem dL_law_905 : decode cL_law 905 = .ok (.iadd, 1) := by decide +kernel
theorem dL_law_906 : decode cL_law 906 = .ok (.iaload, 1) := by decide +kernel
theorem dL_law_907 : decode cL_law 907 = .ok (.invokevirtual 109, 3) := by decide +kernel
theorem dL_law_910 : decode cL_law 910 = .ok (.aload_n 2, 1) := by decide +kernel
theorem dL_law_911 : decode cL_law 911 = .ok (.aload_n 0, 1) := by decide +kernel
theorem dL_law_912 : decode cL_law 912 = .ok (.iload_n 3, 1) := by decide +kernel
theorem dL_law_913 : decode cL_law 913 = .ok (.iconst 1, 1) := by decide +kernel
theorem dL_law_914 : decode cL_law 914 = .ok (.iadd, 1) := by decide +kernel
theorem dL_law_915 : decode cL_law 915 = .ok (.iaload, 1) := by decide +kernel
theorem dL_law_916 : decode cL_law 916 = .ok (.invokevirtual 112, 3) := by decide +kernel
theorem dL_law_919 : decode cL_law 919 = .ok (.if_icmp .eq 51, 3) := by decide +kernel
theorem dL_law_922 : decode cL_law 922 = .ok (.iconst 0, 1) := by decide +kernel
theorem dL_law_923 : decode cL_law 923 = .ok (.ireturn, 1) := by decide +kernel
theorem dL_law_924 : decode cL_law 924 = .ok (.aload_n 1, 1) := by decide +kernel
theorem dL_law_925 : decode cL_law 925 = .ok (.aload_n 0, 1) := by decide +kernel
theorem dL_law_926 : decode cL_law 926 = .ok (.iload_n 3, 1) := by decide +kernel
theorem dL_law_927 : decode cL_law 927 = .ok (.iconst 1, 1) := by decide +kernel
theorem dL_law_928 : decode cL_law 928 = .ok (.iadd, 1) := by decide +kernel
theorem dL_law_929 : decode cL_law 929 = .ok (.iaload, 1) := by decide +kernel
theorem dL_law_930 : decode cL_law 930 = .ok (.invokevirtual 113, 3) := by decide +kernel
theorem dL_law_933 : decode cL_law 933 = .ok (.aload_n 2, 1) := by decide +kernel
theorem dL_law_934 : decode cL_law 934 = .ok (.aload_n 0, 1) := by decide +kernel
theorem dL_law_935 : decode cL_law 935 = .ok (.iload_n 3, 1) := by decide +kernel
theorem dL_law_936 : decode cL_law 936 = .ok (.iconst 1, 1) := by decide +kernel
theorem dL_law_937 : decode cL_law 937 = .ok (.iadd, 1) := by decide +kernel
theorem dL_law_938 : decode cL_law 938 = .ok (.iaload, 1) := by decide +kernel
theorem dL_law_939 : decode cL_law 939 = .ok (.invokevirtual 116, 3) := by decide +kernel
theorem dL_law_942 : decode cL_law 942 = .ok (.if_icmp .eq 28, 3) := by decide +kernel
theorem dL_law_945 : decode cL_law 945 = .ok (.iconst 0, 1) := by decide +kernel
theorem dL_law_946 : decode cL_law 946 = .ok (.ireturn, 1) := by decide +kernel
theorem dL_law_947 : decode cL_law 947 = .ok (.aload_n 1, 1) := by decide +kernel
theorem dL_law_948 : decode cL_law 948 = .ok (.aload_n 0, 1) := by decide +kernel
theorem dL_law_949 : decode cL_law 949 = .ok (.iload_n 3, 1) := by decide +kernel
theorem dL_law_950 : decode cL_law 950 = .ok (.iconst 1, 1) := by decide +kernel
theorem dL_law_951 : decode cL_law 951 = .ok (.iadd, 1) := by decide +kernel
theorem dL_law_952 : decode cL_law 952 = .ok (.iaload, 1) := by decide +kernel
theorem dL_law_953 : decode cL_law 953 = .ok (.invokevirtual 117, 3) := by decide +kernel
theorem dL_law_956 : decode cL_law 956 = .ok (.aload_n 2, 1) := by decide +kernel
theorem dL_law_957 : decode cL_law 957 = .ok (.aload_n 0, 1) := by decide +kernel
theorem dL_law_958 : decode cL_law 958 = .ok (.iload_n 3, 1) := by decide +kernel
theorem dL_law_959 : decode cL_law 959 = .ok (.iconst 1, 1) := by decide +kernel
theorem dL_law_960 : decode cL_law 960 = .ok (.iadd, 1) := by decide +kernel
theorem dL_law_961 : decode cL_law 961 = .ok (.iaload, 1) := by decide +kernel
theorem dL_law_962 : decode cL_law 962 = .ok (.invokevirtual 120, 3) := by decide +kernel
theorem dL_law_965 : decode cL_law 965 = .ok (.if_icmp .eq 5, 3) := by decide +kernel
theorem dL_law_968 : decode cL_law 968 = .ok (.iconst 0, 1) := by decide +kernel
theorem dL_law_969 : decode cL_law 969 = .ok (.ireturn, 1) := by decide +kernel
theorem dL_law_970 : decode cL_law 970 = .ok (.iinc 3 6, 3) := by decide +kernel
theorem dL_law_973 : decode cL_law 973 = .ok (.goto (-955), 3) := by decide +kernel
theorem dL_law_976 : decode cL_law 976 = .ok (.iconst 1, 1) := by decide +kernel
theorem dL_law_977 : decode cL_law 977 = .ok (.ireturn, 1) := by decide +kernel
