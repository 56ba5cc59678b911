theorem dX5_automorphismCount_0 : decode cX5_automorphismCount 0 = .ok (.aload_n 0, 1) := by decide +kernel
theorem dX5_automorphismCount_1 : decode cX5_automorphismCount 1 = .ok (.iload_n 1, 1) := by decide +kernel
theorem dX5_automorphismCount_2 : decode cX5_automorphismCount 2 = .ok (.aload_n 0, 1) := by decide +kernel
theorem dX5_automorphismCount_3 : decode cX5_automorphismCount 3 = .ok (.getfield 25, 3) := by decide +kernel
theorem dX5_automorphismCount_6 : decode cX5_automorphismCount 6 = .ok (.invokevirtual 79, 3) := by decide +kernel
theorem dX5_automorphismCount_9 : decode cX5_automorphismCount 9 = .ok (.ifCond .ne 7, 3) := by decide +kernel
theorem dX5_automorphismCount_12 : decode cX5_automorphismCount 12 = .ok (.sipush (-10001), 3) := by decide +kernel
theorem dX5_automorphismCount_15 : decode cX5_automorphismCount 15 = .ok (.ireturn, 1) := by decide +kernel
theorem dX5_automorphismCount_16 : decode cX5_automorphismCount 16 = .ok (.aload_n 0, 1) := by decide +kernel
theorem dX5_automorphismCount_17 : decode cX5_automorphismCount 17 = .ok (.getfield 25, 3) := by decide +kernel
theorem dX5_automorphismCount_20 : decode cX5_automorphismCount 20 = .ok (.invokevirtual 83, 3) := by decide +kernel
theorem dX5_automorphismCount_23 : decode cX5_automorphismCount 23 = .ok (.lconst 0, 1) := by decide +kernel
theorem dX5_automorphismCount_24 : decode cX5_automorphismCount 24 = .ok (.lcmp, 1) := by decide +kernel
theorem dX5_automorphismCount_25 : decode cX5_automorphismCount 25 = .ok (.ifCond .gt 7, 3) := by decide +kernel
theorem dX5_automorphismCount_28 : decode cX5_automorphismCount 28 = .ok (.sipush (-10006), 3) := by decide +kernel
theorem dX5_automorphismCount_31 : decode cX5_automorphismCount 31 = .ok (.ireturn, 1) := by decide +kernel
theorem dX5_automorphismCount_32 : decode cX5_automorphismCount 32 = .ok (.aload_n 0, 1) := by decide +kernel
theorem dX5_automorphismCount_33 : decode cX5_automorphismCount 33 = .ok (.getfield 45, 3) := by decide +kernel
theorem dX5_automorphismCount_36 : decode cX5_automorphismCount 36 = .ok (.aload_n 0, 1) := by decide +kernel
theorem dX5_automorphismCount_37 : decode cX5_automorphismCount 37 = .ok (.getfield 25, 3) := by decide +kernel
theorem dX5_automorphismCount_40 : decode cX5_automorphismCount 40 = .ok (.invokevirtual 130, 3) := by decide +kernel
theorem dX5_automorphismCount_43 : decode cX5_automorphismCount 43 = .ok (.ireturn, 1) := by decide +kernel
theorem dX5_setElement_0 : decode cX5_setElement 0 = .ok (.aload_n 0, 1) := by decide +kernel
theorem dX5_setElement_1 : decode cX5_setElement 1 = .ok (.iload_n 1, 1) := by decide +kernel
theorem dX5_setElement_2 : decode cX5_setElement 2 = .ok (.aload_n 0, 1) := by decide +kernel
theorem dX5_setElement_3 : decode cX5_setElement 3 = .ok (.getfield 35, 3) := by decide +kernel
theorem dX5_setElement_6 : decode cX5_setElement 6 = .ok (.invokevirtual 133, 3) := by decide +kernel
theorem dX5_setElement_9 : decode cX5_setElement 9 = .ok (.ifCond .ne 7, 3) := by decide +kernel
theorem dX5_setElement_12 : decode cX5_setElement 12 = .ok (.sipush (-10002), 3) := by decide +kernel
theorem dX5_setElement_15 : decode cX5_setElement 15 = .ok (.ireturn, 1) := by decide +kernel
theorem dX5_setElement_16 : decode cX5_setElement 16 = .ok (.aload_n 0, 1) := by decide +kernel
theorem dX5_setElement_17 : decode cX5_setElement 17 = .ok (.getfield 39, 3) := by decide +kernel
theorem dX5_setElement_20 : decode cX5_setElement 20 = .ok (.iload_n 2, 1) := by decide +kernel
theorem dX5_setElement_21 : decode cX5_setElement 21 = .ok (.i2l, 1) := by decide +kernel
theorem dX5_setElement_22 : decode cX5_setElement 22 = .ok (.iload_n 3, 1) := by decide +kernel
theorem dX5_setElement_23 : decode cX5_setElement 23 = .ok (.i2l, 1) := by decide +kernel
theorem dX5_setElement_24 : decode cX5_setElement 24 = .ok (.iload 4, 2) := by decide +kernel
theorem dX5_setElement_26 : decode cX5_setElement 26 = .ok (.i2l, 1) := by decide +kernel
theorem dX5_setElement_27 : decode cX5_setElement 27 = .ok (.invokevirtual 137, 3) := by decide +kernel
theorem dX5_setElement_30 : decode cX5_setElement 30 = .ok (.aload_n 0, 1) := by decide +kernel
theorem dX5_setElement_31 : decode cX5_setElement 31 = .ok (.getfield 39, 3) := by decide +kernel
theorem dX5_setElement_34 : decode cX5_setElement 34 = .ok (.invokevirtual 140, 3) := by decide +kernel
theorem dX5_setElement_37 : decode cX5_setElement 37 = .ok (.ifCond .ne 7, 3) := by decide +kernel
theorem dX5_setElement_40 : decode cX5_setElement 40 = .ok (.sipush (-10003), 3) := by decide +kernel
theorem dX5_setElement_43 : decode cX5_setElement 43 = .ok (.ireturn, 1) := by decide +kernel
theorem dX5_setElement_44 : decode cX5_setElement 44 = .ok (.aload_n 0, 1) := by decide +kernel
theorem dX5_setElement_45 : decode cX5_setElement 45 = .ok (.iload_n 1, 1) := by decide +kernel
theorem dX5_setElement_46 : decode cX5_setElement 46 = .ok (.aload_n 0, 1) := by decide +kernel
theorem dX5_setElement_47 : decode cX5_setElement 47 = .ok (.getfield 39, 3) := by decide +kernel
theorem dX5_setElement_50 : decode cX5_setElement 50 = .ok (.invokevirtual 143, 3) := by decide +kernel
theorem dX5_setElement_53 : decode cX5_setElement 53 = .ok (.aload_n 0, 1) := by decide +kernel
theorem dX5_setElement_54 : decode cX5_setElement 54 = .ok (.getfield 35, 3) := by decide +kernel
theorem dX5_setElement_57 : decode cX5_setElement 57 = .ok (.aload_n 0, 1) := by decide +kernel
theorem dX5_setElement_58 : decode cX5_setElement 58 = .ok (.getfield 39, 3) := by decide +kernel
theorem dX5_setElement_61 : decode cX5_setElement 61 = .ok (.invokevirtual 147, 3) := by decide +kernel
theorem dX5_setElement_64 : decode cX5_setElement 64 = .ok (.ifCond .eq 7, 3) := by decide +kernel
theorem dX5_setElement_67 : decode cX5_setElement 67 = .ok (.iconst 0, 1) := by decide +kernel
theorem dX5_setElement_68 : decode cX5_setElement 68 = .ok (.goto 4, 3) := by decide +kernel
theorem dX5_setElement_71 : decode cX5_setElement 71 = .ok (.iconst 1, 1) := by decide +kernel
theorem dX5_setElement_72 : decode cX5_setElement 72 = .ok (.ireturn, 1) := by decide +kernel
theorem dX5_element_0 : decode cX5_element 0 = .ok (.iload_n 1, 1) := by decide +kernel
theorem dX5_element_1 : decode cX5_element 1 = .ok (.invokestatic 150, 3) := by decide +kernel
theorem dX5_element_4 : decode cX5_element 4 = .ok (.ifCond .ne 7, 3) := by decide +kernel
theorem dX5_element_7 : decode cX5_element 7 = .ok (.sipush (-10002), 3) := by decide +kernel
theorem dX5_element_10 : decode cX5_element 10 = .ok (.ireturn, 1) := by decide +kernel
theorem dX5_element_11 : decode cX5_element 11 = .ok (.iload_n 2, 1) := by decide +kernel
theorem dX5_element_12 : decode cX5_element 12 = .ok (.ifCond .lt 8, 3) := by decide +kernel
theorem dX5_element_15 : decode cX5_element 15 = .ok (.iload_n 2, 1) := by decide +kernel
theorem dX5_element_16 : decode cX5_element 16 = .ok (.iconst 3, 1) := by decide +kernel
theorem dX5_element_17 : decode cX5_element 17 = .ok (.if_icmp .lt 7, 3) := by decide +kernel
theorem dX5_element_20 : decode cX5_element 20 = .ok (.sipush (-10003), 3) := by decide +kernel
theorem dX5_element_23 : decode cX5_element 23 = .ok (.ireturn, 1) := by decide +kernel
theorem dX5_element_24 : decode cX5_element 24 = .ok (.aload_n 0, 1) := by decide +kernel
theorem dX5_element_25 : decode cX5_element 25 = .ok (.getfield 19, 3) := by decide +kernel
theorem dX5_element_28 : decode cX5_element 28 = .ok (.iload_n 1, 1) := by decide +kernel
theorem dX5_element_29 : decode cX5_element 29 = .ok (.iconst 3, 1) := by decide +kernel
theorem dX5_element_30 : decode cX5_element 30 = .ok (.imul, 1) := by decide +kernel
theorem dX5_element_31 : decode cX5_element 31 = .ok (.iload_n 2, 1) := by decide +kernel
theorem dX5_element_32 : decode cX5_element 32 = .ok (.iadd, 1) := by decide +kernel
theorem dX5_element_33 : decode cX5_element 33 = .ok (.iaload, 1) := by decide +kernel
theorem dX5_element_34 : decode cX5_element 34 = .ok (.ireturn, 1) := by decide +kernel
theorem dX5_multiply_0 : decode cX5_multiply 0 = .ok (.aload_n 0, 1) := by decide +kernel
theorem dX5_multiply_1 : decode cX5_multiply 1 = .ok (.iload_n 1, 1) := by decide +kernel
theorem dX5_multiply_2 : decode cX5_multiply 2 = .ok (.aload_n 0, 1) := by decide +kernel
theorem dX5_multiply_3 : decode cX5_multiply 3 = .ok (.getfield 25, 3) := by decide +kernel
theorem dX5_multiply_6 : decode cX5_multiply 6 = .ok (.invokevirtual 79, 3) := by decide +kernel
theorem dX5_multiply_9 : decode cX5_multiply 9 = .ok (.ifCond .ne 7, 3) := by decide +kernel
theorem dX5_multiply_12 : decode cX5_multiply 12 = .ok (.sipush (-10001), 3) := by decide +kernel
theorem dX5_multiply_15 : decode cX5_multiply 15 = .ok (.ireturn, 1) := by decide +kernel
theorem dX5_multiply_16 : decode cX5_multiply 16 = .ok (.aload_n 0, 1) := by decide +kernel
theorem dX5_multiply_17 : decode cX5_multiply 17 = .ok (.iload_n 2, 1) := by decide +kernel
theorem dX5_multiply_18 : decode cX5_multiply 18 = .ok (.aload_n 0, 1) := by decide +kernel
theorem dX5_multiply_19 : decode cX5_multiply 19 = .ok (.getfield 35, 3) := by decide +kernel
theorem dX5_multiply_22 : decode cX5_multiply 22 = .ok (.invokevirtual 133, 3) := by decide +kernel
theorem dX5_multiply_25 : decode cX5_multiply 25 = .ok (.ifCond .eq 23, 3) := by decide +kernel
theorem dX5_multiply_28 : decode cX5_multiply 28 = .ok (.aload_n 0, 1) := by decide +kernel
theorem dX5_multiply_29 : decode cX5_multiply 29 = .ok (.iload_n 3, 1) := by decide +kernel
theorem dX5_multiply_30 : decode cX5_multiply 30 = .ok (.aload_n 0, 1) := by decide +kernel
theorem dX5_multiply_31 : decode cX5_multiply 31 = .ok (.getfield 39, 3) := by decide +kernel
theorem dX5_multiply_34 : decode cX5_multiply 34 = .ok (.invokevirtual 133, 3) := by decide +kernel
theorem dX5_multiply_37 : decode cX5_multiply 37 = .ok (.ifCond .eq 11, 3) := by decide +kernel
theorem dX5_multiply_40 : decode cX5_multiply 40 = .ok (.iload 4, 2) := by decide +kernel
theorem dX5_multiply_42 : decode cX5_multiply 42 = .ok (.invokestatic 150, 3) := by decide +kernel
theorem dX5_multiply_45 : decode cX5_multiply 45 = .ok (.ifCond .ne 7, 3) := by decide +kernel
theorem dX5_multiply_48 : decode cX5_multiply 48 = .ok (.sipush (-10002), 3) := by decide +kernel
theorem dX5_multiply_51 : decode cX5_multiply 51 = .ok (.ireturn, 1) := by decide +kernel
theorem dX5_multiply_52 : decode cX5_multiply 52 = .ok (.aload_n 0, 1) := by decide +kernel
theorem dX5_multiply_53 : decode cX5_multiply 53 = .ok (.getfield 52, 3) := by decide +kernel
theorem dX5_multiply_56 : decode cX5_multiply 56 = .ok (.aload_n 0, 1) := by decide +kernel
theorem dX5_multiply_57 : decode cX5_multiply 57 = .ok (.getfield 25, 3) := by decide +kernel
theorem dX5_multiply_60 : decode cX5_multiply 60 = .ok (.aload_n 0, 1) := by decide +kernel
theorem dX5_multiply_61 : decode cX5_multiply 61 = .ok (.getfield 35, 3) := by decide +kernel
theorem dX5_multiply_64 : decode cX5_multiply 64 = .ok (.aload_n 0, 1) := by decide +kernel
theorem dX5_multiply_65 : decode cX5_multiply 65 = .ok (.getfield 39, 3) := by decide +kernel
theorem dX5_multiply_68 : decode cX5_multiply 68 = .ok (.invokevirtual 153, 3) := by decide +kernel
theorem dX5_multiply_71 : decode cX5_multiply 71 = .ok (.astore 5, 2) := by decide +kernel
theorem dX5_multiply_73 : decode cX5_multiply 73 = .ok (.aload 5, 2) := by decide +kernel
theorem dX5_multiply_75 : decode cX5_multiply 75 = .ok (.invokevirtual 140, 3) := by decide +kernel
theorem dX5_multiply_78 : decode cX5_multiply 78 = .ok (.ifCond .ne 7, 3) := by decide +kernel
theorem dX5_multiply_81 : decode cX5_multiply 81 = .ok (.sipush (-10005), 3) := by decide +kernel
theorem dX5_multiply_84 : decode cX5_multiply 84 = .ok (.ireturn, 1) := by decide +kernel
theorem dX5_multiply_85 : decode cX5_multiply 85 = .ok (.aload_n 0, 1) := by decide +kernel
theorem dX5_multiply_86 : decode cX5_multiply 86 = .ok (.iload 4, 2) := by decide +kernel
theorem dX5_multiply_88 : decode cX5_multiply 88 = .ok (.aload 5, 2) := by decide +kernel
theorem dX5_multiply_90 : decode cX5_multiply 90 = .ok (.invokevirtual 143, 3) := by decide +kernel
theorem dX5_multiply_93 : decode cX5_multiply 93 = .ok (.iconst 1, 1) := by decide +kernel
theorem dX5_multiply_94 : decode cX5_multiply 94 = .ok (.ireturn, 1) := by decide +kernel
theorem dX5_trace_0 : decode cX5_trace 0 = .ok (.aload_n 0, 1) := by decide +kernel
theorem dX5_trace_1 : decode cX5_trace 1 = .ok (.iload_n 1, 1) := by decide +kernel
theorem dX5_trace_2 : decode cX5_trace 2 = .ok (.aload_n 0, 1) := by decide +kernel
theorem dX5_trace_3 : decode cX5_trace 3 = .ok (.getfield 25, 3) := by decide +kernel
theorem dX5_trace_6 : decode cX5_trace 6 = .ok (.invokevirtual 79, 3) := by decide +kernel
theorem dX5_trace_9 : decode cX5_trace 9 = .ok (.ifCond .eq 15, 3) := by decide +kernel
theorem dX5_trace_12 : decode cX5_trace 12 = .ok (.aload_n 0, 1) := by decide +kernel
theorem dX5_trace_13 : decode cX5_trace 13 = .ok (.iload_n 2, 1) := by decide +kernel
theorem dX5_trace_14 : decode cX5_trace 14 = .ok (.aload_n 0, 1) := by decide +kernel
theorem dX5_trace_15 : decode cX5_trace 15 = .ok (.getfield 35, 3) := by decide +kernel
theorem dX5_trace_18 : decode cX5_trace 18 = .ok (.invokevirtual 133, 3) := by decide +kernel
theorem dX5_trace_21 : decode cX5_trace 21 = .ok (.ifCond .ne 7, 3) := by decide +kernel
theorem dX5_trace_24 : decode cX5_trace 24 = .ok (.ldc2_w 87, 3) := by decide +kernel
theorem dX5_trace_27 : decode cX5_trace 27 = .ok (.lreturn, 1) := by decide +kernel
theorem dX5_trace_28 : decode cX5_trace 28 = .ok (.aload_n 0, 1) := by decide +kernel
theorem dX5_trace_29 : decode cX5_trace 29 = .ok (.getfield 35, 3) := by decide +kernel
theorem dX5_trace_32 : decode cX5_trace 32 = .ok (.aload_n 0, 1) := by decide +kernel
theorem dX5_trace_33 : decode cX5_trace 33 = .ok (.getfield 25, 3) := by decide +kernel
theorem dX5_trace_36 : decode cX5_trace 36 = .ok (.invokevirtual 157, 3) := by decide +kernel
theorem dX5_trace_39 : decode cX5_trace 39 = .ok (.lreturn, 1) := by decide +kernel
theorem dX5_norm_0 : decode cX5_norm 0 = .ok (.aload_n 0, 1) := by decide +kernel
theorem dX5_norm_1 : decode cX5_norm 1 = .ok (.iload_n 1, 1) := by decide +kernel
theorem dX5_norm_2 : decode cX5_norm 2 = .ok (.aload_n 0, 1) := by decide +kernel
theorem dX5_norm_3 : decode cX5_norm 3 = .ok (.getfield 25, 3) := by decide +kernel
theorem dX5_norm_6 : decode cX5_norm 6 = .ok (.invokevirtual 79, 3) := by decide +kernel
theorem dX5_norm_9 : decode cX5_norm 9 = .ok (.ifCond .eq 15, 3) := by decide +kernel
theorem dX5_norm_12 : decode cX5_norm 12 = .ok (.aload_n 0, 1) := by decide +kernel
theorem dX5_norm_13 : decode cX5_norm 13 = .ok (.iload_n 2, 1) := by decide +kernel
theorem dX5_norm_14 : decode cX5_norm 14 = .ok (.aload_n 0, 1) := by decide +kernel
theorem dX5_norm_15 : decode cX5_norm 15 = .ok (.getfield 35, 3) := by decide +kernel
theorem dX5_norm_18 : decode cX5_norm 18 = .ok (.invokevirtual 133, 3) := by decide +kernel
theorem dX5_norm_21 : decode cX5_norm 21 = .ok (.ifCond .ne 7, 3) := by decide +kernel
theorem dX5_norm_24 : decode cX5_norm 24 = .ok (.ldc2_w 87, 3) := by decide +kernel
theorem dX5_norm_27 : decode cX5_norm 27 = .ok (.lreturn, 1) := by decide +kernel
theorem dX5_norm_28 : decode cX5_norm 28 = .ok (.aload_n 0, 1) := by decide +kernel
theorem dX5_norm_29 : decode cX5_norm 29 = .ok (.getfield 52, 3) := by decide +kernel
theorem dX5_norm_32 : decode cX5_norm 32 = .ok (.aload_n 0, 1) := by decide +kernel
theorem dX5_norm_33 : decode cX5_norm 33 = .ok (.getfield 25, 3) := by decide +kernel
theorem dX5_norm_36 : decode cX5_norm 36 = .ok (.aload_n 0, 1) := by decide +kernel
theorem dX5_norm_37 : decode cX5_norm 37 = .ok (.getfield 35, 3) := by decide +kernel
theorem dX5_norm_40 : decode cX5_norm 40 = .ok (.invokevirtual 161, 3) := by decide +kernel
theorem dX5_norm_43 : decode cX5_norm 43 = .ok (.lreturn, 1) := by decide +kernel
theorem dX5_traceDeterminant_0 : decode cX5_traceDeterminant 0 = .ok (.aload_n 0, 1) := by decide +kernel
theorem dX5_traceDeterminant_1 : decode cX5_traceDeterminant 1 = .ok (.iload_n 1, 1) := by decide +kernel
theorem dX5_traceDeterminant_2 : decode cX5_traceDeterminant 2 = .ok (.aload_n 0, 1) := by decide +kernel
theorem dX5_traceDeterminant_3 : decode cX5_traceDeterminant 3 = .ok (.getfield 25, 3) := by decide +kernel
theorem dX5_traceDeterminant_6 : decode cX5_traceDeterminant 6 = .ok (.invokevirtual 79, 3) := by decide +kernel
theorem dX5_traceDeterminant_9 : decode cX5_traceDeterminant 9 = .ok (.ifCond .eq 17, 3) := by decide +kernel
theorem dX5_traceDeterminant_12 : decode cX5_traceDeterminant 12 = .ok (.aload_n 0, 1) := by decide +kernel
theorem dX5_traceDeterminant_13 : decode cX5_traceDeterminant 13 = .ok (.getfield 52, 3) := by decide +kernel
theorem dX5_traceDeterminant_16 : decode cX5_traceDeterminant 16 = .ok (.aload_n 0, 1) := by decide +kernel
theorem dX5_traceDeterminant_17 : decode cX5_traceDeterminant 17 = .ok (.getfield 25, 3) := by decide +kernel
theorem dX5_traceDeterminant_20 : decode cX5_traceDeterminant 20 = .ok (.invokevirtual 165, 3) := by decide +kernel
theorem dX5_traceDeterminant_23 : decode cX5_traceDeterminant 23 = .ok (.goto 6, 3) := by decide +kernel
theorem dX5_traceDeterminant_26 : decode cX5_traceDeterminant 26 = .ok (.ldc2_w 87, 3) := by decide +kernel
theorem dX5_traceDeterminant_29 : decode cX5_traceDeterminant 29 = .ok (.lreturn, 1) := by decide +kernel
theorem dX5_elementIndex_0 : decode cX5_elementIndex 0 = .ok (.aload_n 0, 1) := by decide +kernel
theorem dX5_elementIndex_1 : decode cX5_elementIndex 1 = .ok (.iload_n 1, 1) := by decide +kernel
theorem dX5_elementIndex_2 : decode cX5_elementIndex 2 = .ok (.aload_n 0, 1) := by decide +kernel
theorem dX5_elementIndex_3 : decode cX5_elementIndex 3 = .ok (.getfield 25, 3) := by decide +kernel
theorem dX5_elementIndex_6 : decode cX5_elementIndex 6 = .ok (.invokevirtual 79, 3) := by decide +kernel
theorem dX5_elementIndex_9 : decode cX5_elementIndex 9 = .ok (.ifCond .eq 15, 3) := by decide +kernel
theorem dX5_elementIndex_12 : decode cX5_elementIndex 12 = .ok (.aload_n 0, 1) := by decide +kernel
theorem dX5_elementIndex_13 : decode cX5_elementIndex 13 = .ok (.iload_n 2, 1) := by decide +kernel
theorem dX5_elementIndex_14 : decode cX5_elementIndex 14 = .ok (.aload_n 0, 1) := by decide +kernel
theorem dX5_elementIndex_15 : decode cX5_elementIndex 15 = .ok (.getfield 35, 3) := by decide +kernel
theorem dX5_elementIndex_18 : decode cX5_elementIndex 18 = .ok (.invokevirtual 133, 3) := by decide +kernel
theorem dX5_elementIndex_21 : decode cX5_elementIndex 21 = .ok (.ifCond .ne 7, 3) := by decide +kernel
theorem dX5_elementIndex_24 : decode cX5_elementIndex 24 = .ok (.ldc2_w 87, 3) := by decide +kernel
theorem dX5_elementIndex_27 : decode cX5_elementIndex 27 = .ok (.lreturn, 1) := by decide +kernel
theorem dX5_elementIndex_28 : decode cX5_elementIndex 28 = .ok (.aload_n 0, 1) := by decide +kernel
theorem dX5_elementIndex_29 : decode cX5_elementIndex 29 = .ok (.getfield 52, 3) := by decide +kernel
theorem dX5_elementIndex_32 : decode cX5_elementIndex 32 = .ok (.aload_n 0, 1) := by decide +kernel
theorem dX5_elementIndex_33 : decode cX5_elementIndex 33 = .ok (.getfield 25, 3) := by decide +kernel
theorem dX5_elementIndex_36 : decode cX5_elementIndex 36 = .ok (.aload_n 0, 1) := by decide +kernel
theorem dX5_elementIndex_37 : decode cX5_elementIndex 37 = .ok (.getfield 35, 3) := by decide +kernel
theorem dX5_elementIndex_40 : decode cX5_elementIndex 40 = .ok (.invokevirtual 168, 3) := by decide +kernel
theorem dX5_elementIndex_43 : decode cX5_elementIndex 43 = .ok (.lreturn, 1) := by decide +kernel
theorem dX5_splitting_0 : decode cX5_splitting 0 = .ok (.aload_n 0, 1) := by decide +kernel
theorem dX5_splitting_1 : decode cX5_splitting 1 = .ok (.iload_n 1, 1) := by decide +kernel
theorem dX5_splitting_2 : decode cX5_splitting 2 = .ok (.aload_n 0, 1) := by decide +kernel
theorem dX5_splitting_3 : decode cX5_splitting 3 = .ok (.getfield 25, 3) := by decide +kernel
theorem dX5_splitting_6 : decode cX5_splitting 6 = .ok (.invokevirtual 79, 3) := by decide +kernel
theorem dX5_splitting_9 : decode cX5_splitting 9 = .ok (.ifCond .ne 7, 3) := by decide +kernel
theorem dX5_splitting_12 : decode cX5_splitting 12 = .ok (.sipush (-10001), 3) := by decide +kernel
theorem dX5_splitting_15 : decode cX5_splitting 15 = .ok (.ireturn, 1) := by decide +kernel
theorem dX5_splitting_16 : decode cX5_splitting 16 = .ok (.iload_n 2, 1) := by decide +kernel
theorem dX5_splitting_17 : decode cX5_splitting 17 = .ok (.invokestatic 171, 3) := by decide +kernel
theorem dX5_splitting_20 : decode cX5_splitting 20 = .ok (.ifCond .ne 7, 3) := by decide +kernel
theorem dX5_splitting_23 : decode cX5_splitting 23 = .ok (.sipush (-10003), 3) := by decide +kernel
theorem dX5_splitting_26 : decode cX5_splitting 26 = .ok (.ireturn, 1) := by decide +kernel
theorem dX5_splitting_27 : decode cX5_splitting 27 = .ok (.aload_n 0, 1) := by decide +kernel
theorem dX5_splitting_28 : decode cX5_splitting 28 = .ok (.getfield 45, 3) := by decide +kernel
theorem dX5_splitting_31 : decode cX5_splitting 31 = .ok (.aload_n 0, 1) := by decide +kernel
theorem dX5_splitting_32 : decode cX5_splitting 32 = .ok (.getfield 25, 3) := by decide +kernel
theorem dX5_splitting_35 : decode cX5_splitting 35 = .ok (.iload_n 2, 1) := by decide +kernel
theorem dX5_splitting_36 : decode cX5_splitting 36 = .ok (.invokevirtual 174, 3) := by decide +kernel
theorem dX5_splitting_39 : decode cX5_splitting 39 = .ok (.ireturn, 1) := by decide +kernel
theorem dX5_isMaximalAt_0 : decode cX5_isMaximalAt 0 = .ok (.aload_n 0, 1) := by decide +kernel
theorem dX5_isMaximalAt_1 : decode cX5_isMaximalAt 1 = .ok (.iload_n 1, 1) := by decide +kernel
theorem dX5_isMaximalAt_2 : decode cX5_isMaximalAt 2 = .ok (.aload_n 0, 1) := by decide +kernel
theorem dX5_isMaximalAt_3 : decode cX5_isMaximalAt 3 = .ok (.getfield 25, 3) := by decide +kernel
theorem dX5_isMaximalAt_6 : decode cX5_isMaximalAt 6 = .ok (.invokevirtual 79, 3) := by decide +kernel
theorem dX5_isMaximalAt_9 : decode cX5_isMaximalAt 9 = .ok (.ifCond .ne 7, 3) := by decide +kernel
theorem dX5_isMaximalAt_12 : decode cX5_isMaximalAt 12 = .ok (.sipush (-10001), 3) := by decide +kernel
theorem dX5_isMaximalAt_15 : decode cX5_isMaximalAt 15 = .ok (.ireturn, 1) := by decide +kernel
theorem dX5_isMaximalAt_16 : decode cX5_isMaximalAt 16 = .ok (.iload_n 2, 1) := by decide +kernel
theorem dX5_isMaximalAt_17 : decode cX5_isMaximalAt 17 = .ok (.invokestatic 171, 3) := by decide +kernel
theorem dX5_isMaximalAt_20 : decode cX5_isMaximalAt 20 = .ok (.ifCond .ne 7, 3) := by decide +kernel
theorem dX5_isMaximalAt_23 : decode cX5_isMaximalAt 23 = .ok (.sipush (-10003), 3) := by decide +kernel
theorem dX5_isMaximalAt_26 : decode cX5_isMaximalAt 26 = .ok (.ireturn, 1) := by decide +kernel
theorem dX5_isMaximalAt_27 : decode cX5_isMaximalAt 27 = .ok (.aload_n 0, 1) := by decide +kernel
theorem dX5_isMaximalAt_28 : decode cX5_isMaximalAt 28 = .ok (.getfield 45, 3) := by decide +kernel
theorem dX5_isMaximalAt_31 : decode cX5_isMaximalAt 31 = .ok (.aload_n 0, 1) := by decide +kernel
theorem dX5_isMaximalAt_32 : decode cX5_isMaximalAt 32 = .ok (.getfield 25, 3) := by decide +kernel
theorem dX5_isMaximalAt_35 : decode cX5_isMaximalAt 35 = .ok (.iload_n 2, 1) := by decide +kernel
theorem dX5_isMaximalAt_36 : decode cX5_isMaximalAt 36 = .ok (.invokevirtual 178, 3) := by decide +kernel
theorem dX5_isMaximalAt_39 : decode cX5_isMaximalAt 39 = .ok (.ifCond .eq 7, 3) := by decide +kernel
theorem dX5_isMaximalAt_42 : decode cX5_isMaximalAt 42 = .ok (.iconst 0, 1) := by decide +kernel
theorem dX5_isMaximalAt_43 : decode cX5_isMaximalAt 43 = .ok (.goto 4, 3) := by decide +kernel
theorem dX5_isMaximalAt_46 : decode cX5_isMaximalAt 46 = .ok (.iconst 1, 1) := by decide +kernel
theorem dX5_isMaximalAt_47 : decode cX5_isMaximalAt 47 = .ok (.ireturn, 1) := by decide +kernel
theorem dX5_overring_0 : decode cX5_overring 0 = .ok (.aload_n 0, 1) := by decide +kernel
theorem dX5_overring_1 : decode cX5_overring 1 = .ok (.iload_n 1, 1) := by decide +kernel
theorem dX5_overring_2 : decode cX5_overring 2 = .ok (.aload_n 0, 1) := by decide +kernel
theorem dX5_overring_3 : decode cX5_overring 3 = .ok (.getfield 25, 3) := by decide +kernel
theorem dX5_overring_6 : decode cX5_overring 6 = .ok (.invokevirtual 79, 3) := by decide +kernel
theorem dX5_overring_9 : decode cX5_overring 9 = .ok (.ifCond .ne 7, 3) := by decide +kernel
theorem dX5_overring_12 : decode cX5_overring 12 = .ok (.sipush (-10001), 3) := by decide +kernel
theorem dX5_overring_15 : decode cX5_overring 15 = .ok (.ireturn, 1) := by decide +kernel
theorem dX5_overring_16 : decode cX5_overring 16 = .ok (.iload_n 2, 1) := by decide +kernel
theorem dX5_overring_17 : decode cX5_overring 17 = .ok (.invokestatic 171, 3) := by decide +kernel
theorem dX5_overring_20 : decode cX5_overring 20 = .ok (.ifCond .ne 7, 3) := by decide +kernel
theorem dX5_overring_23 : decode cX5_overring 23 = .ok (.sipush (-10003), 3) := by decide +kernel
theorem dX5_overring_26 : decode cX5_overring 26 = .ok (.ireturn, 1) := by decide +kernel
theorem dX5_overring_27 : decode cX5_overring 27 = .ok (.aload_n 0, 1) := by decide +kernel
theorem dX5_overring_28 : decode cX5_overring 28 = .ok (.getfield 45, 3) := by decide +kernel
theorem dX5_overring_31 : decode cX5_overring 31 = .ok (.aload_n 0, 1) := by decide +kernel
theorem dX5_overring_32 : decode cX5_overring 32 = .ok (.getfield 25, 3) := by decide +kernel
theorem dX5_overring_35 : decode cX5_overring 35 = .ok (.iload_n 2, 1) := by decide +kernel
theorem dX5_overring_36 : decode cX5_overring 36 = .ok (.invokevirtual 178, 3) := by decide +kernel
theorem dX5_overring_39 : decode cX5_overring 39 = .ok (.ifCond .ne 7, 3) := by decide +kernel
theorem dX5_overring_42 : decode cX5_overring 42 = .ok (.sipush (-10008), 3) := by decide +kernel
theorem dX5_overring_45 : decode cX5_overring 45 = .ok (.ireturn, 1) := by decide +kernel
theorem dX5_overring_46 : decode cX5_overring 46 = .ok (.aload_n 0, 1) := by decide +kernel
theorem dX5_overring_47 : decode cX5_overring 47 = .ok (.aload_n 0, 1) := by decide +kernel
theorem dX5_overring_48 : decode cX5_overring 48 = .ok (.getfield 25, 3) := by decide +kernel
theorem dX5_overring_51 : decode cX5_overring 51 = .ok (.invokevirtual 116, 3) := by decide +kernel
theorem dX5_overring_54 : decode cX5_overring 54 = .ok (.ireturn, 1) := by decide +kernel
theorem dX5_maximalOverring_0 : decode cX5_maximalOverring 0 = .ok (.aload_n 0, 1) := by decide +kernel
theorem dX5_maximalOverring_1 : decode cX5_maximalOverring 1 = .ok (.iload_n 1, 1) := by decide +kernel
theorem dX5_maximalOverring_2 : decode cX5_maximalOverring 2 = .ok (.aload_n 0, 1) := by decide +kernel
theorem dX5_maximalOverring_3 : decode cX5_maximalOverring 3 = .ok (.getfield 25, 3) := by decide +kernel
theorem dX5_maximalOverring_6 : decode cX5_maximalOverring 6 = .ok (.invokevirtual 79, 3) := by decide +kernel
theorem dX5_maximalOverring_9 : decode cX5_maximalOverring 9 = .ok (.ifCond .ne 7, 3) := by decide +kernel
theorem dX5_maximalOverring_12 : decode cX5_maximalOverring 12 = .ok (.sipush (-10001), 3) := by decide +kernel
theorem dX5_maximalOverring_15 : decode cX5_maximalOverring 15 = .ok (.ireturn, 1) := by decide +kernel
theorem dX5_maximalOverring_16 : decode cX5_maximalOverring 16 = .ok (.aload_n 0, 1) := by decide +kernel
theorem dX5_maximalOverring_17 : decode cX5_maximalOverring 17 = .ok (.getfield 25, 3) := by decide +kernel
theorem dX5_maximalOverring_20 : decode cX5_maximalOverring 20 = .ok (.invokevirtual 83, 3) := by decide +kernel
theorem dX5_maximalOverring_23 : decode cX5_maximalOverring 23 = .ok (.lconst 0, 1) := by decide +kernel
theorem dX5_maximalOverring_24 : decode cX5_maximalOverring 24 = .ok (.lcmp, 1) := by decide +kernel
theorem dX5_maximalOverring_25 : decode cX5_maximalOverring 25 = .ok (.ifCond .gt 7, 3) := by decide +kernel
theorem dX5_maximalOverring_28 : decode cX5_maximalOverring 28 = .ok (.sipush (-10006), 3) := by decide +kernel
theorem dX5_maximalOverring_31 : decode cX5_maximalOverring 31 = .ok (.ireturn, 1) := by decide +kernel
theorem dX5_maximalOverring_32 : decode cX5_maximalOverring 32 = .ok (.aload_n 0, 1) := by decide +kernel
theorem dX5_maximalOverring_33 : decode cX5_maximalOverring 33 = .ok (.getfield 25, 3) := by decide +kernel
theorem dX5_maximalOverring_36 : decode cX5_maximalOverring 36 = .ok (.invokevirtual 119, 3) := by decide +kernel
theorem dX5_maximalOverring_39 : decode cX5_maximalOverring 39 = .ok (.ifCond .eq 7, 3) := by decide +kernel
theorem dX5_maximalOverring_42 : decode cX5_maximalOverring 42 = .ok (.sipush (-10007), 3) := by decide +kernel
theorem dX5_maximalOverring_45 : decode cX5_maximalOverring 45 = .ok (.ireturn, 1) := by decide +kernel
theorem dX5_maximalOverring_46 : decode cX5_maximalOverring 46 = .ok (.aload_n 0, 1) := by decide +kernel
theorem dX5_maximalOverring_47 : decode cX5_maximalOverring 47 = .ok (.getfield 45, 3) := by decide +kernel
theorem dX5_maximalOverring_50 : decode cX5_maximalOverring 50 = .ok (.aload_n 0, 1) := by decide +kernel
theorem dX5_maximalOverring_51 : decode cX5_maximalOverring 51 = .ok (.getfield 25, 3) := by decide +kernel
theorem dX5_maximalOverring_54 : decode cX5_maximalOverring 54 = .ok (.invokevirtual 182, 3) := by decide +kernel
theorem dX5_maximalOverring_57 : decode cX5_maximalOverring 57 = .ok (.aload_n 0, 1) := by decide +kernel
theorem dX5_maximalOverring_58 : decode cX5_maximalOverring 58 = .ok (.aload_n 0, 1) := by decide +kernel
theorem dX5_maximalOverring_59 : decode cX5_maximalOverring 59 = .ok (.getfield 25, 3) := by decide +kernel
theorem dX5_maximalOverring_62 : decode cX5_maximalOverring 62 = .ok (.invokevirtual 116, 3) := by decide +kernel
theorem dX5_maximalOverring_65 : decode cX5_maximalOverring 65 = .ok (.ireturn, 1) := by decide +kernel
theorem dX5_countForms_0 : decode cX5_countForms 0 = .ok (.iload_n 1, 1) := by decide +kernel
theorem dX5_countForms_1 : decode cX5_countForms 1 = .ok (.iconst 1, 1) := by decide +kernel
theorem dX5_countForms_2 : decode cX5_countForms 2 = .ok (.if_icmp .lt 10, 3) := by decide +kernel
theorem dX5_countForms_5 : decode cX5_countForms 5 = .ok (.iload_n 1, 1) := by decide +kernel
theorem dX5_countForms_6 : decode cX5_countForms 6 = .ok (.sipush 1000, 3) := by decide +kernel
theorem dX5_countForms_9 : decode cX5_countForms 9 = .ok (.if_icmp .le 7, 3) := by decide +kernel
theorem dX5_countForms_12 : decode cX5_countForms 12 = .ok (.sipush (-10003), 3) := by decide +kernel
theorem dX5_countForms_15 : decode cX5_countForms 15 = .ok (.ireturn, 1) := by decide +kernel
theorem dX5_countForms_16 : decode cX5_countForms 16 = .ok (.aload_n 0, 1) := by decide +kernel
theorem dX5_countForms_17 : decode cX5_countForms 17 = .ok (.getfield 59, 3) := by decide +kernel
theorem dX5_countForms_20 : decode cX5_countForms 20 = .ok (.aload_n 0, 1) := by decide +kernel
theorem dX5_countForms_21 : decode cX5_countForms 21 = .ok (.getfield 45, 3) := by decide +kernel
theorem dX5_countForms_24 : decode cX5_countForms 24 = .ok (.invokevirtual 185, 3) := by decide +kernel
theorem dX5_countForms_27 : decode cX5_countForms 27 = .ok (.aload_n 0, 1) := by decide +kernel
theorem dX5_countForms_28 : decode cX5_countForms 28 = .ok (.getfield 59, 3) := by decide +kernel
theorem dX5_countForms_31 : decode cX5_countForms 31 = .ok (.iload_n 1, 1) := by decide +kernel
theorem dX5_countForms_32 : decode cX5_countForms 32 = .ok (.invokevirtual 189, 3) := by decide +kernel
theorem dX5_countForms_35 : decode cX5_countForms 35 = .ok (.ireturn, 1) := by decide +kernel
theorem dX5_countFields_0 : decode cX5_countFields 0 = .ok (.iload_n 1, 1) := by decide +kernel
theorem dX5_countFields_1 : decode cX5_countFields 1 = .ok (.iconst 1, 1) := by decide +kernel
theorem dX5_countFields_2 : decode cX5_countFields 2 = .ok (.if_icmp .lt 10, 3) := by decide +kernel
theorem dX5_countFields_5 : decode cX5_countFields 5 = .ok (.iload_n 1, 1) := by decide +kernel
theorem dX5_countFields_6 : decode cX5_countFields 6 = .ok (.sipush 1000, 3) := by decide +kernel
theorem dX5_countFields_9 : decode cX5_countFields 9 = .ok (.if_icmp .le 7, 3) := by decide +kernel
theorem dX5_countFields_12 : decode cX5_countFields 12 = .ok (.sipush (-10003), 3) := by decide +kernel
theorem dX5_countFields_15 : decode cX5_countFields 15 = .ok (.ireturn, 1) := by decide +kernel
theorem dX5_countFields_16 : decode cX5_countFields 16 = .ok (.aload_n 0, 1) := by decide +kernel
theorem dX5_countFields_17 : decode cX5_countFields 17 = .ok (.getfield 59, 3) := by decide +kernel
theorem dX5_countFields_20 : decode cX5_countFields 20 = .ok (.aload_n 0, 1) := by decide +kernel
theorem dX5_countFields_21 : decode cX5_countFields 21 = .ok (.getfield 45, 3) := by decide +kernel
theorem dX5_countFields_24 : decode cX5_countFields 24 = .ok (.invokevirtual 185, 3) := by decide +kernel
theorem dX5_countFields_27 : decode cX5_countFields 27 = .ok (.aload_n 0, 1) := by decide +kernel
theorem dX5_countFields_28 : decode cX5_countFields 28 = .ok (.getfield 59, 3) := by decide +kernel
theorem dX5_countFields_31 : decode cX5_countFields 31 = .ok (.iload_n 1, 1) := by decide +kernel
theorem dX5_countFields_32 : decode cX5_countFields 32 = .ok (.invokevirtual 193, 3) := by decide +kernel
theorem dX5_countFields_35 : decode cX5_countFields 35 = .ok (.ireturn, 1) := by decide +kernel
theorem dX5_fieldDiscriminant_0 : decode cX5_fieldDiscriminant 0 = .ok (.iload_n 1, 1) := by decide +kernel
theorem dX5_fieldDiscriminant_1 : decode cX5_fieldDiscriminant 1 = .ok (.ifCond .ge 7, 3) := by decide +kernel
theorem dX5_fieldDiscriminant_4 : decode cX5_fieldDiscriminant 4 = .ok (.sipush (-10003), 3) := by decide +kernel
theorem dX5_fieldDiscriminant_7 : decode cX5_fieldDiscriminant 7 = .ok (.ireturn, 1) := by decide +kernel
theorem dX5_fieldDiscriminant_8 : decode cX5_fieldDiscriminant 8 = .ok (.aload_n 0, 1) := by decide +kernel
theorem dX5_fieldDiscriminant_9 : decode cX5_fieldDiscriminant 9 = .ok (.getfield 59, 3) := by decide +kernel
theorem dX5_fieldDiscriminant_12 : decode cX5_fieldDiscriminant 12 = .ok (.aload_n 0, 1) := by decide +kernel
theorem dX5_fieldDiscriminant_13 : decode cX5_fieldDiscriminant 13 = .ok (.getfield 45, 3) := by decide +kernel
theorem dX5_fieldDiscriminant_16 : decode cX5_fieldDiscriminant 16 = .ok (.invokevirtual 185, 3) := by decide +kernel
theorem dX5_fieldDiscriminant_19 : decode cX5_fieldDiscriminant 19 = .ok (.iload_n 1, 1) := by decide +kernel
theorem dX5_fieldDiscriminant_20 : decode cX5_fieldDiscriminant 20 = .ok (.aload_n 0, 1) := by decide +kernel
theorem dX5_fieldDiscriminant_21 : decode cX5_fieldDiscriminant 21 = .ok (.getfield 59, 3) := by decide +kernel
theorem dX5_fieldDiscriminant_24 : decode cX5_fieldDiscriminant 24 = .ok (.getfield 196, 3) := by decide +kernel
theorem dX5_fieldDiscriminant_27 : decode cX5_fieldDiscriminant 27 = .ok (.if_icmp .ge 15, 3) := by decide +kernel
theorem dX5_fieldDiscriminant_30 : decode cX5_fieldDiscriminant 30 = .ok (.aload_n 0, 1) := by decide +kernel
theorem dX5_fieldDiscriminant_31 : decode cX5_fieldDiscriminant 31 = .ok (.getfield 59, 3) := by decide +kernel
theorem dX5_fieldDiscriminant_34 : decode cX5_fieldDiscriminant 34 = .ok (.getfield 199, 3) := by decide +kernel
theorem dX5_fieldDiscriminant_37 : decode cX5_fieldDiscriminant 37 = .ok (.iload_n 1, 1) := by decide +kernel
theorem dX5_fieldDiscriminant_38 : decode cX5_fieldDiscriminant 38 = .ok (.iaload, 1) := by decide +kernel
theorem dX5_fieldDiscriminant_39 : decode cX5_fieldDiscriminant 39 = .ok (.goto 6, 3) := by decide +kernel
theorem dX5_fieldDiscriminant_42 : decode cX5_fieldDiscriminant 42 = .ok (.sipush (-10008), 3) := by decide +kernel
theorem dX5_fieldDiscriminant_45 : decode cX5_fieldDiscriminant 45 = .ok (.ireturn, 1) := by decide +kernel
theorem dX5_isForm_0 : decode cX5_isForm 0 = .ok (.iload_n 1, 1) := by decide +kernel
theorem dX5_isForm_1 : decode cX5_isForm 1 = .ok (.ifCond .lt 15, 3) := by decide +kernel
theorem dX5_isForm_4 : decode cX5_isForm 4 = .ok (.iload_n 1, 1) := by decide +kernel
theorem dX5_isForm_5 : decode cX5_isForm 5 = .ok (.aload_n 0, 1) := by decide +kernel
theorem dX5_isForm_6 : decode cX5_isForm 6 = .ok (.getfield 15, 3) := by decide +kernel
theorem dX5_isForm_9 : decode cX5_isForm 9 = .ok (.if_icmp .ge 7, 3) := by decide +kernel
theorem dX5_isForm_12 : decode cX5_isForm 12 = .ok (.iconst 1, 1) := by decide +kernel
theorem dX5_isForm_13 : decode cX5_isForm 13 = .ok (.goto 4, 3) := by decide +kernel
theorem dX5_isForm_16 : decode cX5_isForm 16 = .ok (.iconst 0, 1) := by decide +kernel
theorem dX5_isForm_17 : decode cX5_isForm 17 = .ok (.ireturn, 1) := by decide +kernel
theorem dX5_isRegister_0 : decode cX5_isRegister 0 = .ok (.iload_n 0, 1) := by decide +kernel
theorem dX5_isRegister_1 : decode cX5_isRegister 1 = .ok (.ifCond .lt 13, 3) := by decide +kernel
theorem dX5_isRegister_4 : decode cX5_isRegister 4 = .ok (.iload_n 0, 1) := by decide +kernel
theorem dX5_isRegister_5 : decode cX5_isRegister 5 = .ok (.bipush 6, 2) := by decide +kernel
theorem dX5_isRegister_7 : decode cX5_isRegister 7 = .ok (.if_icmp .ge 7, 3) := by decide +kernel
theorem dX5_isRegister_10 : decode cX5_isRegister 10 = .ok (.iconst 1, 1) := by decide +kernel
theorem dX5_isRegister_11 : decode cX5_isRegister 11 = .ok (.goto 4, 3) := by decide +kernel
theorem dX5_isRegister_14 : decode cX5_isRegister 14 = .ok (.iconst 0, 1) := by decide +kernel
theorem dX5_isRegister_15 : decode cX5_isRegister 15 = .ok (.ireturn, 1) := by decide +kernel
theorem dX5_isWithin_0 : decode cX5_isWithin 0 = .ok (.lload_n 0, 1) := by decide +kernel
theorem dX5_isWithin_1 : decode cX5_isWithin 1 = .ok (.lload_n 2, 1) := by decide +kernel
theorem dX5_isWithin_2 : decode cX5_isWithin 2 = .ok (.lneg, 1) := by decide +kernel
theorem dX5_isWithin_3 : decode cX5_isWithin 3 = .ok (.lcmp, 1) := by decide +kernel
theorem dX5_isWithin_4 : decode cX5_isWithin 4 = .ok (.ifCond .lt 13, 3) := by decide +kernel
theorem dX5_isWithin_7 : decode cX5_isWithin 7 = .ok (.lload_n 0, 1) := by decide +kernel
theorem dX5_isWithin_8 : decode cX5_isWithin 8 = .ok (.lload_n 2, 1) := by decide +kernel
theorem dX5_isWithin_9 : decode cX5_isWithin 9 = .ok (.lcmp, 1) := by decide +kernel
theorem dX5_isWithin_10 : decode cX5_isWithin 10 = .ok (.ifCond .gt 7, 3) := by decide +kernel
theorem dX5_isWithin_13 : decode cX5_isWithin 13 = .ok (.iconst 1, 1) := by decide +kernel
theorem dX5_isWithin_14 : decode cX5_isWithin 14 = .ok (.goto 4, 3) := by decide +kernel
theorem dX5_isWithin_17 : decode cX5_isWithin 17 = .ok (.iconst 0, 1) := by decide +kernel
theorem dX5_isWithin_18 : decode cX5_isWithin 18 = .ok (.ireturn, 1) := by decide +kernel
theorem dX5_isSubstitution_0 : decode cX5_isSubstitution 0 = .ok (.iload_n 0, 1) := by decide +kernel
theorem dX5_isSubstitution_1 : decode cX5_isSubstitution 1 = .ok (.i2l, 1) := by decide +kernel
theorem dX5_isSubstitution_2 : decode cX5_isSubstitution 2 = .ok (.ldc2_w 202, 3) := by decide +kernel
theorem dX5_isSubstitution_5 : decode cX5_isSubstitution 5 = .ok (.invokestatic 100, 3) := by decide +kernel
theorem dX5_isSubstitution_8 : decode cX5_isSubstitution 8 = .ok (.ifCond .eq 14, 3) := by decide +kernel
theorem dX5_isSubstitution_11 : decode cX5_isSubstitution 11 = .ok (.iload_n 1, 1) := by decide +kernel
theorem dX5_isSubstitution_12 : decode cX5_isSubstitution 12 = .ok (.i2l, 1) := by decide +kernel
theorem dX5_isSubstitution_13 : decode cX5_isSubstitution 13 = .ok (.ldc2_w 202, 3) := by decide +kernel
theorem dX5_isSubstitution_16 : decode cX5_isSubstitution 16 = .ok (.invokestatic 100, 3) := by decide +kernel
theorem dX5_isSubstitution_19 : decode cX5_isSubstitution 19 = .ok (.ifCond .ne 5, 3) := by decide +kernel
theorem dX5_isSubstitution_22 : decode cX5_isSubstitution 22 = .ok (.iconst 0, 1) := by decide +kernel
theorem dX5_isSubstitution_23 : decode cX5_isSubstitution 23 = .ok (.ireturn, 1) := by decide +kernel
theorem dX5_isSubstitution_24 : decode cX5_isSubstitution 24 = .ok (.iload_n 2, 1) := by decide +kernel
theorem dX5_isSubstitution_25 : decode cX5_isSubstitution 25 = .ok (.i2l, 1) := by decide +kernel
theorem dX5_isSubstitution_26 : decode cX5_isSubstitution 26 = .ok (.ldc2_w 202, 3) := by decide +kernel
theorem dX5_isSubstitution_29 : decode cX5_isSubstitution 29 = .ok (.invokestatic 100, 3) := by decide +kernel
theorem dX5_isSubstitution_32 : decode cX5_isSubstitution 32 = .ok (.ifCond .eq 14, 3) := by decide +kernel
theorem dX5_isSubstitution_35 : decode cX5_isSubstitution 35 = .ok (.iload_n 3, 1) := by decide +kernel
theorem dX5_isSubstitution_36 : decode cX5_isSubstitution 36 = .ok (.i2l, 1) := by decide +kernel
theorem dX5_isSubstitution_37 : decode cX5_isSubstitution 37 = .ok (.ldc2_w 202, 3) := by decide +kernel
theorem dX5_isSubstitution_40 : decode cX5_isSubstitution 40 = .ok (.invokestatic 100, 3) := by decide +kernel
theorem dX5_isSubstitution_43 : decode cX5_isSubstitution 43 = .ok (.ifCond .ne 5, 3) := by decide +kernel
theorem dX5_isSubstitution_46 : decode cX5_isSubstitution 46 = .ok (.iconst 0, 1) := by decide +kernel
theorem dX5_isSubstitution_47 : decode cX5_isSubstitution 47 = .ok (.ireturn, 1) := by decide +kernel
theorem dX5_isSubstitution_48 : decode cX5_isSubstitution 48 = .ok (.iload_n 0, 1) := by decide +kernel
theorem dX5_isSubstitution_49 : decode cX5_isSubstitution 49 = .ok (.iload_n 3, 1) := by decide +kernel
theorem dX5_isSubstitution_50 : decode cX5_isSubstitution 50 = .ok (.imul, 1) := by decide +kernel
theorem dX5_isSubstitution_51 : decode cX5_isSubstitution 51 = .ok (.iload_n 1, 1) := by decide +kernel
theorem dX5_isSubstitution_52 : decode cX5_isSubstitution 52 = .ok (.iload_n 2, 1) := by decide +kernel
theorem dX5_isSubstitution_53 : decode cX5_isSubstitution 53 = .ok (.imul, 1) := by decide +kernel
theorem dX5_isSubstitution_54 : decode cX5_isSubstitution 54 = .ok (.isub, 1) := by decide +kernel
theorem dX5_isSubstitution_55 : decode cX5_isSubstitution 55 = .ok (.invokestatic 204, 3) := by decide +kernel
theorem dX5_isSubstitution_58 : decode cX5_isSubstitution 58 = .ok (.iconst 1, 1) := by decide +kernel
theorem dX5_isSubstitution_59 : decode cX5_isSubstitution 59 = .ok (.if_icmp .ne 7, 3) := by decide +kernel
theorem dX5_isSubstitution_62 : decode cX5_isSubstitution 62 = .ok (.iconst 1, 1) := by decide +kernel
theorem dX5_isSubstitution_63 : decode cX5_isSubstitution 63 = .ok (.goto 4, 3) := by decide +kernel
theorem dX5_isSubstitution_66 : decode cX5_isSubstitution 66 = .ok (.iconst 0, 1) := by decide +kernel
theorem dX5_isSubstitution_67 : decode cX5_isSubstitution 67 = .ok (.ireturn, 1) := by decide +kernel
theorem dX5_isPrime_0 : decode cX5_isPrime 0 = .ok (.iload_n 0, 1) := by decide +kernel
theorem dX5_isPrime_1 : decode cX5_isPrime 1 = .ok (.iconst 2, 1) := by decide +kernel
theorem dX5_isPrime_2 : decode cX5_isPrime 2 = .ok (.if_icmp .lt 10, 3) := by decide +kernel
theorem dX5_isPrime_5 : decode cX5_isPrime 5 = .ok (.iload_n 0, 1) := by decide +kernel
theorem dX5_isPrime_6 : decode cX5_isPrime 6 = .ok (.sipush 997, 3) := by decide +kernel
theorem dX5_isPrime_9 : decode cX5_isPrime 9 = .ok (.if_icmp .le 5, 3) := by decide +kernel
theorem dX5_isPrime_12 : decode cX5_isPrime 12 = .ok (.iconst 0, 1) := by decide +kernel
theorem dX5_isPrime_13 : decode cX5_isPrime 13 = .ok (.ireturn, 1) := by decide +kernel
theorem dX5_isPrime_14 : decode cX5_isPrime 14 = .ok (.iconst 2, 1) := by decide +kernel
theorem dX5_isPrime_15 : decode cX5_isPrime 15 = .ok (.istore_n 1, 1) := by decide +kernel
theorem dX5_isPrime_16 : decode cX5_isPrime 16 = .ok (.iload_n 1, 1) := by decide +kernel
theorem dX5_isPrime_17 : decode cX5_isPrime 17 = .ok (.iload_n 1, 1) := by decide +kernel
theorem dX5_isPrime_18 : decode cX5_isPrime 18 = .ok (.imul, 1) := by decide +kernel
theorem dX5_isPrime_19 : decode cX5_isPrime 19 = .ok (.iload_n 0, 1) := by decide +kernel
theorem dX5_isPrime_20 : decode cX5_isPrime 20 = .ok (.if_icmp .gt 17, 3) := by decide +kernel
theorem dX5_isPrime_23 : decode cX5_isPrime 23 = .ok (.iload_n 0, 1) := by decide +kernel
theorem dX5_isPrime_24 : decode cX5_isPrime 24 = .ok (.iload_n 1, 1) := by decide +kernel
theorem dX5_isPrime_25 : decode cX5_isPrime 25 = .ok (.irem, 1) := by decide +kernel
theorem dX5_isPrime_26 : decode cX5_isPrime 26 = .ok (.ifCond .ne 5, 3) := by decide +kernel
theorem dX5_isPrime_29 : decode cX5_isPrime 29 = .ok (.iconst 0, 1) := by decide +kernel
theorem dX5_isPrime_30 : decode cX5_isPrime 30 = .ok (.ireturn, 1) := by decide +kernel
theorem dX5_isPrime_31 : decode cX5_isPrime 31 = .ok (.iinc 1 1, 3) := by decide +kernel
theorem dX5_isPrime_34 : decode cX5_isPrime 34 = .ok (.goto (-18), 3) := by decide +kernel
theorem dX5_isPrime_37 : decode cX5_isPrime 37 = .ok (.iconst 1, 1) := by decide +kernel
theorem dX5_isPrime_38 : decode cX5_isPrime 38 = .ok (.ireturn, 1) := by decide +kernel
theorem dX5_load_0 : decode cX5_load 0 = .ok (.aload_n 0, 1) := by decide +kernel
theorem dX5_load_1 : decode cX5_load 1 = .ok (.iload_n 1, 1) := by decide +kernel
theorem dX5_load_2 : decode cX5_load 2 = .ok (.invokevirtual 75, 3) := by decide +kernel
theorem dX5_load_5 : decode cX5_load 5 = .ok (.ifCond .ne 5, 3) := by decide +kernel
theorem dX5_load_8 : decode cX5_load 8 = .ok (.iconst 0, 1) := by decide +kernel
theorem dX5_load_9 : decode cX5_load 9 = .ok (.ireturn, 1) := by decide +kernel
theorem dX5_load_10 : decode cX5_load 10 = .ok (.iload_n 1, 1) := by decide +kernel
theorem dX5_load_11 : decode cX5_load 11 = .ok (.iconst 4, 1) := by decide +kernel
theorem dX5_load_12 : decode cX5_load 12 = .ok (.imul, 1) := by decide +kernel
theorem dX5_load_13 : decode cX5_load 13 = .ok (.istore_n 3, 1) := by decide +kernel
theorem dX5_load_14 : decode cX5_load 14 = .ok (.aload_n 2, 1) := by decide +kernel
theorem dX5_load_15 : decode cX5_load 15 = .ok (.aload_n 0, 1) := by decide +kernel
theorem dX5_load_16 : decode cX5_load 16 = .ok (.getfield 11, 3) := by decide +kernel
theorem dX5_load_19 : decode cX5_load 19 = .ok (.iload_n 3, 1) := by decide +kernel
theorem dX5_load_20 : decode cX5_load 20 = .ok (.iaload, 1) := by decide +kernel
theorem dX5_load_21 : decode cX5_load 21 = .ok (.i2l, 1) := by decide +kernel
theorem dX5_load_22 : decode cX5_load 22 = .ok (.aload_n 0, 1) := by decide +kernel
theorem dX5_load_23 : decode cX5_load 23 = .ok (.getfield 11, 3) := by decide +kernel
theorem dX5_load_26 : decode cX5_load 26 = .ok (.iload_n 3, 1) := by decide +kernel
theorem dX5_load_27 : decode cX5_load 27 = .ok (.iconst 1, 1) := by decide +kernel
theorem dX5_load_28 : decode cX5_load 28 = .ok (.iadd, 1) := by decide +kernel
theorem dX5_load_29 : decode cX5_load 29 = .ok (.iaload, 1) := by decide +kernel
theorem dX5_load_30 : decode cX5_load 30 = .ok (.i2l, 1) := by decide +kernel
theorem dX5_load_31 : decode cX5_load 31 = .ok (.aload_n 0, 1) := by decide +kernel
theorem dX5_load_32 : decode cX5_load 32 = .ok (.getfield 11, 3) := by decide +kernel
theorem dX5_load_35 : decode cX5_load 35 = .ok (.iload_n 3, 1) := by decide +kernel
theorem dX5_load_36 : decode cX5_load 36 = .ok (.iconst 2, 1) := by decide +kernel
theorem dX5_load_37 : decode cX5_load 37 = .ok (.iadd, 1) := by decide +kernel
theorem dX5_load_38 : decode cX5_load 38 = .ok (.iaload, 1) := by decide +kernel
theorem dX5_load_39 : decode cX5_load 39 = .ok (.i2l, 1) := by decide +kernel
theorem dX5_load_40 : decode cX5_load 40 = .ok (.aload_n 0, 1) := by decide +kernel
theorem dX5_load_41 : decode cX5_load 41 = .ok (.getfield 11, 3) := by decide +kernel
theorem dX5_load_44 : decode cX5_load 44 = .ok (.iload_n 3, 1) := by decide +kernel
theorem dX5_load_45 : decode cX5_load 45 = .ok (.iconst 3, 1) := by decide +kernel
theorem dX5_load_46 : decode cX5_load 46 = .ok (.iadd, 1) := by decide +kernel
theorem dX5_load_47 : decode cX5_load 47 = .ok (.iaload, 1) := by decide +kernel
theorem dX5_load_48 : decode cX5_load 48 = .ok (.i2l, 1) := by decide +kernel
theorem dX5_load_49 : decode cX5_load 49 = .ok (.invokevirtual 63, 3) := by decide +kernel
theorem dX5_load_52 : decode cX5_load 52 = .ok (.iconst 1, 1) := by decide +kernel
theorem dX5_load_53 : decode cX5_load 53 = .ok (.ireturn, 1) := by decide +kernel
theorem dX5_storeIfFits_0 : decode cX5_storeIfFits 0 = .ok (.aload_n 1, 1) := by decide +kernel
theorem dX5_storeIfFits_1 : decode cX5_storeIfFits 1 = .ok (.invokevirtual 67, 3) := by decide +kernel
theorem dX5_storeIfFits_4 : decode cX5_storeIfFits 4 = .ok (.ifCond .eq 11, 3) := by decide +kernel
theorem dX5_storeIfFits_7 : decode cX5_storeIfFits 7 = .ok (.aload_n 0, 1) := by decide +kernel
theorem dX5_storeIfFits_8 : decode cX5_storeIfFits 8 = .ok (.aload_n 1, 1) := by decide +kernel
theorem dX5_storeIfFits_9 : decode cX5_storeIfFits 9 = .ok (.invokevirtual 71, 3) := by decide +kernel
theorem dX5_storeIfFits_12 : decode cX5_storeIfFits 12 = .ok (.goto 6, 3) := by decide +kernel
theorem dX5_storeIfFits_15 : decode cX5_storeIfFits 15 = .ok (.sipush (-10005), 3) := by decide +kernel
theorem dX5_storeIfFits_18 : decode cX5_storeIfFits 18 = .ok (.ireturn, 1) := by decide +kernel
theorem dX5_store_0 : decode cX5_store 0 = .ok (.aload_n 0, 1) := by decide +kernel
theorem dX5_store_1 : decode cX5_store 1 = .ok (.getfield 15, 3) := by decide +kernel
theorem dX5_store_4 : decode cX5_store 4 = .ok (.bipush 60, 2) := by decide +kernel
theorem dX5_store_6 : decode cX5_store 6 = .ok (.if_icmp .lt 7, 3) := by decide +kernel
theorem dX5_store_9 : decode cX5_store 9 = .ok (.sipush (-10004), 3) := by decide +kernel
theorem dX5_store_12 : decode cX5_store 12 = .ok (.ireturn, 1) := by decide +kernel
theorem dX5_store_13 : decode cX5_store 13 = .ok (.aload_n 0, 1) := by decide +kernel
theorem dX5_store_14 : decode cX5_store 14 = .ok (.getfield 15, 3) := by decide +kernel
theorem dX5_store_17 : decode cX5_store 17 = .ok (.iconst 4, 1) := by decide +kernel
theorem dX5_store_18 : decode cX5_store 18 = .ok (.imul, 1) := by decide +kernel
theorem dX5_store_19 : decode cX5_store 19 = .ok (.istore_n 2, 1) := by decide +kernel
theorem dX5_store_20 : decode cX5_store 20 = .ok (.aload_n 0, 1) := by decide +kernel
theorem dX5_store_21 : decode cX5_store 21 = .ok (.getfield 11, 3) := by decide +kernel
theorem dX5_store_24 : decode cX5_store 24 = .ok (.iload_n 2, 1) := by decide +kernel
theorem dX5_store_25 : decode cX5_store 25 = .ok (.aload_n 1, 1) := by decide +kernel
theorem dX5_store_26 : decode cX5_store 26 = .ok (.getfield 209, 3) := by decide +kernel
theorem dX5_store_29 : decode cX5_store 29 = .ok (.l2i, 1) := by decide +kernel
theorem dX5_store_30 : decode cX5_store 30 = .ok (.iastore, 1) := by decide +kernel
theorem dX5_store_31 : decode cX5_store 31 = .ok (.aload_n 0, 1) := by decide +kernel
theorem dX5_store_32 : decode cX5_store 32 = .ok (.getfield 11, 3) := by decide +kernel
theorem dX5_store_35 : decode cX5_store 35 = .ok (.iload_n 2, 1) := by decide +kernel
theorem dX5_store_36 : decode cX5_store 36 = .ok (.iconst 1, 1) := by decide +kernel
theorem dX5_store_37 : decode cX5_store 37 = .ok (.iadd, 1) := by decide +kernel
theorem dX5_store_38 : decode cX5_store 38 = .ok (.aload_n 1, 1) := by decide +kernel
theorem dX5_store_39 : decode cX5_store 39 = .ok (.getfield 213, 3) := by decide +kernel
theorem dX5_store_42 : decode cX5_store 42 = .ok (.l2i, 1) := by decide +kernel
theorem dX5_store_43 : decode cX5_store 43 = .ok (.iastore, 1) := by decide +kernel
theorem dX5_store_44 : decode cX5_store 44 = .ok (.aload_n 0, 1) := by decide +kernel
theorem dX5_store_45 : decode cX5_store 45 = .ok (.getfield 11, 3) := by decide +kernel
theorem dX5_store_48 : decode cX5_store 48 = .ok (.iload_n 2, 1) := by decide +kernel
theorem dX5_store_49 : decode cX5_store 49 = .ok (.iconst 2, 1) := by decide +kernel
theorem dX5_store_50 : decode cX5_store 50 = .ok (.iadd, 1) := by decide +kernel
theorem dX5_store_51 : decode cX5_store 51 = .ok (.aload_n 1, 1) := by decide +kernel
theorem dX5_store_52 : decode cX5_store 52 = .ok (.getfield 216, 3) := by decide +kernel
theorem dX5_store_55 : decode cX5_store 55 = .ok (.l2i, 1) := by decide +kernel
theorem dX5_store_56 : decode cX5_store 56 = .ok (.iastore, 1) := by decide +kernel
theorem dX5_store_57 : decode cX5_store 57 = .ok (.aload_n 0, 1) := by decide +kernel
theorem dX5_store_58 : decode cX5_store 58 = .ok (.getfield 11, 3) := by decide +kernel
theorem dX5_store_61 : decode cX5_store 61 = .ok (.iload_n 2, 1) := by decide +kernel
theorem dX5_store_62 : decode cX5_store 62 = .ok (.iconst 3, 1) := by decide +kernel
theorem dX5_store_63 : decode cX5_store 63 = .ok (.iadd, 1) := by decide +kernel
theorem dX5_store_64 : decode cX5_store 64 = .ok (.aload_n 1, 1) := by decide +kernel
theorem dX5_store_65 : decode cX5_store 65 = .ok (.getfield 219, 3) := by decide +kernel
theorem dX5_store_68 : decode cX5_store 68 = .ok (.l2i, 1) := by decide +kernel
theorem dX5_store_69 : decode cX5_store 69 = .ok (.iastore, 1) := by decide +kernel
theorem dX5_store_70 : decode cX5_store 70 = .ok (.aload_n 0, 1) := by decide +kernel
theorem dX5_store_71 : decode cX5_store 71 = .ok (.dup, 1) := by decide +kernel
theorem dX5_store_72 : decode cX5_store 72 = .ok (.getfield 15, 3) := by decide +kernel
theorem dX5_store_75 : decode cX5_store 75 = .ok (.iconst 1, 1) := by decide +kernel
theorem dX5_store_76 : decode cX5_store 76 = .ok (.iadd, 1) := by decide +kernel
theorem dX5_store_77 : decode cX5_store 77 = .ok (.putfield 15, 3) := by decide +kernel
theorem dX5_store_80 : decode cX5_store 80 = .ok (.aload_n 0, 1) := by decide +kernel
theorem dX5_store_81 : decode cX5_store 81 = .ok (.getfield 15, 3) := by decide +kernel
theorem dX5_store_84 : decode cX5_store 84 = .ok (.iconst 1, 1) := by decide +kernel
theorem dX5_store_85 : decode cX5_store 85 = .ok (.isub, 1) := by decide +kernel
theorem dX5_store_86 : decode cX5_store 86 = .ok (.ireturn, 1) := by decide +kernel
theorem dX5_loadElement_0 : decode cX5_loadElement 0 = .ok (.iload_n 1, 1) := by decide +kernel
theorem dX5_loadElement_1 : decode cX5_loadElement 1 = .ok (.invokestatic 150, 3) := by decide +kernel
theorem dX5_loadElement_4 : decode cX5_loadElement 4 = .ok (.ifCond .ne 5, 3) := by decide +kernel
theorem dX5_loadElement_7 : decode cX5_loadElement 7 = .ok (.iconst 0, 1) := by decide +kernel
theorem dX5_loadElement_8 : decode cX5_loadElement 8 = .ok (.ireturn, 1) := by decide +kernel
theorem dX5_loadElement_9 : decode cX5_loadElement 9 = .ok (.iload_n 1, 1) := by decide +kernel
theorem dX5_loadElement_10 : decode cX5_loadElement 10 = .ok (.iconst 3, 1) := by decide +kernel
theorem dX5_loadElement_11 : decode cX5_loadElement 11 = .ok (.imul, 1) := by decide +kernel
theorem dX5_loadElement_12 : decode cX5_loadElement 12 = .ok (.istore_n 3, 1) := by decide +kernel
theorem dX5_loadElement_13 : decode cX5_loadElement 13 = .ok (.aload_n 2, 1) := by decide +kernel
theorem dX5_loadElement_14 : decode cX5_loadElement 14 = .ok (.aload_n 0, 1) := by decide +kernel
theorem dX5_loadElement_15 : decode cX5_loadElement 15 = .ok (.getfield 19, 3) := by decide +kernel
theorem dX5_loadElement_18 : decode cX5_loadElement 18 = .ok (.iload_n 3, 1) := by decide +kernel
theorem dX5_loadElement_19 : decode cX5_loadElement 19 = .ok (.iaload, 1) := by decide +kernel
theorem dX5_loadElement_20 : decode cX5_loadElement 20 = .ok (.i2l, 1) := by decide +kernel
theorem dX5_loadElement_21 : decode cX5_loadElement 21 = .ok (.aload_n 0, 1) := by decide +kernel
theorem dX5_loadElement_22 : decode cX5_loadElement 22 = .ok (.getfield 19, 3) := by decide +kernel
theorem dX5_loadElement_25 : decode cX5_loadElement 25 = .ok (.iload_n 3, 1) := by decide +kernel
theorem dX5_loadElement_26 : decode cX5_loadElement 26 = .ok (.iconst 1, 1) := by decide +kernel
theorem dX5_loadElement_27 : decode cX5_loadElement 27 = .ok (.iadd, 1) := by decide +kernel
theorem dX5_loadElement_28 : decode cX5_loadElement 28 = .ok (.iaload, 1) := by decide +kernel
theorem dX5_loadElement_29 : decode cX5_loadElement 29 = .ok (.i2l, 1) := by decide +kernel
theorem dX5_loadElement_30 : decode cX5_loadElement 30 = .ok (.aload_n 0, 1) := by decide +kernel
theorem dX5_loadElement_31 : decode cX5_loadElement 31 = .ok (.getfield 19, 3) := by decide +kernel
theorem dX5_loadElement_34 : decode cX5_loadElement 34 = .ok (.iload_n 3, 1) := by decide +kernel
theorem dX5_loadElement_35 : decode cX5_loadElement 35 = .ok (.iconst 2, 1) := by decide +kernel
theorem dX5_loadElement_36 : decode cX5_loadElement 36 = .ok (.iadd, 1) := by decide +kernel
theorem dX5_loadElement_37 : decode cX5_loadElement 37 = .ok (.iaload, 1) := by decide +kernel
theorem dX5_loadElement_38 : decode cX5_loadElement 38 = .ok (.i2l, 1) := by decide +kernel
theorem dX5_loadElement_39 : decode cX5_loadElement 39 = .ok (.invokevirtual 137, 3) := by decide +kernel
theorem dX5_loadElement_42 : decode cX5_loadElement 42 = .ok (.iconst 1, 1) := by decide +kernel
theorem dX5_loadElement_43 : decode cX5_loadElement 43 = .ok (.ireturn, 1) := by decide +kernel
theorem dX5_storeElement_0 : decode cX5_storeElement 0 = .ok (.iload_n 1, 1) := by decide +kernel
theorem dX5_storeElement_1 : decode cX5_storeElement 1 = .ok (.invokestatic 150, 3) := by decide +kernel
theorem dX5_storeElement_4 : decode cX5_storeElement 4 = .ok (.ifCond .eq 44, 3) := by decide +kernel
theorem dX5_storeElement_7 : decode cX5_storeElement 7 = .ok (.iload_n 1, 1) := by decide +kernel
theorem dX5_storeElement_8 : decode cX5_storeElement 8 = .ok (.iconst 3, 1) := by decide +kernel
theorem dX5_storeElement_9 : decode cX5_storeElement 9 = .ok (.imul, 1) := by decide +kernel
theorem dX5_storeElement_10 : decode cX5_storeElement 10 = .ok (.istore_n 3, 1) := by decide +kernel
theorem dX5_storeElement_11 : decode cX5_storeElement 11 = .ok (.aload_n 0, 1) := by decide +kernel
theorem dX5_storeElement_12 : decode cX5_storeElement 12 = .ok (.getfield 19, 3) := by decide +kernel
theorem dX5_storeElement_15 : decode cX5_storeElement 15 = .ok (.iload_n 3, 1) := by decide +kernel
theorem dX5_storeElement_16 : decode cX5_storeElement 16 = .ok (.aload_n 2, 1) := by decide +kernel
theorem dX5_storeElement_17 : decode cX5_storeElement 17 = .ok (.getfield 222, 3) := by decide +kernel
theorem dX5_storeElement_20 : decode cX5_storeElement 20 = .ok (.l2i, 1) := by decide +kernel
theorem dX5_storeElement_21 : decode cX5_storeElement 21 = .ok (.iastore, 1) := by decide +kernel
theorem dX5_storeElement_22 : decode cX5_storeElement 22 = .ok (.aload_n 0, 1) := by decide +kernel
theorem dX5_storeElement_23 : decode cX5_storeElement 23 = .ok (.getfield 19, 3) := by decide +kernel
theorem dX5_storeElement_26 : decode cX5_storeElement 26 = .ok (.iload_n 3, 1) := by decide +kernel
theorem dX5_storeElement_27 : decode cX5_storeElement 27 = .ok (.iconst 1, 1) := by decide +kernel
theorem dX5_storeElement_28 : decode cX5_storeElement 28 = .ok (.iadd, 1) := by decide +kernel
theorem dX5_storeElement_29 : decode cX5_storeElement 29 = .ok (.aload_n 2, 1) := by decide +kernel
theorem dX5_storeElement_30 : decode cX5_storeElement 30 = .ok (.getfield 225, 3) := by decide +kernel
theorem dX5_storeElement_33 : decode cX5_storeElement 33 = .ok (.l2i, 1) := by decide +kernel
theorem dX5_storeElement_34 : decode cX5_storeElement 34 = .ok (.iastore, 1) := by decide +kernel
theorem dX5_storeElement_35 : decode cX5_storeElement 35 = .ok (.aload_n 0, 1) := by decide +kernel
theorem dX5_storeElement_36 : decode cX5_storeElement 36 = .ok (.getfield 19, 3) := by decide +kernel
theorem dX5_storeElement_39 : decode cX5_storeElement 39 = .ok (.iload_n 3, 1) := by decide +kernel
theorem dX5_storeElement_40 : decode cX5_storeElement 40 = .ok (.iconst 2, 1) := by decide +kernel
theorem dX5_storeElement_41 : decode cX5_storeElement 41 = .ok (.iadd, 1) := by decide +kernel
theorem dX5_storeElement_42 : decode cX5_storeElement 42 = .ok (.aload_n 2, 1) := by decide +kernel
theorem dX5_storeElement_43 : decode cX5_storeElement 43 = .ok (.getfield 228, 3) := by decide +kernel
theorem dX5_storeElement_46 : decode cX5_storeElement 46 = .ok (.l2i, 1) := by decide +kernel
theorem dX5_storeElement_47 : decode cX5_storeElement 47 = .ok (.iastore, 1) := by decide +kernel
theorem dX5_storeElement_48 : decode cX5_storeElement 48 = .ok (.return_, 1) := by decide +kernel
theorem dX6_init_0 : decode cX6_init 0 = .ok (.aload_n 0, 1) := by decide +kernel
theorem dX6_init_1 : decode cX6_init 1 = .ok (.invokespecial 1, 3) := by decide +kernel
theorem dX6_init_4 : decode cX6_init 4 = .ok (.aload_n 0, 1) := by decide +kernel
theorem dX6_init_5 : decode cX6_init 5 = .ok (.sipush 240, 3) := by decide +kernel
theorem dX6_init_8 : decode cX6_init 8 = .ok (.newarray .int, 2) := by decide +kernel
theorem dX6_init_10 : decode cX6_init 10 = .ok (.putfield 7, 3) := by decide +kernel
theorem dX6_init_13 : decode cX6_init 13 = .ok (.aload_n 0, 1) := by decide +kernel
theorem dX6_init_14 : decode cX6_init 14 = .ok (.bipush 18, 2) := by decide +kernel
theorem dX6_init_16 : decode cX6_init 16 = .ok (.newarray .int, 2) := by decide +kernel
theorem dX6_init_18 : decode cX6_init 18 = .ok (.putfield 13, 3) := by decide +kernel
theorem dX6_init_21 : decode cX6_init 21 = .ok (.aload_n 0, 1) := by decide +kernel
theorem dX6_init_22 : decode cX6_init 22 = .ok (.bipush 9, 2) := by decide +kernel
theorem dX6_init_24 : decode cX6_init 24 = .ok (.newarray .long, 2) := by decide +kernel
theorem dX6_init_26 : decode cX6_init 26 = .ok (.putfield 16, 3) := by decide +kernel
theorem dX6_init_29 : decode cX6_init 29 = .ok (.aload_n 0, 1) := by decide +kernel
theorem dX6_init_30 : decode cX6_init 30 = .ok (.bipush 9, 2) := by decide +kernel
theorem dX6_init_32 : decode cX6_init 32 = .ok (.newarray .long, 2) := by decide +kernel
theorem dX6_init_34 : decode cX6_init 34 = .ok (.putfield 20, 3) := by decide +kernel
theorem dX6_init_37 : decode cX6_init 37 = .ok (.aload_n 0, 1) := by decide +kernel
theorem dX6_init_38 : decode cX6_init 38 = .ok (.sipush 1001, 3) := by decide +kernel
theorem dX6_init_41 : decode cX6_init 41 = .ok (.newarray .int, 2) := by decide +kernel
theorem dX6_init_43 : decode cX6_init 43 = .ok (.putfield 23, 3) := by decide +kernel
theorem dX6_init_46 : decode cX6_init 46 = .ok (.aload_n 0, 1) := by decide +kernel
theorem dX6_init_47 : decode cX6_init 47 = .ok (.sipush 1001, 3) := by decide +kernel
theorem dX6_init_50 : decode cX6_init 50 = .ok (.newarray .int, 2) := by decide +kernel
theorem dX6_init_52 : decode cX6_init 52 = .ok (.putfield 26, 3) := by decide +kernel
theorem dX6_init_55 : decode cX6_init 55 = .ok (.aload_n 0, 1) := by decide +kernel
theorem dX6_init_56 : decode cX6_init 56 = .ok (.iconst 0, 1) := by decide +kernel
theorem dX6_init_57 : decode cX6_init 57 = .ok (.putfield 29, 3) := by decide +kernel
theorem dX6_init_60 : decode cX6_init 60 = .ok (.return_, 1) := by decide +kernel
theorem dX6_isBetween_0 : decode cX6_isBetween 0 = .ok (.lload_n 0, 1) := by decide +kernel
theorem dX6_isBetween_1 : decode cX6_isBetween 1 = .ok (.lload_n 2, 1) := by decide +kernel
theorem dX6_isBetween_2 : decode cX6_isBetween 2 = .ok (.lcmp, 1) := by decide +kernel
theorem dX6_isBetween_3 : decode cX6_isBetween 3 = .ok (.ifCond .lt 14, 3) := by decide +kernel
theorem dX6_isBetween_6 : decode cX6_isBetween 6 = .ok (.lload_n 0, 1) := by decide +kernel
theorem dX6_isBetween_7 : decode cX6_isBetween 7 = .ok (.lload 4, 2) := by decide +kernel
theorem dX6_isBetween_9 : decode cX6_isBetween 9 = .ok (.lcmp, 1) := by decide +kernel
theorem dX6_isBetween_10 : decode cX6_isBetween 10 = .ok (.ifCond .gt 7, 3) := by decide +kernel
theorem dX6_isBetween_13 : decode cX6_isBetween 13 = .ok (.iconst 1, 1) := by decide +kernel
theorem dX6_isBetween_14 : decode cX6_isBetween 14 = .ok (.goto 4, 3) := by decide +kernel
theorem dX6_isBetween_17 : decode cX6_isBetween 17 = .ok (.iconst 0, 1) := by decide +kernel
theorem dX6_isBetween_18 : decode cX6_isBetween 18 = .ok (.ireturn, 1) := by decide +kernel
theorem dX6_size_0 : decode cX6_size 0 = .ok (.lload_n 0, 1) := by decide +kernel
theorem dX6_size_1 : decode cX6_size 1 = .ok (.lconst 0, 1) := by decide +kernel
theorem dX6_size_2 : decode cX6_size 2 = .ok (.lcmp, 1) := by decide +kernel
theorem dX6_size_3 : decode cX6_size 3 = .ok (.ifCond .ge 8, 3) := by decide +kernel
theorem dX6_size_6 : decode cX6_size 6 = .ok (.lload_n 0, 1) := by decide +kernel
theorem dX6_size_7 : decode cX6_size 7 = .ok (.lneg, 1) := by decide +kernel
theorem dX6_size_8 : decode cX6_size 8 = .ok (.goto 4, 3) := by decide +kernel
theorem dX6_size_11 : decode cX6_size 11 = .ok (.lload_n 0, 1) := by decide +kernel
theorem dX6_size_12 : decode cX6_size 12 = .ok (.lreturn, 1) := by decide +kernel
theorem dX6_isForm_0 : decode cX6_isForm 0 = .ok (.iload_n 1, 1) := by decide +kernel
theorem dX6_isForm_1 : decode cX6_isForm 1 = .ok (.i2l, 1) := by decide +kernel
theorem dX6_isForm_2 : decode cX6_isForm 2 = .ok (.lconst 0, 1) := by decide +kernel
theorem dX6_isForm_3 : decode cX6_isForm 3 = .ok (.aload_n 0, 1) := by decide +kernel
theorem dX6_isForm_4 : decode cX6_isForm 4 = .ok (.getfield 29, 3) := by decide +kernel
theorem dX6_isForm_7 : decode cX6_isForm 7 = .ok (.iconst 1, 1) := by decide +kernel
theorem dX6_isForm_8 : decode cX6_isForm 8 = .ok (.isub, 1) := by decide +kernel
theorem dX6_isForm_9 : decode cX6_isForm 9 = .ok (.i2l, 1) := by decide +kernel
theorem dX6_isForm_10 : decode cX6_isForm 10 = .ok (.invokestatic 33, 3) := by decide +kernel
theorem dX6_isForm_13 : decode cX6_isForm 13 = .ok (.ireturn, 1) := by decide +kernel
theorem dX6_isCoefficient_0 : decode cX6_isCoefficient 0 = .ok (.lload_n 0, 1) := by decide +kernel
theorem dX6_isCoefficient_1 : decode cX6_isCoefficient 1 = .ok (.ldc2_w 37, 3) := by decide +kernel
theorem dX6_isCoefficient_4 : decode cX6_isCoefficient 4 = .ok (.ldc2_w 39, 3) := by decide +kernel
theorem dX6_isCoefficient_7 : decode cX6_isCoefficient 7 = .ok (.invokestatic 33, 3) := by decide +kernel
theorem dX6_isCoefficient_10 : decode cX6_isCoefficient 10 = .ok (.ireturn, 1) := by decide +kernel
theorem dX6_load_0 : decode cX6_load 0 = .ok (.aload_n 0, 1) := by decide +kernel
theorem dX6_load_1 : decode cX6_load 1 = .ok (.aload_n 0, 1) := by decide +kernel
theorem dX6_load_2 : decode cX6_load 2 = .ok (.getfield 7, 3) := by decide +kernel
theorem dX6_load_5 : decode cX6_load 5 = .ok (.iconst 4, 1) := by decide +kernel
theorem dX6_load_6 : decode cX6_load 6 = .ok (.iload_n 1, 1) := by decide +kernel
theorem dX6_load_7 : decode cX6_load 7 = .ok (.imul, 1) := by decide +kernel
theorem dX6_load_8 : decode cX6_load 8 = .ok (.iaload, 1) := by decide +kernel
theorem dX6_load_9 : decode cX6_load 9 = .ok (.i2l, 1) := by decide +kernel
theorem dX6_load_10 : decode cX6_load 10 = .ok (.putfield 41, 3) := by decide +kernel
theorem dX6_load_13 : decode cX6_load 13 = .ok (.aload_n 0, 1) := by decide +kernel
theorem dX6_load_14 : decode cX6_load 14 = .ok (.aload_n 0, 1) := by decide +kernel
theorem dX6_load_15 : decode cX6_load 15 = .ok (.getfield 7, 3) := by decide +kernel
theorem dX6_load_18 : decode cX6_load 18 = .ok (.iconst 4, 1) := by decide +kernel
theorem dX6_load_19 : decode cX6_load 19 = .ok (.iload_n 1, 1) := by decide +kernel
theorem dX6_load_20 : decode cX6_load 20 = .ok (.imul, 1) := by decide +kernel
theorem dX6_load_21 : decode cX6_load 21 = .ok (.iconst 1, 1) := by decide +kernel
theorem dX6_load_22 : decode cX6_load 22 = .ok (.iadd, 1) := by decide +kernel
theorem dX6_load_23 : decode cX6_load 23 = .ok (.iaload, 1) := by decide +kernel
theorem dX6_load_24 : decode cX6_load 24 = .ok (.i2l, 1) := by decide +kernel
theorem dX6_load_25 : decode cX6_load 25 = .ok (.putfield 45, 3) := by decide +kernel
theorem dX6_load_28 : decode cX6_load 28 = .ok (.aload_n 0, 1) := by decide +kernel
theorem dX6_load_29 : decode cX6_load 29 = .ok (.aload_n 0, 1) := by decide +kernel
theorem dX6_load_30 : decode cX6_load 30 = .ok (.getfield 7, 3) := by decide +kernel
theorem dX6_load_33 : decode cX6_load 33 = .ok (.iconst 4, 1) := by decide +kernel
theorem dX6_load_34 : decode cX6_load 34 = .ok (.iload_n 1, 1) := by decide +kernel
theorem dX6_load_35 : decode cX6_load 35 = .ok (.imul, 1) := by decide +kernel
theorem dX6_load_36 : decode cX6_load 36 = .ok (.iconst 2, 1) := by decide +kernel
theorem dX6_load_37 : decode cX6_load 37 = .ok (.iadd, 1) := by decide +kernel
theorem dX6_load_38 : decode cX6_load 38 = .ok (.iaload, 1) := by decide +kernel
theorem dX6_load_39 : decode cX6_load 39 = .ok (.i2l, 1) := by decide +kernel
theorem dX6_load_40 : decode cX6_load 40 = .ok (.putfield 48, 3) := by decide +kernel
theorem dX6_load_43 : decode cX6_load 43 = .ok (.aload_n 0, 1) := by decide +kernel
theorem dX6_load_44 : decode cX6_load 44 = .ok (.aload_n 0, 1) := by decide +kernel
theorem dX6_load_45 : decode cX6_load 45 = .ok (.getfield 7, 3) := by decide +kernel
theorem dX6_load_48 : decode cX6_load 48 = .ok (.iconst 4, 1) := by decide +kernel
theorem dX6_load_49 : decode cX6_load 49 = .ok (.iload_n 1, 1) := by decide +kernel
theorem dX6_load_50 : decode cX6_load 50 = .ok (.imul, 1) := by decide +kernel
theorem dX6_load_51 : decode cX6_load 51 = .ok (.iconst 3, 1) := by decide +kernel
theorem dX6_load_52 : decode cX6_load 52 = .ok (.iadd, 1) := by decide +kernel
theorem dX6_load_53 : decode cX6_load 53 = .ok (.iaload, 1) := by decide +kernel
theorem dX6_load_54 : decode cX6_load 54 = .ok (.i2l, 1) := by decide +kernel
theorem dX6_load_55 : decode cX6_load 55 = .ok (.putfield 51, 3) := by decide +kernel
theorem dX6_load_58 : decode cX6_load 58 = .ok (.return_, 1) := by decide +kernel
theorem dX6_set_0 : decode cX6_set 0 = .ok (.aload_n 0, 1) := by decide +kernel
theorem dX6_set_1 : decode cX6_set 1 = .ok (.lload_n 1, 1) := by decide +kernel
theorem dX6_set_2 : decode cX6_set 2 = .ok (.putfield 41, 3) := by decide +kernel
theorem dX6_set_5 : decode cX6_set 5 = .ok (.aload_n 0, 1) := by decide +kernel
theorem dX6_set_6 : decode cX6_set 6 = .ok (.lload_n 3, 1) := by decide +kernel
theorem dX6_set_7 : decode cX6_set 7 = .ok (.putfield 45, 3) := by decide +kernel
theorem dX6_set_10 : decode cX6_set 10 = .ok (.aload_n 0, 1) := by decide +kernel
theorem dX6_set_11 : decode cX6_set 11 = .ok (.lload 5, 2) := by decide +kernel
theorem dX6_set_13 : decode cX6_set 13 = .ok (.putfield 48, 3) := by decide +kernel
theorem dX6_set_16 : decode cX6_set 16 = .ok (.aload_n 0, 1) := by decide +kernel
theorem dX6_set_17 : decode cX6_set 17 = .ok (.lload 7, 2) := by decide +kernel
theorem dX6_set_19 : decode cX6_set 19 = .ok (.putfield 51, 3) := by decide +kernel
theorem dX6_set_22 : decode cX6_set 22 = .ok (.return_, 1) := by decide +kernel
theorem dX6_store_0 : decode cX6_store 0 = .ok (.aload_n 0, 1) := by decide +kernel
theorem dX6_store_1 : decode cX6_store 1 = .ok (.getfield 41, 3) := by decide +kernel
theorem dX6_store_4 : decode cX6_store 4 = .ok (.invokestatic 54, 3) := by decide +kernel
theorem dX6_store_7 : decode cX6_store 7 = .ok (.ifCond .eq 33, 3) := by decide +kernel
theorem dX6_store_10 : decode cX6_store 10 = .ok (.aload_n 0, 1) := by decide +kernel
theorem dX6_store_11 : decode cX6_store 11 = .ok (.getfield 45, 3) := by decide +kernel
theorem dX6_store_14 : decode cX6_store 14 = .ok (.invokestatic 54, 3) := by decide +kernel
theorem dX6_store_17 : decode cX6_store 17 = .ok (.ifCond .eq 23, 3) := by decide +kernel
theorem dX6_store_20 : decode cX6_store 20 = .ok (.aload_n 0, 1) := by decide +kernel
theorem dX6_store_21 : decode cX6_store 21 = .ok (.getfield 48, 3) := by decide +kernel
theorem dX6_store_24 : decode cX6_store 24 = .ok (.invokestatic 54, 3) := by decide +kernel
theorem dX6_store_27 : decode cX6_store 27 = .ok (.ifCond .eq 13, 3) := by decide +kernel
theorem dX6_store_30 : decode cX6_store 30 = .ok (.aload_n 0, 1) := by decide +kernel
theorem dX6_store_31 : decode cX6_store 31 = .ok (.getfield 51, 3) := by decide +kernel
theorem dX6_store_34 : decode cX6_store 34 = .ok (.invokestatic 54, 3) := by decide +kernel
theorem dX6_store_37 : decode cX6_store 37 = .ok (.ifCond .ne 7, 3) := by decide +kernel
theorem dX6_store_40 : decode cX6_store 40 = .ok (.sipush (-10005), 3) := by decide +kernel
theorem dX6_store_43 : decode cX6_store 43 = .ok (.ireturn, 1) := by decide +kernel
theorem dX6_store_44 : decode cX6_store 44 = .ok (.aload_n 0, 1) := by decide +kernel
theorem dX6_store_45 : decode cX6_store 45 = .ok (.getfield 29, 3) := by decide +kernel
theorem dX6_store_48 : decode cX6_store 48 = .ok (.bipush 60, 2) := by decide +kernel
theorem dX6_store_50 : decode cX6_store 50 = .ok (.if_icmp .ne 7, 3) := by decide +kernel
theorem dX6_store_53 : decode cX6_store 53 = .ok (.sipush (-10004), 3) := by decide +kernel
theorem dX6_store_56 : decode cX6_store 56 = .ok (.ireturn, 1) := by decide +kernel
theorem dX6_store_57 : decode cX6_store 57 = .ok (.aload_n 0, 1) := by decide +kernel
theorem dX6_store_58 : decode cX6_store 58 = .ok (.getfield 7, 3) := by decide +kernel
theorem dX6_store_61 : decode cX6_store 61 = .ok (.iconst 4, 1) := by decide +kernel
theorem dX6_store_62 : decode cX6_store 62 = .ok (.aload_n 0, 1) := by decide +kernel
theorem dX6_store_63 : decode cX6_store 63 = .ok (.getfield 29, 3) := by decide +kernel
theorem dX6_store_66 : decode cX6_store 66 = .ok (.imul, 1) := by decide +kernel
theorem dX6_store_67 : decode cX6_store 67 = .ok (.aload_n 0, 1) := by decide +kernel
theorem dX6_store_68 : decode cX6_store 68 = .ok (.getfield 41, 3) := by decide +kernel
theorem dX6_store_71 : decode cX6_store 71 = .ok (.l2i, 1) := by decide +kernel
theorem dX6_store_72 : decode cX6_store 72 = .ok (.iastore, 1) := by decide +kernel
theorem dX6_store_73 : decode cX6_store 73 = .ok (.aload_n 0, 1) := by decide +kernel
theorem dX6_store_74 : decode cX6_store 74 = .ok (.getfield 7, 3) := by decide +kernel
theorem dX6_store_77 : decode cX6_store 77 = .ok (.iconst 4, 1) := by decide +kernel
theorem dX6_store_78 : decode cX6_store 78 = .ok (.aload_n 0, 1) := by decide +kernel
theorem dX6_store_79 : decode cX6_store 79 = .ok (.getfield 29, 3) := by decide +kernel
theorem dX6_store_82 : decode cX6_store 82 = .ok (.imul, 1) := by decide +kernel
theorem dX6_store_83 : decode cX6_store 83 = .ok (.iconst 1, 1) := by decide +kernel
theorem dX6_store_84 : decode cX6_store 84 = .ok (.iadd, 1) := by decide +kernel
theorem dX6_store_85 : decode cX6_store 85 = .ok (.aload_n 0, 1) := by decide +kernel
theorem dX6_store_86 : decode cX6_store 86 = .ok (.getfield 45, 3) := by decide +kernel
theorem dX6_store_89 : decode cX6_store 89 = .ok (.l2i, 1) := by decide +kernel
theorem dX6_store_90 : decode cX6_store 90 = .ok (.iastore, 1) := by decide +kernel
theorem dX6_store_91 : decode cX6_store 91 = .ok (.aload_n 0, 1) := by decide +kernel
theorem dX6_store_92 : decode cX6_store 92 = .ok (.getfield 7, 3) := by decide +kernel
theorem dX6_store_95 : decode cX6_store 95 = .ok (.iconst 4, 1) := by decide +kernel
theorem dX6_store_96 : decode cX6_store 96 = .ok (.aload_n 0, 1) := by decide +kernel
theorem dX6_store_97 : decode cX6_store 97 = .ok (.getfield 29, 3) := by decide +kernel
theorem dX6_store_100 : decode cX6_store 100 = .ok (.imul, 1) := by decide +kernel
theorem dX6_store_101 : decode cX6_store 101 = .ok (.iconst 2, 1) := by decide +kernel
theorem dX6_store_102 : decode cX6_store 102 = .ok (.iadd, 1) := by decide +kernel
theorem dX6_store_103 : decode cX6_store 103 = .ok (.aload_n 0, 1) := by decide +kernel
theorem dX6_store_104 : decode cX6_store 104 = .ok (.getfield 48, 3) := by decide +kernel
theorem dX6_store_107 : decode cX6_store 107 = .ok (.l2i, 1) := by decide +kernel
theorem dX6_store_108 : decode cX6_store 108 = .ok (.iastore, 1) := by decide +kernel
theorem dX6_store_109 : decode cX6_store 109 = .ok (.aload_n 0, 1) := by decide +kernel
theorem dX6_store_110 : decode cX6_store 110 = .ok (.getfield 7, 3) := by decide +kernel
theorem dX6_store_113 : decode cX6_store 113 = .ok (.iconst 4, 1) := by decide +kernel
theorem dX6_store_114 : decode cX6_store 114 = .ok (.aload_n 0, 1) := by decide +kernel
theorem dX6_store_115 : decode cX6_store 115 = .ok (.getfield 29, 3) := by decide +kernel
theorem dX6_store_118 : decode cX6_store 118 = .ok (.imul, 1) := by decide +kernel
theorem dX6_store_119 : decode cX6_store 119 = .ok (.iconst 3, 1) := by decide +kernel
theorem dX6_store_120 : decode cX6_store 120 = .ok (.iadd, 1) := by decide +kernel
theorem dX6_store_121 : decode cX6_store 121 = .ok (.aload_n 0, 1) := by decide +kernel
theorem dX6_store_122 : decode cX6_store 122 = .ok (.getfield 51, 3) := by decide +kernel
theorem dX6_store_125 : decode cX6_store 125 = .ok (.l2i, 1) := by decide +kernel
theorem dX6_store_126 : decode cX6_store 126 = .ok (.iastore, 1) := by decide +kernel
theorem dX6_store_127 : decode cX6_store 127 = .ok (.aload_n 0, 1) := by decide +kernel
theorem dX6_store_128 : decode cX6_store 128 = .ok (.dup, 1) := by decide +kernel
theorem dX6_store_129 : decode cX6_store 129 = .ok (.getfield 29, 3) := by decide +kernel
theorem dX6_store_132 : decode cX6_store 132 = .ok (.iconst 1, 1) := by decide +kernel
theorem dX6_store_133 : decode cX6_store 133 = .ok (.iadd, 1) := by decide +kernel
theorem dX6_store_134 : decode cX6_store 134 = .ok (.putfield 29, 3) := by decide +kernel
theorem dX6_store_137 : decode cX6_store 137 = .ok (.aload_n 0, 1) := by decide +kernel
theorem dX6_store_138 : decode cX6_store 138 = .ok (.getfield 29, 3) := by decide +kernel
theorem dX6_store_141 : decode cX6_store 141 = .ok (.iconst 1, 1) := by decide +kernel
theorem dX6_store_142 : decode cX6_store 142 = .ok (.isub, 1) := by decide +kernel
theorem dX6_store_143 : decode cX6_store 143 = .ok (.ireturn, 1) := by decide +kernel
theorem dX6_addForm_0 : decode cX6_addForm 0 = .ok (.aload_n 0, 1) := by decide +kernel
theorem dX6_addForm_1 : decode cX6_addForm 1 = .ok (.iload_n 1, 1) := by decide +kernel
theorem dX6_addForm_2 : decode cX6_addForm 2 = .ok (.i2l, 1) := by decide +kernel
theorem dX6_addForm_3 : decode cX6_addForm 3 = .ok (.iload_n 2, 1) := by decide +kernel
theorem dX6_addForm_4 : decode cX6_addForm 4 = .ok (.i2l, 1) := by decide +kernel
theorem dX6_addForm_5 : decode cX6_addForm 5 = .ok (.iload_n 3, 1) := by decide +kernel
theorem dX6_addForm_6 : decode cX6_addForm 6 = .ok (.i2l, 1) := by decide +kernel
theorem dX6_addForm_7 : decode cX6_addForm 7 = .ok (.iload 4, 2) := by decide +kernel
theorem dX6_addForm_9 : decode cX6_addForm 9 = .ok (.i2l, 1) := by decide +kernel
theorem dX6_addForm_10 : decode cX6_addForm 10 = .ok (.invokevirtual 58, 3) := by decide +kernel
theorem dX6_addForm_13 : decode cX6_addForm 13 = .ok (.aload_n 0, 1) := by decide +kernel
theorem dX6_addForm_14 : decode cX6_addForm 14 = .ok (.invokevirtual 62, 3) := by decide +kernel
theorem dX6_addForm_17 : decode cX6_addForm 17 = .ok (.istore 5, 2) := by decide +kernel
theorem dX6_addForm_19 : decode cX6_addForm 19 = .ok (.iload 5, 2) := by decide +kernel
theorem dX6_addForm_21 : decode cX6_addForm 21 = .ok (.sipush (-10005), 3) := by decide +kernel
theorem dX6_addForm_24 : decode cX6_addForm 24 = .ok (.if_icmp .ne 9, 3) := by decide +kernel
theorem dX6_addForm_27 : decode cX6_addForm 27 = .ok (.sipush (-10003), 3) := by decide +kernel
theorem dX6_addForm_30 : decode cX6_addForm 30 = .ok (.goto 5, 3) := by decide +kernel
theorem dX6_addForm_33 : decode cX6_addForm 33 = .ok (.iload 5, 2) := by decide +kernel
theorem dX6_addForm_35 : decode cX6_addForm 35 = .ok (.ireturn, 1) := by decide +kernel
theorem dX6_clearForms_0 : decode cX6_clearForms 0 = .ok (.aload_n 0, 1) := by decide +kernel
theorem dX6_clearForms_1 : decode cX6_clearForms 1 = .ok (.getfield 29, 3) := by decide +kernel
theorem dX6_clearForms_4 : decode cX6_clearForms 4 = .ok (.istore_n 1, 1) := by decide +kernel
theorem dX6_clearForms_5 : decode cX6_clearForms 5 = .ok (.aload_n 0, 1) := by decide +kernel
theorem dX6_clearForms_6 : decode cX6_clearForms 6 = .ok (.iconst 0, 1) := by decide +kernel
theorem dX6_clearForms_7 : decode cX6_clearForms 7 = .ok (.putfield 29, 3) := by decide +kernel
theorem dX6_clearForms_10 : decode cX6_clearForms 10 = .ok (.iload_n 1, 1) := by decide +kernel
theorem dX6_clearForms_11 : decode cX6_clearForms 11 = .ok (.ireturn, 1) := by decide +kernel
theorem dX6_coefficient_0 : decode cX6_coefficient 0 = .ok (.aload_n 0, 1) := by decide +kernel
theorem dX6_coefficient_1 : decode cX6_coefficient 1 = .ok (.iload_n 1, 1) := by decide +kernel
theorem dX6_coefficient_2 : decode cX6_coefficient 2 = .ok (.invokevirtual 66, 3) := by decide +kernel
theorem dX6_coefficient_5 : decode cX6_coefficient 5 = .ok (.ifCond .ne 7, 3) := by decide +kernel
theorem dX6_coefficient_8 : decode cX6_coefficient 8 = .ok (.sipush (-10001), 3) := by decide +kernel
theorem dX6_coefficient_11 : decode cX6_coefficient 11 = .ok (.ireturn, 1) := by decide +kernel
theorem dX6_coefficient_12 : decode cX6_coefficient 12 = .ok (.iload_n 2, 1) := by decide +kernel
theorem dX6_coefficient_13 : decode cX6_coefficient 13 = .ok (.i2l, 1) := by decide +kernel
theorem dX6_coefficient_14 : decode cX6_coefficient 14 = .ok (.lconst 0, 1) := by decide +kernel
theorem dX6_coefficient_15 : decode cX6_coefficient 15 = .ok (.ldc2_w 70, 3) := by decide +kernel
theorem dX6_coefficient_18 : decode cX6_coefficient 18 = .ok (.invokestatic 33, 3) := by decide +kernel
theorem dX6_coefficient_21 : decode cX6_coefficient 21 = .ok (.ifCond .eq 16, 3) := by decide +kernel
theorem dX6_coefficient_24 : decode cX6_coefficient 24 = .ok (.aload_n 0, 1) := by decide +kernel
theorem dX6_coefficient_25 : decode cX6_coefficient 25 = .ok (.getfield 7, 3) := by decide +kernel
theorem dX6_coefficient_28 : decode cX6_coefficient 28 = .ok (.iconst 4, 1) := by decide +kernel
theorem dX6_coefficient_29 : decode cX6_coefficient 29 = .ok (.iload_n 1, 1) := by decide +kernel
theorem dX6_coefficient_30 : decode cX6_coefficient 30 = .ok (.imul, 1) := by decide +kernel
theorem dX6_coefficient_31 : decode cX6_coefficient 31 = .ok (.iload_n 2, 1) := by decide +kernel
theorem dX6_coefficient_32 : decode cX6_coefficient 32 = .ok (.iadd, 1) := by decide +kernel
theorem dX6_coefficient_33 : decode cX6_coefficient 33 = .ok (.iaload, 1) := by decide +kernel
theorem dX6_coefficient_34 : decode cX6_coefficient 34 = .ok (.goto 6, 3) := by decide +kernel
theorem dX6_coefficient_37 : decode cX6_coefficient 37 = .ok (.sipush (-10003), 3) := by decide +kernel
theorem dX6_coefficient_40 : decode cX6_coefficient 40 = .ok (.ireturn, 1) := by decide +kernel
theorem dX6_discriminantNow_0 : decode cX6_discriminantNow 0 = .ok (.aload_n 0, 1) := by decide +kernel
theorem dX6_discriminantNow_1 : decode cX6_discriminantNow 1 = .ok (.getfield 45, 3) := by decide +kernel
theorem dX6_discriminantNow_4 : decode cX6_discriminantNow 4 = .ok (.aload_n 0, 1) := by decide +kernel
theorem dX6_discriminantNow_5 : decode cX6_discriminantNow 5 = .ok (.getfield 45, 3) := by decide +kernel
theorem dX6_discriminantNow_8 : decode cX6_discriminantNow 8 = .ok (.lmul, 1) := by decide +kernel
theorem dX6_discriminantNow_9 : decode cX6_discriminantNow 9 = .ok (.aload_n 0, 1) := by decide +kernel
theorem dX6_discriminantNow_10 : decode cX6_discriminantNow 10 = .ok (.getfield 48, 3) := by decide +kernel
theorem dX6_discriminantNow_13 : decode cX6_discriminantNow 13 = .ok (.lmul, 1) := by decide +kernel
theorem dX6_discriminantNow_14 : decode cX6_discriminantNow 14 = .ok (.aload_n 0, 1) := by decide +kernel
theorem dX6_discriminantNow_15 : decode cX6_discriminantNow 15 = .ok (.getfield 48, 3) := by decide +kernel
theorem dX6_discriminantNow_18 : decode cX6_discriminantNow 18 = .ok (.lmul, 1) := by decide +kernel
theorem dX6_discriminantNow_19 : decode cX6_discriminantNow 19 = .ok (.ldc2_w 72, 3) := by decide +kernel
theorem dX6_discriminantNow_22 : decode cX6_discriminantNow 22 = .ok (.aload_n 0, 1) := by decide +kernel
theorem dX6_discriminantNow_23 : decode cX6_discriminantNow 23 = .ok (.getfield 41, 3) := by decide +kernel
theorem dX6_discriminantNow_26 : decode cX6_discriminantNow 26 = .ok (.lmul, 1) := by decide +kernel
theorem dX6_discriminantNow_27 : decode cX6_discriminantNow 27 = .ok (.aload_n 0, 1) := by decide +kernel
theorem dX6_discriminantNow_28 : decode cX6_discriminantNow 28 = .ok (.getfield 48, 3) := by decide +kernel
theorem dX6_discriminantNow_31 : decode cX6_discriminantNow 31 = .ok (.lmul, 1) := by decide +kernel
theorem dX6_discriminantNow_32 : decode cX6_discriminantNow 32 = .ok (.aload_n 0, 1) := by decide +kernel
theorem dX6_discriminantNow_33 : decode cX6_discriminantNow 33 = .ok (.getfield 48, 3) := by decide +kernel
theorem dX6_discriminantNow_36 : decode cX6_discriminantNow 36 = .ok (.lmul, 1) := by decide +kernel
theorem dX6_discriminantNow_37 : decode cX6_discriminantNow 37 = .ok (.aload_n 0, 1) := by decide +kernel
theorem dX6_discriminantNow_38 : decode cX6_discriminantNow 38 = .ok (.getfield 48, 3) := by decide +kernel
theorem dX6_discriminantNow_41 : decode cX6_discriminantNow 41 = .ok (.lmul, 1) := by decide +kernel
theorem dX6_discriminantNow_42 : decode cX6_discriminantNow 42 = .ok (.lsub, 1) := by decide +kernel
theorem dX6_discriminantNow_43 : decode cX6_discriminantNow 43 = .ok (.ldc2_w 72, 3) := by decide +kernel
theorem dX6_discriminantNow_46 : decode cX6_discriminantNow 46 = .ok (.aload_n 0, 1) := by decide +kernel
theorem dX6_discriminantNow_47 : decode cX6_discriminantNow 47 = .ok (.getfield 45, 3) := by decide +kernel
theorem dX6_discriminantNow_50 : decode cX6_discriminantNow 50 = .ok (.lmul, 1) := by decide +kernel
theorem dX6_discriminantNow_51 : decode cX6_discriminantNow 51 = .ok (.aload_n 0, 1) := by decide +kernel
theorem dX6_discriminantNow_52 : decode cX6_discriminantNow 52 = .ok (.getfield 45, 3) := by decide +kernel
theorem dX6_discriminantNow_55 : decode cX6_discriminantNow 55 = .ok (.lmul, 1) := by decide +kernel
theorem dX6_discriminantNow_56 : decode cX6_discriminantNow 56 = .ok (.aload_n 0, 1) := by decide +kernel
theorem dX6_discriminantNow_57 : decode cX6_discriminantNow 57 = .ok (.getfield 45, 3) := by decide +kernel
theorem dX6_discriminantNow_60 : decode cX6_discriminantNow 60 = .ok (.lmul, 1) := by decide +kernel
theorem dX6_discriminantNow_61 : decode cX6_discriminantNow 61 = .ok (.aload_n 0, 1) := by decide +kernel
theorem dX6_discriminantNow_62 : decode cX6_discriminantNow 62 = .ok (.getfield 51, 3) := by decide +kernel
theorem dX6_discriminantNow_65 : decode cX6_discriminantNow 65 = .ok (.lmul, 1) := by decide +kernel
theorem dX6_discriminantNow_66 : decode cX6_discriminantNow 66 = .ok (.lsub, 1) := by decide +kernel
theorem dX6_discriminantNow_67 : decode cX6_discriminantNow 67 = .ok (.ldc2_w 74, 3) := by decide +kernel
theorem dX6_discriminantNow_70 : decode cX6_discriminantNow 70 = .ok (.aload_n 0, 1) := by decide +kernel
theorem dX6_discriminantNow_71 : decode cX6_discriminantNow 71 = .ok (.getfield 41, 3) := by decide +kernel
theorem dX6_discriminantNow_74 : decode cX6_discriminantNow 74 = .ok (.lmul, 1) := by decide +kernel
theorem dX6_discriminantNow_75 : decode cX6_discriminantNow 75 = .ok (.aload_n 0, 1) := by decide +kernel
theorem dX6_discriminantNow_76 : decode cX6_discriminantNow 76 = .ok (.getfield 41, 3) := by decide +kernel
theorem dX6_discriminantNow_79 : decode cX6_discriminantNow 79 = .ok (.lmul, 1) := by decide +kernel
theorem dX6_discriminantNow_80 : decode cX6_discriminantNow 80 = .ok (.aload_n 0, 1) := by decide +kernel
theorem dX6_discriminantNow_81 : decode cX6_discriminantNow 81 = .ok (.getfield 51, 3) := by decide +kernel
theorem dX6_discriminantNow_84 : decode cX6_discriminantNow 84 = .ok (.lmul, 1) := by decide +kernel
theorem dX6_discriminantNow_85 : decode cX6_discriminantNow 85 = .ok (.aload_n 0, 1) := by decide +kernel
theorem dX6_discriminantNow_86 : decode cX6_discriminantNow 86 = .ok (.getfield 51, 3) := by decide +kernel
theorem dX6_discriminantNow_89 : decode cX6_discriminantNow 89 = .ok (.lmul, 1) := by decide +kernel
theorem dX6_discriminantNow_90 : decode cX6_discriminantNow 90 = .ok (.lsub, 1) := by decide +kernel
theorem dX6_discriminantNow_91 : decode cX6_discriminantNow 91 = .ok (.ldc2_w 76, 3) := by decide +kernel
theorem dX6_discriminantNow_94 : decode cX6_discriminantNow 94 = .ok (.aload_n 0, 1) := by decide +kernel
theorem dX6_discriminantNow_95 : decode cX6_discriminantNow 95 = .ok (.getfield 41, 3) := by decide +kernel
theorem dX6_discriminantNow_98 : decode cX6_discriminantNow 98 = .ok (.lmul, 1) := by decide +kernel
theorem dX6_discriminantNow_99 : decode cX6_discriminantNow 99 = .ok (.aload_n 0, 1) := by decide +kernel
theorem dX6_discriminantNow_100 : decode cX6_discriminantNow 100 = .ok (.getfield 45, 3) := by decide +kernel
theorem dX6_discriminantNow_103 : decode cX6_discriminantNow 103 = .ok (.lmul, 1) := by decide +kernel
theorem dX6_discriminantNow_104 : decode cX6_discriminantNow 104 = .ok (.aload_n 0, 1) := by decide +kernel
theorem dX6_discriminantNow_105 : decode cX6_discriminantNow 105 = .ok (.getfield 48, 3) := by decide +kernel
theorem dX6_discriminantNow_108 : decode cX6_discriminantNow 108 = .ok (.lmul, 1) := by decide +kernel
theorem dX6_discriminantNow_109 : decode cX6_discriminantNow 109 = .ok (.aload_n 0, 1) := by decide +kernel
theorem dX6_discriminantNow_110 : decode cX6_discriminantNow 110 = .ok (.getfield 51, 3) := by decide +kernel
theorem dX6_discriminantNow_113 : decode cX6_discriminantNow 113 = .ok (.lmul, 1) := by decide +kernel
theorem dX6_discriminantNow_114 : decode cX6_discriminantNow 114 = .ok (.ladd, 1) := by decide +kernel
theorem dX6_discriminantNow_115 : decode cX6_discriminantNow 115 = .ok (.lreturn, 1) := by decide +kernel
theorem dX6_hessianP_0 : decode cX6_hessianP 0 = .ok (.aload_n 0, 1) := by decide +kernel
theorem dX6_hessianP_1 : decode cX6_hessianP 1 = .ok (.getfield 45, 3) := by decide +kernel
theorem dX6_hessianP_4 : decode cX6_hessianP 4 = .ok (.aload_n 0, 1) := by decide +kernel
theorem dX6_hessianP_5 : decode cX6_hessianP 5 = .ok (.getfield 45, 3) := by decide +kernel
theorem dX6_hessianP_8 : decode cX6_hessianP 8 = .ok (.lmul, 1) := by decide +kernel
theorem dX6_hessianP_9 : decode cX6_hessianP 9 = .ok (.ldc2_w 70, 3) := by decide +kernel
theorem dX6_hessianP_12 : decode cX6_hessianP 12 = .ok (.aload_n 0, 1) := by decide +kernel
theorem dX6_hessianP_13 : decode cX6_hessianP 13 = .ok (.getfield 41, 3) := by decide +kernel
theorem dX6_hessianP_16 : decode cX6_hessianP 16 = .ok (.lmul, 1) := by decide +kernel
theorem dX6_hessianP_17 : decode cX6_hessianP 17 = .ok (.aload_n 0, 1) := by decide +kernel
theorem dX6_hessianP_18 : decode cX6_hessianP 18 = .ok (.getfield 48, 3) := by decide +kernel
theorem dX6_hessianP_21 : decode cX6_hessianP 21 = .ok (.lmul, 1) := by decide +kernel
theorem dX6_hessianP_22 : decode cX6_hessianP 22 = .ok (.lsub, 1) := by decide +kernel
theorem dX6_hessianP_23 : decode cX6_hessianP 23 = .ok (.lreturn, 1) := by decide +kernel
theorem dX6_hessianQ_0 : decode cX6_hessianQ 0 = .ok (.aload_n 0, 1) := by decide +kernel
theorem dX6_hessianQ_1 : decode cX6_hessianQ 1 = .ok (.getfield 45, 3) := by decide +kernel
theorem dX6_hessianQ_4 : decode cX6_hessianQ 4 = .ok (.aload_n 0, 1) := by decide +kernel
theorem dX6_hessianQ_5 : decode cX6_hessianQ 5 = .ok (.getfield 48, 3) := by decide +kernel
theorem dX6_hessianQ_8 : decode cX6_hessianQ 8 = .ok (.lmul, 1) := by decide +kernel
theorem dX6_hessianQ_9 : decode cX6_hessianQ 9 = .ok (.ldc2_w 78, 3) := by decide +kernel
theorem dX6_hessianQ_12 : decode cX6_hessianQ 12 = .ok (.aload_n 0, 1) := by decide +kernel
theorem dX6_hessianQ_13 : decode cX6_hessianQ 13 = .ok (.getfield 41, 3) := by decide +kernel
theorem dX6_hessianQ_16 : decode cX6_hessianQ 16 = .ok (.lmul, 1) := by decide +kernel
theorem dX6_hessianQ_17 : decode cX6_hessianQ 17 = .ok (.aload_n 0, 1) := by decide +kernel
theorem dX6_hessianQ_18 : decode cX6_hessianQ 18 = .ok (.getfield 51, 3) := by decide +kernel
theorem dX6_hessianQ_21 : decode cX6_hessianQ 21 = .ok (.lmul, 1) := by decide +kernel
theorem dX6_hessianQ_22 : decode cX6_hessianQ 22 = .ok (.lsub, 1) := by decide +kernel
theorem dX6_hessianQ_23 : decode cX6_hessianQ 23 = .ok (.lreturn, 1) := by decide +kernel
theorem dX6_hessianR_0 : decode cX6_hessianR 0 = .ok (.aload_n 0, 1) := by decide +kernel
theorem dX6_hessianR_1 : decode cX6_hessianR 1 = .ok (.getfield 48, 3) := by decide +kernel
theorem dX6_hessianR_4 : decode cX6_hessianR 4 = .ok (.aload_n 0, 1) := by decide +kernel
theorem dX6_hessianR_5 : decode cX6_hessianR 5 = .ok (.getfield 48, 3) := by decide +kernel
theorem dX6_hessianR_8 : decode cX6_hessianR 8 = .ok (.lmul, 1) := by decide +kernel
theorem dX6_hessianR_9 : decode cX6_hessianR 9 = .ok (.ldc2_w 70, 3) := by decide +kernel
theorem dX6_hessianR_12 : decode cX6_hessianR 12 = .ok (.aload_n 0, 1) := by decide +kernel
theorem dX6_hessianR_13 : decode cX6_hessianR 13 = .ok (.getfield 45, 3) := by decide +kernel
theorem dX6_hessianR_16 : decode cX6_hessianR 16 = .ok (.lmul, 1) := by decide +kernel
theorem dX6_hessianR_17 : decode cX6_hessianR 17 = .ok (.aload_n 0, 1) := by decide +kernel
theorem dX6_hessianR_18 : decode cX6_hessianR 18 = .ok (.getfield 51, 3) := by decide +kernel
theorem dX6_hessianR_21 : decode cX6_hessianR 21 = .ok (.lmul, 1) := by decide +kernel
theorem dX6_hessianR_22 : decode cX6_hessianR 22 = .ok (.lsub, 1) := by decide +kernel
theorem dX6_hessianR_23 : decode cX6_hessianR 23 = .ok (.lreturn, 1) := by decide +kernel
theorem dX6_discriminant_0 : decode cX6_discriminant 0 = .ok (.aload_n 0, 1) := by decide +kernel
theorem dX6_discriminant_1 : decode cX6_discriminant 1 = .ok (.iload_n 1, 1) := by decide +kernel
theorem dX6_discriminant_2 : decode cX6_discriminant 2 = .ok (.invokevirtual 66, 3) := by decide +kernel
theorem dX6_discriminant_5 : decode cX6_discriminant 5 = .ok (.ifCond .ne 7, 3) := by decide +kernel
theorem dX6_discriminant_8 : decode cX6_discriminant 8 = .ok (.ldc2_w 80, 3) := by decide +kernel
theorem dX6_discriminant_11 : decode cX6_discriminant 11 = .ok (.lreturn, 1) := by decide +kernel
theorem dX6_discriminant_12 : decode cX6_discriminant 12 = .ok (.aload_n 0, 1) := by decide +kernel
theorem dX6_discriminant_13 : decode cX6_discriminant 13 = .ok (.iload_n 1, 1) := by decide +kernel
theorem dX6_discriminant_14 : decode cX6_discriminant 14 = .ok (.invokevirtual 82, 3) := by decide +kernel
theorem dX6_discriminant_17 : decode cX6_discriminant 17 = .ok (.aload_n 0, 1) := by decide +kernel
theorem dX6_discriminant_18 : decode cX6_discriminant 18 = .ok (.invokevirtual 86, 3) := by decide +kernel
theorem dX6_discriminant_21 : decode cX6_discriminant 21 = .ok (.lreturn, 1) := by decide +kernel
theorem dX6_hessian_0 : decode cX6_hessian 0 = .ok (.aload_n 0, 1) := by decide +kernel
theorem dX6_hessian_1 : decode cX6_hessian 1 = .ok (.iload_n 1, 1) := by decide +kernel
theorem dX6_hessian_2 : decode cX6_hessian 2 = .ok (.invokevirtual 66, 3) := by decide +kernel
theorem dX6_hessian_5 : decode cX6_hessian 5 = .ok (.ifCond .eq 15, 3) := by decide +kernel
theorem dX6_hessian_8 : decode cX6_hessian 8 = .ok (.iload_n 2, 1) := by decide +kernel
theorem dX6_hessian_9 : decode cX6_hessian 9 = .ok (.i2l, 1) := by decide +kernel
theorem dX6_hessian_10 : decode cX6_hessian 10 = .ok (.lconst 0, 1) := by decide +kernel
theorem dX6_hessian_11 : decode cX6_hessian 11 = .ok (.ldc2_w 90, 3) := by decide +kernel
theorem dX6_hessian_14 : decode cX6_hessian 14 = .ok (.invokestatic 33, 3) := by decide +kernel
theorem dX6_hessian_17 : decode cX6_hessian 17 = .ok (.ifCond .ne 7, 3) := by decide +kernel
theorem dX6_hessian_20 : decode cX6_hessian 20 = .ok (.ldc2_w 80, 3) := by decide +kernel
theorem dX6_hessian_23 : decode cX6_hessian 23 = .ok (.lreturn, 1) := by decide +kernel
theorem dX6_hessian_24 : decode cX6_hessian 24 = .ok (.aload_n 0, 1) := by decide +kernel
theorem dX6_hessian_25 : decode cX6_hessian 25 = .ok (.iload_n 1, 1) := by decide +kernel
theorem dX6_hessian_26 : decode cX6_hessian 26 = .ok (.invokevirtual 82, 3) := by decide +kernel
theorem dX6_hessian_29 : decode cX6_hessian 29 = .ok (.iload_n 2, 1) := by decide +kernel
theorem dX6_hessian_30 : decode cX6_hessian 30 = .ok (.ifCond .ne 10, 3) := by decide +kernel
theorem dX6_hessian_33 : decode cX6_hessian 33 = .ok (.aload_n 0, 1) := by decide +kernel
theorem dX6_hessian_34 : decode cX6_hessian 34 = .ok (.invokevirtual 92, 3) := by decide +kernel
theorem dX6_hessian_37 : decode cX6_hessian 37 = .ok (.goto 19, 3) := by decide +kernel
theorem dX6_hessian_40 : decode cX6_hessian 40 = .ok (.iload_n 2, 1) := by decide +kernel
theorem dX6_hessian_41 : decode cX6_hessian 41 = .ok (.iconst 1, 1) := by decide +kernel
theorem dX6_hessian_42 : decode cX6_hessian 42 = .ok (.if_icmp .ne 10, 3) := by decide +kernel
theorem dX6_hessian_45 : decode cX6_hessian 45 = .ok (.aload_n 0, 1) := by decide +kernel
theorem dX6_hessian_46 : decode cX6_hessian 46 = .ok (.invokevirtual 95, 3) := by decide +kernel
theorem dX6_hessian_49 : decode cX6_hessian 49 = .ok (.goto 7, 3) := by decide +kernel
theorem dX6_hessian_52 : decode cX6_hessian 52 = .ok (.aload_n 0, 1) := by decide +kernel
theorem dX6_hessian_53 : decode cX6_hessian 53 = .ok (.invokevirtual 98, 3) := by decide +kernel
theorem dX6_hessian_56 : decode cX6_hessian 56 = .ok (.lreturn, 1) := by decide +kernel
theorem dX6_valueNow_0 : decode cX6_valueNow 0 = .ok (.aload_n 0, 1) := by decide +kernel
theorem dX6_valueNow_1 : decode cX6_valueNow 1 = .ok (.getfield 41, 3) := by decide +kernel
theorem dX6_valueNow_4 : decode cX6_valueNow 4 = .ok (.lload_n 1, 1) := by decide +kernel
theorem dX6_valueNow_5 : decode cX6_valueNow 5 = .ok (.lmul, 1) := by decide +kernel
theorem dX6_valueNow_6 : decode cX6_valueNow 6 = .ok (.lload_n 1, 1) := by decide +kernel
theorem dX6_valueNow_7 : decode cX6_valueNow 7 = .ok (.lmul, 1) := by decide +kernel
theorem dX6_valueNow_8 : decode cX6_valueNow 8 = .ok (.lload_n 1, 1) := by decide +kernel
theorem dX6_valueNow_9 : decode cX6_valueNow 9 = .ok (.lmul, 1) := by decide +kernel
theorem dX6_valueNow_10 : decode cX6_valueNow 10 = .ok (.aload_n 0, 1) := by decide +kernel
theorem dX6_valueNow_11 : decode cX6_valueNow 11 = .ok (.getfield 45, 3) := by decide +kernel
theorem dX6_valueNow_14 : decode cX6_valueNow 14 = .ok (.lload_n 1, 1) := by decide +kernel
theorem dX6_valueNow_15 : decode cX6_valueNow 15 = .ok (.lmul, 1) := by decide +kernel
theorem dX6_valueNow_16 : decode cX6_valueNow 16 = .ok (.lload_n 1, 1) := by decide +kernel
theorem dX6_valueNow_17 : decode cX6_valueNow 17 = .ok (.lmul, 1) := by decide +kernel
theorem dX6_valueNow_18 : decode cX6_valueNow 18 = .ok (.lload_n 3, 1) := by decide +kernel
theorem dX6_valueNow_19 : decode cX6_valueNow 19 = .ok (.lmul, 1) := by decide +kernel
theorem dX6_valueNow_20 : decode cX6_valueNow 20 = .ok (.ladd, 1) := by decide +kernel
theorem dX6_valueNow_21 : decode cX6_valueNow 21 = .ok (.aload_n 0, 1) := by decide +kernel
theorem dX6_valueNow_22 : decode cX6_valueNow 22 = .ok (.getfield 48, 3) := by decide +kernel
theorem dX6_valueNow_25 : decode cX6_valueNow 25 = .ok (.lload_n 1, 1) := by decide +kernel
theorem dX6_valueNow_26 : decode cX6_valueNow 26 = .ok (.lmul, 1) := by decide +kernel
theorem dX6_valueNow_27 : decode cX6_valueNow 27 = .ok (.lload_n 3, 1) := by decide +kernel
theorem dX6_valueNow_28 : decode cX6_valueNow 28 = .ok (.lmul, 1) := by decide +kernel
theorem dX6_valueNow_29 : decode cX6_valueNow 29 = .ok (.lload_n 3, 1) := by decide +kernel
theorem dX6_valueNow_30 : decode cX6_valueNow 30 = .ok (.lmul, 1) := by decide +kernel
theorem dX6_valueNow_31 : decode cX6_valueNow 31 = .ok (.ladd, 1) := by decide +kernel
theorem dX6_valueNow_32 : decode cX6_valueNow 32 = .ok (.aload_n 0, 1) := by decide +kernel
theorem dX6_valueNow_33 : decode cX6_valueNow 33 = .ok (.getfield 51, 3) := by decide +kernel
theorem dX6_valueNow_36 : decode cX6_valueNow 36 = .ok (.lload_n 3, 1) := by decide +kernel
theorem dX6_valueNow_37 : decode cX6_valueNow 37 = .ok (.lmul, 1) := by decide +kernel
theorem dX6_valueNow_38 : decode cX6_valueNow 38 = .ok (.lload_n 3, 1) := by decide +kernel
theorem dX6_valueNow_39 : decode cX6_valueNow 39 = .ok (.lmul, 1) := by decide +kernel
theorem dX6_valueNow_40 : decode cX6_valueNow 40 = .ok (.lload_n 3, 1) := by decide +kernel
theorem dX6_valueNow_41 : decode cX6_valueNow 41 = .ok (.lmul, 1) := by decide +kernel
theorem dX6_valueNow_42 : decode cX6_valueNow 42 = .ok (.ladd, 1) := by decide +kernel
theorem dX6_valueNow_43 : decode cX6_valueNow 43 = .ok (.lreturn, 1) := by decide +kernel
theorem dX6_value_0 : decode cX6_value 0 = .ok (.aload_n 0, 1) := by decide +kernel
theorem dX6_value_1 : decode cX6_value 1 = .ok (.iload_n 1, 1) := by decide +kernel
theorem dX6_value_2 : decode cX6_value 2 = .ok (.invokevirtual 66, 3) := by decide +kernel
theorem dX6_value_5 : decode cX6_value 5 = .ok (.ifCond .eq 31, 3) := by decide +kernel
theorem dX6_value_8 : decode cX6_value 8 = .ok (.iload_n 2, 1) := by decide +kernel
theorem dX6_value_9 : decode cX6_value 9 = .ok (.i2l, 1) := by decide +kernel
theorem dX6_value_10 : decode cX6_value 10 = .ok (.ldc2_w 101, 3) := by decide +kernel
theorem dX6_value_13 : decode cX6_value 13 = .ok (.ldc2_w 103, 3) := by decide +kernel
theorem dX6_value_16 : decode cX6_value 16 = .ok (.invokestatic 33, 3) := by decide +kernel
theorem dX6_value_19 : decode cX6_value 19 = .ok (.ifCond .eq 17, 3) := by decide +kernel
theorem dX6_value_22 : decode cX6_value 22 = .ok (.iload_n 3, 1) := by decide +kernel
theorem dX6_value_23 : decode cX6_value 23 = .ok (.i2l, 1) := by decide +kernel
theorem dX6_value_24 : decode cX6_value 24 = .ok (.ldc2_w 101, 3) := by decide +kernel
theorem dX6_value_27 : decode cX6_value 27 = .ok (.ldc2_w 103, 3) := by decide +kernel
theorem dX6_value_30 : decode cX6_value 30 = .ok (.invokestatic 33, 3) := by decide +kernel
theorem dX6_value_33 : decode cX6_value 33 = .ok (.ifCond .ne 7, 3) := by decide +kernel
theorem dX6_value_36 : decode cX6_value 36 = .ok (.ldc2_w 80, 3) := by decide +kernel
theorem dX6_value_39 : decode cX6_value 39 = .ok (.lreturn, 1) := by decide +kernel
theorem dX6_value_40 : decode cX6_value 40 = .ok (.aload_n 0, 1) := by decide +kernel
theorem dX6_value_41 : decode cX6_value 41 = .ok (.iload_n 1, 1) := by decide +kernel
theorem dX6_value_42 : decode cX6_value 42 = .ok (.invokevirtual 82, 3) := by decide +kernel
theorem dX6_value_45 : decode cX6_value 45 = .ok (.aload_n 0, 1) := by decide +kernel
theorem dX6_value_46 : decode cX6_value 46 = .ok (.iload_n 2, 1) := by decide +kernel
theorem dX6_value_47 : decode cX6_value 47 = .ok (.i2l, 1) := by decide +kernel
theorem dX6_value_48 : decode cX6_value 48 = .ok (.iload_n 3, 1) := by decide +kernel
theorem dX6_value_49 : decode cX6_value 49 = .ok (.i2l, 1) := by decide +kernel
theorem dX6_value_50 : decode cX6_value 50 = .ok (.invokevirtual 105, 3) := by decide +kernel
theorem dX6_value_53 : decode cX6_value 53 = .ok (.lreturn, 1) := by decide +kernel
theorem dX6_apply_0 : decode cX6_apply 0 = .ok (.aload_n 0, 1) := by decide +kernel
theorem dX6_apply_1 : decode cX6_apply 1 = .ok (.lload_n 1, 1) := by decide +kernel
theorem dX6_apply_2 : decode cX6_apply 2 = .ok (.lload 5, 2) := by decide +kernel
theorem dX6_apply_4 : decode cX6_apply 4 = .ok (.invokevirtual 105, 3) := by decide +kernel
theorem dX6_apply_7 : decode cX6_apply 7 = .ok (.lstore 9, 2) := by decide +kernel
theorem dX6_apply_9 : decode cX6_apply 9 = .ok (.ldc2_w 70, 3) := by decide +kernel
theorem dX6_apply_12 : decode cX6_apply 12 = .ok (.aload_n 0, 1) := by decide +kernel
theorem dX6_apply_13 : decode cX6_apply 13 = .ok (.getfield 41, 3) := by decide +kernel
theorem dX6_apply_16 : decode cX6_apply 16 = .ok (.lmul, 1) := by decide +kernel
theorem dX6_apply_17 : decode cX6_apply 17 = .ok (.lload_n 1, 1) := by decide +kernel
theorem dX6_apply_18 : decode cX6_apply 18 = .ok (.lmul, 1) := by decide +kernel
theorem dX6_apply_19 : decode cX6_apply 19 = .ok (.lload_n 1, 1) := by decide +kernel
theorem dX6_apply_20 : decode cX6_apply 20 = .ok (.lmul, 1) := by decide +kernel
theorem dX6_apply_21 : decode cX6_apply 21 = .ok (.lload_n 3, 1) := by decide +kernel
theorem dX6_apply_22 : decode cX6_apply 22 = .ok (.lmul, 1) := by decide +kernel
theorem dX6_apply_23 : decode cX6_apply 23 = .ok (.aload_n 0, 1) := by decide +kernel
theorem dX6_apply_24 : decode cX6_apply 24 = .ok (.getfield 45, 3) := by decide +kernel
theorem dX6_apply_27 : decode cX6_apply 27 = .ok (.lload_n 1, 1) := by decide +kernel
theorem dX6_apply_28 : decode cX6_apply 28 = .ok (.lload_n 1, 1) := by decide +kernel
theorem dX6_apply_29 : decode cX6_apply 29 = .ok (.lmul, 1) := by decide +kernel
theorem dX6_apply_30 : decode cX6_apply 30 = .ok (.lload 7, 2) := by decide +kernel
theorem dX6_apply_32 : decode cX6_apply 32 = .ok (.lmul, 1) := by decide +kernel
theorem dX6_apply_33 : decode cX6_apply 33 = .ok (.ldc2_w 90, 3) := by decide +kernel
theorem dX6_apply_36 : decode cX6_apply 36 = .ok (.lload_n 1, 1) := by decide +kernel
theorem dX6_apply_37 : decode cX6_apply 37 = .ok (.lmul, 1) := by decide +kernel
theorem dX6_apply_38 : decode cX6_apply 38 = .ok (.lload_n 3, 1) := by decide +kernel
theorem dX6_apply_39 : decode cX6_apply 39 = .ok (.lmul, 1) := by decide +kernel
theorem dX6_apply_40 : decode cX6_apply 40 = .ok (.lload 5, 2) := by decide +kernel
theorem dX6_apply_42 : decode cX6_apply 42 = .ok (.lmul, 1) := by decide +kernel
theorem dX6_apply_43 : decode cX6_apply 43 = .ok (.ladd, 1) := by decide +kernel
theorem dX6_apply_44 : decode cX6_apply 44 = .ok (.lmul, 1) := by decide +kernel
theorem dX6_apply_45 : decode cX6_apply 45 = .ok (.ladd, 1) := by decide +kernel
theorem dX6_apply_46 : decode cX6_apply 46 = .ok (.aload_n 0, 1) := by decide +kernel
theorem dX6_apply_47 : decode cX6_apply 47 = .ok (.getfield 48, 3) := by decide +kernel
theorem dX6_apply_50 : decode cX6_apply 50 = .ok (.ldc2_w 90, 3) := by decide +kernel
theorem dX6_apply_53 : decode cX6_apply 53 = .ok (.lload_n 1, 1) := by decide +kernel
theorem dX6_apply_54 : decode cX6_apply 54 = .ok (.lmul, 1) := by decide +kernel
theorem dX6_apply_55 : decode cX6_apply 55 = .ok (.lload 5, 2) := by decide +kernel
theorem dX6_apply_57 : decode cX6_apply 57 = .ok (.lmul, 1) := by decide +kernel
theorem dX6_apply_58 : decode cX6_apply 58 = .ok (.lload 7, 2) := by decide +kernel
theorem dX6_apply_60 : decode cX6_apply 60 = .ok (.lmul, 1) := by decide +kernel
theorem dX6_apply_61 : decode cX6_apply 61 = .ok (.lload_n 3, 1) := by decide +kernel
theorem dX6_apply_62 : decode cX6_apply 62 = .ok (.lload 5, 2) := by decide +kernel
theorem dX6_apply_64 : decode cX6_apply 64 = .ok (.lmul, 1) := by decide +kernel
theorem dX6_apply_65 : decode cX6_apply 65 = .ok (.lload 5, 2) := by decide +kernel
theorem dX6_apply_67 : decode cX6_apply 67 = .ok (.lmul, 1) := by decide +kernel
theorem dX6_apply_68 : decode cX6_apply 68 = .ok (.ladd, 1) := by decide +kernel
theorem dX6_apply_69 : decode cX6_apply 69 = .ok (.lmul, 1) := by decide +kernel
theorem dX6_apply_70 : decode cX6_apply 70 = .ok (.ladd, 1) := by decide +kernel
theorem dX6_apply_71 : decode cX6_apply 71 = .ok (.ldc2_w 70, 3) := by decide +kernel
theorem dX6_apply_74 : decode cX6_apply 74 = .ok (.aload_n 0, 1) := by decide +kernel
theorem dX6_apply_75 : decode cX6_apply 75 = .ok (.getfield 51, 3) := by decide +kernel
theorem dX6_apply_78 : decode cX6_apply 78 = .ok (.lmul, 1) := by decide +kernel
theorem dX6_apply_79 : decode cX6_apply 79 = .ok (.lload 5, 2) := by decide +kernel
theorem dX6_apply_81 : decode cX6_apply 81 = .ok (.lmul, 1) := by decide +kernel
theorem dX6_apply_82 : decode cX6_apply 82 = .ok (.lload 5, 2) := by decide +kernel
theorem dX6_apply_84 : decode cX6_apply 84 = .ok (.lmul, 1) := by decide +kernel
theorem dX6_apply_85 : decode cX6_apply 85 = .ok (.lload 7, 2) := by decide +kernel
theorem dX6_apply_87 : decode cX6_apply 87 = .ok (.lmul, 1) := by decide +kernel
theorem dX6_apply_88 : decode cX6_apply 88 = .ok (.ladd, 1) := by decide +kernel
theorem dX6_apply_89 : decode cX6_apply 89 = .ok (.lstore 11, 2) := by decide +kernel
theorem dX6_apply_91 : decode cX6_apply 91 = .ok (.ldc2_w 70, 3) := by decide +kernel
theorem dX6_apply_94 : decode cX6_apply 94 = .ok (.aload_n 0, 1) := by decide +kernel
theorem dX6_apply_95 : decode cX6_apply 95 = .ok (.getfield 41, 3) := by decide +kernel
theorem dX6_apply_98 : decode cX6_apply 98 = .ok (.lmul, 1) := by decide +kernel
theorem dX6_apply_99 : decode cX6_apply 99 = .ok (.lload_n 1, 1) := by decide +kernel
theorem dX6_apply_100 : decode cX6_apply 100 = .ok (.lmul, 1) := by decide +kernel
theorem dX6_apply_101 : decode cX6_apply 101 = .ok (.lload_n 3, 1) := by decide +kernel
theorem dX6_apply_102 : decode cX6_apply 102 = .ok (.lmul, 1) := by decide +kernel
theorem dX6_apply_103 : decode cX6_apply 103 = .ok (.lload_n 3, 1) := by decide +kernel
theorem dX6_apply_104 : decode cX6_apply 104 = .ok (.lmul, 1) := by decide +kernel
theorem dX6_apply_105 : decode cX6_apply 105 = .ok (.aload_n 0, 1) := by decide +kernel
theorem dX6_apply_106 : decode cX6_apply 106 = .ok (.getfield 45, 3) := by decide +kernel
theorem dX6_apply_109 : decode cX6_apply 109 = .ok (.ldc2_w 90, 3) := by decide +kernel
theorem dX6_apply_112 : decode cX6_apply 112 = .ok (.lload_n 1, 1) := by decide +kernel
theorem dX6_apply_113 : decode cX6_apply 113 = .ok (.lmul, 1) := by decide +kernel
theorem dX6_apply_114 : decode cX6_apply 114 = .ok (.lload_n 3, 1) := by decide +kernel
theorem dX6_apply_115 : decode cX6_apply 115 = .ok (.lmul, 1) := by decide +kernel
theorem dX6_apply_116 : decode cX6_apply 116 = .ok (.lload 7, 2) := by decide +kernel
theorem dX6_apply_118 : decode cX6_apply 118 = .ok (.lmul, 1) := by decide +kernel
theorem dX6_apply_119 : decode cX6_apply 119 = .ok (.lload_n 3, 1) := by decide +kernel
theorem dX6_apply_120 : decode cX6_apply 120 = .ok (.lload_n 3, 1) := by decide +kernel
theorem dX6_apply_121 : decode cX6_apply 121 = .ok (.lmul, 1) := by decide +kernel
theorem dX6_apply_122 : decode cX6_apply 122 = .ok (.lload 5, 2) := by decide +kernel
theorem dX6_apply_124 : decode cX6_apply 124 = .ok (.lmul, 1) := by decide +kernel
theorem dX6_apply_125 : decode cX6_apply 125 = .ok (.ladd, 1) := by decide +kernel
theorem dX6_apply_126 : decode cX6_apply 126 = .ok (.lmul, 1) := by decide +kernel
theorem dX6_apply_127 : decode cX6_apply 127 = .ok (.ladd, 1) := by decide +kernel
theorem dX6_apply_128 : decode cX6_apply 128 = .ok (.aload_n 0, 1) := by decide +kernel
theorem dX6_apply_129 : decode cX6_apply 129 = .ok (.getfield 48, 3) := by decide +kernel
theorem dX6_apply_132 : decode cX6_apply 132 = .ok (.lload_n 1, 1) := by decide +kernel
theorem dX6_apply_133 : decode cX6_apply 133 = .ok (.lload 7, 2) := by decide +kernel
theorem dX6_apply_135 : decode cX6_apply 135 = .ok (.lmul, 1) := by decide +kernel
theorem dX6_apply_136 : decode cX6_apply 136 = .ok (.lload 7, 2) := by decide +kernel
theorem dX6_apply_138 : decode cX6_apply 138 = .ok (.lmul, 1) := by decide +kernel
theorem dX6_apply_139 : decode cX6_apply 139 = .ok (.ldc2_w 90, 3) := by decide +kernel
theorem dX6_apply_142 : decode cX6_apply 142 = .ok (.lload_n 3, 1) := by decide +kernel
theorem dX6_apply_143 : decode cX6_apply 143 = .ok (.lmul, 1) := by decide +kernel
theorem dX6_apply_144 : decode cX6_apply 144 = .ok (.lload 5, 2) := by decide +kernel
theorem dX6_apply_146 : decode cX6_apply 146 = .ok (.lmul, 1) := by decide +kernel
theorem dX6_apply_147 : decode cX6_apply 147 = .ok (.lload 7, 2) := by decide +kernel
theorem dX6_apply_149 : decode cX6_apply 149 = .ok (.lmul, 1) := by decide +kernel
theorem dX6_apply_150 : decode cX6_apply 150 = .ok (.ladd, 1) := by decide +kernel
theorem dX6_apply_151 : decode cX6_apply 151 = .ok (.lmul, 1) := by decide +kernel
theorem dX6_apply_152 : decode cX6_apply 152 = .ok (.ladd, 1) := by decide +kernel
theorem dX6_apply_153 : decode cX6_apply 153 = .ok (.ldc2_w 70, 3) := by decide +kernel
theorem dX6_apply_156 : decode cX6_apply 156 = .ok (.aload_n 0, 1) := by decide +kernel
theorem dX6_apply_157 : decode cX6_apply 157 = .ok (.getfield 51, 3) := by decide +kernel
theorem dX6_apply_160 : decode cX6_apply 160 = .ok (.lmul, 1) := by decide +kernel
theorem dX6_apply_161 : decode cX6_apply 161 = .ok (.lload 5, 2) := by decide +kernel
theorem dX6_apply_163 : decode cX6_apply 163 = .ok (.lmul, 1) := by decide +kernel
theorem dX6_apply_164 : decode cX6_apply 164 = .ok (.lload 7, 2) := by decide +kernel
theorem dX6_apply_166 : decode cX6_apply 166 = .ok (.lmul, 1) := by decide +kernel
theorem dX6_apply_167 : decode cX6_apply 167 = .ok (.lload 7, 2) := by decide +kernel
theorem dX6_apply_169 : decode cX6_apply 169 = .ok (.lmul, 1) := by decide +kernel
theorem dX6_apply_170 : decode cX6_apply 170 = .ok (.ladd, 1) := by decide +kernel
theorem dX6_apply_171 : decode cX6_apply 171 = .ok (.lstore 13, 2) := by decide +kernel
theorem dX6_apply_173 : decode cX6_apply 173 = .ok (.aload_n 0, 1) := by decide +kernel
theorem dX6_apply_174 : decode cX6_apply 174 = .ok (.lload_n 3, 1) := by decide +kernel
theorem dX6_apply_175 : decode cX6_apply 175 = .ok (.lload 7, 2) := by decide +kernel
theorem dX6_apply_177 : decode cX6_apply 177 = .ok (.invokevirtual 105, 3) := by decide +kernel
theorem dX6_apply_180 : decode cX6_apply 180 = .ok (.lstore 15, 2) := by decide +kernel
theorem dX6_apply_182 : decode cX6_apply 182 = .ok (.aload_n 0, 1) := by decide +kernel
theorem dX6_apply_183 : decode cX6_apply 183 = .ok (.lload 9, 2) := by decide +kernel
theorem dX6_apply_185 : decode cX6_apply 185 = .ok (.lload 11, 2) := by decide +kernel
theorem dX6_apply_187 : decode cX6_apply 187 = .ok (.lload 13, 2) := by decide +kernel
theorem dX6_apply_189 : decode cX6_apply 189 = .ok (.lload 15, 2) := by decide +kernel
theorem dX6_apply_191 : decode cX6_apply 191 = .ok (.invokevirtual 58, 3) := by decide +kernel
theorem dX6_apply_194 : decode cX6_apply 194 = .ok (.return_, 1) := by decide +kernel
theorem dX6_isUnit_0 : decode cX6_isUnit 0 = .ok (.iload_n 0, 1) := by decide +kernel
theorem dX6_isUnit_1 : decode cX6_isUnit 1 = .ok (.iload_n 3, 1) := by decide +kernel
theorem dX6_isUnit_2 : decode cX6_isUnit 2 = .ok (.imul, 1) := by decide +kernel
theorem dX6_isUnit_3 : decode cX6_isUnit 3 = .ok (.iload_n 1, 1) := by decide +kernel
theorem dX6_isUnit_4 : decode cX6_isUnit 4 = .ok (.iload_n 2, 1) := by decide +kernel
theorem dX6_isUnit_5 : decode cX6_isUnit 5 = .ok (.imul, 1) := by decide +kernel
theorem dX6_isUnit_6 : decode cX6_isUnit 6 = .ok (.isub, 1) := by decide +kernel
theorem dX6_isUnit_7 : decode cX6_isUnit 7 = .ok (.i2l, 1) := by decide +kernel
theorem dX6_isUnit_8 : decode cX6_isUnit 8 = .ok (.invokestatic 109, 3) := by decide +kernel
theorem dX6_isUnit_11 : decode cX6_isUnit 11 = .ok (.lconst 1, 1) := by decide +kernel
theorem dX6_isUnit_12 : decode cX6_isUnit 12 = .ok (.lcmp, 1) := by decide +kernel
theorem dX6_isUnit_13 : decode cX6_isUnit 13 = .ok (.ifCond .ne 7, 3) := by decide +kernel
theorem dX6_isUnit_16 : decode cX6_isUnit 16 = .ok (.iconst 1, 1) := by decide +kernel
theorem dX6_isUnit_17 : decode cX6_isUnit 17 = .ok (.goto 4, 3) := by decide +kernel
theorem dX6_isUnit_20 : decode cX6_isUnit 20 = .ok (.iconst 0, 1) := by decide +kernel
theorem dX6_isUnit_21 : decode cX6_isUnit 21 = .ok (.ireturn, 1) := by decide +kernel
theorem dX6_isEntry_0 : decode cX6_isEntry 0 = .ok (.iload_n 0, 1) := by decide +kernel
theorem dX6_isEntry_1 : decode cX6_isEntry 1 = .ok (.i2l, 1) := by decide +kernel
theorem dX6_isEntry_2 : decode cX6_isEntry 2 = .ok (.ldc2_w 113, 3) := by decide +kernel
theorem dX6_isEntry_5 : decode cX6_isEntry 5 = .ok (.ldc2_w 115, 3) := by decide +kernel
theorem dX6_isEntry_8 : decode cX6_isEntry 8 = .ok (.invokestatic 33, 3) := by decide +kernel
theorem dX6_isEntry_11 : decode cX6_isEntry 11 = .ok (.ireturn, 1) := by decide +kernel
theorem dX6_substitute_0 : decode cX6_substitute 0 = .ok (.aload_n 0, 1) := by decide +kernel
theorem dX6_substitute_1 : decode cX6_substitute 1 = .ok (.iload_n 1, 1) := by decide +kernel
theorem dX6_substitute_2 : decode cX6_substitute 2 = .ok (.invokevirtual 66, 3) := by decide +kernel
theorem dX6_substitute_5 : decode cX6_substitute 5 = .ok (.ifCond .ne 7, 3) := by decide +kernel
theorem dX6_substitute_8 : decode cX6_substitute 8 = .ok (.sipush (-10001), 3) := by decide +kernel
theorem dX6_substitute_11 : decode cX6_substitute 11 = .ok (.ireturn, 1) := by decide +kernel
theorem dX6_substitute_12 : decode cX6_substitute 12 = .ok (.iload_n 2, 1) := by decide +kernel
theorem dX6_substitute_13 : decode cX6_substitute 13 = .ok (.invokestatic 117, 3) := by decide +kernel
theorem dX6_substitute_16 : decode cX6_substitute 16 = .ok (.ifCond .eq 38, 3) := by decide +kernel
theorem dX6_substitute_19 : decode cX6_substitute 19 = .ok (.iload_n 3, 1) := by decide +kernel
theorem dX6_substitute_20 : decode cX6_substitute 20 = .ok (.invokestatic 117, 3) := by decide +kernel
theorem dX6_substitute_23 : decode cX6_substitute 23 = .ok (.ifCond .eq 31, 3) := by decide +kernel
theorem dX6_substitute_26 : decode cX6_substitute 26 = .ok (.iload 4, 2) := by decide +kernel
theorem dX6_substitute_28 : decode cX6_substitute 28 = .ok (.invokestatic 117, 3) := by decide +kernel
theorem dX6_substitute_31 : decode cX6_substitute 31 = .ok (.ifCond .eq 23, 3) := by decide +kernel
theorem dX6_substitute_34 : decode cX6_substitute 34 = .ok (.iload 5, 2) := by decide +kernel
theorem dX6_substitute_36 : decode cX6_substitute 36 = .ok (.invokestatic 117, 3) := by decide +kernel
theorem dX6_substitute_39 : decode cX6_substitute 39 = .ok (.ifCond .eq 15, 3) := by decide +kernel
theorem dX6_substitute_42 : decode cX6_substitute 42 = .ok (.iload_n 2, 1) := by decide +kernel
theorem dX6_substitute_43 : decode cX6_substitute 43 = .ok (.iload_n 3, 1) := by decide +kernel
theorem dX6_substitute_44 : decode cX6_substitute 44 = .ok (.iload 4, 2) := by decide +kernel
theorem dX6_substitute_46 : decode cX6_substitute 46 = .ok (.iload 5, 2) := by decide +kernel
theorem dX6_substitute_48 : decode cX6_substitute 48 = .ok (.invokestatic 120, 3) := by decide +kernel
theorem dX6_substitute_51 : decode cX6_substitute 51 = .ok (.ifCond .ne 7, 3) := by decide +kernel
theorem dX6_substitute_54 : decode cX6_substitute 54 = .ok (.sipush (-10003), 3) := by decide +kernel
theorem dX6_substitute_57 : decode cX6_substitute 57 = .ok (.ireturn, 1) := by decide +kernel
theorem dX6_substitute_58 : decode cX6_substitute 58 = .ok (.aload_n 0, 1) := by decide +kernel
theorem dX6_substitute_59 : decode cX6_substitute 59 = .ok (.iload_n 1, 1) := by decide +kernel
theorem dX6_substitute_60 : decode cX6_substitute 60 = .ok (.invokevirtual 82, 3) := by decide +kernel
theorem dX6_substitute_63 : decode cX6_substitute 63 = .ok (.aload_n 0, 1) := by decide +kernel
theorem dX6_substitute_64 : decode cX6_substitute 64 = .ok (.iload_n 2, 1) := by decide +kernel
theorem dX6_substitute_65 : decode cX6_substitute 65 = .ok (.i2l, 1) := by decide +kernel
theorem dX6_substitute_66 : decode cX6_substitute 66 = .ok (.iload_n 3, 1) := by decide +kernel
theorem dX6_substitute_67 : decode cX6_substitute 67 = .ok (.i2l, 1) := by decide +kernel
theorem dX6_substitute_68 : decode cX6_substitute 68 = .ok (.iload 4, 2) := by decide +kernel
theorem dX6_substitute_70 : decode cX6_substitute 70 = .ok (.i2l, 1) := by decide +kernel
theorem dX6_substitute_71 : decode cX6_substitute 71 = .ok (.iload 5, 2) := by decide +kernel
theorem dX6_substitute_73 : decode cX6_substitute 73 = .ok (.i2l, 1) := by decide +kernel
theorem dX6_substitute_74 : decode cX6_substitute 74 = .ok (.invokevirtual 124, 3) := by decide +kernel
theorem dX6_substitute_77 : decode cX6_substitute 77 = .ok (.aload_n 0, 1) := by decide +kernel
theorem dX6_substitute_78 : decode cX6_substitute 78 = .ok (.invokevirtual 62, 3) := by decide +kernel
theorem dX6_substitute_81 : decode cX6_substitute 81 = .ok (.ireturn, 1) := by decide +kernel
theorem dX6_isReducibleNow_0 : decode cX6_isReducibleNow 0 = .ok (.aload_n 0, 1) := by decide +kernel
theorem dX6_isReducibleNow_1 : decode cX6_isReducibleNow 1 = .ok (.getfield 41, 3) := by decide +kernel
theorem dX6_isReducibleNow_4 : decode cX6_isReducibleNow 4 = .ok (.lconst 0, 1) := by decide +kernel
theorem dX6_isReducibleNow_5 : decode cX6_isReducibleNow 5 = .ok (.lcmp, 1) := by decide +kernel
theorem dX6_isReducibleNow_6 : decode cX6_isReducibleNow 6 = .ok (.ifCond .eq 12, 3) := by decide +kernel
theorem dX6_isReducibleNow_9 : decode cX6_isReducibleNow 9 = .ok (.aload_n 0, 1) := by decide +kernel
theorem dX6_isReducibleNow_10 : decode cX6_isReducibleNow 10 = .ok (.getfield 51, 3) := by decide +kernel
theorem dX6_isReducibleNow_13 : decode cX6_isReducibleNow 13 = .ok (.lconst 0, 1) := by decide +kernel
theorem dX6_isReducibleNow_14 : decode cX6_isReducibleNow 14 = .ok (.lcmp, 1) := by decide +kernel
theorem dX6_isReducibleNow_15 : decode cX6_isReducibleNow 15 = .ok (.ifCond .ne 5, 3) := by decide +kernel
theorem dX6_isReducibleNow_18 : decode cX6_isReducibleNow 18 = .ok (.iconst 1, 1) := by decide +kernel
theorem dX6_isReducibleNow_19 : decode cX6_isReducibleNow 19 = .ok (.ireturn, 1) := by decide +kernel
theorem dX6_isReducibleNow_20 : decode cX6_isReducibleNow 20 = .ok (.lconst 1, 1) := by decide +kernel
theorem dX6_isReducibleNow_21 : decode cX6_isReducibleNow 21 = .ok (.lstore_n 1, 1) := by decide +kernel
theorem dX6_isReducibleNow_22 : decode cX6_isReducibleNow 22 = .ok (.lload_n 1, 1) := by decide +kernel
theorem dX6_isReducibleNow_23 : decode cX6_isReducibleNow 23 = .ok (.aload_n 0, 1) := by decide +kernel
theorem dX6_isReducibleNow_24 : decode cX6_isReducibleNow 24 = .ok (.getfield 41, 3) := by decide +kernel
theorem dX6_isReducibleNow_27 : decode cX6_isReducibleNow 27 = .ok (.invokestatic 109, 3) := by decide +kernel
theorem dX6_isReducibleNow_30 : decode cX6_isReducibleNow 30 = .ok (.lcmp, 1) := by decide +kernel
theorem dX6_isReducibleNow_31 : decode cX6_isReducibleNow 31 = .ok (.ifCond .gt 78, 3) := by decide +kernel
theorem dX6_isReducibleNow_34 : decode cX6_isReducibleNow 34 = .ok (.lconst 1, 1) := by decide +kernel
theorem dX6_isReducibleNow_35 : decode cX6_isReducibleNow 35 = .ok (.lstore_n 3, 1) := by decide +kernel
theorem dX6_isReducibleNow_36 : decode cX6_isReducibleNow 36 = .ok (.lload_n 3, 1) := by decide +kernel
theorem dX6_isReducibleNow_37 : decode cX6_isReducibleNow 37 = .ok (.aload_n 0, 1) := by decide +kernel
theorem dX6_isReducibleNow_38 : decode cX6_isReducibleNow 38 = .ok (.getfield 51, 3) := by decide +kernel
theorem dX6_isReducibleNow_41 : decode cX6_isReducibleNow 41 = .ok (.invokestatic 109, 3) := by decide +kernel
theorem dX6_isReducibleNow_44 : decode cX6_isReducibleNow 44 = .ok (.lcmp, 1) := by decide +kernel
theorem dX6_isReducibleNow_45 : decode cX6_isReducibleNow 45 = .ok (.ifCond .gt 57, 3) := by decide +kernel
theorem dX6_isReducibleNow_48 : decode cX6_isReducibleNow 48 = .ok (.aload_n 0, 1) := by decide +kernel
theorem dX6_isReducibleNow_49 : decode cX6_isReducibleNow 49 = .ok (.getfield 41, 3) := by decide +kernel
theorem dX6_isReducibleNow_52 : decode cX6_isReducibleNow 52 = .ok (.lload_n 1, 1) := by decide +kernel
theorem dX6_isReducibleNow_53 : decode cX6_isReducibleNow 53 = .ok (.lrem, 1) := by decide +kernel
theorem dX6_isReducibleNow_54 : decode cX6_isReducibleNow 54 = .ok (.lconst 0, 1) := by decide +kernel
theorem dX6_isReducibleNow_55 : decode cX6_isReducibleNow 55 = .ok (.lcmp, 1) := by decide +kernel
theorem dX6_isReducibleNow_56 : decode cX6_isReducibleNow 56 = .ok (.ifCond .ne 46, 3) := by decide +kernel
theorem dX6_isReducibleNow_59 : decode cX6_isReducibleNow 59 = .ok (.aload_n 0, 1) := by decide +kernel
theorem dX6_isReducibleNow_60 : decode cX6_isReducibleNow 60 = .ok (.getfield 51, 3) := by decide +kernel
theorem dX6_isReducibleNow_63 : decode cX6_isReducibleNow 63 = .ok (.lload_n 3, 1) := by decide +kernel
theorem dX6_isReducibleNow_64 : decode cX6_isReducibleNow 64 = .ok (.lrem, 1) := by decide +kernel
theorem dX6_isReducibleNow_65 : decode cX6_isReducibleNow 65 = .ok (.lconst 0, 1) := by decide +kernel
theorem dX6_isReducibleNow_66 : decode cX6_isReducibleNow 66 = .ok (.lcmp, 1) := by decide +kernel
theorem dX6_isReducibleNow_67 : decode cX6_isReducibleNow 67 = .ok (.ifCond .ne 28, 3) := by decide +kernel
theorem dX6_isReducibleNow_70 : decode cX6_isReducibleNow 70 = .ok (.aload_n 0, 1) := by decide +kernel
theorem dX6_isReducibleNow_71 : decode cX6_isReducibleNow 71 = .ok (.lload_n 3, 1) := by decide +kernel
theorem dX6_isReducibleNow_72 : decode cX6_isReducibleNow 72 = .ok (.lload_n 1, 1) := by decide +kernel
theorem dX6_isReducibleNow_73 : decode cX6_isReducibleNow 73 = .ok (.invokevirtual 105, 3) := by decide +kernel
theorem dX6_isReducibleNow_76 : decode cX6_isReducibleNow 76 = .ok (.lconst 0, 1) := by decide +kernel
theorem dX6_isReducibleNow_77 : decode cX6_isReducibleNow 77 = .ok (.lcmp, 1) := by decide +kernel
theorem dX6_isReducibleNow_78 : decode cX6_isReducibleNow 78 = .ok (.ifCond .eq 15, 3) := by decide +kernel
theorem dX6_isReducibleNow_81 : decode cX6_isReducibleNow 81 = .ok (.aload_n 0, 1) := by decide +kernel
theorem dX6_isReducibleNow_82 : decode cX6_isReducibleNow 82 = .ok (.lload_n 3, 1) := by decide +kernel
theorem dX6_isReducibleNow_83 : decode cX6_isReducibleNow 83 = .ok (.lneg, 1) := by decide +kernel
theorem dX6_isReducibleNow_84 : decode cX6_isReducibleNow 84 = .ok (.lload_n 1, 1) := by decide +kernel
theorem dX6_isReducibleNow_85 : decode cX6_isReducibleNow 85 = .ok (.invokevirtual 105, 3) := by decide +kernel
theorem dX6_isReducibleNow_88 : decode cX6_isReducibleNow 88 = .ok (.lconst 0, 1) := by decide +kernel
theorem dX6_isReducibleNow_89 : decode cX6_isReducibleNow 89 = .ok (.lcmp, 1) := by decide +kernel
theorem dX6_isReducibleNow_90 : decode cX6_isReducibleNow 90 = .ok (.ifCond .ne 5, 3) := by decide +kernel
theorem dX6_isReducibleNow_93 : decode cX6_isReducibleNow 93 = .ok (.iconst 1, 1) := by decide +kernel
theorem dX6_isReducibleNow_94 : decode cX6_isReducibleNow 94 = .ok (.ireturn, 1) := by decide +kernel
theorem dX6_isReducibleNow_95 : decode cX6_isReducibleNow 95 = .ok (.lload_n 3, 1) := by decide +kernel
theorem dX6_isReducibleNow_96 : decode cX6_isReducibleNow 96 = .ok (.lconst 1, 1) := by decide +kernel
theorem dX6_isReducibleNow_97 : decode cX6_isReducibleNow 97 = .ok (.ladd, 1) := by decide +kernel
theorem dX6_isReducibleNow_98 : decode cX6_isReducibleNow 98 = .ok (.lstore_n 3, 1) := by decide +kernel
theorem dX6_isReducibleNow_99 : decode cX6_isReducibleNow 99 = .ok (.goto (-63), 3) := by decide +kernel
theorem dX6_isReducibleNow_102 : decode cX6_isReducibleNow 102 = .ok (.lload_n 1, 1) := by decide +kernel
theorem dX6_isReducibleNow_103 : decode cX6_isReducibleNow 103 = .ok (.lconst 1, 1) := by decide +kernel
theorem dX6_isReducibleNow_104 : decode cX6_isReducibleNow 104 = .ok (.ladd, 1) := by decide +kernel
theorem dX6_isReducibleNow_105 : decode cX6_isReducibleNow 105 = .ok (.lstore_n 1, 1) := by decide +kernel
theorem dX6_isReducibleNow_106 : decode cX6_isReducibleNow 106 = .ok (.goto (-84), 3) := by decide +kernel
theorem dX6_isReducibleNow_109 : decode cX6_isReducibleNow 109 = .ok (.iconst 0, 1) := by decide +kernel
theorem dX6_isReducibleNow_110 : decode cX6_isReducibleNow 110 = .ok (.ireturn, 1) := by decide +kernel
theorem dX6_isReducible_0 : decode cX6_isReducible 0 = .ok (.aload_n 0, 1) := by decide +kernel
theorem dX6_isReducible_1 : decode cX6_isReducible 1 = .ok (.iload_n 1, 1) := by decide +kernel
theorem dX6_isReducible_2 : decode cX6_isReducible 2 = .ok (.invokevirtual 66, 3) := by decide +kernel
theorem dX6_isReducible_5 : decode cX6_isReducible 5 = .ok (.ifCond .ne 7, 3) := by decide +kernel
theorem dX6_isReducible_8 : decode cX6_isReducible 8 = .ok (.sipush (-10001), 3) := by decide +kernel
theorem dX6_isReducible_11 : decode cX6_isReducible 11 = .ok (.ireturn, 1) := by decide +kernel
theorem dX6_isReducible_12 : decode cX6_isReducible 12 = .ok (.aload_n 0, 1) := by decide +kernel
theorem dX6_isReducible_13 : decode cX6_isReducible 13 = .ok (.iload_n 1, 1) := by decide +kernel
theorem dX6_isReducible_14 : decode cX6_isReducible 14 = .ok (.invokevirtual 82, 3) := by decide +kernel
theorem dX6_isReducible_17 : decode cX6_isReducible 17 = .ok (.aload_n 0, 1) := by decide +kernel
theorem dX6_isReducible_18 : decode cX6_isReducible 18 = .ok (.invokevirtual 127, 3) := by decide +kernel
theorem dX6_isReducible_21 : decode cX6_isReducible 21 = .ok (.ifCond .eq 7, 3) := by decide +kernel
theorem dX6_isReducible_24 : decode cX6_isReducible 24 = .ok (.iconst 1, 1) := by decide +kernel
theorem dX6_isReducible_25 : decode cX6_isReducible 25 = .ok (.goto 4, 3) := by decide +kernel
theorem dX6_isReducible_28 : decode cX6_isReducible 28 = .ok (.iconst 0, 1) := by decide +kernel
theorem dX6_isReducible_29 : decode cX6_isReducible 29 = .ok (.ireturn, 1) := by decide +kernel
theorem dX6_isReducedNow_0 : decode cX6_isReducedNow 0 = .ok (.aload_n 0, 1) := by decide +kernel
theorem dX6_isReducedNow_1 : decode cX6_isReducedNow 1 = .ok (.invokevirtual 95, 3) := by decide +kernel
theorem dX6_isReducedNow_4 : decode cX6_isReducedNow 4 = .ok (.invokestatic 109, 3) := by decide +kernel
theorem dX6_isReducedNow_7 : decode cX6_isReducedNow 7 = .ok (.aload_n 0, 1) := by decide +kernel
theorem dX6_isReducedNow_8 : decode cX6_isReducedNow 8 = .ok (.invokevirtual 92, 3) := by decide +kernel
theorem dX6_isReducedNow_11 : decode cX6_isReducedNow 11 = .ok (.lcmp, 1) := by decide +kernel
theorem dX6_isReducedNow_12 : decode cX6_isReducedNow 12 = .ok (.ifCond .gt 19, 3) := by decide +kernel
theorem dX6_isReducedNow_15 : decode cX6_isReducedNow 15 = .ok (.aload_n 0, 1) := by decide +kernel
theorem dX6_isReducedNow_16 : decode cX6_isReducedNow 16 = .ok (.invokevirtual 92, 3) := by decide +kernel
theorem dX6_isReducedNow_19 : decode cX6_isReducedNow 19 = .ok (.aload_n 0, 1) := by decide +kernel
theorem dX6_isReducedNow_20 : decode cX6_isReducedNow 20 = .ok (.invokevirtual 98, 3) := by decide +kernel
theorem dX6_isReducedNow_23 : decode cX6_isReducedNow 23 = .ok (.lcmp, 1) := by decide +kernel
theorem dX6_isReducedNow_24 : decode cX6_isReducedNow 24 = .ok (.ifCond .gt 7, 3) := by decide +kernel
theorem dX6_isReducedNow_27 : decode cX6_isReducedNow 27 = .ok (.iconst 1, 1) := by decide +kernel
theorem dX6_isReducedNow_28 : decode cX6_isReducedNow 28 = .ok (.goto 4, 3) := by decide +kernel
theorem dX6_isReducedNow_31 : decode cX6_isReducedNow 31 = .ok (.iconst 0, 1) := by decide +kernel
theorem dX6_isReducedNow_32 : decode cX6_isReducedNow 32 = .ok (.ireturn, 1) := by decide +kernel
theorem dX6_floor_0 : decode cX6_floor 0 = .ok (.lload_n 0, 1) := by decide +kernel
theorem dX6_floor_1 : decode cX6_floor 1 = .ok (.lload_n 2, 1) := by decide +kernel
theorem dX6_floor_2 : decode cX6_floor 2 = .ok (.ldiv, 1) := by decide +kernel
theorem dX6_floor_3 : decode cX6_floor 3 = .ok (.lstore 4, 2) := by decide +kernel
theorem dX6_floor_5 : decode cX6_floor 5 = .ok (.lload 4, 2) := by decide +kernel
theorem dX6_floor_7 : decode cX6_floor 7 = .ok (.lload_n 2, 1) := by decide +kernel
theorem dX6_floor_8 : decode cX6_floor 8 = .ok (.lmul, 1) := by decide +kernel
theorem dX6_floor_9 : decode cX6_floor 9 = .ok (.lload_n 0, 1) := by decide +kernel
theorem dX6_floor_10 : decode cX6_floor 10 = .ok (.lcmp, 1) := by decide +kernel
theorem dX6_floor_11 : decode cX6_floor 11 = .ok (.ifCond .le 10, 3) := by decide +kernel
theorem dX6_floor_14 : decode cX6_floor 14 = .ok (.lload 4, 2) := by decide +kernel
theorem dX6_floor_16 : decode cX6_floor 16 = .ok (.lconst 1, 1) := by decide +kernel
theorem dX6_floor_17 : decode cX6_floor 17 = .ok (.lsub, 1) := by decide +kernel
theorem dX6_floor_18 : decode cX6_floor 18 = .ok (.goto 5, 3) := by decide +kernel
theorem dX6_floor_21 : decode cX6_floor 21 = .ok (.lload 4, 2) := by decide +kernel
theorem dX6_floor_23 : decode cX6_floor 23 = .ok (.lreturn, 1) := by decide +kernel
theorem dX6_reduce_0 : decode cX6_reduce 0 = .ok (.aload_n 0, 1) := by decide +kernel
theorem dX6_reduce_1 : decode cX6_reduce 1 = .ok (.invokevirtual 131, 3) := by decide +kernel
theorem dX6_reduce_4 : decode cX6_reduce 4 = .ok (.ifCond .ne 59, 3) := by decide +kernel
theorem dX6_reduce_7 : decode cX6_reduce 7 = .ok (.aload_n 0, 1) := by decide +kernel
theorem dX6_reduce_8 : decode cX6_reduce 8 = .ok (.invokevirtual 95, 3) := by decide +kernel
theorem dX6_reduce_11 : decode cX6_reduce 11 = .ok (.invokestatic 109, 3) := by decide +kernel
theorem dX6_reduce_14 : decode cX6_reduce 14 = .ok (.aload_n 0, 1) := by decide +kernel
theorem dX6_reduce_15 : decode cX6_reduce 15 = .ok (.invokevirtual 92, 3) := by decide +kernel
theorem dX6_reduce_18 : decode cX6_reduce 18 = .ok (.lcmp, 1) := by decide +kernel
theorem dX6_reduce_19 : decode cX6_reduce 19 = .ok (.ifCond .le 33, 3) := by decide +kernel
theorem dX6_reduce_22 : decode cX6_reduce 22 = .ok (.aload_n 0, 1) := by decide +kernel
theorem dX6_reduce_23 : decode cX6_reduce 23 = .ok (.lconst 1, 1) := by decide +kernel
theorem dX6_reduce_24 : decode cX6_reduce 24 = .ok (.aload_n 0, 1) := by decide +kernel
theorem dX6_reduce_25 : decode cX6_reduce 25 = .ok (.invokevirtual 92, 3) := by decide +kernel
theorem dX6_reduce_28 : decode cX6_reduce 28 = .ok (.aload_n 0, 1) := by decide +kernel
theorem dX6_reduce_29 : decode cX6_reduce 29 = .ok (.invokevirtual 95, 3) := by decide +kernel
theorem dX6_reduce_32 : decode cX6_reduce 32 = .ok (.lsub, 1) := by decide +kernel
theorem dX6_reduce_33 : decode cX6_reduce 33 = .ok (.ldc2_w 90, 3) := by decide +kernel
theorem dX6_reduce_36 : decode cX6_reduce 36 = .ok (.aload_n 0, 1) := by decide +kernel
theorem dX6_reduce_37 : decode cX6_reduce 37 = .ok (.invokevirtual 92, 3) := by decide +kernel
theorem dX6_reduce_40 : decode cX6_reduce 40 = .ok (.lmul, 1) := by decide +kernel
theorem dX6_reduce_41 : decode cX6_reduce 41 = .ok (.invokestatic 134, 3) := by decide +kernel
theorem dX6_reduce_44 : decode cX6_reduce 44 = .ok (.lconst 0, 1) := by decide +kernel
theorem dX6_reduce_45 : decode cX6_reduce 45 = .ok (.lconst 1, 1) := by decide +kernel
theorem dX6_reduce_46 : decode cX6_reduce 46 = .ok (.invokevirtual 124, 3) := by decide +kernel
theorem dX6_reduce_49 : decode cX6_reduce 49 = .ok (.goto (-49), 3) := by decide +kernel
theorem dX6_reduce_52 : decode cX6_reduce 52 = .ok (.aload_n 0, 1) := by decide +kernel
theorem dX6_reduce_53 : decode cX6_reduce 53 = .ok (.lconst 0, 1) := by decide +kernel
theorem dX6_reduce_54 : decode cX6_reduce 54 = .ok (.lconst 1, 1) := by decide +kernel
theorem dX6_reduce_55 : decode cX6_reduce 55 = .ok (.lconst 1, 1) := by decide +kernel
theorem dX6_reduce_56 : decode cX6_reduce 56 = .ok (.lconst 0, 1) := by decide +kernel
theorem dX6_reduce_57 : decode cX6_reduce 57 = .ok (.invokevirtual 124, 3) := by decide +kernel
theorem dX6_reduce_60 : decode cX6_reduce 60 = .ok (.goto (-60), 3) := by decide +kernel
theorem dX6_reduce_63 : decode cX6_reduce 63 = .ok (.return_, 1) := by decide +kernel
theorem dX6_keep_0 : decode cX6_keep 0 = .ok (.aload_n 0, 1) := by decide +kernel
theorem dX6_keep_1 : decode cX6_keep 1 = .ok (.aload_n 0, 1) := by decide +kernel
theorem dX6_keep_2 : decode cX6_keep 2 = .ok (.getfield 41, 3) := by decide +kernel
theorem dX6_keep_5 : decode cX6_keep 5 = .ok (.putfield 137, 3) := by decide +kernel
theorem dX6_keep_8 : decode cX6_keep 8 = .ok (.aload_n 0, 1) := by decide +kernel
theorem dX6_keep_9 : decode cX6_keep 9 = .ok (.aload_n 0, 1) := by decide +kernel
theorem dX6_keep_10 : decode cX6_keep 10 = .ok (.getfield 45, 3) := by decide +kernel
theorem dX6_keep_13 : decode cX6_keep 13 = .ok (.putfield 140, 3) := by decide +kernel
theorem dX6_keep_16 : decode cX6_keep 16 = .ok (.aload_n 0, 1) := by decide +kernel
theorem dX6_keep_17 : decode cX6_keep 17 = .ok (.aload_n 0, 1) := by decide +kernel
theorem dX6_keep_18 : decode cX6_keep 18 = .ok (.getfield 48, 3) := by decide +kernel
theorem dX6_keep_21 : decode cX6_keep 21 = .ok (.putfield 143, 3) := by decide +kernel
theorem dX6_keep_24 : decode cX6_keep 24 = .ok (.aload_n 0, 1) := by decide +kernel
theorem dX6_keep_25 : decode cX6_keep 25 = .ok (.aload_n 0, 1) := by decide +kernel
theorem dX6_keep_26 : decode cX6_keep 26 = .ok (.getfield 51, 3) := by decide +kernel
theorem dX6_keep_29 : decode cX6_keep 29 = .ok (.putfield 146, 3) := by decide +kernel
theorem dX6_keep_32 : decode cX6_keep 32 = .ok (.return_, 1) := by decide +kernel
theorem dX6_isKept_0 : decode cX6_isKept 0 = .ok (.aload_n 0, 1) := by decide +kernel
theorem dX6_isKept_1 : decode cX6_isKept 1 = .ok (.getfield 41, 3) := by decide +kernel
theorem dX6_isKept_4 : decode cX6_isKept 4 = .ok (.aload_n 0, 1) := by decide +kernel
theorem dX6_isKept_5 : decode cX6_isKept 5 = .ok (.getfield 137, 3) := by decide +kernel
theorem dX6_isKept_8 : decode cX6_isKept 8 = .ok (.lcmp, 1) := by decide +kernel
theorem dX6_isKept_9 : decode cX6_isKept 9 = .ok (.ifCond .ne 43, 3) := by decide +kernel
theorem dX6_isKept_12 : decode cX6_isKept 12 = .ok (.aload_n 0, 1) := by decide +kernel
theorem dX6_isKept_13 : decode cX6_isKept 13 = .ok (.getfield 45, 3) := by decide +kernel
theorem dX6_isKept_16 : decode cX6_isKept 16 = .ok (.aload_n 0, 1) := by decide +kernel
theorem dX6_isKept_17 : decode cX6_isKept 17 = .ok (.getfield 140, 3) := by decide +kernel
theorem dX6_isKept_20 : decode cX6_isKept 20 = .ok (.lcmp, 1) := by decide +kernel
theorem dX6_isKept_21 : decode cX6_isKept 21 = .ok (.ifCond .ne 31, 3) := by decide +kernel
theorem dX6_isKept_24 : decode cX6_isKept 24 = .ok (.aload_n 0, 1) := by decide +kernel
theorem dX6_isKept_25 : decode cX6_isKept 25 = .ok (.getfield 48, 3) := by decide +kernel
theorem dX6_isKept_28 : decode cX6_isKept 28 = .ok (.aload_n 0, 1) := by decide +kernel
theorem dX6_isKept_29 : decode cX6_isKept 29 = .ok (.getfield 143, 3) := by decide +kernel
theorem dX6_isKept_32 : decode cX6_isKept 32 = .ok (.lcmp, 1) := by decide +kernel
theorem dX6_isKept_33 : decode cX6_isKept 33 = .ok (.ifCond .ne 19, 3) := by decide +kernel
theorem dX6_isKept_36 : decode cX6_isKept 36 = .ok (.aload_n 0, 1) := by decide +kernel
theorem dX6_isKept_37 : decode cX6_isKept 37 = .ok (.getfield 51, 3) := by decide +kernel
theorem dX6_isKept_40 : decode cX6_isKept 40 = .ok (.aload_n 0, 1) := by decide +kernel
theorem dX6_isKept_41 : decode cX6_isKept 41 = .ok (.getfield 146, 3) := by decide +kernel
theorem dX6_isKept_44 : decode cX6_isKept 44 = .ok (.lcmp, 1) := by decide +kernel
theorem dX6_isKept_45 : decode cX6_isKept 45 = .ok (.ifCond .ne 7, 3) := by decide +kernel
theorem dX6_isKept_48 : decode cX6_isKept 48 = .ok (.iconst 1, 1) := by decide +kernel
theorem dX6_isKept_49 : decode cX6_isKept 49 = .ok (.goto 4, 3) := by decide +kernel
theorem dX6_isKept_52 : decode cX6_isKept 52 = .ok (.iconst 0, 1) := by decide +kernel
theorem dX6_isKept_53 : decode cX6_isKept 53 = .ok (.ireturn, 1) := by decide +kernel
theorem dX6_isLess_0 : decode cX6_isLess 0 = .ok (.aload_n 0, 1) := by decide +kernel
theorem dX6_isLess_1 : decode cX6_isLess 1 = .ok (.getfield 41, 3) := by decide +kernel
theorem dX6_isLess_4 : decode cX6_isLess 4 = .ok (.lload_n 1, 1) := by decide +kernel
theorem dX6_isLess_5 : decode cX6_isLess 5 = .ok (.lcmp, 1) := by decide +kernel
theorem dX6_isLess_6 : decode cX6_isLess 6 = .ok (.ifCond .eq 20, 3) := by decide +kernel
theorem dX6_isLess_9 : decode cX6_isLess 9 = .ok (.aload_n 0, 1) := by decide +kernel
theorem dX6_isLess_10 : decode cX6_isLess 10 = .ok (.getfield 41, 3) := by decide +kernel
theorem dX6_isLess_13 : decode cX6_isLess 13 = .ok (.lload_n 1, 1) := by decide +kernel
theorem dX6_isLess_14 : decode cX6_isLess 14 = .ok (.lcmp, 1) := by decide +kernel
theorem dX6_isLess_15 : decode cX6_isLess 15 = .ok (.ifCond .ge 7, 3) := by decide +kernel
theorem dX6_isLess_18 : decode cX6_isLess 18 = .ok (.iconst 1, 1) := by decide +kernel
theorem dX6_isLess_19 : decode cX6_isLess 19 = .ok (.goto 76, 3) := by decide +kernel
theorem dX6_isLess_22 : decode cX6_isLess 22 = .ok (.iconst 0, 1) := by decide +kernel
theorem dX6_isLess_23 : decode cX6_isLess 23 = .ok (.goto 72, 3) := by decide +kernel
theorem dX6_isLess_26 : decode cX6_isLess 26 = .ok (.aload_n 0, 1) := by decide +kernel
theorem dX6_isLess_27 : decode cX6_isLess 27 = .ok (.getfield 45, 3) := by decide +kernel
theorem dX6_isLess_30 : decode cX6_isLess 30 = .ok (.lload_n 3, 1) := by decide +kernel
theorem dX6_isLess_31 : decode cX6_isLess 31 = .ok (.lcmp, 1) := by decide +kernel
theorem dX6_isLess_32 : decode cX6_isLess 32 = .ok (.ifCond .eq 20, 3) := by decide +kernel
theorem dX6_isLess_35 : decode cX6_isLess 35 = .ok (.aload_n 0, 1) := by decide +kernel
theorem dX6_isLess_36 : decode cX6_isLess 36 = .ok (.getfield 45, 3) := by decide +kernel
theorem dX6_isLess_39 : decode cX6_isLess 39 = .ok (.lload_n 3, 1) := by decide +kernel
theorem dX6_isLess_40 : decode cX6_isLess 40 = .ok (.lcmp, 1) := by decide +kernel
theorem dX6_isLess_41 : decode cX6_isLess 41 = .ok (.ifCond .ge 7, 3) := by decide +kernel
theorem dX6_isLess_44 : decode cX6_isLess 44 = .ok (.iconst 1, 1) := by decide +kernel
theorem dX6_isLess_45 : decode cX6_isLess 45 = .ok (.goto 50, 3) := by decide +kernel
theorem dX6_isLess_48 : decode cX6_isLess 48 = .ok (.iconst 0, 1) := by decide +kernel
theorem dX6_isLess_49 : decode cX6_isLess 49 = .ok (.goto 46, 3) := by decide +kernel
theorem dX6_isLess_52 : decode cX6_isLess 52 = .ok (.aload_n 0, 1) := by decide +kernel
theorem dX6_isLess_53 : decode cX6_isLess 53 = .ok (.getfield 48, 3) := by decide +kernel
theorem dX6_isLess_56 : decode cX6_isLess 56 = .ok (.lload 5, 2) := by decide +kernel
theorem dX6_isLess_58 : decode cX6_isLess 58 = .ok (.lcmp, 1) := by decide +kernel
theorem dX6_isLess_59 : decode cX6_isLess 59 = .ok (.ifCond .eq 21, 3) := by decide +kernel
theorem dX6_isLess_62 : decode cX6_isLess 62 = .ok (.aload_n 0, 1) := by decide +kernel
theorem dX6_isLess_63 : decode cX6_isLess 63 = .ok (.getfield 48, 3) := by decide +kernel
theorem dX6_isLess_66 : decode cX6_isLess 66 = .ok (.lload 5, 2) := by decide +kernel
theorem dX6_isLess_68 : decode cX6_isLess 68 = .ok (.lcmp, 1) := by decide +kernel
theorem dX6_isLess_69 : decode cX6_isLess 69 = .ok (.ifCond .ge 7, 3) := by decide +kernel
theorem dX6_isLess_72 : decode cX6_isLess 72 = .ok (.iconst 1, 1) := by decide +kernel
theorem dX6_isLess_73 : decode cX6_isLess 73 = .ok (.goto 22, 3) := by decide +kernel
theorem dX6_isLess_76 : decode cX6_isLess 76 = .ok (.iconst 0, 1) := by decide +kernel
theorem dX6_isLess_77 : decode cX6_isLess 77 = .ok (.goto 18, 3) := by decide +kernel
theorem dX6_isLess_80 : decode cX6_isLess 80 = .ok (.aload_n 0, 1) := by decide +kernel
theorem dX6_isLess_81 : decode cX6_isLess 81 = .ok (.getfield 51, 3) := by decide +kernel
theorem dX6_isLess_84 : decode cX6_isLess 84 = .ok (.lload 7, 2) := by decide +kernel
theorem dX6_isLess_86 : decode cX6_isLess 86 = .ok (.lcmp, 1) := by decide +kernel
theorem dX6_isLess_87 : decode cX6_isLess 87 = .ok (.ifCond .ge 7, 3) := by decide +kernel
theorem dX6_isLess_90 : decode cX6_isLess 90 = .ok (.iconst 1, 1) := by decide +kernel
theorem dX6_isLess_91 : decode cX6_isLess 91 = .ok (.goto 4, 3) := by decide +kernel
theorem dX6_isLess_94 : decode cX6_isLess 94 = .ok (.iconst 0, 1) := by decide +kernel
theorem dX6_isLess_95 : decode cX6_isLess 95 = .ok (.ireturn, 1) := by decide +kernel
theorem dX6_canonise_0 : decode cX6_canonise 0 = .ok (.aload_n 0, 1) := by decide +kernel
theorem dX6_canonise_1 : decode cX6_canonise 1 = .ok (.invokevirtual 149, 3) := by decide +kernel
theorem dX6_canonise_4 : decode cX6_canonise 4 = .ok (.aload_n 0, 1) := by decide +kernel
theorem dX6_canonise_5 : decode cX6_canonise 5 = .ok (.invokevirtual 152, 3) := by decide +kernel
theorem dX6_canonise_8 : decode cX6_canonise 8 = .ok (.aload_n 0, 1) := by decide +kernel
theorem dX6_canonise_9 : decode cX6_canonise 9 = .ok (.getfield 41, 3) := by decide +kernel
theorem dX6_canonise_12 : decode cX6_canonise 12 = .ok (.lstore_n 1, 1) := by decide +kernel
theorem dX6_canonise_13 : decode cX6_canonise 13 = .ok (.aload_n 0, 1) := by decide +kernel
theorem dX6_canonise_14 : decode cX6_canonise 14 = .ok (.getfield 45, 3) := by decide +kernel
theorem dX6_canonise_17 : decode cX6_canonise 17 = .ok (.lstore_n 3, 1) := by decide +kernel
theorem dX6_canonise_18 : decode cX6_canonise 18 = .ok (.aload_n 0, 1) := by decide +kernel
theorem dX6_canonise_19 : decode cX6_canonise 19 = .ok (.getfield 48, 3) := by decide +kernel
theorem dX6_canonise_22 : decode cX6_canonise 22 = .ok (.lstore 5, 2) := by decide +kernel
theorem dX6_canonise_24 : decode cX6_canonise 24 = .ok (.aload_n 0, 1) := by decide +kernel
theorem dX6_canonise_25 : decode cX6_canonise 25 = .ok (.getfield 51, 3) := by decide +kernel
theorem dX6_canonise_28 : decode cX6_canonise 28 = .ok (.lstore 7, 2) := by decide +kernel
theorem dX6_canonise_30 : decode cX6_canonise 30 = .ok (.iconst 0, 1) := by decide +kernel
theorem dX6_canonise_31 : decode cX6_canonise 31 = .ok (.istore 9, 2) := by decide +kernel
theorem dX6_canonise_33 : decode cX6_canonise 33 = .ok (.iload 9, 2) := by decide +kernel
theorem dX6_canonise_35 : decode cX6_canonise 35 = .ok (.bipush 81, 2) := by decide +kernel
theorem dX6_canonise_37 : decode cX6_canonise 37 = .ok (.if_icmp .ge 139, 3) := by decide +kernel
theorem dX6_canonise_40 : decode cX6_canonise 40 = .ok (.iload 9, 2) := by decide +kernel
theorem dX6_canonise_42 : decode cX6_canonise 42 = .ok (.bipush 27, 2) := by decide +kernel
theorem dX6_canonise_44 : decode cX6_canonise 44 = .ok (.idiv, 1) := by decide +kernel
theorem dX6_canonise_45 : decode cX6_canonise 45 = .ok (.iconst 1, 1) := by decide +kernel
theorem dX6_canonise_46 : decode cX6_canonise 46 = .ok (.isub, 1) := by decide +kernel
theorem dX6_canonise_47 : decode cX6_canonise 47 = .ok (.istore 10, 2) := by decide +kernel
theorem dX6_canonise_49 : decode cX6_canonise 49 = .ok (.iload 9, 2) := by decide +kernel
theorem dX6_canonise_51 : decode cX6_canonise 51 = .ok (.bipush 9, 2) := by decide +kernel
theorem dX6_canonise_53 : decode cX6_canonise 53 = .ok (.idiv, 1) := by decide +kernel
theorem dX6_canonise_54 : decode cX6_canonise 54 = .ok (.iconst 3, 1) := by decide +kernel
theorem dX6_canonise_55 : decode cX6_canonise 55 = .ok (.irem, 1) := by decide +kernel
theorem dX6_canonise_56 : decode cX6_canonise 56 = .ok (.iconst 1, 1) := by decide +kernel
theorem dX6_canonise_57 : decode cX6_canonise 57 = .ok (.isub, 1) := by decide +kernel
theorem dX6_canonise_58 : decode cX6_canonise 58 = .ok (.istore 11, 2) := by decide +kernel
theorem dX6_canonise_60 : decode cX6_canonise 60 = .ok (.iload 9, 2) := by decide +kernel
theorem dX6_canonise_62 : decode cX6_canonise 62 = .ok (.iconst 3, 1) := by decide +kernel
theorem dX6_canonise_63 : decode cX6_canonise 63 = .ok (.idiv, 1) := by decide +kernel
theorem dX6_canonise_64 : decode cX6_canonise 64 = .ok (.iconst 3, 1) := by decide +kernel
theorem dX6_canonise_65 : decode cX6_canonise 65 = .ok (.irem, 1) := by decide +kernel
theorem dX6_canonise_66 : decode cX6_canonise 66 = .ok (.iconst 1, 1) := by decide +kernel
theorem dX6_canonise_67 : decode cX6_canonise 67 = .ok (.isub, 1) := by decide +kernel
theorem dX6_canonise_68 : decode cX6_canonise 68 = .ok (.istore 12, 2) := by decide +kernel
theorem dX6_canonise_70 : decode cX6_canonise 70 = .ok (.iload 9, 2) := by decide +kernel
theorem dX6_canonise_72 : decode cX6_canonise 72 = .ok (.iconst 3, 1) := by decide +kernel
theorem dX6_canonise_73 : decode cX6_canonise 73 = .ok (.irem, 1) := by decide +kernel
theorem dX6_canonise_74 : decode cX6_canonise 74 = .ok (.iconst 1, 1) := by decide +kernel
theorem dX6_canonise_75 : decode cX6_canonise 75 = .ok (.isub, 1) := by decide +kernel
theorem dX6_canonise_76 : decode cX6_canonise 76 = .ok (.istore 13, 2) := by decide +kernel
theorem dX6_canonise_78 : decode cX6_canonise 78 = .ok (.aload_n 0, 1) := by decide +kernel
theorem dX6_canonise_79 : decode cX6_canonise 79 = .ok (.aload_n 0, 1) := by decide +kernel
theorem dX6_canonise_80 : decode cX6_canonise 80 = .ok (.getfield 137, 3) := by decide +kernel
theorem dX6_canonise_83 : decode cX6_canonise 83 = .ok (.aload_n 0, 1) := by decide +kernel
theorem dX6_canonise_84 : decode cX6_canonise 84 = .ok (.getfield 140, 3) := by decide +kernel
theorem dX6_canonise_87 : decode cX6_canonise 87 = .ok (.aload_n 0, 1) := by decide +kernel
theorem dX6_canonise_88 : decode cX6_canonise 88 = .ok (.getfield 143, 3) := by decide +kernel
theorem dX6_canonise_91 : decode cX6_canonise 91 = .ok (.aload_n 0, 1) := by decide +kernel
theorem dX6_canonise_92 : decode cX6_canonise 92 = .ok (.getfield 146, 3) := by decide +kernel
theorem dX6_canonise_95 : decode cX6_canonise 95 = .ok (.invokevirtual 58, 3) := by decide +kernel
theorem dX6_canonise_98 : decode cX6_canonise 98 = .ok (.iload 10, 2) := by decide +kernel
theorem dX6_canonise_100 : decode cX6_canonise 100 = .ok (.iload 11, 2) := by decide +kernel
theorem dX6_canonise_102 : decode cX6_canonise 102 = .ok (.iload 12, 2) := by decide +kernel
theorem dX6_canonise_104 : decode cX6_canonise 104 = .ok (.iload 13, 2) := by decide +kernel
theorem dX6_canonise_106 : decode cX6_canonise 106 = .ok (.invokestatic 120, 3) := by decide +kernel
theorem dX6_canonise_109 : decode cX6_canonise 109 = .ok (.ifCond .eq 61, 3) := by decide +kernel
theorem dX6_canonise_112 : decode cX6_canonise 112 = .ok (.aload_n 0, 1) := by decide +kernel
theorem dX6_canonise_113 : decode cX6_canonise 113 = .ok (.iload 10, 2) := by decide +kernel
theorem dX6_canonise_115 : decode cX6_canonise 115 = .ok (.i2l, 1) := by decide +kernel
theorem dX6_canonise_116 : decode cX6_canonise 116 = .ok (.iload 11, 2) := by decide +kernel
theorem dX6_canonise_118 : decode cX6_canonise 118 = .ok (.i2l, 1) := by decide +kernel
theorem dX6_canonise_119 : decode cX6_canonise 119 = .ok (.iload 12, 2) := by decide +kernel
theorem dX6_canonise_121 : decode cX6_canonise 121 = .ok (.i2l, 1) := by decide +kernel
theorem dX6_canonise_122 : decode cX6_canonise 122 = .ok (.iload 13, 2) := by decide +kernel
theorem dX6_canonise_124 : decode cX6_canonise 124 = .ok (.i2l, 1) := by decide +kernel
theorem dX6_canonise_125 : decode cX6_canonise 125 = .ok (.invokevirtual 124, 3) := by decide +kernel
theorem dX6_canonise_128 : decode cX6_canonise 128 = .ok (.aload_n 0, 1) := by decide +kernel
theorem dX6_canonise_129 : decode cX6_canonise 129 = .ok (.invokevirtual 131, 3) := by decide +kernel
theorem dX6_canonise_132 : decode cX6_canonise 132 = .ok (.ifCond .eq 38, 3) := by decide +kernel
theorem dX6_canonise_135 : decode cX6_canonise 135 = .ok (.aload_n 0, 1) := by decide +kernel
theorem dX6_canonise_136 : decode cX6_canonise 136 = .ok (.lload_n 1, 1) := by decide +kernel
theorem dX6_canonise_137 : decode cX6_canonise 137 = .ok (.lload_n 3, 1) := by decide +kernel
theorem dX6_canonise_138 : decode cX6_canonise 138 = .ok (.lload 5, 2) := by decide +kernel
theorem dX6_canonise_140 : decode cX6_canonise 140 = .ok (.lload 7, 2) := by decide +kernel
theorem dX6_canonise_142 : decode cX6_canonise 142 = .ok (.invokevirtual 155, 3) := by decide +kernel
theorem dX6_canonise_145 : decode cX6_canonise 145 = .ok (.ifCond .eq 25, 3) := by decide +kernel
theorem dX6_canonise_148 : decode cX6_canonise 148 = .ok (.aload_n 0, 1) := by decide +kernel
theorem dX6_canonise_149 : decode cX6_canonise 149 = .ok (.getfield 41, 3) := by decide +kernel
theorem dX6_canonise_152 : decode cX6_canonise 152 = .ok (.lstore_n 1, 1) := by decide +kernel
theorem dX6_canonise_153 : decode cX6_canonise 153 = .ok (.aload_n 0, 1) := by decide +kernel
theorem dX6_canonise_154 : decode cX6_canonise 154 = .ok (.getfield 45, 3) := by decide +kernel
theorem dX6_canonise_157 : decode cX6_canonise 157 = .ok (.lstore_n 3, 1) := by decide +kernel
theorem dX6_canonise_158 : decode cX6_canonise 158 = .ok (.aload_n 0, 1) := by decide +kernel
theorem dX6_canonise_159 : decode cX6_canonise 159 = .ok (.getfield 48, 3) := by decide +kernel
theorem dX6_canonise_162 : decode cX6_canonise 162 = .ok (.lstore 5, 2) := by decide +kernel
theorem dX6_canonise_164 : decode cX6_canonise 164 = .ok (.aload_n 0, 1) := by decide +kernel
theorem dX6_canonise_165 : decode cX6_canonise 165 = .ok (.getfield 51, 3) := by decide +kernel
theorem dX6_canonise_168 : decode cX6_canonise 168 = .ok (.lstore 7, 2) := by decide +kernel
theorem dX6_canonise_170 : decode cX6_canonise 170 = .ok (.iinc 9 1, 3) := by decide +kernel
theorem dX6_canonise_173 : decode cX6_canonise 173 = .ok (.goto (-140), 3) := by decide +kernel
theorem dX6_canonise_176 : decode cX6_canonise 176 = .ok (.aload_n 0, 1) := by decide +kernel
theorem dX6_canonise_177 : decode cX6_canonise 177 = .ok (.lload_n 1, 1) := by decide +kernel
theorem dX6_canonise_178 : decode cX6_canonise 178 = .ok (.lload_n 3, 1) := by decide +kernel
theorem dX6_canonise_179 : decode cX6_canonise 179 = .ok (.lload 5, 2) := by decide +kernel
theorem dX6_canonise_181 : decode cX6_canonise 181 = .ok (.lload 7, 2) := by decide +kernel
theorem dX6_canonise_183 : decode cX6_canonise 183 = .ok (.invokevirtual 58, 3) := by decide +kernel
theorem dX6_canonise_186 : decode cX6_canonise 186 = .ok (.return_, 1) := by decide +kernel
theorem dX6_isPositive_0 : decode cX6_isPositive 0 = .ok (.aload_n 0, 1) := by decide +kernel
theorem dX6_isPositive_1 : decode cX6_isPositive 1 = .ok (.iload_n 1, 1) := by decide +kernel
theorem dX6_isPositive_2 : decode cX6_isPositive 2 = .ok (.invokevirtual 82, 3) := by decide +kernel
theorem dX6_isPositive_5 : decode cX6_isPositive 5 = .ok (.aload_n 0, 1) := by decide +kernel
theorem dX6_isPositive_6 : decode cX6_isPositive 6 = .ok (.invokevirtual 86, 3) := by decide +kernel
theorem dX6_isPositive_9 : decode cX6_isPositive 9 = .ok (.lconst 0, 1) := by decide +kernel
theorem dX6_isPositive_10 : decode cX6_isPositive 10 = .ok (.lcmp, 1) := by decide +kernel
theorem dX6_isPositive_11 : decode cX6_isPositive 11 = .ok (.ifCond .le 7, 3) := by decide +kernel
theorem dX6_isPositive_14 : decode cX6_isPositive 14 = .ok (.iconst 1, 1) := by decide +kernel
theorem dX6_isPositive_15 : decode cX6_isPositive 15 = .ok (.goto 4, 3) := by decide +kernel
theorem dX6_isPositive_18 : decode cX6_isPositive 18 = .ok (.iconst 0, 1) := by decide +kernel
theorem dX6_isPositive_19 : decode cX6_isPositive 19 = .ok (.ireturn, 1) := by decide +kernel
theorem dX6_canonical_0 : decode cX6_canonical 0 = .ok (.aload_n 0, 1) := by decide +kernel
theorem dX6_canonical_1 : decode cX6_canonical 1 = .ok (.iload_n 1, 1) := by decide +kernel
theorem dX6_canonical_2 : decode cX6_canonical 2 = .ok (.invokevirtual 66, 3) := by decide +kernel
theorem dX6_canonical_5 : decode cX6_canonical 5 = .ok (.ifCond .ne 7, 3) := by decide +kernel
theorem dX6_canonical_8 : decode cX6_canonical 8 = .ok (.sipush (-10001), 3) := by decide +kernel
theorem dX6_canonical_11 : decode cX6_canonical 11 = .ok (.ireturn, 1) := by decide +kernel
theorem dX6_canonical_12 : decode cX6_canonical 12 = .ok (.aload_n 0, 1) := by decide +kernel
theorem dX6_canonical_13 : decode cX6_canonical 13 = .ok (.iload_n 1, 1) := by decide +kernel
theorem dX6_canonical_14 : decode cX6_canonical 14 = .ok (.invokevirtual 159, 3) := by decide +kernel
theorem dX6_canonical_17 : decode cX6_canonical 17 = .ok (.ifCond .ne 7, 3) := by decide +kernel
theorem dX6_canonical_20 : decode cX6_canonical 20 = .ok (.sipush (-10006), 3) := by decide +kernel
theorem dX6_canonical_23 : decode cX6_canonical 23 = .ok (.ireturn, 1) := by decide +kernel
theorem dX6_canonical_24 : decode cX6_canonical 24 = .ok (.aload_n 0, 1) := by decide +kernel
theorem dX6_canonical_25 : decode cX6_canonical 25 = .ok (.invokevirtual 162, 3) := by decide +kernel
theorem dX6_canonical_28 : decode cX6_canonical 28 = .ok (.aload_n 0, 1) := by decide +kernel
theorem dX6_canonical_29 : decode cX6_canonical 29 = .ok (.invokevirtual 62, 3) := by decide +kernel
theorem dX6_canonical_32 : decode cX6_canonical 32 = .ok (.ireturn, 1) := by decide +kernel
theorem dX6_areEquivalent_0 : decode cX6_areEquivalent 0 = .ok (.aload_n 0, 1) := by decide +kernel
theorem dX6_areEquivalent_1 : decode cX6_areEquivalent 1 = .ok (.iload_n 1, 1) := by decide +kernel
theorem dX6_areEquivalent_2 : decode cX6_areEquivalent 2 = .ok (.invokevirtual 66, 3) := by decide +kernel
theorem dX6_areEquivalent_5 : decode cX6_areEquivalent 5 = .ok (.ifCond .eq 11, 3) := by decide +kernel
theorem dX6_areEquivalent_8 : decode cX6_areEquivalent 8 = .ok (.aload_n 0, 1) := by decide +kernel
theorem dX6_areEquivalent_9 : decode cX6_areEquivalent 9 = .ok (.iload_n 2, 1) := by decide +kernel
theorem dX6_areEquivalent_10 : decode cX6_areEquivalent 10 = .ok (.invokevirtual 66, 3) := by decide +kernel
theorem dX6_areEquivalent_13 : decode cX6_areEquivalent 13 = .ok (.ifCond .ne 7, 3) := by decide +kernel
theorem dX6_areEquivalent_16 : decode cX6_areEquivalent 16 = .ok (.sipush (-10001), 3) := by decide +kernel
theorem dX6_areEquivalent_19 : decode cX6_areEquivalent 19 = .ok (.ireturn, 1) := by decide +kernel
theorem dX6_areEquivalent_20 : decode cX6_areEquivalent 20 = .ok (.aload_n 0, 1) := by decide +kernel
theorem dX6_areEquivalent_21 : decode cX6_areEquivalent 21 = .ok (.iload_n 1, 1) := by decide +kernel
theorem dX6_areEquivalent_22 : decode cX6_areEquivalent 22 = .ok (.invokevirtual 159, 3) := by decide +kernel
theorem dX6_areEquivalent_25 : decode cX6_areEquivalent 25 = .ok (.ifCond .eq 11, 3) := by decide +kernel
theorem dX6_areEquivalent_28 : decode cX6_areEquivalent 28 = .ok (.aload_n 0, 1) := by decide +kernel
theorem dX6_areEquivalent_29 : decode cX6_areEquivalent 29 = .ok (.iload_n 2, 1) := by decide +kernel
theorem dX6_areEquivalent_30 : decode cX6_areEquivalent 30 = .ok (.invokevirtual 159, 3) := by decide +kernel
theorem dX6_areEquivalent_33 : decode cX6_areEquivalent 33 = .ok (.ifCond .ne 7, 3) := by decide +kernel
theorem dX6_areEquivalent_36 : decode cX6_areEquivalent 36 = .ok (.sipush (-10006), 3) := by decide +kernel
theorem dX6_areEquivalent_39 : decode cX6_areEquivalent 39 = .ok (.ireturn, 1) := by decide +kernel
theorem dX6_areEquivalent_40 : decode cX6_areEquivalent 40 = .ok (.aload_n 0, 1) := by decide +kernel
theorem dX6_areEquivalent_41 : decode cX6_areEquivalent 41 = .ok (.iload_n 1, 1) := by decide +kernel
theorem dX6_areEquivalent_42 : decode cX6_areEquivalent 42 = .ok (.invokevirtual 82, 3) := by decide +kernel
theorem dX6_areEquivalent_45 : decode cX6_areEquivalent 45 = .ok (.aload_n 0, 1) := by decide +kernel
theorem dX6_areEquivalent_46 : decode cX6_areEquivalent 46 = .ok (.invokevirtual 162, 3) := by decide +kernel
theorem dX6_areEquivalent_49 : decode cX6_areEquivalent 49 = .ok (.aload_n 0, 1) := by decide +kernel
theorem dX6_areEquivalent_50 : decode cX6_areEquivalent 50 = .ok (.getfield 41, 3) := by decide +kernel
theorem dX6_areEquivalent_53 : decode cX6_areEquivalent 53 = .ok (.lstore_n 3, 1) := by decide +kernel
theorem dX6_areEquivalent_54 : decode cX6_areEquivalent 54 = .ok (.aload_n 0, 1) := by decide +kernel
theorem dX6_areEquivalent_55 : decode cX6_areEquivalent 55 = .ok (.getfield 45, 3) := by decide +kernel
theorem dX6_areEquivalent_58 : decode cX6_areEquivalent 58 = .ok (.lstore 5, 2) := by decide +kernel
theorem dX6_areEquivalent_60 : decode cX6_areEquivalent 60 = .ok (.aload_n 0, 1) := by decide +kernel
theorem dX6_areEquivalent_61 : decode cX6_areEquivalent 61 = .ok (.getfield 48, 3) := by decide +kernel
theorem dX6_areEquivalent_64 : decode cX6_areEquivalent 64 = .ok (.lstore 7, 2) := by decide +kernel
theorem dX6_areEquivalent_66 : decode cX6_areEquivalent 66 = .ok (.aload_n 0, 1) := by decide +kernel
theorem dX6_areEquivalent_67 : decode cX6_areEquivalent 67 = .ok (.getfield 51, 3) := by decide +kernel
theorem dX6_areEquivalent_70 : decode cX6_areEquivalent 70 = .ok (.lstore 9, 2) := by decide +kernel
theorem dX6_areEquivalent_72 : decode cX6_areEquivalent 72 = .ok (.aload_n 0, 1) := by decide +kernel
theorem dX6_areEquivalent_73 : decode cX6_areEquivalent 73 = .ok (.iload_n 2, 1) := by decide +kernel
theorem dX6_areEquivalent_74 : decode cX6_areEquivalent 74 = .ok (.invokevirtual 82, 3) := by decide +kernel
theorem dX6_areEquivalent_77 : decode cX6_areEquivalent 77 = .ok (.aload_n 0, 1) := by decide +kernel
theorem dX6_areEquivalent_78 : decode cX6_areEquivalent 78 = .ok (.invokevirtual 162, 3) := by decide +kernel
theorem dX6_areEquivalent_81 : decode cX6_areEquivalent 81 = .ok (.aload_n 0, 1) := by decide +kernel
theorem dX6_areEquivalent_82 : decode cX6_areEquivalent 82 = .ok (.getfield 41, 3) := by decide +kernel
theorem dX6_areEquivalent_85 : decode cX6_areEquivalent 85 = .ok (.lload_n 3, 1) := by decide +kernel
theorem dX6_areEquivalent_86 : decode cX6_areEquivalent 86 = .ok (.lcmp, 1) := by decide +kernel
theorem dX6_areEquivalent_87 : decode cX6_areEquivalent 87 = .ok (.ifCond .ne 37, 3) := by decide +kernel
theorem dX6_areEquivalent_90 : decode cX6_areEquivalent 90 = .ok (.aload_n 0, 1) := by decide +kernel
theorem dX6_areEquivalent_91 : decode cX6_areEquivalent 91 = .ok (.getfield 45, 3) := by decide +kernel
theorem dX6_areEquivalent_94 : decode cX6_areEquivalent 94 = .ok (.lload 5, 2) := by decide +kernel
theorem dX6_areEquivalent_96 : decode cX6_areEquivalent 96 = .ok (.lcmp, 1) := by decide +kernel
theorem dX6_areEquivalent_97 : decode cX6_areEquivalent 97 = .ok (.ifCond .ne 27, 3) := by decide +kernel
theorem dX6_areEquivalent_100 : decode cX6_areEquivalent 100 = .ok (.aload_n 0, 1) := by decide +kernel
theorem dX6_areEquivalent_101 : decode cX6_areEquivalent 101 = .ok (.getfield 48, 3) := by decide +kernel
theorem dX6_areEquivalent_104 : decode cX6_areEquivalent 104 = .ok (.lload 7, 2) := by decide +kernel
theorem dX6_areEquivalent_106 : decode cX6_areEquivalent 106 = .ok (.lcmp, 1) := by decide +kernel
theorem dX6_areEquivalent_107 : decode cX6_areEquivalent 107 = .ok (.ifCond .ne 17, 3) := by decide +kernel
theorem dX6_areEquivalent_110 : decode cX6_areEquivalent 110 = .ok (.aload_n 0, 1) := by decide +kernel
theorem dX6_areEquivalent_111 : decode cX6_areEquivalent 111 = .ok (.getfield 51, 3) := by decide +kernel
theorem dX6_areEquivalent_114 : decode cX6_areEquivalent 114 = .ok (.lload 9, 2) := by decide +kernel
theorem dX6_areEquivalent_116 : decode cX6_areEquivalent 116 = .ok (.lcmp, 1) := by decide +kernel
theorem dX6_areEquivalent_117 : decode cX6_areEquivalent 117 = .ok (.ifCond .ne 7, 3) := by decide +kernel
theorem dX6_areEquivalent_120 : decode cX6_areEquivalent 120 = .ok (.iconst 1, 1) := by decide +kernel
theorem dX6_areEquivalent_121 : decode cX6_areEquivalent 121 = .ok (.goto 4, 3) := by decide +kernel
theorem dX6_areEquivalent_124 : decode cX6_areEquivalent 124 = .ok (.iconst 0, 1) := by decide +kernel
theorem dX6_areEquivalent_125 : decode cX6_areEquivalent 125 = .ok (.ireturn, 1) := by decide +kernel
theorem dX6_automorphismCount_0 : decode cX6_automorphismCount 0 = .ok (.aload_n 0, 1) := by decide +kernel
theorem dX6_automorphismCount_1 : decode cX6_automorphismCount 1 = .ok (.iload_n 1, 1) := by decide +kernel
theorem dX6_automorphismCount_2 : decode cX6_automorphismCount 2 = .ok (.invokevirtual 66, 3) := by decide +kernel
theorem dX6_automorphismCount_5 : decode cX6_automorphismCount 5 = .ok (.ifCond .ne 7, 3) := by decide +kernel
theorem dX6_automorphismCount_8 : decode cX6_automorphismCount 8 = .ok (.sipush (-10001), 3) := by decide +kernel
theorem dX6_automorphismCount_11 : decode cX6_automorphismCount 11 = .ok (.ireturn, 1) := by decide +kernel
theorem dX6_automorphismCount_12 : decode cX6_automorphismCount 12 = .ok (.aload_n 0, 1) := by decide +kernel
theorem dX6_automorphismCount_13 : decode cX6_automorphismCount 13 = .ok (.iload_n 1, 1) := by decide +kernel
theorem dX6_automorphismCount_14 : decode cX6_automorphismCount 14 = .ok (.invokevirtual 159, 3) := by decide +kernel
theorem dX6_automorphismCount_17 : decode cX6_automorphismCount 17 = .ok (.ifCond .ne 7, 3) := by decide +kernel
theorem dX6_automorphismCount_20 : decode cX6_automorphismCount 20 = .ok (.sipush (-10006), 3) := by decide +kernel
theorem dX6_automorphismCount_23 : decode cX6_automorphismCount 23 = .ok (.ireturn, 1) := by decide +kernel
theorem dX6_automorphismCount_24 : decode cX6_automorphismCount 24 = .ok (.aload_n 0, 1) := by decide +kernel
theorem dX6_automorphismCount_25 : decode cX6_automorphismCount 25 = .ok (.invokevirtual 149, 3) := by decide +kernel
theorem dX6_automorphismCount_28 : decode cX6_automorphismCount 28 = .ok (.aload_n 0, 1) := by decide +kernel
theorem dX6_automorphismCount_29 : decode cX6_automorphismCount 29 = .ok (.invokevirtual 152, 3) := by decide +kernel
theorem dX6_automorphismCount_32 : decode cX6_automorphismCount 32 = .ok (.iconst 0, 1) := by decide +kernel
theorem dX6_automorphismCount_33 : decode cX6_automorphismCount 33 = .ok (.istore_n 2, 1) := by decide +kernel
theorem dX6_automorphismCount_34 : decode cX6_automorphismCount 34 = .ok (.iconst 0, 1) := by decide +kernel
theorem dX6_automorphismCount_35 : decode cX6_automorphismCount 35 = .ok (.istore_n 3, 1) := by decide +kernel
theorem dX6_automorphismCount_36 : decode cX6_automorphismCount 36 = .ok (.iload_n 3, 1) := by decide +kernel
theorem dX6_automorphismCount_37 : decode cX6_automorphismCount 37 = .ok (.bipush 81, 2) := by decide +kernel
theorem dX6_automorphismCount_39 : decode cX6_automorphismCount 39 = .ok (.if_icmp .ge 108, 3) := by decide +kernel
theorem dX6_automorphismCount_42 : decode cX6_automorphismCount 42 = .ok (.iload_n 3, 1) := by decide +kernel
theorem dX6_automorphismCount_43 : decode cX6_automorphismCount 43 = .ok (.bipush 27, 2) := by decide +kernel
theorem dX6_automorphismCount_45 : decode cX6_automorphismCount 45 = .ok (.idiv, 1) := by decide +kernel
theorem dX6_automorphismCount_46 : decode cX6_automorphismCount 46 = .ok (.iconst 1, 1) := by decide +kernel
theorem dX6_automorphismCount_47 : decode cX6_automorphismCount 47 = .ok (.isub, 1) := by decide +kernel
theorem dX6_automorphismCount_48 : decode cX6_automorphismCount 48 = .ok (.istore 4, 2) := by decide +kernel
theorem dX6_automorphismCount_50 : decode cX6_automorphismCount 50 = .ok (.iload_n 3, 1) := by decide +kernel
theorem dX6_automorphismCount_51 : decode cX6_automorphismCount 51 = .ok (.bipush 9, 2) := by decide +kernel
theorem dX6_automorphismCount_53 : decode cX6_automorphismCount 53 = .ok (.idiv, 1) := by decide +kernel
theorem dX6_automorphismCount_54 : decode cX6_automorphismCount 54 = .ok (.iconst 3, 1) := by decide +kernel
theorem dX6_automorphismCount_55 : decode cX6_automorphismCount 55 = .ok (.irem, 1) := by decide +kernel
theorem dX6_automorphismCount_56 : decode cX6_automorphismCount 56 = .ok (.iconst 1, 1) := by decide +kernel
theorem dX6_automorphismCount_57 : decode cX6_automorphismCount 57 = .ok (.isub, 1) := by decide +kernel
theorem dX6_automorphismCount_58 : decode cX6_automorphismCount 58 = .ok (.istore 5, 2) := by decide +kernel
theorem dX6_automorphismCount_60 : decode cX6_automorphismCount 60 = .ok (.iload_n 3, 1) := by decide +kernel
theorem dX6_automorphismCount_61 : decode cX6_automorphismCount 61 = .ok (.iconst 3, 1) := by decide +kernel
theorem dX6_automorphismCount_62 : decode cX6_automorphismCount 62 = .ok (.idiv, 1) := by decide +kernel
theorem dX6_automorphismCount_63 : decode cX6_automorphismCount 63 = .ok (.iconst 3, 1) := by decide +kernel
theorem dX6_automorphismCount_64 : decode cX6_automorphismCount 64 = .ok (.irem, 1) := by decide +kernel
theorem dX6_automorphismCount_65 : decode cX6_automorphismCount 65 = .ok (.iconst 1, 1) := by decide +kernel
theorem dX6_automorphismCount_66 : decode cX6_automorphismCount 66 = .ok (.isub, 1) := by decide +kernel
theorem dX6_automorphismCount_67 : decode cX6_automorphismCount 67 = .ok (.istore 6, 2) := by decide +kernel
theorem dX6_automorphismCount_69 : decode cX6_automorphismCount 69 = .ok (.iload_n 3, 1) := by decide +kernel
theorem dX6_automorphismCount_70 : decode cX6_automorphismCount 70 = .ok (.iconst 3, 1) := by decide +kernel
theorem dX6_automorphismCount_71 : decode cX6_automorphismCount 71 = .ok (.irem, 1) := by decide +kernel
theorem dX6_automorphismCount_72 : decode cX6_automorphismCount 72 = .ok (.iconst 1, 1) := by decide +kernel
theorem dX6_automorphismCount_73 : decode cX6_automorphismCount 73 = .ok (.isub, 1) := by decide +kernel
theorem dX6_automorphismCount_74 : decode cX6_automorphismCount 74 = .ok (.istore 7, 2) := by decide +kernel
theorem dX6_automorphismCount_76 : decode cX6_automorphismCount 76 = .ok (.aload_n 0, 1) := by decide +kernel
theorem dX6_automorphismCount_77 : decode cX6_automorphismCount 77 = .ok (.aload_n 0, 1) := by decide +kernel
theorem dX6_automorphismCount_78 : decode cX6_automorphismCount 78 = .ok (.getfield 137, 3) := by decide +kernel
theorem dX6_automorphismCount_81 : decode cX6_automorphismCount 81 = .ok (.aload_n 0, 1) := by decide +kernel
theorem dX6_automorphismCount_82 : decode cX6_automorphismCount 82 = .ok (.getfield 140, 3) := by decide +kernel
theorem dX6_automorphismCount_85 : decode cX6_automorphismCount 85 = .ok (.aload_n 0, 1) := by decide +kernel
theorem dX6_automorphismCount_86 : decode cX6_automorphismCount 86 = .ok (.getfield 143, 3) := by decide +kernel
theorem dX6_automorphismCount_89 : decode cX6_automorphismCount 89 = .ok (.aload_n 0, 1) := by decide +kernel
theorem dX6_automorphismCount_90 : decode cX6_automorphismCount 90 = .ok (.getfield 146, 3) := by decide +kernel
theorem dX6_automorphismCount_93 : decode cX6_automorphismCount 93 = .ok (.invokevirtual 58, 3) := by decide +kernel
theorem dX6_automorphismCount_96 : decode cX6_automorphismCount 96 = .ok (.iload 4, 2) := by decide +kernel
theorem dX6_automorphismCount_98 : decode cX6_automorphismCount 98 = .ok (.iload 5, 2) := by decide +kernel
theorem dX6_automorphismCount_100 : decode cX6_automorphismCount 100 = .ok (.iload 6, 2) := by decide +kernel
theorem dX6_automorphismCount_102 : decode cX6_automorphismCount 102 = .ok (.iload 7, 2) := by decide +kernel
theorem dX6_automorphismCount_104 : decode cX6_automorphismCount 104 = .ok (.invokestatic 120, 3) := by decide +kernel
theorem dX6_automorphismCount_107 : decode cX6_automorphismCount 107 = .ok (.ifCond .eq 34, 3) := by decide +kernel
theorem dX6_automorphismCount_110 : decode cX6_automorphismCount 110 = .ok (.aload_n 0, 1) := by decide +kernel
theorem dX6_automorphismCount_111 : decode cX6_automorphismCount 111 = .ok (.iload 4, 2) := by decide +kernel
theorem dX6_automorphismCount_113 : decode cX6_automorphismCount 113 = .ok (.i2l, 1) := by decide +kernel
theorem dX6_automorphismCount_114 : decode cX6_automorphismCount 114 = .ok (.iload 5, 2) := by decide +kernel
theorem dX6_automorphismCount_116 : decode cX6_automorphismCount 116 = .ok (.i2l, 1) := by decide +kernel
theorem dX6_automorphismCount_117 : decode cX6_automorphismCount 117 = .ok (.iload 6, 2) := by decide +kernel
theorem dX6_automorphismCount_119 : decode cX6_automorphismCount 119 = .ok (.i2l, 1) := by decide +kernel
theorem dX6_automorphismCount_120 : decode cX6_automorphismCount 120 = .ok (.iload 7, 2) := by decide +kernel
theorem dX6_automorphismCount_122 : decode cX6_automorphismCount 122 = .ok (.i2l, 1) := by decide +kernel
theorem dX6_automorphismCount_123 : decode cX6_automorphismCount 123 = .ok (.invokevirtual 124, 3) := by decide +kernel
theorem dX6_automorphismCount_126 : decode cX6_automorphismCount 126 = .ok (.iload_n 2, 1) := by decide +kernel
theorem dX6_automorphismCount_127 : decode cX6_automorphismCount 127 = .ok (.aload_n 0, 1) := by decide +kernel
theorem dX6_automorphismCount_128 : decode cX6_automorphismCount 128 = .ok (.invokevirtual 165, 3) := by decide +kernel
theorem dX6_automorphismCount_131 : decode cX6_automorphismCount 131 = .ok (.ifCond .eq 7, 3) := by decide +kernel
theorem dX6_automorphismCount_134 : decode cX6_automorphismCount 134 = .ok (.iconst 1, 1) := by decide +kernel
theorem dX6_automorphismCount_135 : decode cX6_automorphismCount 135 = .ok (.goto 4, 3) := by decide +kernel
theorem dX6_automorphismCount_138 : decode cX6_automorphismCount 138 = .ok (.iconst 0, 1) := by decide +kernel
theorem dX6_automorphismCount_139 : decode cX6_automorphismCount 139 = .ok (.iadd, 1) := by decide +kernel
theorem dX6_automorphismCount_140 : decode cX6_automorphismCount 140 = .ok (.istore_n 2, 1) := by decide +kernel
theorem dX6_automorphismCount_141 : decode cX6_automorphismCount 141 = .ok (.iinc 3 1, 3) := by decide +kernel
theorem dX6_automorphismCount_144 : decode cX6_automorphismCount 144 = .ok (.goto (-108), 3) := by decide +kernel
theorem dX6_automorphismCount_147 : decode cX6_automorphismCount 147 = .ok (.iload_n 2, 1) := by decide +kernel
theorem dX6_automorphismCount_148 : decode cX6_automorphismCount 148 = .ok (.ireturn, 1) := by decide +kernel
theorem dX6_isRegister_0 : decode cX6_isRegister 0 = .ok (.iload_n 0, 1) := by decide +kernel
theorem dX6_isRegister_1 : decode cX6_isRegister 1 = .ok (.i2l, 1) := by decide +kernel
theorem dX6_isRegister_2 : decode cX6_isRegister 2 = .ok (.lconst 0, 1) := by decide +kernel
theorem dX6_isRegister_3 : decode cX6_isRegister 3 = .ok (.ldc2_w 168, 3) := by decide +kernel
theorem dX6_isRegister_6 : decode cX6_isRegister 6 = .ok (.invokestatic 33, 3) := by decide +kernel
theorem dX6_isRegister_9 : decode cX6_isRegister 9 = .ok (.ireturn, 1) := by decide +kernel
theorem dX6_setElement_0 : decode cX6_setElement 0 = .ok (.iload_n 1, 1) := by decide +kernel
theorem dX6_setElement_1 : decode cX6_setElement 1 = .ok (.invokestatic 170, 3) := by decide +kernel
theorem dX6_setElement_4 : decode cX6_setElement 4 = .ok (.ifCond .ne 7, 3) := by decide +kernel
theorem dX6_setElement_7 : decode cX6_setElement 7 = .ok (.sipush (-10002), 3) := by decide +kernel
theorem dX6_setElement_10 : decode cX6_setElement 10 = .ok (.ireturn, 1) := by decide +kernel
theorem dX6_setElement_11 : decode cX6_setElement 11 = .ok (.iload_n 2, 1) := by decide +kernel
theorem dX6_setElement_12 : decode cX6_setElement 12 = .ok (.invokestatic 117, 3) := by decide +kernel
theorem dX6_setElement_15 : decode cX6_setElement 15 = .ok (.ifCond .eq 18, 3) := by decide +kernel
theorem dX6_setElement_18 : decode cX6_setElement 18 = .ok (.iload_n 3, 1) := by decide +kernel
theorem dX6_setElement_19 : decode cX6_setElement 19 = .ok (.invokestatic 117, 3) := by decide +kernel
theorem dX6_setElement_22 : decode cX6_setElement 22 = .ok (.ifCond .eq 11, 3) := by decide +kernel
theorem dX6_setElement_25 : decode cX6_setElement 25 = .ok (.iload 4, 2) := by decide +kernel
theorem dX6_setElement_27 : decode cX6_setElement 27 = .ok (.invokestatic 117, 3) := by decide +kernel
theorem dX6_setElement_30 : decode cX6_setElement 30 = .ok (.ifCond .ne 7, 3) := by decide +kernel
theorem dX6_setElement_33 : decode cX6_setElement 33 = .ok (.sipush (-10003), 3) := by decide +kernel
theorem dX6_setElement_36 : decode cX6_setElement 36 = .ok (.ireturn, 1) := by decide +kernel
theorem dX6_setElement_37 : decode cX6_setElement 37 = .ok (.iconst 3, 1) := by decide +kernel
theorem dX6_setElement_38 : decode cX6_setElement 38 = .ok (.iload_n 1, 1) := by decide +kernel
theorem dX6_setElement_39 : decode cX6_setElement 39 = .ok (.imul, 1) := by decide +kernel
theorem dX6_setElement_40 : decode cX6_setElement 40 = .ok (.istore 5, 2) := by decide +kernel
theorem dX6_setElement_42 : decode cX6_setElement 42 = .ok (.aload_n 0, 1) := by decide +kernel
theorem dX6_setElement_43 : decode cX6_setElement 43 = .ok (.getfield 13, 3) := by decide +kernel
theorem dX6_setElement_46 : decode cX6_setElement 46 = .ok (.iload 5, 2) := by decide +kernel
theorem dX6_setElement_48 : decode cX6_setElement 48 = .ok (.iaload, 1) := by decide +kernel
theorem dX6_setElement_49 : decode cX6_setElement 49 = .ok (.iload_n 2, 1) := by decide +kernel
theorem dX6_setElement_50 : decode cX6_setElement 50 = .ok (.if_icmp .ne 34, 3) := by decide +kernel
theorem dX6_setElement_53 : decode cX6_setElement 53 = .ok (.aload_n 0, 1) := by decide +kernel
theorem dX6_setElement_54 : decode cX6_setElement 54 = .ok (.getfield 13, 3) := by decide +kernel
theorem dX6_setElement_57 : decode cX6_setElement 57 = .ok (.iload 5, 2) := by decide +kernel
theorem dX6_setElement_59 : decode cX6_setElement 59 = .ok (.iconst 1, 1) := by decide +kernel
theorem dX6_setElement_60 : decode cX6_setElement 60 = .ok (.iadd, 1) := by decide +kernel
theorem dX6_setElement_61 : decode cX6_setElement 61 = .ok (.iaload, 1) := by decide +kernel
theorem dX6_setElement_62 : decode cX6_setElement 62 = .ok (.iload_n 3, 1) := by decide +kernel
theorem dX6_setElement_63 : decode cX6_setElement 63 = .ok (.if_icmp .ne 21, 3) := by decide +kernel
theorem dX6_setElement_66 : decode cX6_setElement 66 = .ok (.aload_n 0, 1) := by decide +kernel
theorem dX6_setElement_67 : decode cX6_setElement 67 = .ok (.getfield 13, 3) := by decide +kernel
theorem dX6_setElement_70 : decode cX6_setElement 70 = .ok (.iload 5, 2) := by decide +kernel
theorem dX6_setElement_72 : decode cX6_setElement 72 = .ok (.iconst 2, 1) := by decide +kernel
theorem dX6_setElement_73 : decode cX6_setElement 73 = .ok (.iadd, 1) := by decide +kernel
theorem dX6_setElement_74 : decode cX6_setElement 74 = .ok (.iaload, 1) := by decide +kernel
theorem dX6_setElement_75 : decode cX6_setElement 75 = .ok (.iload 4, 2) := by decide +kernel
theorem dX6_setElement_77 : decode cX6_setElement 77 = .ok (.if_icmp .ne 7, 3) := by decide +kernel
theorem dX6_setElement_80 : decode cX6_setElement 80 = .ok (.iconst 1, 1) := by decide +kernel
theorem dX6_setElement_81 : decode cX6_setElement 81 = .ok (.goto 4, 3) := by decide +kernel
theorem dX6_setElement_84 : decode cX6_setElement 84 = .ok (.iconst 0, 1) := by decide +kernel
theorem dX6_setElement_85 : decode cX6_setElement 85 = .ok (.istore 6, 2) := by decide +kernel
theorem dX6_setElement_87 : decode cX6_setElement 87 = .ok (.aload_n 0, 1) := by decide +kernel
theorem dX6_setElement_88 : decode cX6_setElement 88 = .ok (.getfield 13, 3) := by decide +kernel
theorem dX6_setElement_91 : decode cX6_setElement 91 = .ok (.iload 5, 2) := by decide +kernel
theorem dX6_setElement_93 : decode cX6_setElement 93 = .ok (.iload_n 2, 1) := by decide +kernel
theorem dX6_setElement_94 : decode cX6_setElement 94 = .ok (.iastore, 1) := by decide +kernel
theorem dX6_setElement_95 : decode cX6_setElement 95 = .ok (.aload_n 0, 1) := by decide +kernel
theorem dX6_setElement_96 : decode cX6_setElement 96 = .ok (.getfield 13, 3) := by decide +kernel
theorem dX6_setElement_99 : decode cX6_setElement 99 = .ok (.iload 5, 2) := by decide +kernel
theorem dX6_setElement_101 : decode cX6_setElement 101 = .ok (.iconst 1, 1) := by decide +kernel
theorem dX6_setElement_102 : decode cX6_setElement 102 = .ok (.iadd, 1) := by decide +kernel
theorem dX6_setElement_103 : decode cX6_setElement 103 = .ok (.iload_n 3, 1) := by decide +kernel
theorem dX6_setElement_104 : decode cX6_setElement 104 = .ok (.iastore, 1) := by decide +kernel
theorem dX6_setElement_105 : decode cX6_setElement 105 = .ok (.aload_n 0, 1) := by decide +kernel
theorem dX6_setElement_106 : decode cX6_setElement 106 = .ok (.getfield 13, 3) := by decide +kernel
theorem dX6_setElement_109 : decode cX6_setElement 109 = .ok (.iload 5, 2) := by decide +kernel
theorem dX6_setElement_111 : decode cX6_setElement 111 = .ok (.iconst 2, 1) := by decide +kernel
theorem dX6_setElement_112 : decode cX6_setElement 112 = .ok (.iadd, 1) := by decide +kernel
theorem dX6_setElement_113 : decode cX6_setElement 113 = .ok (.iload 4, 2) := by decide +kernel
theorem dX6_setElement_115 : decode cX6_setElement 115 = .ok (.iastore, 1) := by decide +kernel
theorem dX6_setElement_116 : decode cX6_setElement 116 = .ok (.iload 6, 2) := by decide +kernel
theorem dX6_setElement_118 : decode cX6_setElement 118 = .ok (.ifCond .eq 7, 3) := by decide +kernel
theorem dX6_setElement_121 : decode cX6_setElement 121 = .ok (.iconst 0, 1) := by decide +kernel
theorem dX6_setElement_122 : decode cX6_setElement 122 = .ok (.goto 4, 3) := by decide +kernel
theorem dX6_setElement_125 : decode cX6_setElement 125 = .ok (.iconst 1, 1) := by decide +kernel
theorem dX6_setElement_126 : decode cX6_setElement 126 = .ok (.ireturn, 1) := by decide +kernel
theorem dX6_element_0 : decode cX6_element 0 = .ok (.iload_n 1, 1) := by decide +kernel
theorem dX6_element_1 : decode cX6_element 1 = .ok (.invokestatic 170, 3) := by decide +kernel
theorem dX6_element_4 : decode cX6_element 4 = .ok (.ifCond .ne 7, 3) := by decide +kernel
theorem dX6_element_7 : decode cX6_element 7 = .ok (.sipush (-10002), 3) := by decide +kernel
theorem dX6_element_10 : decode cX6_element 10 = .ok (.ireturn, 1) := by decide +kernel
theorem dX6_element_11 : decode cX6_element 11 = .ok (.iload_n 2, 1) := by decide +kernel
theorem dX6_element_12 : decode cX6_element 12 = .ok (.i2l, 1) := by decide +kernel
theorem dX6_element_13 : decode cX6_element 13 = .ok (.lconst 0, 1) := by decide +kernel
theorem dX6_element_14 : decode cX6_element 14 = .ok (.ldc2_w 90, 3) := by decide +kernel
theorem dX6_element_17 : decode cX6_element 17 = .ok (.invokestatic 33, 3) := by decide +kernel
theorem dX6_element_20 : decode cX6_element 20 = .ok (.ifCond .eq 16, 3) := by decide +kernel
theorem dX6_element_23 : decode cX6_element 23 = .ok (.aload_n 0, 1) := by decide +kernel
theorem dX6_element_24 : decode cX6_element 24 = .ok (.getfield 13, 3) := by decide +kernel
theorem dX6_element_27 : decode cX6_element 27 = .ok (.iconst 3, 1) := by decide +kernel
theorem dX6_element_28 : decode cX6_element 28 = .ok (.iload_n 1, 1) := by decide +kernel
theorem dX6_element_29 : decode cX6_element 29 = .ok (.imul, 1) := by decide +kernel
theorem dX6_element_30 : decode cX6_element 30 = .ok (.iload_n 2, 1) := by decide +kernel
theorem dX6_element_31 : decode cX6_element 31 = .ok (.iadd, 1) := by decide +kernel
theorem dX6_element_32 : decode cX6_element 32 = .ok (.iaload, 1) := by decide +kernel
theorem dX6_element_33 : decode cX6_element 33 = .ok (.goto 6, 3) := by decide +kernel
theorem dX6_element_36 : decode cX6_element 36 = .ok (.sipush (-10003), 3) := by decide +kernel
theorem dX6_element_39 : decode cX6_element 39 = .ok (.ireturn, 1) := by decide +kernel
theorem dX6_product_0 : decode cX6_product 0 = .ok (.aload_n 0, 1) := by decide +kernel
theorem dX6_product_1 : decode cX6_product 1 = .ok (.lload_n 1, 1) := by decide +kernel
theorem dX6_product_2 : decode cX6_product 2 = .ok (.lload 7, 2) := by decide +kernel
theorem dX6_product_4 : decode cX6_product 4 = .ok (.lmul, 1) := by decide +kernel
theorem dX6_product_5 : decode cX6_product 5 = .ok (.aload_n 0, 1) := by decide +kernel
theorem dX6_product_6 : decode cX6_product 6 = .ok (.getfield 41, 3) := by decide +kernel
theorem dX6_product_9 : decode cX6_product 9 = .ok (.aload_n 0, 1) := by decide +kernel
theorem dX6_product_10 : decode cX6_product 10 = .ok (.getfield 48, 3) := by decide +kernel
theorem dX6_product_13 : decode cX6_product 13 = .ok (.lmul, 1) := by decide +kernel
theorem dX6_product_14 : decode cX6_product 14 = .ok (.lload_n 3, 1) := by decide +kernel
theorem dX6_product_15 : decode cX6_product 15 = .ok (.lmul, 1) := by decide +kernel
theorem dX6_product_16 : decode cX6_product 16 = .ok (.lload 9, 2) := by decide +kernel
theorem dX6_product_18 : decode cX6_product 18 = .ok (.lmul, 1) := by decide +kernel
theorem dX6_product_19 : decode cX6_product 19 = .ok (.lsub, 1) := by decide +kernel
theorem dX6_product_20 : decode cX6_product 20 = .ok (.aload_n 0, 1) := by decide +kernel
theorem dX6_product_21 : decode cX6_product 21 = .ok (.getfield 45, 3) := by decide +kernel
theorem dX6_product_24 : decode cX6_product 24 = .ok (.aload_n 0, 1) := by decide +kernel
theorem dX6_product_25 : decode cX6_product 25 = .ok (.getfield 51, 3) := by decide +kernel
theorem dX6_product_28 : decode cX6_product 28 = .ok (.lmul, 1) := by decide +kernel
theorem dX6_product_29 : decode cX6_product 29 = .ok (.lload 5, 2) := by decide +kernel
theorem dX6_product_31 : decode cX6_product 31 = .ok (.lmul, 1) := by decide +kernel
theorem dX6_product_32 : decode cX6_product 32 = .ok (.lload 11, 2) := by decide +kernel
theorem dX6_product_34 : decode cX6_product 34 = .ok (.lmul, 1) := by decide +kernel
theorem dX6_product_35 : decode cX6_product 35 = .ok (.lsub, 1) := by decide +kernel
theorem dX6_product_36 : decode cX6_product 36 = .ok (.aload_n 0, 1) := by decide +kernel
theorem dX6_product_37 : decode cX6_product 37 = .ok (.getfield 41, 3) := by decide +kernel
theorem dX6_product_40 : decode cX6_product 40 = .ok (.aload_n 0, 1) := by decide +kernel
theorem dX6_product_41 : decode cX6_product 41 = .ok (.getfield 51, 3) := by decide +kernel
theorem dX6_product_44 : decode cX6_product 44 = .ok (.lmul, 1) := by decide +kernel
theorem dX6_product_45 : decode cX6_product 45 = .ok (.lload_n 3, 1) := by decide +kernel
theorem dX6_product_46 : decode cX6_product 46 = .ok (.lload 11, 2) := by decide +kernel
theorem dX6_product_48 : decode cX6_product 48 = .ok (.lmul, 1) := by decide +kernel
theorem dX6_product_49 : decode cX6_product 49 = .ok (.lload 5, 2) := by decide +kernel
theorem dX6_product_51 : decode cX6_product 51 = .ok (.lload 9, 2) := by decide +kernel
theorem dX6_product_53 : decode cX6_product 53 = .ok (.lmul, 1) := by decide +kernel
theorem dX6_product_54 : decode cX6_product 54 = .ok (.ladd, 1) := by decide +kernel
theorem dX6_product_55 : decode cX6_product 55 = .ok (.lmul, 1) := by decide +kernel
theorem dX6_product_56 : decode cX6_product 56 = .ok (.lsub, 1) := by decide +kernel
theorem dX6_product_57 : decode cX6_product 57 = .ok (.putfield 173, 3) := by decide +kernel
theorem dX6_product_60 : decode cX6_product 60 = .ok (.aload_n 0, 1) := by decide +kernel
theorem dX6_product_61 : decode cX6_product 61 = .ok (.lload_n 1, 1) := by decide +kernel
theorem dX6_product_62 : decode cX6_product 62 = .ok (.lload 9, 2) := by decide +kernel
theorem dX6_product_64 : decode cX6_product 64 = .ok (.lmul, 1) := by decide +kernel
theorem dX6_product_65 : decode cX6_product 65 = .ok (.lload_n 3, 1) := by decide +kernel
theorem dX6_product_66 : decode cX6_product 66 = .ok (.lload 7, 2) := by decide +kernel
theorem dX6_product_68 : decode cX6_product 68 = .ok (.lmul, 1) := by decide +kernel
theorem dX6_product_69 : decode cX6_product 69 = .ok (.ladd, 1) := by decide +kernel
theorem dX6_product_70 : decode cX6_product 70 = .ok (.aload_n 0, 1) := by decide +kernel
theorem dX6_product_71 : decode cX6_product 71 = .ok (.getfield 45, 3) := by decide +kernel
theorem dX6_product_74 : decode cX6_product 74 = .ok (.lload_n 3, 1) := by decide +kernel
theorem dX6_product_75 : decode cX6_product 75 = .ok (.lmul, 1) := by decide +kernel
theorem dX6_product_76 : decode cX6_product 76 = .ok (.lload 9, 2) := by decide +kernel
theorem dX6_product_78 : decode cX6_product 78 = .ok (.lmul, 1) := by decide +kernel
theorem dX6_product_79 : decode cX6_product 79 = .ok (.ladd, 1) := by decide +kernel
theorem dX6_product_80 : decode cX6_product 80 = .ok (.aload_n 0, 1) := by decide +kernel
theorem dX6_product_81 : decode cX6_product 81 = .ok (.getfield 51, 3) := by decide +kernel
theorem dX6_product_84 : decode cX6_product 84 = .ok (.lload 5, 2) := by decide +kernel
theorem dX6_product_86 : decode cX6_product 86 = .ok (.lmul, 1) := by decide +kernel
theorem dX6_product_87 : decode cX6_product 87 = .ok (.lload 11, 2) := by decide +kernel
theorem dX6_product_89 : decode cX6_product 89 = .ok (.lmul, 1) := by decide +kernel
theorem dX6_product_90 : decode cX6_product 90 = .ok (.ladd, 1) := by decide +kernel
theorem dX6_product_91 : decode cX6_product 91 = .ok (.putfield 176, 3) := by decide +kernel
theorem dX6_product_94 : decode cX6_product 94 = .ok (.aload_n 0, 1) := by decide +kernel
theorem dX6_product_95 : decode cX6_product 95 = .ok (.lload_n 1, 1) := by decide +kernel
theorem dX6_product_96 : decode cX6_product 96 = .ok (.lload 11, 2) := by decide +kernel
theorem dX6_product_98 : decode cX6_product 98 = .ok (.lmul, 1) := by decide +kernel
theorem dX6_product_99 : decode cX6_product 99 = .ok (.lload 5, 2) := by decide +kernel
