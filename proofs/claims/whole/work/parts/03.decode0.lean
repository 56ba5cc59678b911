theorem dX0_init_0 : decode cX0_init 0 = .ok (.aload_n 0, 1) := by decide +kernel
theorem dX0_init_1 : decode cX0_init 1 = .ok (.invokespecial 3, 3) := by decide +kernel
theorem dX0_init_4 : decode cX0_init 4 = .ok (.return_, 1) := by decide +kernel
theorem dX0_set_0 : decode cX0_set 0 = .ok (.aload_n 0, 1) := by decide +kernel
theorem dX0_set_1 : decode cX0_set 1 = .ok (.lload_n 1, 1) := by decide +kernel
theorem dX0_set_2 : decode cX0_set 2 = .ok (.putfield 9, 3) := by decide +kernel
theorem dX0_set_5 : decode cX0_set 5 = .ok (.aload_n 0, 1) := by decide +kernel
theorem dX0_set_6 : decode cX0_set 6 = .ok (.lload_n 3, 1) := by decide +kernel
theorem dX0_set_7 : decode cX0_set 7 = .ok (.putfield 15, 3) := by decide +kernel
theorem dX0_set_10 : decode cX0_set 10 = .ok (.aload_n 0, 1) := by decide +kernel
theorem dX0_set_11 : decode cX0_set 11 = .ok (.lload 5, 2) := by decide +kernel
theorem dX0_set_13 : decode cX0_set 13 = .ok (.putfield 18, 3) := by decide +kernel
theorem dX0_set_16 : decode cX0_set 16 = .ok (.aload_n 0, 1) := by decide +kernel
theorem dX0_set_17 : decode cX0_set 17 = .ok (.lload 7, 2) := by decide +kernel
theorem dX0_set_19 : decode cX0_set 19 = .ok (.putfield 21, 3) := by decide +kernel
theorem dX0_set_22 : decode cX0_set 22 = .ok (.return_, 1) := by decide +kernel
theorem dX0_copyFrom_0 : decode cX0_copyFrom 0 = .ok (.aload_n 0, 1) := by decide +kernel
theorem dX0_copyFrom_1 : decode cX0_copyFrom 1 = .ok (.aload_n 1, 1) := by decide +kernel
theorem dX0_copyFrom_2 : decode cX0_copyFrom 2 = .ok (.getfield 9, 3) := by decide +kernel
theorem dX0_copyFrom_5 : decode cX0_copyFrom 5 = .ok (.aload_n 1, 1) := by decide +kernel
theorem dX0_copyFrom_6 : decode cX0_copyFrom 6 = .ok (.getfield 15, 3) := by decide +kernel
theorem dX0_copyFrom_9 : decode cX0_copyFrom 9 = .ok (.aload_n 1, 1) := by decide +kernel
theorem dX0_copyFrom_10 : decode cX0_copyFrom 10 = .ok (.getfield 18, 3) := by decide +kernel
theorem dX0_copyFrom_13 : decode cX0_copyFrom 13 = .ok (.aload_n 1, 1) := by decide +kernel
theorem dX0_copyFrom_14 : decode cX0_copyFrom 14 = .ok (.getfield 21, 3) := by decide +kernel
theorem dX0_copyFrom_17 : decode cX0_copyFrom 17 = .ok (.invokevirtual 24, 3) := by decide +kernel
theorem dX0_copyFrom_20 : decode cX0_copyFrom 20 = .ok (.return_, 1) := by decide +kernel
theorem dX0_fitsStore_0 : decode cX0_fitsStore 0 = .ok (.aload_n 0, 1) := by decide +kernel
theorem dX0_fitsStore_1 : decode cX0_fitsStore 1 = .ok (.getfield 9, 3) := by decide +kernel
theorem dX0_fitsStore_4 : decode cX0_fitsStore 4 = .ok (.ldc2_w 28, 3) := by decide +kernel
theorem dX0_fitsStore_7 : decode cX0_fitsStore 7 = .ok (.invokestatic 30, 3) := by decide +kernel
theorem dX0_fitsStore_10 : decode cX0_fitsStore 10 = .ok (.ifCond .eq 46, 3) := by decide +kernel
theorem dX0_fitsStore_13 : decode cX0_fitsStore 13 = .ok (.aload_n 0, 1) := by decide +kernel
theorem dX0_fitsStore_14 : decode cX0_fitsStore 14 = .ok (.getfield 15, 3) := by decide +kernel
theorem dX0_fitsStore_17 : decode cX0_fitsStore 17 = .ok (.ldc2_w 28, 3) := by decide +kernel
theorem dX0_fitsStore_20 : decode cX0_fitsStore 20 = .ok (.invokestatic 30, 3) := by decide +kernel
theorem dX0_fitsStore_23 : decode cX0_fitsStore 23 = .ok (.ifCond .eq 33, 3) := by decide +kernel
theorem dX0_fitsStore_26 : decode cX0_fitsStore 26 = .ok (.aload_n 0, 1) := by decide +kernel
theorem dX0_fitsStore_27 : decode cX0_fitsStore 27 = .ok (.getfield 18, 3) := by decide +kernel
theorem dX0_fitsStore_30 : decode cX0_fitsStore 30 = .ok (.ldc2_w 28, 3) := by decide +kernel
theorem dX0_fitsStore_33 : decode cX0_fitsStore 33 = .ok (.invokestatic 30, 3) := by decide +kernel
theorem dX0_fitsStore_36 : decode cX0_fitsStore 36 = .ok (.ifCond .eq 20, 3) := by decide +kernel
theorem dX0_fitsStore_39 : decode cX0_fitsStore 39 = .ok (.aload_n 0, 1) := by decide +kernel
theorem dX0_fitsStore_40 : decode cX0_fitsStore 40 = .ok (.getfield 21, 3) := by decide +kernel
theorem dX0_fitsStore_43 : decode cX0_fitsStore 43 = .ok (.ldc2_w 28, 3) := by decide +kernel
theorem dX0_fitsStore_46 : decode cX0_fitsStore 46 = .ok (.invokestatic 30, 3) := by decide +kernel
theorem dX0_fitsStore_49 : decode cX0_fitsStore 49 = .ok (.ifCond .eq 7, 3) := by decide +kernel
theorem dX0_fitsStore_52 : decode cX0_fitsStore 52 = .ok (.iconst 1, 1) := by decide +kernel
theorem dX0_fitsStore_53 : decode cX0_fitsStore 53 = .ok (.goto 4, 3) := by decide +kernel
theorem dX0_fitsStore_56 : decode cX0_fitsStore 56 = .ok (.iconst 0, 1) := by decide +kernel
theorem dX0_fitsStore_57 : decode cX0_fitsStore 57 = .ok (.ireturn, 1) := by decide +kernel
theorem dX0_isSameAs_0 : decode cX0_isSameAs 0 = .ok (.aload_n 0, 1) := by decide +kernel
theorem dX0_isSameAs_1 : decode cX0_isSameAs 1 = .ok (.getfield 9, 3) := by decide +kernel
theorem dX0_isSameAs_4 : decode cX0_isSameAs 4 = .ok (.aload_n 1, 1) := by decide +kernel
theorem dX0_isSameAs_5 : decode cX0_isSameAs 5 = .ok (.getfield 9, 3) := by decide +kernel
theorem dX0_isSameAs_8 : decode cX0_isSameAs 8 = .ok (.lcmp, 1) := by decide +kernel
theorem dX0_isSameAs_9 : decode cX0_isSameAs 9 = .ok (.ifCond .ne 43, 3) := by decide +kernel
theorem dX0_isSameAs_12 : decode cX0_isSameAs 12 = .ok (.aload_n 0, 1) := by decide +kernel
theorem dX0_isSameAs_13 : decode cX0_isSameAs 13 = .ok (.getfield 15, 3) := by decide +kernel
theorem dX0_isSameAs_16 : decode cX0_isSameAs 16 = .ok (.aload_n 1, 1) := by decide +kernel
theorem dX0_isSameAs_17 : decode cX0_isSameAs 17 = .ok (.getfield 15, 3) := by decide +kernel
theorem dX0_isSameAs_20 : decode cX0_isSameAs 20 = .ok (.lcmp, 1) := by decide +kernel
theorem dX0_isSameAs_21 : decode cX0_isSameAs 21 = .ok (.ifCond .ne 31, 3) := by decide +kernel
theorem dX0_isSameAs_24 : decode cX0_isSameAs 24 = .ok (.aload_n 0, 1) := by decide +kernel
theorem dX0_isSameAs_25 : decode cX0_isSameAs 25 = .ok (.getfield 18, 3) := by decide +kernel
theorem dX0_isSameAs_28 : decode cX0_isSameAs 28 = .ok (.aload_n 1, 1) := by decide +kernel
theorem dX0_isSameAs_29 : decode cX0_isSameAs 29 = .ok (.getfield 18, 3) := by decide +kernel
theorem dX0_isSameAs_32 : decode cX0_isSameAs 32 = .ok (.lcmp, 1) := by decide +kernel
theorem dX0_isSameAs_33 : decode cX0_isSameAs 33 = .ok (.ifCond .ne 19, 3) := by decide +kernel
theorem dX0_isSameAs_36 : decode cX0_isSameAs 36 = .ok (.aload_n 0, 1) := by decide +kernel
theorem dX0_isSameAs_37 : decode cX0_isSameAs 37 = .ok (.getfield 21, 3) := by decide +kernel
theorem dX0_isSameAs_40 : decode cX0_isSameAs 40 = .ok (.aload_n 1, 1) := by decide +kernel
theorem dX0_isSameAs_41 : decode cX0_isSameAs 41 = .ok (.getfield 21, 3) := by decide +kernel
theorem dX0_isSameAs_44 : decode cX0_isSameAs 44 = .ok (.lcmp, 1) := by decide +kernel
theorem dX0_isSameAs_45 : decode cX0_isSameAs 45 = .ok (.ifCond .ne 7, 3) := by decide +kernel
theorem dX0_isSameAs_48 : decode cX0_isSameAs 48 = .ok (.iconst 1, 1) := by decide +kernel
theorem dX0_isSameAs_49 : decode cX0_isSameAs 49 = .ok (.goto 4, 3) := by decide +kernel
theorem dX0_isSameAs_52 : decode cX0_isSameAs 52 = .ok (.iconst 0, 1) := by decide +kernel
theorem dX0_isSameAs_53 : decode cX0_isSameAs 53 = .ok (.ireturn, 1) := by decide +kernel
theorem dX0_isBefore_0 : decode cX0_isBefore 0 = .ok (.aload_n 0, 1) := by decide +kernel
theorem dX0_isBefore_1 : decode cX0_isBefore 1 = .ok (.getfield 9, 3) := by decide +kernel
theorem dX0_isBefore_4 : decode cX0_isBefore 4 = .ok (.aload_n 1, 1) := by decide +kernel
theorem dX0_isBefore_5 : decode cX0_isBefore 5 = .ok (.getfield 9, 3) := by decide +kernel
theorem dX0_isBefore_8 : decode cX0_isBefore 8 = .ok (.lcmp, 1) := by decide +kernel
theorem dX0_isBefore_9 : decode cX0_isBefore 9 = .ok (.ifCond .eq 21, 3) := by decide +kernel
theorem dX0_isBefore_12 : decode cX0_isBefore 12 = .ok (.aload_n 0, 1) := by decide +kernel
theorem dX0_isBefore_13 : decode cX0_isBefore 13 = .ok (.getfield 9, 3) := by decide +kernel
theorem dX0_isBefore_16 : decode cX0_isBefore 16 = .ok (.aload_n 1, 1) := by decide +kernel
theorem dX0_isBefore_17 : decode cX0_isBefore 17 = .ok (.getfield 9, 3) := by decide +kernel
theorem dX0_isBefore_20 : decode cX0_isBefore 20 = .ok (.lcmp, 1) := by decide +kernel
theorem dX0_isBefore_21 : decode cX0_isBefore 21 = .ok (.ifCond .ge 7, 3) := by decide +kernel
theorem dX0_isBefore_24 : decode cX0_isBefore 24 = .ok (.iconst 1, 1) := by decide +kernel
theorem dX0_isBefore_25 : decode cX0_isBefore 25 = .ok (.goto 4, 3) := by decide +kernel
theorem dX0_isBefore_28 : decode cX0_isBefore 28 = .ok (.iconst 0, 1) := by decide +kernel
theorem dX0_isBefore_29 : decode cX0_isBefore 29 = .ok (.ireturn, 1) := by decide +kernel
theorem dX0_isBefore_30 : decode cX0_isBefore 30 = .ok (.aload_n 0, 1) := by decide +kernel
theorem dX0_isBefore_31 : decode cX0_isBefore 31 = .ok (.getfield 15, 3) := by decide +kernel
theorem dX0_isBefore_34 : decode cX0_isBefore 34 = .ok (.aload_n 1, 1) := by decide +kernel
theorem dX0_isBefore_35 : decode cX0_isBefore 35 = .ok (.getfield 15, 3) := by decide +kernel
theorem dX0_isBefore_38 : decode cX0_isBefore 38 = .ok (.lcmp, 1) := by decide +kernel
theorem dX0_isBefore_39 : decode cX0_isBefore 39 = .ok (.ifCond .eq 21, 3) := by decide +kernel
theorem dX0_isBefore_42 : decode cX0_isBefore 42 = .ok (.aload_n 0, 1) := by decide +kernel
theorem dX0_isBefore_43 : decode cX0_isBefore 43 = .ok (.getfield 15, 3) := by decide +kernel
theorem dX0_isBefore_46 : decode cX0_isBefore 46 = .ok (.aload_n 1, 1) := by decide +kernel
theorem dX0_isBefore_47 : decode cX0_isBefore 47 = .ok (.getfield 15, 3) := by decide +kernel
theorem dX0_isBefore_50 : decode cX0_isBefore 50 = .ok (.lcmp, 1) := by decide +kernel
theorem dX0_isBefore_51 : decode cX0_isBefore 51 = .ok (.ifCond .ge 7, 3) := by decide +kernel
theorem dX0_isBefore_54 : decode cX0_isBefore 54 = .ok (.iconst 1, 1) := by decide +kernel
theorem dX0_isBefore_55 : decode cX0_isBefore 55 = .ok (.goto 4, 3) := by decide +kernel
theorem dX0_isBefore_58 : decode cX0_isBefore 58 = .ok (.iconst 0, 1) := by decide +kernel
theorem dX0_isBefore_59 : decode cX0_isBefore 59 = .ok (.ireturn, 1) := by decide +kernel
theorem dX0_isBefore_60 : decode cX0_isBefore 60 = .ok (.aload_n 0, 1) := by decide +kernel
theorem dX0_isBefore_61 : decode cX0_isBefore 61 = .ok (.getfield 18, 3) := by decide +kernel
theorem dX0_isBefore_64 : decode cX0_isBefore 64 = .ok (.aload_n 1, 1) := by decide +kernel
theorem dX0_isBefore_65 : decode cX0_isBefore 65 = .ok (.getfield 18, 3) := by decide +kernel
theorem dX0_isBefore_68 : decode cX0_isBefore 68 = .ok (.lcmp, 1) := by decide +kernel
theorem dX0_isBefore_69 : decode cX0_isBefore 69 = .ok (.ifCond .eq 21, 3) := by decide +kernel
theorem dX0_isBefore_72 : decode cX0_isBefore 72 = .ok (.aload_n 0, 1) := by decide +kernel
theorem dX0_isBefore_73 : decode cX0_isBefore 73 = .ok (.getfield 18, 3) := by decide +kernel
theorem dX0_isBefore_76 : decode cX0_isBefore 76 = .ok (.aload_n 1, 1) := by decide +kernel
theorem dX0_isBefore_77 : decode cX0_isBefore 77 = .ok (.getfield 18, 3) := by decide +kernel
theorem dX0_isBefore_80 : decode cX0_isBefore 80 = .ok (.lcmp, 1) := by decide +kernel
theorem dX0_isBefore_81 : decode cX0_isBefore 81 = .ok (.ifCond .ge 7, 3) := by decide +kernel
theorem dX0_isBefore_84 : decode cX0_isBefore 84 = .ok (.iconst 1, 1) := by decide +kernel
theorem dX0_isBefore_85 : decode cX0_isBefore 85 = .ok (.goto 4, 3) := by decide +kernel
theorem dX0_isBefore_88 : decode cX0_isBefore 88 = .ok (.iconst 0, 1) := by decide +kernel
theorem dX0_isBefore_89 : decode cX0_isBefore 89 = .ok (.ireturn, 1) := by decide +kernel
theorem dX0_isBefore_90 : decode cX0_isBefore 90 = .ok (.aload_n 0, 1) := by decide +kernel
theorem dX0_isBefore_91 : decode cX0_isBefore 91 = .ok (.getfield 21, 3) := by decide +kernel
theorem dX0_isBefore_94 : decode cX0_isBefore 94 = .ok (.aload_n 1, 1) := by decide +kernel
theorem dX0_isBefore_95 : decode cX0_isBefore 95 = .ok (.getfield 21, 3) := by decide +kernel
theorem dX0_isBefore_98 : decode cX0_isBefore 98 = .ok (.lcmp, 1) := by decide +kernel
theorem dX0_isBefore_99 : decode cX0_isBefore 99 = .ok (.ifCond .ge 7, 3) := by decide +kernel
theorem dX0_isBefore_102 : decode cX0_isBefore 102 = .ok (.iconst 1, 1) := by decide +kernel
theorem dX0_isBefore_103 : decode cX0_isBefore 103 = .ok (.goto 4, 3) := by decide +kernel
theorem dX0_isBefore_106 : decode cX0_isBefore 106 = .ok (.iconst 0, 1) := by decide +kernel
theorem dX0_isBefore_107 : decode cX0_isBefore 107 = .ok (.ireturn, 1) := by decide +kernel
theorem dX0_disc_0 : decode cX0_disc 0 = .ok (.aload_n 0, 1) := by decide +kernel
theorem dX0_disc_1 : decode cX0_disc 1 = .ok (.getfield 15, 3) := by decide +kernel
theorem dX0_disc_4 : decode cX0_disc 4 = .ok (.aload_n 0, 1) := by decide +kernel
theorem dX0_disc_5 : decode cX0_disc 5 = .ok (.getfield 15, 3) := by decide +kernel
theorem dX0_disc_8 : decode cX0_disc 8 = .ok (.lmul, 1) := by decide +kernel
theorem dX0_disc_9 : decode cX0_disc 9 = .ok (.aload_n 0, 1) := by decide +kernel
theorem dX0_disc_10 : decode cX0_disc 10 = .ok (.getfield 18, 3) := by decide +kernel
theorem dX0_disc_13 : decode cX0_disc 13 = .ok (.lmul, 1) := by decide +kernel
theorem dX0_disc_14 : decode cX0_disc 14 = .ok (.aload_n 0, 1) := by decide +kernel
theorem dX0_disc_15 : decode cX0_disc 15 = .ok (.getfield 18, 3) := by decide +kernel
theorem dX0_disc_18 : decode cX0_disc 18 = .ok (.lmul, 1) := by decide +kernel
theorem dX0_disc_19 : decode cX0_disc 19 = .ok (.ldc2_w 34, 3) := by decide +kernel
theorem dX0_disc_22 : decode cX0_disc 22 = .ok (.aload_n 0, 1) := by decide +kernel
theorem dX0_disc_23 : decode cX0_disc 23 = .ok (.getfield 9, 3) := by decide +kernel
theorem dX0_disc_26 : decode cX0_disc 26 = .ok (.lmul, 1) := by decide +kernel
theorem dX0_disc_27 : decode cX0_disc 27 = .ok (.aload_n 0, 1) := by decide +kernel
theorem dX0_disc_28 : decode cX0_disc 28 = .ok (.getfield 18, 3) := by decide +kernel
theorem dX0_disc_31 : decode cX0_disc 31 = .ok (.lmul, 1) := by decide +kernel
theorem dX0_disc_32 : decode cX0_disc 32 = .ok (.aload_n 0, 1) := by decide +kernel
theorem dX0_disc_33 : decode cX0_disc 33 = .ok (.getfield 18, 3) := by decide +kernel
theorem dX0_disc_36 : decode cX0_disc 36 = .ok (.lmul, 1) := by decide +kernel
theorem dX0_disc_37 : decode cX0_disc 37 = .ok (.aload_n 0, 1) := by decide +kernel
theorem dX0_disc_38 : decode cX0_disc 38 = .ok (.getfield 18, 3) := by decide +kernel
theorem dX0_disc_41 : decode cX0_disc 41 = .ok (.lmul, 1) := by decide +kernel
theorem dX0_disc_42 : decode cX0_disc 42 = .ok (.lsub, 1) := by decide +kernel
theorem dX0_disc_43 : decode cX0_disc 43 = .ok (.ldc2_w 34, 3) := by decide +kernel
theorem dX0_disc_46 : decode cX0_disc 46 = .ok (.aload_n 0, 1) := by decide +kernel
theorem dX0_disc_47 : decode cX0_disc 47 = .ok (.getfield 15, 3) := by decide +kernel
theorem dX0_disc_50 : decode cX0_disc 50 = .ok (.lmul, 1) := by decide +kernel
theorem dX0_disc_51 : decode cX0_disc 51 = .ok (.aload_n 0, 1) := by decide +kernel
theorem dX0_disc_52 : decode cX0_disc 52 = .ok (.getfield 15, 3) := by decide +kernel
theorem dX0_disc_55 : decode cX0_disc 55 = .ok (.lmul, 1) := by decide +kernel
theorem dX0_disc_56 : decode cX0_disc 56 = .ok (.aload_n 0, 1) := by decide +kernel
theorem dX0_disc_57 : decode cX0_disc 57 = .ok (.getfield 15, 3) := by decide +kernel
theorem dX0_disc_60 : decode cX0_disc 60 = .ok (.lmul, 1) := by decide +kernel
theorem dX0_disc_61 : decode cX0_disc 61 = .ok (.aload_n 0, 1) := by decide +kernel
theorem dX0_disc_62 : decode cX0_disc 62 = .ok (.getfield 21, 3) := by decide +kernel
theorem dX0_disc_65 : decode cX0_disc 65 = .ok (.lmul, 1) := by decide +kernel
theorem dX0_disc_66 : decode cX0_disc 66 = .ok (.lsub, 1) := by decide +kernel
theorem dX0_disc_67 : decode cX0_disc 67 = .ok (.ldc2_w 36, 3) := by decide +kernel
theorem dX0_disc_70 : decode cX0_disc 70 = .ok (.aload_n 0, 1) := by decide +kernel
theorem dX0_disc_71 : decode cX0_disc 71 = .ok (.getfield 9, 3) := by decide +kernel
theorem dX0_disc_74 : decode cX0_disc 74 = .ok (.lmul, 1) := by decide +kernel
theorem dX0_disc_75 : decode cX0_disc 75 = .ok (.aload_n 0, 1) := by decide +kernel
theorem dX0_disc_76 : decode cX0_disc 76 = .ok (.getfield 9, 3) := by decide +kernel
theorem dX0_disc_79 : decode cX0_disc 79 = .ok (.lmul, 1) := by decide +kernel
theorem dX0_disc_80 : decode cX0_disc 80 = .ok (.aload_n 0, 1) := by decide +kernel
theorem dX0_disc_81 : decode cX0_disc 81 = .ok (.getfield 21, 3) := by decide +kernel
theorem dX0_disc_84 : decode cX0_disc 84 = .ok (.lmul, 1) := by decide +kernel
theorem dX0_disc_85 : decode cX0_disc 85 = .ok (.aload_n 0, 1) := by decide +kernel
theorem dX0_disc_86 : decode cX0_disc 86 = .ok (.getfield 21, 3) := by decide +kernel
theorem dX0_disc_89 : decode cX0_disc 89 = .ok (.lmul, 1) := by decide +kernel
theorem dX0_disc_90 : decode cX0_disc 90 = .ok (.lsub, 1) := by decide +kernel
theorem dX0_disc_91 : decode cX0_disc 91 = .ok (.ldc2_w 38, 3) := by decide +kernel
theorem dX0_disc_94 : decode cX0_disc 94 = .ok (.aload_n 0, 1) := by decide +kernel
theorem dX0_disc_95 : decode cX0_disc 95 = .ok (.getfield 9, 3) := by decide +kernel
theorem dX0_disc_98 : decode cX0_disc 98 = .ok (.lmul, 1) := by decide +kernel
theorem dX0_disc_99 : decode cX0_disc 99 = .ok (.aload_n 0, 1) := by decide +kernel
theorem dX0_disc_100 : decode cX0_disc 100 = .ok (.getfield 15, 3) := by decide +kernel
theorem dX0_disc_103 : decode cX0_disc 103 = .ok (.lmul, 1) := by decide +kernel
theorem dX0_disc_104 : decode cX0_disc 104 = .ok (.aload_n 0, 1) := by decide +kernel
theorem dX0_disc_105 : decode cX0_disc 105 = .ok (.getfield 18, 3) := by decide +kernel
theorem dX0_disc_108 : decode cX0_disc 108 = .ok (.lmul, 1) := by decide +kernel
theorem dX0_disc_109 : decode cX0_disc 109 = .ok (.aload_n 0, 1) := by decide +kernel
theorem dX0_disc_110 : decode cX0_disc 110 = .ok (.getfield 21, 3) := by decide +kernel
theorem dX0_disc_113 : decode cX0_disc 113 = .ok (.lmul, 1) := by decide +kernel
theorem dX0_disc_114 : decode cX0_disc 114 = .ok (.ladd, 1) := by decide +kernel
theorem dX0_disc_115 : decode cX0_disc 115 = .ok (.lreturn, 1) := by decide +kernel
theorem dX0_hessianP_0 : decode cX0_hessianP 0 = .ok (.aload_n 0, 1) := by decide +kernel
theorem dX0_hessianP_1 : decode cX0_hessianP 1 = .ok (.getfield 15, 3) := by decide +kernel
theorem dX0_hessianP_4 : decode cX0_hessianP 4 = .ok (.aload_n 0, 1) := by decide +kernel
theorem dX0_hessianP_5 : decode cX0_hessianP 5 = .ok (.getfield 15, 3) := by decide +kernel
theorem dX0_hessianP_8 : decode cX0_hessianP 8 = .ok (.lmul, 1) := by decide +kernel
theorem dX0_hessianP_9 : decode cX0_hessianP 9 = .ok (.ldc2_w 40, 3) := by decide +kernel
theorem dX0_hessianP_12 : decode cX0_hessianP 12 = .ok (.aload_n 0, 1) := by decide +kernel
theorem dX0_hessianP_13 : decode cX0_hessianP 13 = .ok (.getfield 9, 3) := by decide +kernel
theorem dX0_hessianP_16 : decode cX0_hessianP 16 = .ok (.lmul, 1) := by decide +kernel
theorem dX0_hessianP_17 : decode cX0_hessianP 17 = .ok (.aload_n 0, 1) := by decide +kernel
theorem dX0_hessianP_18 : decode cX0_hessianP 18 = .ok (.getfield 18, 3) := by decide +kernel
theorem dX0_hessianP_21 : decode cX0_hessianP 21 = .ok (.lmul, 1) := by decide +kernel
theorem dX0_hessianP_22 : decode cX0_hessianP 22 = .ok (.lsub, 1) := by decide +kernel
theorem dX0_hessianP_23 : decode cX0_hessianP 23 = .ok (.lreturn, 1) := by decide +kernel
theorem dX0_hessianQ_0 : decode cX0_hessianQ 0 = .ok (.aload_n 0, 1) := by decide +kernel
theorem dX0_hessianQ_1 : decode cX0_hessianQ 1 = .ok (.getfield 15, 3) := by decide +kernel
theorem dX0_hessianQ_4 : decode cX0_hessianQ 4 = .ok (.aload_n 0, 1) := by decide +kernel
theorem dX0_hessianQ_5 : decode cX0_hessianQ 5 = .ok (.getfield 18, 3) := by decide +kernel
theorem dX0_hessianQ_8 : decode cX0_hessianQ 8 = .ok (.lmul, 1) := by decide +kernel
theorem dX0_hessianQ_9 : decode cX0_hessianQ 9 = .ok (.ldc2_w 42, 3) := by decide +kernel
theorem dX0_hessianQ_12 : decode cX0_hessianQ 12 = .ok (.aload_n 0, 1) := by decide +kernel
theorem dX0_hessianQ_13 : decode cX0_hessianQ 13 = .ok (.getfield 9, 3) := by decide +kernel
theorem dX0_hessianQ_16 : decode cX0_hessianQ 16 = .ok (.lmul, 1) := by decide +kernel
theorem dX0_hessianQ_17 : decode cX0_hessianQ 17 = .ok (.aload_n 0, 1) := by decide +kernel
theorem dX0_hessianQ_18 : decode cX0_hessianQ 18 = .ok (.getfield 21, 3) := by decide +kernel
theorem dX0_hessianQ_21 : decode cX0_hessianQ 21 = .ok (.lmul, 1) := by decide +kernel
theorem dX0_hessianQ_22 : decode cX0_hessianQ 22 = .ok (.lsub, 1) := by decide +kernel
theorem dX0_hessianQ_23 : decode cX0_hessianQ 23 = .ok (.lreturn, 1) := by decide +kernel
theorem dX0_hessianR_0 : decode cX0_hessianR 0 = .ok (.aload_n 0, 1) := by decide +kernel
theorem dX0_hessianR_1 : decode cX0_hessianR 1 = .ok (.getfield 18, 3) := by decide +kernel
theorem dX0_hessianR_4 : decode cX0_hessianR 4 = .ok (.aload_n 0, 1) := by decide +kernel
theorem dX0_hessianR_5 : decode cX0_hessianR 5 = .ok (.getfield 18, 3) := by decide +kernel
theorem dX0_hessianR_8 : decode cX0_hessianR 8 = .ok (.lmul, 1) := by decide +kernel
theorem dX0_hessianR_9 : decode cX0_hessianR 9 = .ok (.ldc2_w 40, 3) := by decide +kernel
theorem dX0_hessianR_12 : decode cX0_hessianR 12 = .ok (.aload_n 0, 1) := by decide +kernel
theorem dX0_hessianR_13 : decode cX0_hessianR 13 = .ok (.getfield 15, 3) := by decide +kernel
theorem dX0_hessianR_16 : decode cX0_hessianR 16 = .ok (.lmul, 1) := by decide +kernel
theorem dX0_hessianR_17 : decode cX0_hessianR 17 = .ok (.aload_n 0, 1) := by decide +kernel
theorem dX0_hessianR_18 : decode cX0_hessianR 18 = .ok (.getfield 21, 3) := by decide +kernel
theorem dX0_hessianR_21 : decode cX0_hessianR 21 = .ok (.lmul, 1) := by decide +kernel
theorem dX0_hessianR_22 : decode cX0_hessianR 22 = .ok (.lsub, 1) := by decide +kernel
theorem dX0_hessianR_23 : decode cX0_hessianR 23 = .ok (.lreturn, 1) := by decide +kernel
theorem dX0_hasReducedHessian_0 : decode cX0_hasReducedHessian 0 = .ok (.aload_n 0, 1) := by decide +kernel
theorem dX0_hasReducedHessian_1 : decode cX0_hasReducedHessian 1 = .ok (.invokevirtual 44, 3) := by decide +kernel
theorem dX0_hasReducedHessian_4 : decode cX0_hasReducedHessian 4 = .ok (.lstore_n 1, 1) := by decide +kernel
theorem dX0_hasReducedHessian_5 : decode cX0_hasReducedHessian 5 = .ok (.aload_n 0, 1) := by decide +kernel
theorem dX0_hasReducedHessian_6 : decode cX0_hasReducedHessian 6 = .ok (.invokevirtual 48, 3) := by decide +kernel
theorem dX0_hasReducedHessian_9 : decode cX0_hasReducedHessian 9 = .ok (.lload_n 1, 1) := by decide +kernel
theorem dX0_hasReducedHessian_10 : decode cX0_hasReducedHessian 10 = .ok (.invokestatic 30, 3) := by decide +kernel
theorem dX0_hasReducedHessian_13 : decode cX0_hasReducedHessian 13 = .ok (.ifCond .eq 16, 3) := by decide +kernel
theorem dX0_hasReducedHessian_16 : decode cX0_hasReducedHessian 16 = .ok (.lload_n 1, 1) := by decide +kernel
theorem dX0_hasReducedHessian_17 : decode cX0_hasReducedHessian 17 = .ok (.aload_n 0, 1) := by decide +kernel
theorem dX0_hasReducedHessian_18 : decode cX0_hasReducedHessian 18 = .ok (.invokevirtual 51, 3) := by decide +kernel
theorem dX0_hasReducedHessian_21 : decode cX0_hasReducedHessian 21 = .ok (.lcmp, 1) := by decide +kernel
theorem dX0_hasReducedHessian_22 : decode cX0_hasReducedHessian 22 = .ok (.ifCond .gt 7, 3) := by decide +kernel
theorem dX0_hasReducedHessian_25 : decode cX0_hasReducedHessian 25 = .ok (.iconst 1, 1) := by decide +kernel
theorem dX0_hasReducedHessian_26 : decode cX0_hasReducedHessian 26 = .ok (.goto 4, 3) := by decide +kernel
theorem dX0_hasReducedHessian_29 : decode cX0_hasReducedHessian 29 = .ok (.iconst 0, 1) := by decide +kernel
theorem dX0_hasReducedHessian_30 : decode cX0_hasReducedHessian 30 = .ok (.ireturn, 1) := by decide +kernel
theorem dX0_valueAt_0 : decode cX0_valueAt 0 = .ok (.aload_n 0, 1) := by decide +kernel
theorem dX0_valueAt_1 : decode cX0_valueAt 1 = .ok (.getfield 9, 3) := by decide +kernel
theorem dX0_valueAt_4 : decode cX0_valueAt 4 = .ok (.lload_n 1, 1) := by decide +kernel
theorem dX0_valueAt_5 : decode cX0_valueAt 5 = .ok (.lmul, 1) := by decide +kernel
theorem dX0_valueAt_6 : decode cX0_valueAt 6 = .ok (.aload_n 0, 1) := by decide +kernel
theorem dX0_valueAt_7 : decode cX0_valueAt 7 = .ok (.getfield 15, 3) := by decide +kernel
theorem dX0_valueAt_10 : decode cX0_valueAt 10 = .ok (.lload_n 3, 1) := by decide +kernel
theorem dX0_valueAt_11 : decode cX0_valueAt 11 = .ok (.lmul, 1) := by decide +kernel
theorem dX0_valueAt_12 : decode cX0_valueAt 12 = .ok (.ladd, 1) := by decide +kernel
theorem dX0_valueAt_13 : decode cX0_valueAt 13 = .ok (.lload_n 1, 1) := by decide +kernel
theorem dX0_valueAt_14 : decode cX0_valueAt 14 = .ok (.lmul, 1) := by decide +kernel
theorem dX0_valueAt_15 : decode cX0_valueAt 15 = .ok (.aload_n 0, 1) := by decide +kernel
theorem dX0_valueAt_16 : decode cX0_valueAt 16 = .ok (.getfield 18, 3) := by decide +kernel
theorem dX0_valueAt_19 : decode cX0_valueAt 19 = .ok (.lload_n 3, 1) := by decide +kernel
theorem dX0_valueAt_20 : decode cX0_valueAt 20 = .ok (.lmul, 1) := by decide +kernel
theorem dX0_valueAt_21 : decode cX0_valueAt 21 = .ok (.lload_n 3, 1) := by decide +kernel
theorem dX0_valueAt_22 : decode cX0_valueAt 22 = .ok (.lmul, 1) := by decide +kernel
theorem dX0_valueAt_23 : decode cX0_valueAt 23 = .ok (.ladd, 1) := by decide +kernel
theorem dX0_valueAt_24 : decode cX0_valueAt 24 = .ok (.lload_n 1, 1) := by decide +kernel
theorem dX0_valueAt_25 : decode cX0_valueAt 25 = .ok (.lmul, 1) := by decide +kernel
theorem dX0_valueAt_26 : decode cX0_valueAt 26 = .ok (.aload_n 0, 1) := by decide +kernel
theorem dX0_valueAt_27 : decode cX0_valueAt 27 = .ok (.getfield 21, 3) := by decide +kernel
theorem dX0_valueAt_30 : decode cX0_valueAt 30 = .ok (.lload_n 3, 1) := by decide +kernel
theorem dX0_valueAt_31 : decode cX0_valueAt 31 = .ok (.lmul, 1) := by decide +kernel
theorem dX0_valueAt_32 : decode cX0_valueAt 32 = .ok (.lload_n 3, 1) := by decide +kernel
theorem dX0_valueAt_33 : decode cX0_valueAt 33 = .ok (.lmul, 1) := by decide +kernel
theorem dX0_valueAt_34 : decode cX0_valueAt 34 = .ok (.lload_n 3, 1) := by decide +kernel
theorem dX0_valueAt_35 : decode cX0_valueAt 35 = .ok (.lmul, 1) := by decide +kernel
theorem dX0_valueAt_36 : decode cX0_valueAt 36 = .ok (.ladd, 1) := by decide +kernel
theorem dX0_valueAt_37 : decode cX0_valueAt 37 = .ok (.lreturn, 1) := by decide +kernel
theorem dX0_becomeSubstituted_0 : decode cX0_becomeSubstituted 0 = .ok (.aload_n 0, 1) := by decide +kernel
theorem dX0_becomeSubstituted_1 : decode cX0_becomeSubstituted 1 = .ok (.aload_n 1, 1) := by decide +kernel
theorem dX0_becomeSubstituted_2 : decode cX0_becomeSubstituted 2 = .ok (.lload_n 2, 1) := by decide +kernel
theorem dX0_becomeSubstituted_3 : decode cX0_becomeSubstituted 3 = .ok (.lload 6, 2) := by decide +kernel
theorem dX0_becomeSubstituted_5 : decode cX0_becomeSubstituted 5 = .ok (.invokevirtual 54, 3) := by decide +kernel
theorem dX0_becomeSubstituted_8 : decode cX0_becomeSubstituted 8 = .ok (.putfield 9, 3) := by decide +kernel
theorem dX0_becomeSubstituted_11 : decode cX0_becomeSubstituted 11 = .ok (.aload_n 0, 1) := by decide +kernel
theorem dX0_becomeSubstituted_12 : decode cX0_becomeSubstituted 12 = .ok (.ldc2_w 40, 3) := by decide +kernel
theorem dX0_becomeSubstituted_15 : decode cX0_becomeSubstituted 15 = .ok (.aload_n 1, 1) := by decide +kernel
theorem dX0_becomeSubstituted_16 : decode cX0_becomeSubstituted 16 = .ok (.getfield 9, 3) := by decide +kernel
theorem dX0_becomeSubstituted_19 : decode cX0_becomeSubstituted 19 = .ok (.lmul, 1) := by decide +kernel
theorem dX0_becomeSubstituted_20 : decode cX0_becomeSubstituted 20 = .ok (.lload_n 2, 1) := by decide +kernel
theorem dX0_becomeSubstituted_21 : decode cX0_becomeSubstituted 21 = .ok (.lmul, 1) := by decide +kernel
theorem dX0_becomeSubstituted_22 : decode cX0_becomeSubstituted 22 = .ok (.lload_n 2, 1) := by decide +kernel
theorem dX0_becomeSubstituted_23 : decode cX0_becomeSubstituted 23 = .ok (.lmul, 1) := by decide +kernel
theorem dX0_becomeSubstituted_24 : decode cX0_becomeSubstituted 24 = .ok (.lload 4, 2) := by decide +kernel
theorem dX0_becomeSubstituted_26 : decode cX0_becomeSubstituted 26 = .ok (.lmul, 1) := by decide +kernel
theorem dX0_becomeSubstituted_27 : decode cX0_becomeSubstituted 27 = .ok (.aload_n 1, 1) := by decide +kernel
theorem dX0_becomeSubstituted_28 : decode cX0_becomeSubstituted 28 = .ok (.getfield 15, 3) := by decide +kernel
theorem dX0_becomeSubstituted_31 : decode cX0_becomeSubstituted 31 = .ok (.lload_n 2, 1) := by decide +kernel
theorem dX0_becomeSubstituted_32 : decode cX0_becomeSubstituted 32 = .ok (.lmul, 1) := by decide +kernel
theorem dX0_becomeSubstituted_33 : decode cX0_becomeSubstituted 33 = .ok (.lload_n 2, 1) := by decide +kernel
theorem dX0_becomeSubstituted_34 : decode cX0_becomeSubstituted 34 = .ok (.lload 8, 2) := by decide +kernel
theorem dX0_becomeSubstituted_36 : decode cX0_becomeSubstituted 36 = .ok (.lmul, 1) := by decide +kernel
theorem dX0_becomeSubstituted_37 : decode cX0_becomeSubstituted 37 = .ok (.ldc2_w 58, 3) := by decide +kernel
theorem dX0_becomeSubstituted_40 : decode cX0_becomeSubstituted 40 = .ok (.lload 4, 2) := by decide +kernel
theorem dX0_becomeSubstituted_42 : decode cX0_becomeSubstituted 42 = .ok (.lmul, 1) := by decide +kernel
theorem dX0_becomeSubstituted_43 : decode cX0_becomeSubstituted 43 = .ok (.lload 6, 2) := by decide +kernel
theorem dX0_becomeSubstituted_45 : decode cX0_becomeSubstituted 45 = .ok (.lmul, 1) := by decide +kernel
theorem dX0_becomeSubstituted_46 : decode cX0_becomeSubstituted 46 = .ok (.ladd, 1) := by decide +kernel
theorem dX0_becomeSubstituted_47 : decode cX0_becomeSubstituted 47 = .ok (.lmul, 1) := by decide +kernel
theorem dX0_becomeSubstituted_48 : decode cX0_becomeSubstituted 48 = .ok (.ladd, 1) := by decide +kernel
theorem dX0_becomeSubstituted_49 : decode cX0_becomeSubstituted 49 = .ok (.aload_n 1, 1) := by decide +kernel
theorem dX0_becomeSubstituted_50 : decode cX0_becomeSubstituted 50 = .ok (.getfield 18, 3) := by decide +kernel
theorem dX0_becomeSubstituted_53 : decode cX0_becomeSubstituted 53 = .ok (.lload 6, 2) := by decide +kernel
theorem dX0_becomeSubstituted_55 : decode cX0_becomeSubstituted 55 = .ok (.lmul, 1) := by decide +kernel
theorem dX0_becomeSubstituted_56 : decode cX0_becomeSubstituted 56 = .ok (.ldc2_w 58, 3) := by decide +kernel
theorem dX0_becomeSubstituted_59 : decode cX0_becomeSubstituted 59 = .ok (.lload_n 2, 1) := by decide +kernel
theorem dX0_becomeSubstituted_60 : decode cX0_becomeSubstituted 60 = .ok (.lmul, 1) := by decide +kernel
theorem dX0_becomeSubstituted_61 : decode cX0_becomeSubstituted 61 = .ok (.lload 8, 2) := by decide +kernel
theorem dX0_becomeSubstituted_63 : decode cX0_becomeSubstituted 63 = .ok (.lmul, 1) := by decide +kernel
theorem dX0_becomeSubstituted_64 : decode cX0_becomeSubstituted 64 = .ok (.lload 4, 2) := by decide +kernel
theorem dX0_becomeSubstituted_66 : decode cX0_becomeSubstituted 66 = .ok (.lload 6, 2) := by decide +kernel
theorem dX0_becomeSubstituted_68 : decode cX0_becomeSubstituted 68 = .ok (.lmul, 1) := by decide +kernel
theorem dX0_becomeSubstituted_69 : decode cX0_becomeSubstituted 69 = .ok (.ladd, 1) := by decide +kernel
theorem dX0_becomeSubstituted_70 : decode cX0_becomeSubstituted 70 = .ok (.lmul, 1) := by decide +kernel
theorem dX0_becomeSubstituted_71 : decode cX0_becomeSubstituted 71 = .ok (.ladd, 1) := by decide +kernel
theorem dX0_becomeSubstituted_72 : decode cX0_becomeSubstituted 72 = .ok (.ldc2_w 40, 3) := by decide +kernel
theorem dX0_becomeSubstituted_75 : decode cX0_becomeSubstituted 75 = .ok (.aload_n 1, 1) := by decide +kernel
theorem dX0_becomeSubstituted_76 : decode cX0_becomeSubstituted 76 = .ok (.getfield 21, 3) := by decide +kernel
theorem dX0_becomeSubstituted_79 : decode cX0_becomeSubstituted 79 = .ok (.lmul, 1) := by decide +kernel
theorem dX0_becomeSubstituted_80 : decode cX0_becomeSubstituted 80 = .ok (.lload 6, 2) := by decide +kernel
theorem dX0_becomeSubstituted_82 : decode cX0_becomeSubstituted 82 = .ok (.lmul, 1) := by decide +kernel
theorem dX0_becomeSubstituted_83 : decode cX0_becomeSubstituted 83 = .ok (.lload 6, 2) := by decide +kernel
theorem dX0_becomeSubstituted_85 : decode cX0_becomeSubstituted 85 = .ok (.lmul, 1) := by decide +kernel
theorem dX0_becomeSubstituted_86 : decode cX0_becomeSubstituted 86 = .ok (.lload 8, 2) := by decide +kernel
theorem dX0_becomeSubstituted_88 : decode cX0_becomeSubstituted 88 = .ok (.lmul, 1) := by decide +kernel
theorem dX0_becomeSubstituted_89 : decode cX0_becomeSubstituted 89 = .ok (.ladd, 1) := by decide +kernel
theorem dX0_becomeSubstituted_90 : decode cX0_becomeSubstituted 90 = .ok (.putfield 15, 3) := by decide +kernel
theorem dX0_becomeSubstituted_93 : decode cX0_becomeSubstituted 93 = .ok (.aload_n 0, 1) := by decide +kernel
theorem dX0_becomeSubstituted_94 : decode cX0_becomeSubstituted 94 = .ok (.ldc2_w 40, 3) := by decide +kernel
theorem dX0_becomeSubstituted_97 : decode cX0_becomeSubstituted 97 = .ok (.aload_n 1, 1) := by decide +kernel
theorem dX0_becomeSubstituted_98 : decode cX0_becomeSubstituted 98 = .ok (.getfield 9, 3) := by decide +kernel
theorem dX0_becomeSubstituted_101 : decode cX0_becomeSubstituted 101 = .ok (.lmul, 1) := by decide +kernel
theorem dX0_becomeSubstituted_102 : decode cX0_becomeSubstituted 102 = .ok (.lload_n 2, 1) := by decide +kernel
theorem dX0_becomeSubstituted_103 : decode cX0_becomeSubstituted 103 = .ok (.lmul, 1) := by decide +kernel
theorem dX0_becomeSubstituted_104 : decode cX0_becomeSubstituted 104 = .ok (.lload 4, 2) := by decide +kernel
theorem dX0_becomeSubstituted_106 : decode cX0_becomeSubstituted 106 = .ok (.lmul, 1) := by decide +kernel
theorem dX0_becomeSubstituted_107 : decode cX0_becomeSubstituted 107 = .ok (.lload 4, 2) := by decide +kernel
theorem dX0_becomeSubstituted_109 : decode cX0_becomeSubstituted 109 = .ok (.lmul, 1) := by decide +kernel
theorem dX0_becomeSubstituted_110 : decode cX0_becomeSubstituted 110 = .ok (.aload_n 1, 1) := by decide +kernel
theorem dX0_becomeSubstituted_111 : decode cX0_becomeSubstituted 111 = .ok (.getfield 15, 3) := by decide +kernel
theorem dX0_becomeSubstituted_114 : decode cX0_becomeSubstituted 114 = .ok (.lload 4, 2) := by decide +kernel
theorem dX0_becomeSubstituted_116 : decode cX0_becomeSubstituted 116 = .ok (.lmul, 1) := by decide +kernel
theorem dX0_becomeSubstituted_117 : decode cX0_becomeSubstituted 117 = .ok (.ldc2_w 58, 3) := by decide +kernel
theorem dX0_becomeSubstituted_120 : decode cX0_becomeSubstituted 120 = .ok (.lload_n 2, 1) := by decide +kernel
theorem dX0_becomeSubstituted_121 : decode cX0_becomeSubstituted 121 = .ok (.lmul, 1) := by decide +kernel
theorem dX0_becomeSubstituted_122 : decode cX0_becomeSubstituted 122 = .ok (.lload 8, 2) := by decide +kernel
theorem dX0_becomeSubstituted_124 : decode cX0_becomeSubstituted 124 = .ok (.lmul, 1) := by decide +kernel
theorem dX0_becomeSubstituted_125 : decode cX0_becomeSubstituted 125 = .ok (.lload 4, 2) := by decide +kernel
theorem dX0_becomeSubstituted_127 : decode cX0_becomeSubstituted 127 = .ok (.lload 6, 2) := by decide +kernel
theorem dX0_becomeSubstituted_129 : decode cX0_becomeSubstituted 129 = .ok (.lmul, 1) := by decide +kernel
theorem dX0_becomeSubstituted_130 : decode cX0_becomeSubstituted 130 = .ok (.ladd, 1) := by decide +kernel
theorem dX0_becomeSubstituted_131 : decode cX0_becomeSubstituted 131 = .ok (.lmul, 1) := by decide +kernel
theorem dX0_becomeSubstituted_132 : decode cX0_becomeSubstituted 132 = .ok (.ladd, 1) := by decide +kernel
theorem dX0_becomeSubstituted_133 : decode cX0_becomeSubstituted 133 = .ok (.aload_n 1, 1) := by decide +kernel
theorem dX0_becomeSubstituted_134 : decode cX0_becomeSubstituted 134 = .ok (.getfield 18, 3) := by decide +kernel
theorem dX0_becomeSubstituted_137 : decode cX0_becomeSubstituted 137 = .ok (.lload 8, 2) := by decide +kernel
theorem dX0_becomeSubstituted_139 : decode cX0_becomeSubstituted 139 = .ok (.lmul, 1) := by decide +kernel
theorem dX0_becomeSubstituted_140 : decode cX0_becomeSubstituted 140 = .ok (.lload_n 2, 1) := by decide +kernel
theorem dX0_becomeSubstituted_141 : decode cX0_becomeSubstituted 141 = .ok (.lload 8, 2) := by decide +kernel
theorem dX0_becomeSubstituted_143 : decode cX0_becomeSubstituted 143 = .ok (.lmul, 1) := by decide +kernel
theorem dX0_becomeSubstituted_144 : decode cX0_becomeSubstituted 144 = .ok (.ldc2_w 58, 3) := by decide +kernel
theorem dX0_becomeSubstituted_147 : decode cX0_becomeSubstituted 147 = .ok (.lload 4, 2) := by decide +kernel
theorem dX0_becomeSubstituted_149 : decode cX0_becomeSubstituted 149 = .ok (.lmul, 1) := by decide +kernel
theorem dX0_becomeSubstituted_150 : decode cX0_becomeSubstituted 150 = .ok (.lload 6, 2) := by decide +kernel
theorem dX0_becomeSubstituted_152 : decode cX0_becomeSubstituted 152 = .ok (.lmul, 1) := by decide +kernel
theorem dX0_becomeSubstituted_153 : decode cX0_becomeSubstituted 153 = .ok (.ladd, 1) := by decide +kernel
theorem dX0_becomeSubstituted_154 : decode cX0_becomeSubstituted 154 = .ok (.lmul, 1) := by decide +kernel
theorem dX0_becomeSubstituted_155 : decode cX0_becomeSubstituted 155 = .ok (.ladd, 1) := by decide +kernel
theorem dX0_becomeSubstituted_156 : decode cX0_becomeSubstituted 156 = .ok (.ldc2_w 40, 3) := by decide +kernel
theorem dX0_becomeSubstituted_159 : decode cX0_becomeSubstituted 159 = .ok (.aload_n 1, 1) := by decide +kernel
theorem dX0_becomeSubstituted_160 : decode cX0_becomeSubstituted 160 = .ok (.getfield 21, 3) := by decide +kernel
theorem dX0_becomeSubstituted_163 : decode cX0_becomeSubstituted 163 = .ok (.lmul, 1) := by decide +kernel
theorem dX0_becomeSubstituted_164 : decode cX0_becomeSubstituted 164 = .ok (.lload 6, 2) := by decide +kernel
theorem dX0_becomeSubstituted_166 : decode cX0_becomeSubstituted 166 = .ok (.lmul, 1) := by decide +kernel
theorem dX0_becomeSubstituted_167 : decode cX0_becomeSubstituted 167 = .ok (.lload 8, 2) := by decide +kernel
theorem dX0_becomeSubstituted_169 : decode cX0_becomeSubstituted 169 = .ok (.lmul, 1) := by decide +kernel
theorem dX0_becomeSubstituted_170 : decode cX0_becomeSubstituted 170 = .ok (.lload 8, 2) := by decide +kernel
theorem dX0_becomeSubstituted_172 : decode cX0_becomeSubstituted 172 = .ok (.lmul, 1) := by decide +kernel
theorem dX0_becomeSubstituted_173 : decode cX0_becomeSubstituted 173 = .ok (.ladd, 1) := by decide +kernel
theorem dX0_becomeSubstituted_174 : decode cX0_becomeSubstituted 174 = .ok (.putfield 18, 3) := by decide +kernel
theorem dX0_becomeSubstituted_177 : decode cX0_becomeSubstituted 177 = .ok (.aload_n 0, 1) := by decide +kernel
theorem dX0_becomeSubstituted_178 : decode cX0_becomeSubstituted 178 = .ok (.aload_n 1, 1) := by decide +kernel
theorem dX0_becomeSubstituted_179 : decode cX0_becomeSubstituted 179 = .ok (.lload 4, 2) := by decide +kernel
theorem dX0_becomeSubstituted_181 : decode cX0_becomeSubstituted 181 = .ok (.lload 8, 2) := by decide +kernel
theorem dX0_becomeSubstituted_183 : decode cX0_becomeSubstituted 183 = .ok (.invokevirtual 54, 3) := by decide +kernel
theorem dX0_becomeSubstituted_186 : decode cX0_becomeSubstituted 186 = .ok (.putfield 21, 3) := by decide +kernel
theorem dX0_becomeSubstituted_189 : decode cX0_becomeSubstituted 189 = .ok (.return_, 1) := by decide +kernel
theorem dX0_shift_0 : decode cX0_shift 0 = .ok (.aload_n 0, 1) := by decide +kernel
theorem dX0_shift_1 : decode cX0_shift 1 = .ok (.aload_n 0, 1) := by decide +kernel
theorem dX0_shift_2 : decode cX0_shift 2 = .ok (.lload_n 1, 1) := by decide +kernel
theorem dX0_shift_3 : decode cX0_shift 3 = .ok (.lconst 1, 1) := by decide +kernel
theorem dX0_shift_4 : decode cX0_shift 4 = .ok (.invokevirtual 54, 3) := by decide +kernel
theorem dX0_shift_7 : decode cX0_shift 7 = .ok (.putfield 21, 3) := by decide +kernel
theorem dX0_shift_10 : decode cX0_shift 10 = .ok (.aload_n 0, 1) := by decide +kernel
theorem dX0_shift_11 : decode cX0_shift 11 = .ok (.ldc2_w 40, 3) := by decide +kernel
theorem dX0_shift_14 : decode cX0_shift 14 = .ok (.aload_n 0, 1) := by decide +kernel
theorem dX0_shift_15 : decode cX0_shift 15 = .ok (.getfield 9, 3) := by decide +kernel
theorem dX0_shift_18 : decode cX0_shift 18 = .ok (.lmul, 1) := by decide +kernel
theorem dX0_shift_19 : decode cX0_shift 19 = .ok (.lload_n 1, 1) := by decide +kernel
theorem dX0_shift_20 : decode cX0_shift 20 = .ok (.lmul, 1) := by decide +kernel
theorem dX0_shift_21 : decode cX0_shift 21 = .ok (.ldc2_w 58, 3) := by decide +kernel
theorem dX0_shift_24 : decode cX0_shift 24 = .ok (.aload_n 0, 1) := by decide +kernel
theorem dX0_shift_25 : decode cX0_shift 25 = .ok (.getfield 15, 3) := by decide +kernel
theorem dX0_shift_28 : decode cX0_shift 28 = .ok (.lmul, 1) := by decide +kernel
theorem dX0_shift_29 : decode cX0_shift 29 = .ok (.ladd, 1) := by decide +kernel
theorem dX0_shift_30 : decode cX0_shift 30 = .ok (.lload_n 1, 1) := by decide +kernel
theorem dX0_shift_31 : decode cX0_shift 31 = .ok (.lmul, 1) := by decide +kernel
theorem dX0_shift_32 : decode cX0_shift 32 = .ok (.aload_n 0, 1) := by decide +kernel
theorem dX0_shift_33 : decode cX0_shift 33 = .ok (.getfield 18, 3) := by decide +kernel
theorem dX0_shift_36 : decode cX0_shift 36 = .ok (.ladd, 1) := by decide +kernel
theorem dX0_shift_37 : decode cX0_shift 37 = .ok (.putfield 18, 3) := by decide +kernel
theorem dX0_shift_40 : decode cX0_shift 40 = .ok (.aload_n 0, 1) := by decide +kernel
theorem dX0_shift_41 : decode cX0_shift 41 = .ok (.ldc2_w 40, 3) := by decide +kernel
theorem dX0_shift_44 : decode cX0_shift 44 = .ok (.aload_n 0, 1) := by decide +kernel
theorem dX0_shift_45 : decode cX0_shift 45 = .ok (.getfield 9, 3) := by decide +kernel
theorem dX0_shift_48 : decode cX0_shift 48 = .ok (.lmul, 1) := by decide +kernel
theorem dX0_shift_49 : decode cX0_shift 49 = .ok (.lload_n 1, 1) := by decide +kernel
theorem dX0_shift_50 : decode cX0_shift 50 = .ok (.lmul, 1) := by decide +kernel
theorem dX0_shift_51 : decode cX0_shift 51 = .ok (.aload_n 0, 1) := by decide +kernel
theorem dX0_shift_52 : decode cX0_shift 52 = .ok (.getfield 15, 3) := by decide +kernel
theorem dX0_shift_55 : decode cX0_shift 55 = .ok (.ladd, 1) := by decide +kernel
theorem dX0_shift_56 : decode cX0_shift 56 = .ok (.putfield 15, 3) := by decide +kernel
theorem dX0_shift_59 : decode cX0_shift 59 = .ok (.return_, 1) := by decide +kernel
theorem dX0_swap_0 : decode cX0_swap 0 = .ok (.aload_n 0, 1) := by decide +kernel
theorem dX0_swap_1 : decode cX0_swap 1 = .ok (.aload_n 0, 1) := by decide +kernel
theorem dX0_swap_2 : decode cX0_swap 2 = .ok (.getfield 21, 3) := by decide +kernel
theorem dX0_swap_5 : decode cX0_swap 5 = .ok (.aload_n 0, 1) := by decide +kernel
theorem dX0_swap_6 : decode cX0_swap 6 = .ok (.getfield 18, 3) := by decide +kernel
theorem dX0_swap_9 : decode cX0_swap 9 = .ok (.aload_n 0, 1) := by decide +kernel
theorem dX0_swap_10 : decode cX0_swap 10 = .ok (.getfield 15, 3) := by decide +kernel
theorem dX0_swap_13 : decode cX0_swap 13 = .ok (.aload_n 0, 1) := by decide +kernel
theorem dX0_swap_14 : decode cX0_swap 14 = .ok (.getfield 9, 3) := by decide +kernel
theorem dX0_swap_17 : decode cX0_swap 17 = .ok (.invokevirtual 24, 3) := by decide +kernel
theorem dX0_swap_20 : decode cX0_swap 20 = .ok (.return_, 1) := by decide +kernel
theorem dX0_reduceHessian_0 : decode cX0_reduceHessian 0 = .ok (.iconst 0, 1) := by decide +kernel
theorem dX0_reduceHessian_1 : decode cX0_reduceHessian 1 = .ok (.istore_n 1, 1) := by decide +kernel
theorem dX0_reduceHessian_2 : decode cX0_reduceHessian 2 = .ok (.iload_n 1, 1) := by decide +kernel
theorem dX0_reduceHessian_3 : decode cX0_reduceHessian 3 = .ok (.sipush 1000, 3) := by decide +kernel
theorem dX0_reduceHessian_6 : decode cX0_reduceHessian 6 = .ok (.if_icmp .ge 58, 3) := by decide +kernel
theorem dX0_reduceHessian_9 : decode cX0_reduceHessian 9 = .ok (.aload_n 0, 1) := by decide +kernel
theorem dX0_reduceHessian_10 : decode cX0_reduceHessian 10 = .ok (.invokevirtual 44, 3) := by decide +kernel
theorem dX0_reduceHessian_13 : decode cX0_reduceHessian 13 = .ok (.lstore_n 2, 1) := by decide +kernel
theorem dX0_reduceHessian_14 : decode cX0_reduceHessian 14 = .ok (.ldc2_w 58, 3) := by decide +kernel
theorem dX0_reduceHessian_17 : decode cX0_reduceHessian 17 = .ok (.lload_n 2, 1) := by decide +kernel
theorem dX0_reduceHessian_18 : decode cX0_reduceHessian 18 = .ok (.lmul, 1) := by decide +kernel
theorem dX0_reduceHessian_19 : decode cX0_reduceHessian 19 = .ok (.lstore 4, 2) := by decide +kernel
theorem dX0_reduceHessian_21 : decode cX0_reduceHessian 21 = .ok (.lload 4, 2) := by decide +kernel
theorem dX0_reduceHessian_23 : decode cX0_reduceHessian 23 = .ok (.lconst 0, 1) := by decide +kernel
theorem dX0_reduceHessian_24 : decode cX0_reduceHessian 24 = .ok (.lcmp, 1) := by decide +kernel
theorem dX0_reduceHessian_25 : decode cX0_reduceHessian 25 = .ok (.ifCond .gt 4, 3) := by decide +kernel
theorem dX0_reduceHessian_28 : decode cX0_reduceHessian 28 = .ok (.return_, 1) := by decide +kernel
theorem dX0_reduceHessian_29 : decode cX0_reduceHessian 29 = .ok (.aload_n 0, 1) := by decide +kernel
theorem dX0_reduceHessian_30 : decode cX0_reduceHessian 30 = .ok (.lload_n 2, 1) := by decide +kernel
theorem dX0_reduceHessian_31 : decode cX0_reduceHessian 31 = .ok (.aload_n 0, 1) := by decide +kernel
theorem dX0_reduceHessian_32 : decode cX0_reduceHessian 32 = .ok (.invokevirtual 48, 3) := by decide +kernel
theorem dX0_reduceHessian_35 : decode cX0_reduceHessian 35 = .ok (.lsub, 1) := by decide +kernel
theorem dX0_reduceHessian_36 : decode cX0_reduceHessian 36 = .ok (.lload 4, 2) := by decide +kernel
theorem dX0_reduceHessian_38 : decode cX0_reduceHessian 38 = .ok (.invokestatic 60, 3) := by decide +kernel
theorem dX0_reduceHessian_41 : decode cX0_reduceHessian 41 = .ok (.invokevirtual 65, 3) := by decide +kernel
theorem dX0_reduceHessian_44 : decode cX0_reduceHessian 44 = .ok (.lload_n 2, 1) := by decide +kernel
theorem dX0_reduceHessian_45 : decode cX0_reduceHessian 45 = .ok (.aload_n 0, 1) := by decide +kernel
theorem dX0_reduceHessian_46 : decode cX0_reduceHessian 46 = .ok (.invokevirtual 51, 3) := by decide +kernel
theorem dX0_reduceHessian_49 : decode cX0_reduceHessian 49 = .ok (.lcmp, 1) := by decide +kernel
theorem dX0_reduceHessian_50 : decode cX0_reduceHessian 50 = .ok (.ifCond .gt 4, 3) := by decide +kernel
theorem dX0_reduceHessian_53 : decode cX0_reduceHessian 53 = .ok (.return_, 1) := by decide +kernel
theorem dX0_reduceHessian_54 : decode cX0_reduceHessian 54 = .ok (.aload_n 0, 1) := by decide +kernel
theorem dX0_reduceHessian_55 : decode cX0_reduceHessian 55 = .ok (.invokevirtual 69, 3) := by decide +kernel
theorem dX0_reduceHessian_58 : decode cX0_reduceHessian 58 = .ok (.iinc 1 1, 3) := by decide +kernel
theorem dX0_reduceHessian_61 : decode cX0_reduceHessian 61 = .ok (.goto (-59), 3) := by decide +kernel
theorem dX0_reduceHessian_64 : decode cX0_reduceHessian 64 = .ok (.return_, 1) := by decide +kernel
theorem dX0_hasRationalRoot_0 : decode cX0_hasRationalRoot 0 = .ok (.aload_n 0, 1) := by decide +kernel
theorem dX0_hasRationalRoot_1 : decode cX0_hasRationalRoot 1 = .ok (.getfield 9, 3) := by decide +kernel
theorem dX0_hasRationalRoot_4 : decode cX0_hasRationalRoot 4 = .ok (.lconst 0, 1) := by decide +kernel
theorem dX0_hasRationalRoot_5 : decode cX0_hasRationalRoot 5 = .ok (.lcmp, 1) := by decide +kernel
theorem dX0_hasRationalRoot_6 : decode cX0_hasRationalRoot 6 = .ok (.ifCond .eq 12, 3) := by decide +kernel
theorem dX0_hasRationalRoot_9 : decode cX0_hasRationalRoot 9 = .ok (.aload_n 0, 1) := by decide +kernel
theorem dX0_hasRationalRoot_10 : decode cX0_hasRationalRoot 10 = .ok (.getfield 21, 3) := by decide +kernel
theorem dX0_hasRationalRoot_13 : decode cX0_hasRationalRoot 13 = .ok (.lconst 0, 1) := by decide +kernel
theorem dX0_hasRationalRoot_14 : decode cX0_hasRationalRoot 14 = .ok (.lcmp, 1) := by decide +kernel
theorem dX0_hasRationalRoot_15 : decode cX0_hasRationalRoot 15 = .ok (.ifCond .ne 5, 3) := by decide +kernel
theorem dX0_hasRationalRoot_18 : decode cX0_hasRationalRoot 18 = .ok (.iconst 1, 1) := by decide +kernel
theorem dX0_hasRationalRoot_19 : decode cX0_hasRationalRoot 19 = .ok (.ireturn, 1) := by decide +kernel
theorem dX0_hasRationalRoot_20 : decode cX0_hasRationalRoot 20 = .ok (.aload_n 0, 1) := by decide +kernel
theorem dX0_hasRationalRoot_21 : decode cX0_hasRationalRoot 21 = .ok (.getfield 9, 3) := by decide +kernel
theorem dX0_hasRationalRoot_24 : decode cX0_hasRationalRoot 24 = .ok (.invokestatic 72, 3) := by decide +kernel
theorem dX0_hasRationalRoot_27 : decode cX0_hasRationalRoot 27 = .ok (.lstore_n 1, 1) := by decide +kernel
theorem dX0_hasRationalRoot_28 : decode cX0_hasRationalRoot 28 = .ok (.lconst 1, 1) := by decide +kernel
theorem dX0_hasRationalRoot_29 : decode cX0_hasRationalRoot 29 = .ok (.lstore_n 3, 1) := by decide +kernel
theorem dX0_hasRationalRoot_30 : decode cX0_hasRationalRoot 30 = .ok (.lload_n 3, 1) := by decide +kernel
theorem dX0_hasRationalRoot_31 : decode cX0_hasRationalRoot 31 = .ok (.lload_n 3, 1) := by decide +kernel
theorem dX0_hasRationalRoot_32 : decode cX0_hasRationalRoot 32 = .ok (.lmul, 1) := by decide +kernel
theorem dX0_hasRationalRoot_33 : decode cX0_hasRationalRoot 33 = .ok (.lload_n 1, 1) := by decide +kernel
theorem dX0_hasRationalRoot_34 : decode cX0_hasRationalRoot 34 = .ok (.lcmp, 1) := by decide +kernel
theorem dX0_hasRationalRoot_35 : decode cX0_hasRationalRoot 35 = .ok (.ifCond .gt 38, 3) := by decide +kernel
theorem dX0_hasRationalRoot_38 : decode cX0_hasRationalRoot 38 = .ok (.lload_n 1, 1) := by decide +kernel
theorem dX0_hasRationalRoot_39 : decode cX0_hasRationalRoot 39 = .ok (.lload_n 3, 1) := by decide +kernel
theorem dX0_hasRationalRoot_40 : decode cX0_hasRationalRoot 40 = .ok (.lrem, 1) := by decide +kernel
theorem dX0_hasRationalRoot_41 : decode cX0_hasRationalRoot 41 = .ok (.lconst 0, 1) := by decide +kernel
theorem dX0_hasRationalRoot_42 : decode cX0_hasRationalRoot 42 = .ok (.lcmp, 1) := by decide +kernel
theorem dX0_hasRationalRoot_43 : decode cX0_hasRationalRoot 43 = .ok (.ifCond .ne 23, 3) := by decide +kernel
theorem dX0_hasRationalRoot_46 : decode cX0_hasRationalRoot 46 = .ok (.aload_n 0, 1) := by decide +kernel
theorem dX0_hasRationalRoot_47 : decode cX0_hasRationalRoot 47 = .ok (.lload_n 3, 1) := by decide +kernel
theorem dX0_hasRationalRoot_48 : decode cX0_hasRationalRoot 48 = .ok (.invokevirtual 76, 3) := by decide +kernel
theorem dX0_hasRationalRoot_51 : decode cX0_hasRationalRoot 51 = .ok (.ifCond .ne 13, 3) := by decide +kernel
theorem dX0_hasRationalRoot_54 : decode cX0_hasRationalRoot 54 = .ok (.aload_n 0, 1) := by decide +kernel
theorem dX0_hasRationalRoot_55 : decode cX0_hasRationalRoot 55 = .ok (.lload_n 1, 1) := by decide +kernel
theorem dX0_hasRationalRoot_56 : decode cX0_hasRationalRoot 56 = .ok (.lload_n 3, 1) := by decide +kernel
theorem dX0_hasRationalRoot_57 : decode cX0_hasRationalRoot 57 = .ok (.ldiv, 1) := by decide +kernel
theorem dX0_hasRationalRoot_58 : decode cX0_hasRationalRoot 58 = .ok (.invokevirtual 76, 3) := by decide +kernel
theorem dX0_hasRationalRoot_61 : decode cX0_hasRationalRoot 61 = .ok (.ifCond .eq 5, 3) := by decide +kernel
theorem dX0_hasRationalRoot_64 : decode cX0_hasRationalRoot 64 = .ok (.iconst 1, 1) := by decide +kernel
theorem dX0_hasRationalRoot_65 : decode cX0_hasRationalRoot 65 = .ok (.ireturn, 1) := by decide +kernel
theorem dX0_hasRationalRoot_66 : decode cX0_hasRationalRoot 66 = .ok (.lload_n 3, 1) := by decide +kernel
theorem dX0_hasRationalRoot_67 : decode cX0_hasRationalRoot 67 = .ok (.lconst 1, 1) := by decide +kernel
theorem dX0_hasRationalRoot_68 : decode cX0_hasRationalRoot 68 = .ok (.ladd, 1) := by decide +kernel
theorem dX0_hasRationalRoot_69 : decode cX0_hasRationalRoot 69 = .ok (.lstore_n 3, 1) := by decide +kernel
theorem dX0_hasRationalRoot_70 : decode cX0_hasRationalRoot 70 = .ok (.goto (-40), 3) := by decide +kernel
theorem dX0_hasRationalRoot_73 : decode cX0_hasRationalRoot 73 = .ok (.iconst 0, 1) := by decide +kernel
theorem dX0_hasRationalRoot_74 : decode cX0_hasRationalRoot 74 = .ok (.ireturn, 1) := by decide +kernel
theorem dX0_hasRootOver_0 : decode cX0_hasRootOver 0 = .ok (.aload_n 0, 1) := by decide +kernel
theorem dX0_hasRootOver_1 : decode cX0_hasRootOver 1 = .ok (.getfield 21, 3) := by decide +kernel
theorem dX0_hasRootOver_4 : decode cX0_hasRootOver 4 = .ok (.invokestatic 72, 3) := by decide +kernel
theorem dX0_hasRootOver_7 : decode cX0_hasRootOver 7 = .ok (.lstore_n 3, 1) := by decide +kernel
theorem dX0_hasRootOver_8 : decode cX0_hasRootOver 8 = .ok (.lconst 1, 1) := by decide +kernel
theorem dX0_hasRootOver_9 : decode cX0_hasRootOver 9 = .ok (.lstore 5, 2) := by decide +kernel
theorem dX0_hasRootOver_11 : decode cX0_hasRootOver 11 = .ok (.lload 5, 2) := by decide +kernel
theorem dX0_hasRootOver_13 : decode cX0_hasRootOver 13 = .ok (.lload 5, 2) := by decide +kernel
theorem dX0_hasRootOver_15 : decode cX0_hasRootOver 15 = .ok (.lmul, 1) := by decide +kernel
theorem dX0_hasRootOver_16 : decode cX0_hasRootOver 16 = .ok (.lload_n 3, 1) := by decide +kernel
theorem dX0_hasRootOver_17 : decode cX0_hasRootOver 17 = .ok (.lcmp, 1) := by decide +kernel
theorem dX0_hasRootOver_18 : decode cX0_hasRootOver 18 = .ok (.ifCond .gt 45, 3) := by decide +kernel
theorem dX0_hasRootOver_21 : decode cX0_hasRootOver 21 = .ok (.lload_n 3, 1) := by decide +kernel
theorem dX0_hasRootOver_22 : decode cX0_hasRootOver 22 = .ok (.lload 5, 2) := by decide +kernel
theorem dX0_hasRootOver_24 : decode cX0_hasRootOver 24 = .ok (.lrem, 1) := by decide +kernel
theorem dX0_hasRootOver_25 : decode cX0_hasRootOver 25 = .ok (.lconst 0, 1) := by decide +kernel
theorem dX0_hasRootOver_26 : decode cX0_hasRootOver 26 = .ok (.lcmp, 1) := by decide +kernel
theorem dX0_hasRootOver_27 : decode cX0_hasRootOver 27 = .ok (.ifCond .ne 27, 3) := by decide +kernel
theorem dX0_hasRootOver_30 : decode cX0_hasRootOver 30 = .ok (.aload_n 0, 1) := by decide +kernel
theorem dX0_hasRootOver_31 : decode cX0_hasRootOver 31 = .ok (.lload 5, 2) := by decide +kernel
theorem dX0_hasRootOver_33 : decode cX0_hasRootOver 33 = .ok (.lload_n 1, 1) := by decide +kernel
theorem dX0_hasRootOver_34 : decode cX0_hasRootOver 34 = .ok (.invokevirtual 80, 3) := by decide +kernel
theorem dX0_hasRootOver_37 : decode cX0_hasRootOver 37 = .ok (.ifCond .ne 15, 3) := by decide +kernel
theorem dX0_hasRootOver_40 : decode cX0_hasRootOver 40 = .ok (.aload_n 0, 1) := by decide +kernel
theorem dX0_hasRootOver_41 : decode cX0_hasRootOver 41 = .ok (.lload_n 3, 1) := by decide +kernel
theorem dX0_hasRootOver_42 : decode cX0_hasRootOver 42 = .ok (.lload 5, 2) := by decide +kernel
theorem dX0_hasRootOver_44 : decode cX0_hasRootOver 44 = .ok (.ldiv, 1) := by decide +kernel
theorem dX0_hasRootOver_45 : decode cX0_hasRootOver 45 = .ok (.lload_n 1, 1) := by decide +kernel
theorem dX0_hasRootOver_46 : decode cX0_hasRootOver 46 = .ok (.invokevirtual 80, 3) := by decide +kernel
theorem dX0_hasRootOver_49 : decode cX0_hasRootOver 49 = .ok (.ifCond .eq 5, 3) := by decide +kernel
theorem dX0_hasRootOver_52 : decode cX0_hasRootOver 52 = .ok (.iconst 1, 1) := by decide +kernel
theorem dX0_hasRootOver_53 : decode cX0_hasRootOver 53 = .ok (.ireturn, 1) := by decide +kernel
theorem dX0_hasRootOver_54 : decode cX0_hasRootOver 54 = .ok (.lload 5, 2) := by decide +kernel
theorem dX0_hasRootOver_56 : decode cX0_hasRootOver 56 = .ok (.lconst 1, 1) := by decide +kernel
theorem dX0_hasRootOver_57 : decode cX0_hasRootOver 57 = .ok (.ladd, 1) := by decide +kernel
theorem dX0_hasRootOver_58 : decode cX0_hasRootOver 58 = .ok (.lstore 5, 2) := by decide +kernel
theorem dX0_hasRootOver_60 : decode cX0_hasRootOver 60 = .ok (.goto (-49), 3) := by decide +kernel
theorem dX0_hasRootOver_63 : decode cX0_hasRootOver 63 = .ok (.iconst 0, 1) := by decide +kernel
theorem dX0_hasRootOver_64 : decode cX0_hasRootOver 64 = .ok (.ireturn, 1) := by decide +kernel
theorem dX0_vanishesAt_0 : decode cX0_vanishesAt 0 = .ok (.aload_n 0, 1) := by decide +kernel
theorem dX0_vanishesAt_1 : decode cX0_vanishesAt 1 = .ok (.lload_n 1, 1) := by decide +kernel
theorem dX0_vanishesAt_2 : decode cX0_vanishesAt 2 = .ok (.lload_n 3, 1) := by decide +kernel
theorem dX0_vanishesAt_3 : decode cX0_vanishesAt 3 = .ok (.invokevirtual 54, 3) := by decide +kernel
theorem dX0_vanishesAt_6 : decode cX0_vanishesAt 6 = .ok (.lconst 0, 1) := by decide +kernel
theorem dX0_vanishesAt_7 : decode cX0_vanishesAt 7 = .ok (.lcmp, 1) := by decide +kernel
theorem dX0_vanishesAt_8 : decode cX0_vanishesAt 8 = .ok (.ifCond .eq 15, 3) := by decide +kernel
theorem dX0_vanishesAt_11 : decode cX0_vanishesAt 11 = .ok (.aload_n 0, 1) := by decide +kernel
theorem dX0_vanishesAt_12 : decode cX0_vanishesAt 12 = .ok (.lload_n 1, 1) := by decide +kernel
theorem dX0_vanishesAt_13 : decode cX0_vanishesAt 13 = .ok (.lneg, 1) := by decide +kernel
theorem dX0_vanishesAt_14 : decode cX0_vanishesAt 14 = .ok (.lload_n 3, 1) := by decide +kernel
theorem dX0_vanishesAt_15 : decode cX0_vanishesAt 15 = .ok (.invokevirtual 54, 3) := by decide +kernel
theorem dX0_vanishesAt_18 : decode cX0_vanishesAt 18 = .ok (.lconst 0, 1) := by decide +kernel
theorem dX0_vanishesAt_19 : decode cX0_vanishesAt 19 = .ok (.lcmp, 1) := by decide +kernel
theorem dX0_vanishesAt_20 : decode cX0_vanishesAt 20 = .ok (.ifCond .ne 7, 3) := by decide +kernel
theorem dX0_vanishesAt_23 : decode cX0_vanishesAt 23 = .ok (.iconst 1, 1) := by decide +kernel
theorem dX0_vanishesAt_24 : decode cX0_vanishesAt 24 = .ok (.goto 4, 3) := by decide +kernel
theorem dX0_vanishesAt_27 : decode cX0_vanishesAt 27 = .ok (.iconst 0, 1) := by decide +kernel
theorem dX0_vanishesAt_28 : decode cX0_vanishesAt 28 = .ok (.ireturn, 1) := by decide +kernel
theorem dX0_isMultipleOf_0 : decode cX0_isMultipleOf 0 = .ok (.iload_n 1, 1) := by decide +kernel
theorem dX0_isMultipleOf_1 : decode cX0_isMultipleOf 1 = .ok (.ifCond .le 55, 3) := by decide +kernel
theorem dX0_isMultipleOf_4 : decode cX0_isMultipleOf 4 = .ok (.aload_n 0, 1) := by decide +kernel
theorem dX0_isMultipleOf_5 : decode cX0_isMultipleOf 5 = .ok (.getfield 9, 3) := by decide +kernel
theorem dX0_isMultipleOf_8 : decode cX0_isMultipleOf 8 = .ok (.iload_n 1, 1) := by decide +kernel
theorem dX0_isMultipleOf_9 : decode cX0_isMultipleOf 9 = .ok (.i2l, 1) := by decide +kernel
theorem dX0_isMultipleOf_10 : decode cX0_isMultipleOf 10 = .ok (.lrem, 1) := by decide +kernel
theorem dX0_isMultipleOf_11 : decode cX0_isMultipleOf 11 = .ok (.lconst 0, 1) := by decide +kernel
theorem dX0_isMultipleOf_12 : decode cX0_isMultipleOf 12 = .ok (.lcmp, 1) := by decide +kernel
theorem dX0_isMultipleOf_13 : decode cX0_isMultipleOf 13 = .ok (.ifCond .ne 43, 3) := by decide +kernel
theorem dX0_isMultipleOf_16 : decode cX0_isMultipleOf 16 = .ok (.aload_n 0, 1) := by decide +kernel
theorem dX0_isMultipleOf_17 : decode cX0_isMultipleOf 17 = .ok (.getfield 15, 3) := by decide +kernel
theorem dX0_isMultipleOf_20 : decode cX0_isMultipleOf 20 = .ok (.iload_n 1, 1) := by decide +kernel
theorem dX0_isMultipleOf_21 : decode cX0_isMultipleOf 21 = .ok (.i2l, 1) := by decide +kernel
theorem dX0_isMultipleOf_22 : decode cX0_isMultipleOf 22 = .ok (.lrem, 1) := by decide +kernel
theorem dX0_isMultipleOf_23 : decode cX0_isMultipleOf 23 = .ok (.lconst 0, 1) := by decide +kernel
theorem dX0_isMultipleOf_24 : decode cX0_isMultipleOf 24 = .ok (.lcmp, 1) := by decide +kernel
theorem dX0_isMultipleOf_25 : decode cX0_isMultipleOf 25 = .ok (.ifCond .ne 31, 3) := by decide +kernel
theorem dX0_isMultipleOf_28 : decode cX0_isMultipleOf 28 = .ok (.aload_n 0, 1) := by decide +kernel
theorem dX0_isMultipleOf_29 : decode cX0_isMultipleOf 29 = .ok (.getfield 18, 3) := by decide +kernel
theorem dX0_isMultipleOf_32 : decode cX0_isMultipleOf 32 = .ok (.iload_n 1, 1) := by decide +kernel
theorem dX0_isMultipleOf_33 : decode cX0_isMultipleOf 33 = .ok (.i2l, 1) := by decide +kernel
theorem dX0_isMultipleOf_34 : decode cX0_isMultipleOf 34 = .ok (.lrem, 1) := by decide +kernel
theorem dX0_isMultipleOf_35 : decode cX0_isMultipleOf 35 = .ok (.lconst 0, 1) := by decide +kernel
theorem dX0_isMultipleOf_36 : decode cX0_isMultipleOf 36 = .ok (.lcmp, 1) := by decide +kernel
theorem dX0_isMultipleOf_37 : decode cX0_isMultipleOf 37 = .ok (.ifCond .ne 19, 3) := by decide +kernel
theorem dX0_isMultipleOf_40 : decode cX0_isMultipleOf 40 = .ok (.aload_n 0, 1) := by decide +kernel
theorem dX0_isMultipleOf_41 : decode cX0_isMultipleOf 41 = .ok (.getfield 21, 3) := by decide +kernel
theorem dX0_isMultipleOf_44 : decode cX0_isMultipleOf 44 = .ok (.iload_n 1, 1) := by decide +kernel
theorem dX0_isMultipleOf_45 : decode cX0_isMultipleOf 45 = .ok (.i2l, 1) := by decide +kernel
theorem dX0_isMultipleOf_46 : decode cX0_isMultipleOf 46 = .ok (.lrem, 1) := by decide +kernel
theorem dX0_isMultipleOf_47 : decode cX0_isMultipleOf 47 = .ok (.lconst 0, 1) := by decide +kernel
theorem dX0_isMultipleOf_48 : decode cX0_isMultipleOf 48 = .ok (.lcmp, 1) := by decide +kernel
theorem dX0_isMultipleOf_49 : decode cX0_isMultipleOf 49 = .ok (.ifCond .ne 7, 3) := by decide +kernel
theorem dX0_isMultipleOf_52 : decode cX0_isMultipleOf 52 = .ok (.iconst 1, 1) := by decide +kernel
theorem dX0_isMultipleOf_53 : decode cX0_isMultipleOf 53 = .ok (.goto 4, 3) := by decide +kernel
theorem dX0_isMultipleOf_56 : decode cX0_isMultipleOf 56 = .ok (.iconst 0, 1) := by decide +kernel
theorem dX0_isMultipleOf_57 : decode cX0_isMultipleOf 57 = .ok (.ireturn, 1) := by decide +kernel
theorem dX0_becomeAtPoint_0 : decode cX0_becomeAtPoint 0 = .ok (.lload_n 3, 1) := by decide +kernel
theorem dX0_becomeAtPoint_1 : decode cX0_becomeAtPoint 1 = .ok (.iload_n 2, 1) := by decide +kernel
theorem dX0_becomeAtPoint_2 : decode cX0_becomeAtPoint 2 = .ok (.i2l, 1) := by decide +kernel
theorem dX0_becomeAtPoint_3 : decode cX0_becomeAtPoint 3 = .ok (.lcmp, 1) := by decide +kernel
theorem dX0_becomeAtPoint_4 : decode cX0_becomeAtPoint 4 = .ok (.ifCond .ne 26, 3) := by decide +kernel
theorem dX0_becomeAtPoint_7 : decode cX0_becomeAtPoint 7 = .ok (.aload_n 0, 1) := by decide +kernel
theorem dX0_becomeAtPoint_8 : decode cX0_becomeAtPoint 8 = .ok (.aload_n 1, 1) := by decide +kernel
theorem dX0_becomeAtPoint_9 : decode cX0_becomeAtPoint 9 = .ok (.getfield 21, 3) := by decide +kernel
theorem dX0_becomeAtPoint_12 : decode cX0_becomeAtPoint 12 = .ok (.aload_n 1, 1) := by decide +kernel
theorem dX0_becomeAtPoint_13 : decode cX0_becomeAtPoint 13 = .ok (.getfield 18, 3) := by decide +kernel
theorem dX0_becomeAtPoint_16 : decode cX0_becomeAtPoint 16 = .ok (.aload_n 1, 1) := by decide +kernel
theorem dX0_becomeAtPoint_17 : decode cX0_becomeAtPoint 17 = .ok (.getfield 15, 3) := by decide +kernel
theorem dX0_becomeAtPoint_20 : decode cX0_becomeAtPoint 20 = .ok (.aload_n 1, 1) := by decide +kernel
theorem dX0_becomeAtPoint_21 : decode cX0_becomeAtPoint 21 = .ok (.getfield 9, 3) := by decide +kernel
theorem dX0_becomeAtPoint_24 : decode cX0_becomeAtPoint 24 = .ok (.invokevirtual 24, 3) := by decide +kernel
theorem dX0_becomeAtPoint_27 : decode cX0_becomeAtPoint 27 = .ok (.goto 77, 3) := by decide +kernel
theorem dX0_becomeAtPoint_30 : decode cX0_becomeAtPoint 30 = .ok (.aload_n 0, 1) := by decide +kernel
theorem dX0_becomeAtPoint_31 : decode cX0_becomeAtPoint 31 = .ok (.aload_n 1, 1) := by decide +kernel
theorem dX0_becomeAtPoint_32 : decode cX0_becomeAtPoint 32 = .ok (.getfield 21, 3) := by decide +kernel
theorem dX0_becomeAtPoint_35 : decode cX0_becomeAtPoint 35 = .ok (.lload_n 3, 1) := by decide +kernel
theorem dX0_becomeAtPoint_36 : decode cX0_becomeAtPoint 36 = .ok (.lmul, 1) := by decide +kernel
theorem dX0_becomeAtPoint_37 : decode cX0_becomeAtPoint 37 = .ok (.aload_n 1, 1) := by decide +kernel
theorem dX0_becomeAtPoint_38 : decode cX0_becomeAtPoint 38 = .ok (.getfield 18, 3) := by decide +kernel
theorem dX0_becomeAtPoint_41 : decode cX0_becomeAtPoint 41 = .ok (.ladd, 1) := by decide +kernel
theorem dX0_becomeAtPoint_42 : decode cX0_becomeAtPoint 42 = .ok (.lload_n 3, 1) := by decide +kernel
theorem dX0_becomeAtPoint_43 : decode cX0_becomeAtPoint 43 = .ok (.lmul, 1) := by decide +kernel
theorem dX0_becomeAtPoint_44 : decode cX0_becomeAtPoint 44 = .ok (.aload_n 1, 1) := by decide +kernel
theorem dX0_becomeAtPoint_45 : decode cX0_becomeAtPoint 45 = .ok (.getfield 15, 3) := by decide +kernel
theorem dX0_becomeAtPoint_48 : decode cX0_becomeAtPoint 48 = .ok (.ladd, 1) := by decide +kernel
theorem dX0_becomeAtPoint_49 : decode cX0_becomeAtPoint 49 = .ok (.lload_n 3, 1) := by decide +kernel
theorem dX0_becomeAtPoint_50 : decode cX0_becomeAtPoint 50 = .ok (.lmul, 1) := by decide +kernel
theorem dX0_becomeAtPoint_51 : decode cX0_becomeAtPoint 51 = .ok (.aload_n 1, 1) := by decide +kernel
theorem dX0_becomeAtPoint_52 : decode cX0_becomeAtPoint 52 = .ok (.getfield 9, 3) := by decide +kernel
theorem dX0_becomeAtPoint_55 : decode cX0_becomeAtPoint 55 = .ok (.ladd, 1) := by decide +kernel
theorem dX0_becomeAtPoint_56 : decode cX0_becomeAtPoint 56 = .ok (.ldc2_w 40, 3) := by decide +kernel
theorem dX0_becomeAtPoint_59 : decode cX0_becomeAtPoint 59 = .ok (.aload_n 1, 1) := by decide +kernel
theorem dX0_becomeAtPoint_60 : decode cX0_becomeAtPoint 60 = .ok (.getfield 21, 3) := by decide +kernel
theorem dX0_becomeAtPoint_63 : decode cX0_becomeAtPoint 63 = .ok (.lmul, 1) := by decide +kernel
theorem dX0_becomeAtPoint_64 : decode cX0_becomeAtPoint 64 = .ok (.lload_n 3, 1) := by decide +kernel
theorem dX0_becomeAtPoint_65 : decode cX0_becomeAtPoint 65 = .ok (.lmul, 1) := by decide +kernel
theorem dX0_becomeAtPoint_66 : decode cX0_becomeAtPoint 66 = .ok (.ldc2_w 58, 3) := by decide +kernel
theorem dX0_becomeAtPoint_69 : decode cX0_becomeAtPoint 69 = .ok (.aload_n 1, 1) := by decide +kernel
theorem dX0_becomeAtPoint_70 : decode cX0_becomeAtPoint 70 = .ok (.getfield 18, 3) := by decide +kernel
theorem dX0_becomeAtPoint_73 : decode cX0_becomeAtPoint 73 = .ok (.lmul, 1) := by decide +kernel
theorem dX0_becomeAtPoint_74 : decode cX0_becomeAtPoint 74 = .ok (.ladd, 1) := by decide +kernel
theorem dX0_becomeAtPoint_75 : decode cX0_becomeAtPoint 75 = .ok (.lload_n 3, 1) := by decide +kernel
theorem dX0_becomeAtPoint_76 : decode cX0_becomeAtPoint 76 = .ok (.lmul, 1) := by decide +kernel
theorem dX0_becomeAtPoint_77 : decode cX0_becomeAtPoint 77 = .ok (.aload_n 1, 1) := by decide +kernel
theorem dX0_becomeAtPoint_78 : decode cX0_becomeAtPoint 78 = .ok (.getfield 15, 3) := by decide +kernel
theorem dX0_becomeAtPoint_81 : decode cX0_becomeAtPoint 81 = .ok (.ladd, 1) := by decide +kernel
theorem dX0_becomeAtPoint_82 : decode cX0_becomeAtPoint 82 = .ok (.ldc2_w 40, 3) := by decide +kernel
theorem dX0_becomeAtPoint_85 : decode cX0_becomeAtPoint 85 = .ok (.aload_n 1, 1) := by decide +kernel
theorem dX0_becomeAtPoint_86 : decode cX0_becomeAtPoint 86 = .ok (.getfield 21, 3) := by decide +kernel
theorem dX0_becomeAtPoint_89 : decode cX0_becomeAtPoint 89 = .ok (.lmul, 1) := by decide +kernel
theorem dX0_becomeAtPoint_90 : decode cX0_becomeAtPoint 90 = .ok (.lload_n 3, 1) := by decide +kernel
theorem dX0_becomeAtPoint_91 : decode cX0_becomeAtPoint 91 = .ok (.lmul, 1) := by decide +kernel
theorem dX0_becomeAtPoint_92 : decode cX0_becomeAtPoint 92 = .ok (.aload_n 1, 1) := by decide +kernel
theorem dX0_becomeAtPoint_93 : decode cX0_becomeAtPoint 93 = .ok (.getfield 18, 3) := by decide +kernel
theorem dX0_becomeAtPoint_96 : decode cX0_becomeAtPoint 96 = .ok (.ladd, 1) := by decide +kernel
theorem dX0_becomeAtPoint_97 : decode cX0_becomeAtPoint 97 = .ok (.aload_n 1, 1) := by decide +kernel
theorem dX0_becomeAtPoint_98 : decode cX0_becomeAtPoint 98 = .ok (.getfield 21, 3) := by decide +kernel
theorem dX0_becomeAtPoint_101 : decode cX0_becomeAtPoint 101 = .ok (.invokevirtual 24, 3) := by decide +kernel
theorem dX0_becomeAtPoint_104 : decode cX0_becomeAtPoint 104 = .ok (.return_, 1) := by decide +kernel
theorem dX0_becomeOverring_0 : decode cX0_becomeOverring 0 = .ok (.iload_n 2, 1) := by decide +kernel
theorem dX0_becomeOverring_1 : decode cX0_becomeOverring 1 = .ok (.i2l, 1) := by decide +kernel
theorem dX0_becomeOverring_2 : decode cX0_becomeOverring 2 = .ok (.iload_n 2, 1) := by decide +kernel
theorem dX0_becomeOverring_3 : decode cX0_becomeOverring 3 = .ok (.i2l, 1) := by decide +kernel
theorem dX0_becomeOverring_4 : decode cX0_becomeOverring 4 = .ok (.lmul, 1) := by decide +kernel
theorem dX0_becomeOverring_5 : decode cX0_becomeOverring 5 = .ok (.lstore_n 3, 1) := by decide +kernel
theorem dX0_becomeOverring_6 : decode cX0_becomeOverring 6 = .ok (.lload_n 3, 1) := by decide +kernel
theorem dX0_becomeOverring_7 : decode cX0_becomeOverring 7 = .ok (.lconst 0, 1) := by decide +kernel
theorem dX0_becomeOverring_8 : decode cX0_becomeOverring 8 = .ok (.lcmp, 1) := by decide +kernel
theorem dX0_becomeOverring_9 : decode cX0_becomeOverring 9 = .ok (.ifCond .le 14, 3) := by decide +kernel
theorem dX0_becomeOverring_12 : decode cX0_becomeOverring 12 = .ok (.aload_n 1, 1) := by decide +kernel
theorem dX0_becomeOverring_13 : decode cX0_becomeOverring 13 = .ok (.invokevirtual 83, 3) := by decide +kernel
theorem dX0_becomeOverring_16 : decode cX0_becomeOverring 16 = .ok (.lload_n 3, 1) := by decide +kernel
theorem dX0_becomeOverring_17 : decode cX0_becomeOverring 17 = .ok (.lrem, 1) := by decide +kernel
theorem dX0_becomeOverring_18 : decode cX0_becomeOverring 18 = .ok (.lconst 0, 1) := by decide +kernel
theorem dX0_becomeOverring_19 : decode cX0_becomeOverring 19 = .ok (.lcmp, 1) := by decide +kernel
theorem dX0_becomeOverring_20 : decode cX0_becomeOverring 20 = .ok (.ifCond .eq 5, 3) := by decide +kernel
theorem dX0_becomeOverring_23 : decode cX0_becomeOverring 23 = .ok (.iconst 0, 1) := by decide +kernel
theorem dX0_becomeOverring_24 : decode cX0_becomeOverring 24 = .ok (.ireturn, 1) := by decide +kernel
theorem dX0_becomeOverring_25 : decode cX0_becomeOverring 25 = .ok (.aload_n 1, 1) := by decide +kernel
theorem dX0_becomeOverring_26 : decode cX0_becomeOverring 26 = .ok (.iload_n 2, 1) := by decide +kernel
theorem dX0_becomeOverring_27 : decode cX0_becomeOverring 27 = .ok (.invokevirtual 86, 3) := by decide +kernel
theorem dX0_becomeOverring_30 : decode cX0_becomeOverring 30 = .ok (.ifCond .eq 37, 3) := by decide +kernel
theorem dX0_becomeOverring_33 : decode cX0_becomeOverring 33 = .ok (.aload_n 0, 1) := by decide +kernel
theorem dX0_becomeOverring_34 : decode cX0_becomeOverring 34 = .ok (.aload_n 1, 1) := by decide +kernel
theorem dX0_becomeOverring_35 : decode cX0_becomeOverring 35 = .ok (.getfield 9, 3) := by decide +kernel
theorem dX0_becomeOverring_38 : decode cX0_becomeOverring 38 = .ok (.iload_n 2, 1) := by decide +kernel
theorem dX0_becomeOverring_39 : decode cX0_becomeOverring 39 = .ok (.i2l, 1) := by decide +kernel
theorem dX0_becomeOverring_40 : decode cX0_becomeOverring 40 = .ok (.ldiv, 1) := by decide +kernel
theorem dX0_becomeOverring_41 : decode cX0_becomeOverring 41 = .ok (.aload_n 1, 1) := by decide +kernel
theorem dX0_becomeOverring_42 : decode cX0_becomeOverring 42 = .ok (.getfield 15, 3) := by decide +kernel
theorem dX0_becomeOverring_45 : decode cX0_becomeOverring 45 = .ok (.iload_n 2, 1) := by decide +kernel
theorem dX0_becomeOverring_46 : decode cX0_becomeOverring 46 = .ok (.i2l, 1) := by decide +kernel
theorem dX0_becomeOverring_47 : decode cX0_becomeOverring 47 = .ok (.ldiv, 1) := by decide +kernel
theorem dX0_becomeOverring_48 : decode cX0_becomeOverring 48 = .ok (.aload_n 1, 1) := by decide +kernel
theorem dX0_becomeOverring_49 : decode cX0_becomeOverring 49 = .ok (.getfield 18, 3) := by decide +kernel
theorem dX0_becomeOverring_52 : decode cX0_becomeOverring 52 = .ok (.iload_n 2, 1) := by decide +kernel
theorem dX0_becomeOverring_53 : decode cX0_becomeOverring 53 = .ok (.i2l, 1) := by decide +kernel
theorem dX0_becomeOverring_54 : decode cX0_becomeOverring 54 = .ok (.ldiv, 1) := by decide +kernel
theorem dX0_becomeOverring_55 : decode cX0_becomeOverring 55 = .ok (.aload_n 1, 1) := by decide +kernel
theorem dX0_becomeOverring_56 : decode cX0_becomeOverring 56 = .ok (.getfield 21, 3) := by decide +kernel
theorem dX0_becomeOverring_59 : decode cX0_becomeOverring 59 = .ok (.iload_n 2, 1) := by decide +kernel
theorem dX0_becomeOverring_60 : decode cX0_becomeOverring 60 = .ok (.i2l, 1) := by decide +kernel
theorem dX0_becomeOverring_61 : decode cX0_becomeOverring 61 = .ok (.ldiv, 1) := by decide +kernel
theorem dX0_becomeOverring_62 : decode cX0_becomeOverring 62 = .ok (.invokevirtual 24, 3) := by decide +kernel
theorem dX0_becomeOverring_65 : decode cX0_becomeOverring 65 = .ok (.iconst 1, 1) := by decide +kernel
theorem dX0_becomeOverring_66 : decode cX0_becomeOverring 66 = .ok (.ireturn, 1) := by decide +kernel
theorem dX0_becomeOverring_67 : decode cX0_becomeOverring 67 = .ok (.iconst 0, 1) := by decide +kernel
theorem dX0_becomeOverring_68 : decode cX0_becomeOverring 68 = .ok (.istore 5, 2) := by decide +kernel
theorem dX0_becomeOverring_70 : decode cX0_becomeOverring 70 = .ok (.iload 5, 2) := by decide +kernel
theorem dX0_becomeOverring_72 : decode cX0_becomeOverring 72 = .ok (.iload_n 2, 1) := by decide +kernel
theorem dX0_becomeOverring_73 : decode cX0_becomeOverring 73 = .ok (.if_icmp .gt 71, 3) := by decide +kernel
theorem dX0_becomeOverring_76 : decode cX0_becomeOverring 76 = .ok (.aload_n 0, 1) := by decide +kernel
theorem dX0_becomeOverring_77 : decode cX0_becomeOverring 77 = .ok (.aload_n 1, 1) := by decide +kernel
theorem dX0_becomeOverring_78 : decode cX0_becomeOverring 78 = .ok (.iload_n 2, 1) := by decide +kernel
theorem dX0_becomeOverring_79 : decode cX0_becomeOverring 79 = .ok (.iload 5, 2) := by decide +kernel
theorem dX0_becomeOverring_81 : decode cX0_becomeOverring 81 = .ok (.i2l, 1) := by decide +kernel
theorem dX0_becomeOverring_82 : decode cX0_becomeOverring 82 = .ok (.invokevirtual 90, 3) := by decide +kernel
theorem dX0_becomeOverring_85 : decode cX0_becomeOverring 85 = .ok (.aload_n 0, 1) := by decide +kernel
theorem dX0_becomeOverring_86 : decode cX0_becomeOverring 86 = .ok (.getfield 9, 3) := by decide +kernel
theorem dX0_becomeOverring_89 : decode cX0_becomeOverring 89 = .ok (.lload_n 3, 1) := by decide +kernel
theorem dX0_becomeOverring_90 : decode cX0_becomeOverring 90 = .ok (.lrem, 1) := by decide +kernel
theorem dX0_becomeOverring_91 : decode cX0_becomeOverring 91 = .ok (.lconst 0, 1) := by decide +kernel
theorem dX0_becomeOverring_92 : decode cX0_becomeOverring 92 = .ok (.lcmp, 1) := by decide +kernel
theorem dX0_becomeOverring_93 : decode cX0_becomeOverring 93 = .ok (.ifCond .ne 45, 3) := by decide +kernel
theorem dX0_becomeOverring_96 : decode cX0_becomeOverring 96 = .ok (.aload_n 0, 1) := by decide +kernel
theorem dX0_becomeOverring_97 : decode cX0_becomeOverring 97 = .ok (.getfield 15, 3) := by decide +kernel
theorem dX0_becomeOverring_100 : decode cX0_becomeOverring 100 = .ok (.iload_n 2, 1) := by decide +kernel
theorem dX0_becomeOverring_101 : decode cX0_becomeOverring 101 = .ok (.i2l, 1) := by decide +kernel
theorem dX0_becomeOverring_102 : decode cX0_becomeOverring 102 = .ok (.lrem, 1) := by decide +kernel
theorem dX0_becomeOverring_103 : decode cX0_becomeOverring 103 = .ok (.lconst 0, 1) := by decide +kernel
theorem dX0_becomeOverring_104 : decode cX0_becomeOverring 104 = .ok (.lcmp, 1) := by decide +kernel
theorem dX0_becomeOverring_105 : decode cX0_becomeOverring 105 = .ok (.ifCond .ne 33, 3) := by decide +kernel
theorem dX0_becomeOverring_108 : decode cX0_becomeOverring 108 = .ok (.aload_n 0, 1) := by decide +kernel
theorem dX0_becomeOverring_109 : decode cX0_becomeOverring 109 = .ok (.aload_n 0, 1) := by decide +kernel
theorem dX0_becomeOverring_110 : decode cX0_becomeOverring 110 = .ok (.getfield 9, 3) := by decide +kernel
theorem dX0_becomeOverring_113 : decode cX0_becomeOverring 113 = .ok (.lload_n 3, 1) := by decide +kernel
theorem dX0_becomeOverring_114 : decode cX0_becomeOverring 114 = .ok (.ldiv, 1) := by decide +kernel
theorem dX0_becomeOverring_115 : decode cX0_becomeOverring 115 = .ok (.aload_n 0, 1) := by decide +kernel
theorem dX0_becomeOverring_116 : decode cX0_becomeOverring 116 = .ok (.getfield 15, 3) := by decide +kernel
theorem dX0_becomeOverring_119 : decode cX0_becomeOverring 119 = .ok (.iload_n 2, 1) := by decide +kernel
theorem dX0_becomeOverring_120 : decode cX0_becomeOverring 120 = .ok (.i2l, 1) := by decide +kernel
theorem dX0_becomeOverring_121 : decode cX0_becomeOverring 121 = .ok (.ldiv, 1) := by decide +kernel
theorem dX0_becomeOverring_122 : decode cX0_becomeOverring 122 = .ok (.aload_n 0, 1) := by decide +kernel
theorem dX0_becomeOverring_123 : decode cX0_becomeOverring 123 = .ok (.getfield 18, 3) := by decide +kernel
theorem dX0_becomeOverring_126 : decode cX0_becomeOverring 126 = .ok (.aload_n 0, 1) := by decide +kernel
theorem dX0_becomeOverring_127 : decode cX0_becomeOverring 127 = .ok (.getfield 21, 3) := by decide +kernel
theorem dX0_becomeOverring_130 : decode cX0_becomeOverring 130 = .ok (.iload_n 2, 1) := by decide +kernel
theorem dX0_becomeOverring_131 : decode cX0_becomeOverring 131 = .ok (.i2l, 1) := by decide +kernel
theorem dX0_becomeOverring_132 : decode cX0_becomeOverring 132 = .ok (.lmul, 1) := by decide +kernel
theorem dX0_becomeOverring_133 : decode cX0_becomeOverring 133 = .ok (.invokevirtual 24, 3) := by decide +kernel
theorem dX0_becomeOverring_136 : decode cX0_becomeOverring 136 = .ok (.iconst 1, 1) := by decide +kernel
theorem dX0_becomeOverring_137 : decode cX0_becomeOverring 137 = .ok (.ireturn, 1) := by decide +kernel
theorem dX0_becomeOverring_138 : decode cX0_becomeOverring 138 = .ok (.iinc 5 1, 3) := by decide +kernel
theorem dX0_becomeOverring_141 : decode cX0_becomeOverring 141 = .ok (.goto (-71), 3) := by decide +kernel
theorem dX0_becomeOverring_144 : decode cX0_becomeOverring 144 = .ok (.iconst 0, 1) := by decide +kernel
theorem dX0_becomeOverring_145 : decode cX0_becomeOverring 145 = .ok (.ireturn, 1) := by decide +kernel
theorem dX1_init_0 : decode cX1_init 0 = .ok (.aload_n 0, 1) := by decide +kernel
theorem dX1_init_1 : decode cX1_init 1 = .ok (.invokespecial 1, 3) := by decide +kernel
theorem dX1_init_4 : decode cX1_init 4 = .ok (.aload_n 0, 1) := by decide +kernel
theorem dX1_init_5 : decode cX1_init 5 = .ok (.bipush 64, 2) := by decide +kernel
theorem dX1_init_7 : decode cX1_init 7 = .ok (.newarray .int, 2) := by decide +kernel
theorem dX1_init_9 : decode cX1_init 9 = .ok (.putfield 9, 3) := by decide +kernel
theorem dX1_init_12 : decode cX1_init 12 = .ok (.aload_n 0, 1) := by decide +kernel
theorem dX1_init_13 : decode cX1_init 13 = .ok (.iconst 0, 1) := by decide +kernel
theorem dX1_init_14 : decode cX1_init 14 = .ok (.putfield 13, 3) := by decide +kernel
theorem dX1_init_17 : decode cX1_init 17 = .ok (.aload_n 0, 1) := by decide +kernel
theorem dX1_init_18 : decode cX1_init 18 = .ok (.bipush 64, 2) := by decide +kernel
theorem dX1_init_20 : decode cX1_init 20 = .ok (.newarray .int, 2) := by decide +kernel
theorem dX1_init_22 : decode cX1_init 22 = .ok (.putfield 17, 3) := by decide +kernel
theorem dX1_init_25 : decode cX1_init 25 = .ok (.aload_n 0, 1) := by decide +kernel
theorem dX1_init_26 : decode cX1_init 26 = .ok (.iconst 0, 1) := by decide +kernel
theorem dX1_init_27 : decode cX1_init 27 = .ok (.putfield 20, 3) := by decide +kernel
theorem dX1_init_30 : decode cX1_init 30 = .ok (.aload_n 0, 1) := by decide +kernel
theorem dX1_init_31 : decode cX1_init 31 = .ok (.iconst 0, 1) := by decide +kernel
theorem dX1_init_32 : decode cX1_init 32 = .ok (.putfield 23, 3) := by decide +kernel
theorem dX1_init_35 : decode cX1_init 35 = .ok (.aload_n 0, 1) := by decide +kernel
theorem dX1_init_36 : decode cX1_init 36 = .ok (.new 27, 3) := by decide +kernel
theorem dX1_init_39 : decode cX1_init 39 = .ok (.dup, 1) := by decide +kernel
theorem dX1_init_40 : decode cX1_init 40 = .ok (.invokespecial 29, 3) := by decide +kernel
theorem dX1_init_43 : decode cX1_init 43 = .ok (.putfield 30, 3) := by decide +kernel
theorem dX1_init_46 : decode cX1_init 46 = .ok (.aload_n 0, 1) := by decide +kernel
theorem dX1_init_47 : decode cX1_init 47 = .ok (.new 27, 3) := by decide +kernel
theorem dX1_init_50 : decode cX1_init 50 = .ok (.dup, 1) := by decide +kernel
theorem dX1_init_51 : decode cX1_init 51 = .ok (.invokespecial 29, 3) := by decide +kernel
theorem dX1_init_54 : decode cX1_init 54 = .ok (.putfield 34, 3) := by decide +kernel
theorem dX1_init_57 : decode cX1_init 57 = .ok (.return_, 1) := by decide +kernel
theorem dX1_countFormsTo_0 : decode cX1_countFormsTo 0 = .ok (.aload_n 0, 1) := by decide +kernel
theorem dX1_countFormsTo_1 : decode cX1_countFormsTo 1 = .ok (.getfield 9, 3) := by decide +kernel
theorem dX1_countFormsTo_4 : decode cX1_countFormsTo 4 = .ok (.aload_n 0, 1) := by decide +kernel
theorem dX1_countFormsTo_5 : decode cX1_countFormsTo 5 = .ok (.getfield 13, 3) := by decide +kernel
theorem dX1_countFormsTo_8 : decode cX1_countFormsTo 8 = .ok (.iload_n 1, 1) := by decide +kernel
theorem dX1_countFormsTo_9 : decode cX1_countFormsTo 9 = .ok (.invokestatic 37, 3) := by decide +kernel
theorem dX1_countFormsTo_12 : decode cX1_countFormsTo 12 = .ok (.ireturn, 1) := by decide +kernel
theorem dX1_countFieldsTo_0 : decode cX1_countFieldsTo 0 = .ok (.aload_n 0, 1) := by decide +kernel
theorem dX1_countFieldsTo_1 : decode cX1_countFieldsTo 1 = .ok (.getfield 17, 3) := by decide +kernel
theorem dX1_countFieldsTo_4 : decode cX1_countFieldsTo 4 = .ok (.aload_n 0, 1) := by decide +kernel
theorem dX1_countFieldsTo_5 : decode cX1_countFieldsTo 5 = .ok (.getfield 20, 3) := by decide +kernel
theorem dX1_countFieldsTo_8 : decode cX1_countFieldsTo 8 = .ok (.iload_n 1, 1) := by decide +kernel
theorem dX1_countFieldsTo_9 : decode cX1_countFieldsTo 9 = .ok (.invokestatic 37, 3) := by decide +kernel
theorem dX1_countFieldsTo_12 : decode cX1_countFieldsTo 12 = .ok (.ireturn, 1) := by decide +kernel
theorem dX1_countTo_0 : decode cX1_countTo 0 = .ok (.iconst 0, 1) := by decide +kernel
theorem dX1_countTo_1 : decode cX1_countTo 1 = .ok (.istore_n 3, 1) := by decide +kernel
theorem dX1_countTo_2 : decode cX1_countTo 2 = .ok (.iconst 0, 1) := by decide +kernel
theorem dX1_countTo_3 : decode cX1_countTo 3 = .ok (.istore 4, 2) := by decide +kernel
theorem dX1_countTo_5 : decode cX1_countTo 5 = .ok (.iload 4, 2) := by decide +kernel
theorem dX1_countTo_7 : decode cX1_countTo 7 = .ok (.iload_n 1, 1) := by decide +kernel
theorem dX1_countTo_8 : decode cX1_countTo 8 = .ok (.if_icmp .ge 27, 3) := by decide +kernel
theorem dX1_countTo_11 : decode cX1_countTo 11 = .ok (.iload 4, 2) := by decide +kernel
theorem dX1_countTo_13 : decode cX1_countTo 13 = .ok (.aload_n 0, 1) := by decide +kernel
theorem dX1_countTo_14 : decode cX1_countTo 14 = .ok (.arraylength, 1) := by decide +kernel
theorem dX1_countTo_15 : decode cX1_countTo 15 = .ok (.if_icmp .ge 20, 3) := by decide +kernel
theorem dX1_countTo_18 : decode cX1_countTo 18 = .ok (.aload_n 0, 1) := by decide +kernel
theorem dX1_countTo_19 : decode cX1_countTo 19 = .ok (.iload 4, 2) := by decide +kernel
theorem dX1_countTo_21 : decode cX1_countTo 21 = .ok (.iaload, 1) := by decide +kernel
theorem dX1_countTo_22 : decode cX1_countTo 22 = .ok (.iload_n 2, 1) := by decide +kernel
theorem dX1_countTo_23 : decode cX1_countTo 23 = .ok (.if_icmp .gt 6, 3) := by decide +kernel
theorem dX1_countTo_26 : decode cX1_countTo 26 = .ok (.iinc 3 1, 3) := by decide +kernel
theorem dX1_countTo_29 : decode cX1_countTo 29 = .ok (.iinc 4 1, 3) := by decide +kernel
theorem dX1_countTo_32 : decode cX1_countTo 32 = .ok (.goto (-27), 3) := by decide +kernel
theorem dX1_countTo_35 : decode cX1_countTo 35 = .ok (.iload_n 3, 1) := by decide +kernel
theorem dX1_countTo_36 : decode cX1_countTo 36 = .ok (.ireturn, 1) := by decide +kernel
theorem dX1_fillOnce_0 : decode cX1_fillOnce 0 = .ok (.aload_n 0, 1) := by decide +kernel
theorem dX1_fillOnce_1 : decode cX1_fillOnce 1 = .ok (.getfield 23, 3) := by decide +kernel
theorem dX1_fillOnce_4 : decode cX1_fillOnce 4 = .ok (.ifCond .eq 4, 3) := by decide +kernel
theorem dX1_fillOnce_7 : decode cX1_fillOnce 7 = .ok (.return_, 1) := by decide +kernel
theorem dX1_fillOnce_8 : decode cX1_fillOnce 8 = .ok (.bipush (-9), 2) := by decide +kernel
theorem dX1_fillOnce_10 : decode cX1_fillOnce 10 = .ok (.istore_n 2, 1) := by decide +kernel
theorem dX1_fillOnce_11 : decode cX1_fillOnce 11 = .ok (.iload_n 2, 1) := by decide +kernel
theorem dX1_fillOnce_12 : decode cX1_fillOnce 12 = .ok (.ifCond .ge 128, 3) := by decide +kernel
theorem dX1_fillOnce_15 : decode cX1_fillOnce 15 = .ok (.bipush (-9), 2) := by decide +kernel
theorem dX1_fillOnce_17 : decode cX1_fillOnce 17 = .ok (.istore_n 3, 1) := by decide +kernel
theorem dX1_fillOnce_18 : decode cX1_fillOnce 18 = .ok (.iload_n 3, 1) := by decide +kernel
theorem dX1_fillOnce_19 : decode cX1_fillOnce 19 = .ok (.bipush 9, 2) := by decide +kernel
theorem dX1_fillOnce_21 : decode cX1_fillOnce 21 = .ok (.if_icmp .gt 113, 3) := by decide +kernel
theorem dX1_fillOnce_24 : decode cX1_fillOnce 24 = .ok (.bipush (-9), 2) := by decide +kernel
theorem dX1_fillOnce_26 : decode cX1_fillOnce 26 = .ok (.istore 4, 2) := by decide +kernel
theorem dX1_fillOnce_28 : decode cX1_fillOnce 28 = .ok (.iload 4, 2) := by decide +kernel
theorem dX1_fillOnce_30 : decode cX1_fillOnce 30 = .ok (.bipush 9, 2) := by decide +kernel
theorem dX1_fillOnce_32 : decode cX1_fillOnce 32 = .ok (.if_icmp .gt 96, 3) := by decide +kernel
theorem dX1_fillOnce_35 : decode cX1_fillOnce 35 = .ok (.iload_n 3, 1) := by decide +kernel
theorem dX1_fillOnce_36 : decode cX1_fillOnce 36 = .ok (.iload_n 3, 1) := by decide +kernel
theorem dX1_fillOnce_37 : decode cX1_fillOnce 37 = .ok (.imul, 1) := by decide +kernel
theorem dX1_fillOnce_38 : decode cX1_fillOnce 38 = .ok (.iconst 3, 1) := by decide +kernel
theorem dX1_fillOnce_39 : decode cX1_fillOnce 39 = .ok (.iload_n 2, 1) := by decide +kernel
theorem dX1_fillOnce_40 : decode cX1_fillOnce 40 = .ok (.imul, 1) := by decide +kernel
theorem dX1_fillOnce_41 : decode cX1_fillOnce 41 = .ok (.iload 4, 2) := by decide +kernel
theorem dX1_fillOnce_43 : decode cX1_fillOnce 43 = .ok (.imul, 1) := by decide +kernel
theorem dX1_fillOnce_44 : decode cX1_fillOnce 44 = .ok (.isub, 1) := by decide +kernel
theorem dX1_fillOnce_45 : decode cX1_fillOnce 45 = .ok (.istore 5, 2) := by decide +kernel
theorem dX1_fillOnce_47 : decode cX1_fillOnce 47 = .ok (.iload 5, 2) := by decide +kernel
theorem dX1_fillOnce_49 : decode cX1_fillOnce 49 = .ok (.ifCond .le 18, 3) := by decide +kernel
theorem dX1_fillOnce_52 : decode cX1_fillOnce 52 = .ok (.iload 5, 2) := by decide +kernel
theorem dX1_fillOnce_54 : decode cX1_fillOnce 54 = .ok (.iload 5, 2) := by decide +kernel
theorem dX1_fillOnce_56 : decode cX1_fillOnce 56 = .ok (.imul, 1) := by decide +kernel
theorem dX1_fillOnce_57 : decode cX1_fillOnce 57 = .ok (.sipush 1000, 3) := by decide +kernel
theorem dX1_fillOnce_60 : decode cX1_fillOnce 60 = .ok (.if_icmp .gt 7, 3) := by decide +kernel
theorem dX1_fillOnce_63 : decode cX1_fillOnce 63 = .ok (.iconst 1, 1) := by decide +kernel
theorem dX1_fillOnce_64 : decode cX1_fillOnce 64 = .ok (.goto 4, 3) := by decide +kernel
theorem dX1_fillOnce_67 : decode cX1_fillOnce 67 = .ok (.iconst 0, 1) := by decide +kernel
theorem dX1_fillOnce_68 : decode cX1_fillOnce 68 = .ok (.istore 6, 2) := by decide +kernel
theorem dX1_fillOnce_70 : decode cX1_fillOnce 70 = .ok (.bipush (-9), 2) := by decide +kernel
theorem dX1_fillOnce_72 : decode cX1_fillOnce 72 = .ok (.istore 7, 2) := by decide +kernel
theorem dX1_fillOnce_74 : decode cX1_fillOnce 74 = .ok (.iload 6, 2) := by decide +kernel
theorem dX1_fillOnce_76 : decode cX1_fillOnce 76 = .ok (.ifCond .eq 46, 3) := by decide +kernel
theorem dX1_fillOnce_79 : decode cX1_fillOnce 79 = .ok (.iload 7, 2) := by decide +kernel
theorem dX1_fillOnce_81 : decode cX1_fillOnce 81 = .ok (.bipush 9, 2) := by decide +kernel
theorem dX1_fillOnce_83 : decode cX1_fillOnce 83 = .ok (.if_icmp .gt 39, 3) := by decide +kernel
theorem dX1_fillOnce_86 : decode cX1_fillOnce 86 = .ok (.aload_n 0, 1) := by decide +kernel
theorem dX1_fillOnce_87 : decode cX1_fillOnce 87 = .ok (.getfield 30, 3) := by decide +kernel
theorem dX1_fillOnce_90 : decode cX1_fillOnce 90 = .ok (.iload_n 2, 1) := by decide +kernel
theorem dX1_fillOnce_91 : decode cX1_fillOnce 91 = .ok (.i2l, 1) := by decide +kernel
theorem dX1_fillOnce_92 : decode cX1_fillOnce 92 = .ok (.iload_n 3, 1) := by decide +kernel
theorem dX1_fillOnce_93 : decode cX1_fillOnce 93 = .ok (.i2l, 1) := by decide +kernel
theorem dX1_fillOnce_94 : decode cX1_fillOnce 94 = .ok (.iload 4, 2) := by decide +kernel
theorem dX1_fillOnce_96 : decode cX1_fillOnce 96 = .ok (.i2l, 1) := by decide +kernel
theorem dX1_fillOnce_97 : decode cX1_fillOnce 97 = .ok (.iload 7, 2) := by decide +kernel
theorem dX1_fillOnce_99 : decode cX1_fillOnce 99 = .ok (.i2l, 1) := by decide +kernel
theorem dX1_fillOnce_100 : decode cX1_fillOnce 100 = .ok (.invokevirtual 41, 3) := by decide +kernel
theorem dX1_fillOnce_103 : decode cX1_fillOnce 103 = .ok (.aload_n 0, 1) := by decide +kernel
theorem dX1_fillOnce_104 : decode cX1_fillOnce 104 = .ok (.aload_n 1, 1) := by decide +kernel
theorem dX1_fillOnce_105 : decode cX1_fillOnce 105 = .ok (.invokevirtual 45, 3) := by decide +kernel
theorem dX1_fillOnce_108 : decode cX1_fillOnce 108 = .ok (.ifCond .eq 8, 3) := by decide +kernel
theorem dX1_fillOnce_111 : decode cX1_fillOnce 111 = .ok (.aload_n 0, 1) := by decide +kernel
theorem dX1_fillOnce_112 : decode cX1_fillOnce 112 = .ok (.aload_n 1, 1) := by decide +kernel
theorem dX1_fillOnce_113 : decode cX1_fillOnce 113 = .ok (.invokevirtual 49, 3) := by decide +kernel
theorem dX1_fillOnce_116 : decode cX1_fillOnce 116 = .ok (.iinc 7 1, 3) := by decide +kernel
theorem dX1_fillOnce_119 : decode cX1_fillOnce 119 = .ok (.goto (-45), 3) := by decide +kernel
theorem dX1_fillOnce_122 : decode cX1_fillOnce 122 = .ok (.iinc 4 1, 3) := by decide +kernel
theorem dX1_fillOnce_125 : decode cX1_fillOnce 125 = .ok (.goto (-97), 3) := by decide +kernel
theorem dX1_fillOnce_128 : decode cX1_fillOnce 128 = .ok (.iinc 3 1, 3) := by decide +kernel
theorem dX1_fillOnce_131 : decode cX1_fillOnce 131 = .ok (.goto (-113), 3) := by decide +kernel
theorem dX1_fillOnce_134 : decode cX1_fillOnce 134 = .ok (.iinc 2 1, 3) := by decide +kernel
theorem dX1_fillOnce_137 : decode cX1_fillOnce 137 = .ok (.goto (-126), 3) := by decide +kernel
theorem dX1_fillOnce_140 : decode cX1_fillOnce 140 = .ok (.aload_n 0, 1) := by decide +kernel
theorem dX1_fillOnce_141 : decode cX1_fillOnce 141 = .ok (.iconst 1, 1) := by decide +kernel
theorem dX1_fillOnce_142 : decode cX1_fillOnce 142 = .ok (.putfield 23, 3) := by decide +kernel
theorem dX1_fillOnce_145 : decode cX1_fillOnce 145 = .ok (.return_, 1) := by decide +kernel
theorem dX1_isTabulated_0 : decode cX1_isTabulated 0 = .ok (.aload_n 0, 1) := by decide +kernel
theorem dX1_isTabulated_1 : decode cX1_isTabulated 1 = .ok (.getfield 30, 3) := by decide +kernel
theorem dX1_isTabulated_4 : decode cX1_isTabulated 4 = .ok (.invokevirtual 53, 3) := by decide +kernel
theorem dX1_isTabulated_7 : decode cX1_isTabulated 7 = .ok (.ifCond .ne 5, 3) := by decide +kernel
theorem dX1_isTabulated_10 : decode cX1_isTabulated 10 = .ok (.iconst 0, 1) := by decide +kernel
theorem dX1_isTabulated_11 : decode cX1_isTabulated 11 = .ok (.ireturn, 1) := by decide +kernel
theorem dX1_isTabulated_12 : decode cX1_isTabulated 12 = .ok (.aload_n 0, 1) := by decide +kernel
theorem dX1_isTabulated_13 : decode cX1_isTabulated 13 = .ok (.getfield 30, 3) := by decide +kernel
theorem dX1_isTabulated_16 : decode cX1_isTabulated 16 = .ok (.invokevirtual 57, 3) := by decide +kernel
theorem dX1_isTabulated_19 : decode cX1_isTabulated 19 = .ok (.lstore_n 2, 1) := by decide +kernel
theorem dX1_isTabulated_20 : decode cX1_isTabulated 20 = .ok (.lload_n 2, 1) := by decide +kernel
theorem dX1_isTabulated_21 : decode cX1_isTabulated 21 = .ok (.lconst 0, 1) := by decide +kernel
theorem dX1_isTabulated_22 : decode cX1_isTabulated 22 = .ok (.lcmp, 1) := by decide +kernel
theorem dX1_isTabulated_23 : decode cX1_isTabulated 23 = .ok (.ifCond .le 21, 3) := by decide +kernel
theorem dX1_isTabulated_26 : decode cX1_isTabulated 26 = .ok (.lload_n 2, 1) := by decide +kernel
theorem dX1_isTabulated_27 : decode cX1_isTabulated 27 = .ok (.ldc2_w 61, 3) := by decide +kernel
theorem dX1_isTabulated_30 : decode cX1_isTabulated 30 = .ok (.lcmp, 1) := by decide +kernel
theorem dX1_isTabulated_31 : decode cX1_isTabulated 31 = .ok (.ifCond .gt 13, 3) := by decide +kernel
theorem dX1_isTabulated_34 : decode cX1_isTabulated 34 = .ok (.aload_n 0, 1) := by decide +kernel
theorem dX1_isTabulated_35 : decode cX1_isTabulated 35 = .ok (.getfield 30, 3) := by decide +kernel
theorem dX1_isTabulated_38 : decode cX1_isTabulated 38 = .ok (.invokevirtual 63, 3) := by decide +kernel
theorem dX1_isTabulated_41 : decode cX1_isTabulated 41 = .ok (.ifCond .eq 5, 3) := by decide +kernel
theorem dX1_isTabulated_44 : decode cX1_isTabulated 44 = .ok (.iconst 0, 1) := by decide +kernel
theorem dX1_isTabulated_45 : decode cX1_isTabulated 45 = .ok (.ireturn, 1) := by decide +kernel
theorem dX1_isTabulated_46 : decode cX1_isTabulated 46 = .ok (.aload_n 0, 1) := by decide +kernel
theorem dX1_isTabulated_47 : decode cX1_isTabulated 47 = .ok (.getfield 34, 3) := by decide +kernel
theorem dX1_isTabulated_50 : decode cX1_isTabulated 50 = .ok (.aload_n 0, 1) := by decide +kernel
theorem dX1_isTabulated_51 : decode cX1_isTabulated 51 = .ok (.getfield 30, 3) := by decide +kernel
theorem dX1_isTabulated_54 : decode cX1_isTabulated 54 = .ok (.invokevirtual 66, 3) := by decide +kernel
theorem dX1_isTabulated_57 : decode cX1_isTabulated 57 = .ok (.aload_n 1, 1) := by decide +kernel
theorem dX1_isTabulated_58 : decode cX1_isTabulated 58 = .ok (.aload_n 0, 1) := by decide +kernel
theorem dX1_isTabulated_59 : decode cX1_isTabulated 59 = .ok (.getfield 34, 3) := by decide +kernel
theorem dX1_isTabulated_62 : decode cX1_isTabulated 62 = .ok (.invokevirtual 70, 3) := by decide +kernel
theorem dX1_isTabulated_65 : decode cX1_isTabulated 65 = .ok (.aload_n 0, 1) := by decide +kernel
theorem dX1_isTabulated_66 : decode cX1_isTabulated 66 = .ok (.getfield 34, 3) := by decide +kernel
theorem dX1_isTabulated_69 : decode cX1_isTabulated 69 = .ok (.aload_n 0, 1) := by decide +kernel
theorem dX1_isTabulated_70 : decode cX1_isTabulated 70 = .ok (.getfield 30, 3) := by decide +kernel
theorem dX1_isTabulated_73 : decode cX1_isTabulated 73 = .ok (.invokevirtual 75, 3) := by decide +kernel
theorem dX1_isTabulated_76 : decode cX1_isTabulated 76 = .ok (.ireturn, 1) := by decide +kernel
theorem dX1_addTabulated_0 : decode cX1_addTabulated 0 = .ok (.aload_n 0, 1) := by decide +kernel
theorem dX1_addTabulated_1 : decode cX1_addTabulated 1 = .ok (.getfield 30, 3) := by decide +kernel
theorem dX1_addTabulated_4 : decode cX1_addTabulated 4 = .ok (.invokevirtual 57, 3) := by decide +kernel
theorem dX1_addTabulated_7 : decode cX1_addTabulated 7 = .ok (.l2i, 1) := by decide +kernel
theorem dX1_addTabulated_8 : decode cX1_addTabulated 8 = .ok (.istore_n 2, 1) := by decide +kernel
theorem dX1_addTabulated_9 : decode cX1_addTabulated 9 = .ok (.aload_n 0, 1) := by decide +kernel
theorem dX1_addTabulated_10 : decode cX1_addTabulated 10 = .ok (.getfield 9, 3) := by decide +kernel
theorem dX1_addTabulated_13 : decode cX1_addTabulated 13 = .ok (.aload_n 0, 1) := by decide +kernel
theorem dX1_addTabulated_14 : decode cX1_addTabulated 14 = .ok (.getfield 13, 3) := by decide +kernel
theorem dX1_addTabulated_17 : decode cX1_addTabulated 17 = .ok (.iload_n 2, 1) := by decide +kernel
theorem dX1_addTabulated_18 : decode cX1_addTabulated 18 = .ok (.invokestatic 79, 3) := by decide +kernel
theorem dX1_addTabulated_21 : decode cX1_addTabulated 21 = .ok (.ifCond .eq 13, 3) := by decide +kernel
theorem dX1_addTabulated_24 : decode cX1_addTabulated 24 = .ok (.aload_n 0, 1) := by decide +kernel
theorem dX1_addTabulated_25 : decode cX1_addTabulated 25 = .ok (.dup, 1) := by decide +kernel
theorem dX1_addTabulated_26 : decode cX1_addTabulated 26 = .ok (.getfield 13, 3) := by decide +kernel
theorem dX1_addTabulated_29 : decode cX1_addTabulated 29 = .ok (.iconst 1, 1) := by decide +kernel
theorem dX1_addTabulated_30 : decode cX1_addTabulated 30 = .ok (.iadd, 1) := by decide +kernel
theorem dX1_addTabulated_31 : decode cX1_addTabulated 31 = .ok (.putfield 13, 3) := by decide +kernel
theorem dX1_addTabulated_34 : decode cX1_addTabulated 34 = .ok (.aload_n 1, 1) := by decide +kernel
theorem dX1_addTabulated_35 : decode cX1_addTabulated 35 = .ok (.aload_n 0, 1) := by decide +kernel
theorem dX1_addTabulated_36 : decode cX1_addTabulated 36 = .ok (.getfield 30, 3) := by decide +kernel
theorem dX1_addTabulated_39 : decode cX1_addTabulated 39 = .ok (.invokevirtual 83, 3) := by decide +kernel
theorem dX1_addTabulated_42 : decode cX1_addTabulated 42 = .ok (.ifCond .ne 28, 3) := by decide +kernel
theorem dX1_addTabulated_45 : decode cX1_addTabulated 45 = .ok (.aload_n 0, 1) := by decide +kernel
theorem dX1_addTabulated_46 : decode cX1_addTabulated 46 = .ok (.getfield 17, 3) := by decide +kernel
theorem dX1_addTabulated_49 : decode cX1_addTabulated 49 = .ok (.aload_n 0, 1) := by decide +kernel
theorem dX1_addTabulated_50 : decode cX1_addTabulated 50 = .ok (.getfield 20, 3) := by decide +kernel
theorem dX1_addTabulated_53 : decode cX1_addTabulated 53 = .ok (.iload_n 2, 1) := by decide +kernel
theorem dX1_addTabulated_54 : decode cX1_addTabulated 54 = .ok (.invokestatic 79, 3) := by decide +kernel
theorem dX1_addTabulated_57 : decode cX1_addTabulated 57 = .ok (.ifCond .eq 13, 3) := by decide +kernel
theorem dX1_addTabulated_60 : decode cX1_addTabulated 60 = .ok (.aload_n 0, 1) := by decide +kernel
theorem dX1_addTabulated_61 : decode cX1_addTabulated 61 = .ok (.dup, 1) := by decide +kernel
theorem dX1_addTabulated_62 : decode cX1_addTabulated 62 = .ok (.getfield 20, 3) := by decide +kernel
theorem dX1_addTabulated_65 : decode cX1_addTabulated 65 = .ok (.iconst 1, 1) := by decide +kernel
theorem dX1_addTabulated_66 : decode cX1_addTabulated 66 = .ok (.iadd, 1) := by decide +kernel
theorem dX1_addTabulated_67 : decode cX1_addTabulated 67 = .ok (.putfield 20, 3) := by decide +kernel
theorem dX1_addTabulated_70 : decode cX1_addTabulated 70 = .ok (.return_, 1) := by decide +kernel
theorem dX1_insert_0 : decode cX1_insert 0 = .ok (.iload_n 1, 1) := by decide +kernel
theorem dX1_insert_1 : decode cX1_insert 1 = .ok (.ifCond .lt 9, 3) := by decide +kernel
theorem dX1_insert_4 : decode cX1_insert 4 = .ok (.iload_n 1, 1) := by decide +kernel
theorem dX1_insert_5 : decode cX1_insert 5 = .ok (.aload_n 0, 1) := by decide +kernel
theorem dX1_insert_6 : decode cX1_insert 6 = .ok (.arraylength, 1) := by decide +kernel
theorem dX1_insert_7 : decode cX1_insert 7 = .ok (.if_icmp .lt 5, 3) := by decide +kernel
theorem dX1_insert_10 : decode cX1_insert 10 = .ok (.iconst 0, 1) := by decide +kernel
theorem dX1_insert_11 : decode cX1_insert 11 = .ok (.ireturn, 1) := by decide +kernel
theorem dX1_insert_12 : decode cX1_insert 12 = .ok (.iload_n 1, 1) := by decide +kernel
theorem dX1_insert_13 : decode cX1_insert 13 = .ok (.istore_n 3, 1) := by decide +kernel
theorem dX1_insert_14 : decode cX1_insert 14 = .ok (.iload_n 3, 1) := by decide +kernel
theorem dX1_insert_15 : decode cX1_insert 15 = .ok (.ifCond .le 26, 3) := by decide +kernel
theorem dX1_insert_18 : decode cX1_insert 18 = .ok (.aload_n 0, 1) := by decide +kernel
theorem dX1_insert_19 : decode cX1_insert 19 = .ok (.iload_n 3, 1) := by decide +kernel
theorem dX1_insert_20 : decode cX1_insert 20 = .ok (.iconst 1, 1) := by decide +kernel
theorem dX1_insert_21 : decode cX1_insert 21 = .ok (.isub, 1) := by decide +kernel
theorem dX1_insert_22 : decode cX1_insert 22 = .ok (.iaload, 1) := by decide +kernel
theorem dX1_insert_23 : decode cX1_insert 23 = .ok (.iload_n 2, 1) := by decide +kernel
theorem dX1_insert_24 : decode cX1_insert 24 = .ok (.if_icmp .le 17, 3) := by decide +kernel
theorem dX1_insert_27 : decode cX1_insert 27 = .ok (.aload_n 0, 1) := by decide +kernel
theorem dX1_insert_28 : decode cX1_insert 28 = .ok (.iload_n 3, 1) := by decide +kernel
theorem dX1_insert_29 : decode cX1_insert 29 = .ok (.aload_n 0, 1) := by decide +kernel
theorem dX1_insert_30 : decode cX1_insert 30 = .ok (.iload_n 3, 1) := by decide +kernel
theorem dX1_insert_31 : decode cX1_insert 31 = .ok (.iconst 1, 1) := by decide +kernel
theorem dX1_insert_32 : decode cX1_insert 32 = .ok (.isub, 1) := by decide +kernel
theorem dX1_insert_33 : decode cX1_insert 33 = .ok (.iaload, 1) := by decide +kernel
theorem dX1_insert_34 : decode cX1_insert 34 = .ok (.iastore, 1) := by decide +kernel
theorem dX1_insert_35 : decode cX1_insert 35 = .ok (.iinc 3 (-1), 3) := by decide +kernel
theorem dX1_insert_38 : decode cX1_insert 38 = .ok (.goto (-24), 3) := by decide +kernel
theorem dX1_insert_41 : decode cX1_insert 41 = .ok (.aload_n 0, 1) := by decide +kernel
theorem dX1_insert_42 : decode cX1_insert 42 = .ok (.iload_n 3, 1) := by decide +kernel
theorem dX1_insert_43 : decode cX1_insert 43 = .ok (.iload_n 2, 1) := by decide +kernel
theorem dX1_insert_44 : decode cX1_insert 44 = .ok (.iastore, 1) := by decide +kernel
theorem dX1_insert_45 : decode cX1_insert 45 = .ok (.iconst 1, 1) := by decide +kernel
theorem dX1_insert_46 : decode cX1_insert 46 = .ok (.ireturn, 1) := by decide +kernel
theorem dX2_init_0 : decode cX2_init 0 = .ok (.aload_n 0, 1) := by decide +kernel
theorem dX2_init_1 : decode cX2_init 1 = .ok (.invokespecial 1, 3) := by decide +kernel
theorem dX2_init_4 : decode cX2_init 4 = .ok (.aload_n 0, 1) := by decide +kernel
theorem dX2_init_5 : decode cX2_init 5 = .ok (.new 7, 3) := by decide +kernel
theorem dX2_init_8 : decode cX2_init 8 = .ok (.dup, 1) := by decide +kernel
theorem dX2_init_9 : decode cX2_init 9 = .ok (.invokespecial 9, 3) := by decide +kernel
theorem dX2_init_12 : decode cX2_init 12 = .ok (.putfield 10, 3) := by decide +kernel
theorem dX2_init_15 : decode cX2_init 15 = .ok (.aload_n 0, 1) := by decide +kernel
theorem dX2_init_16 : decode cX2_init 16 = .ok (.new 7, 3) := by decide +kernel
theorem dX2_init_19 : decode cX2_init 19 = .ok (.dup, 1) := by decide +kernel
theorem dX2_init_20 : decode cX2_init 20 = .ok (.invokespecial 9, 3) := by decide +kernel
theorem dX2_init_23 : decode cX2_init 23 = .ok (.putfield 16, 3) := by decide +kernel
theorem dX2_init_26 : decode cX2_init 26 = .ok (.aload_n 0, 1) := by decide +kernel
theorem dX2_init_27 : decode cX2_init 27 = .ok (.new 7, 3) := by decide +kernel
theorem dX2_init_30 : decode cX2_init 30 = .ok (.dup, 1) := by decide +kernel
theorem dX2_init_31 : decode cX2_init 31 = .ok (.invokespecial 9, 3) := by decide +kernel
theorem dX2_init_34 : decode cX2_init 34 = .ok (.putfield 19, 3) := by decide +kernel
theorem dX2_init_37 : decode cX2_init 37 = .ok (.aload_n 0, 1) := by decide +kernel
theorem dX2_init_38 : decode cX2_init 38 = .ok (.new 7, 3) := by decide +kernel
theorem dX2_init_41 : decode cX2_init 41 = .ok (.dup, 1) := by decide +kernel
theorem dX2_init_42 : decode cX2_init 42 = .ok (.invokespecial 9, 3) := by decide +kernel
theorem dX2_init_45 : decode cX2_init 45 = .ok (.putfield 22, 3) := by decide +kernel
theorem dX2_init_48 : decode cX2_init 48 = .ok (.aload_n 0, 1) := by decide +kernel
theorem dX2_init_49 : decode cX2_init 49 = .ok (.new 7, 3) := by decide +kernel
theorem dX2_init_52 : decode cX2_init 52 = .ok (.dup, 1) := by decide +kernel
theorem dX2_init_53 : decode cX2_init 53 = .ok (.invokespecial 9, 3) := by decide +kernel
theorem dX2_init_56 : decode cX2_init 56 = .ok (.putfield 25, 3) := by decide +kernel
theorem dX2_init_59 : decode cX2_init 59 = .ok (.aload_n 0, 1) := by decide +kernel
theorem dX2_init_60 : decode cX2_init 60 = .ok (.new 7, 3) := by decide +kernel
theorem dX2_init_63 : decode cX2_init 63 = .ok (.dup, 1) := by decide +kernel
theorem dX2_init_64 : decode cX2_init 64 = .ok (.invokespecial 9, 3) := by decide +kernel
theorem dX2_init_67 : decode cX2_init 67 = .ok (.putfield 28, 3) := by decide +kernel
theorem dX2_init_70 : decode cX2_init 70 = .ok (.aload_n 0, 1) := by decide +kernel
theorem dX2_init_71 : decode cX2_init 71 = .ok (.new 7, 3) := by decide +kernel
theorem dX2_init_74 : decode cX2_init 74 = .ok (.dup, 1) := by decide +kernel
theorem dX2_init_75 : decode cX2_init 75 = .ok (.invokespecial 9, 3) := by decide +kernel
theorem dX2_init_78 : decode cX2_init 78 = .ok (.putfield 31, 3) := by decide +kernel
theorem dX2_init_81 : decode cX2_init 81 = .ok (.aload_n 0, 1) := by decide +kernel
theorem dX2_init_82 : decode cX2_init 82 = .ok (.getfield 10, 3) := by decide +kernel
theorem dX2_init_85 : decode cX2_init 85 = .ok (.lconst 1, 1) := by decide +kernel
theorem dX2_init_86 : decode cX2_init 86 = .ok (.putfield 34, 3) := by decide +kernel
theorem dX2_init_89 : decode cX2_init 89 = .ok (.aload_n 0, 1) := by decide +kernel
theorem dX2_init_90 : decode cX2_init 90 = .ok (.getfield 16, 3) := by decide +kernel
theorem dX2_init_93 : decode cX2_init 93 = .ok (.lconst 1, 1) := by decide +kernel
theorem dX2_init_94 : decode cX2_init 94 = .ok (.putfield 38, 3) := by decide +kernel
theorem dX2_init_97 : decode cX2_init 97 = .ok (.aload_n 0, 1) := by decide +kernel
theorem dX2_init_98 : decode cX2_init 98 = .ok (.getfield 19, 3) := by decide +kernel
theorem dX2_init_101 : decode cX2_init 101 = .ok (.lconst 1, 1) := by decide +kernel
theorem dX2_init_102 : decode cX2_init 102 = .ok (.putfield 41, 3) := by decide +kernel
theorem dX2_init_105 : decode cX2_init 105 = .ok (.return_, 1) := by decide +kernel
theorem dX2_productOf_0 : decode cX2_productOf 0 = .ok (.aload_n 0, 1) := by decide +kernel
theorem dX2_productOf_1 : decode cX2_productOf 1 = .ok (.getfield 22, 3) := by decide +kernel
theorem dX2_productOf_4 : decode cX2_productOf 4 = .ok (.aload_n 1, 1) := by decide +kernel
theorem dX2_productOf_5 : decode cX2_productOf 5 = .ok (.aload_n 2, 1) := by decide +kernel
theorem dX2_productOf_6 : decode cX2_productOf 6 = .ok (.aload_n 3, 1) := by decide +kernel
theorem dX2_productOf_7 : decode cX2_productOf 7 = .ok (.invokevirtual 44, 3) := by decide +kernel
theorem dX2_productOf_10 : decode cX2_productOf 10 = .ok (.aload_n 0, 1) := by decide +kernel
theorem dX2_productOf_11 : decode cX2_productOf 11 = .ok (.getfield 22, 3) := by decide +kernel
theorem dX2_productOf_14 : decode cX2_productOf 14 = .ok (.areturn, 1) := by decide +kernel
theorem dX2_normOf_0 : decode cX2_normOf 0 = .ok (.aload_n 0, 1) := by decide +kernel
theorem dX2_normOf_1 : decode cX2_normOf 1 = .ok (.getfield 25, 3) := by decide +kernel
theorem dX2_normOf_4 : decode cX2_normOf 4 = .ok (.aload_n 1, 1) := by decide +kernel
theorem dX2_normOf_5 : decode cX2_normOf 5 = .ok (.aload_n 2, 1) := by decide +kernel
theorem dX2_normOf_6 : decode cX2_normOf 6 = .ok (.aload_n 0, 1) := by decide +kernel
theorem dX2_normOf_7 : decode cX2_normOf 7 = .ok (.getfield 10, 3) := by decide +kernel
theorem dX2_normOf_10 : decode cX2_normOf 10 = .ok (.invokevirtual 44, 3) := by decide +kernel
theorem dX2_normOf_13 : decode cX2_normOf 13 = .ok (.aload_n 0, 1) := by decide +kernel
theorem dX2_normOf_14 : decode cX2_normOf 14 = .ok (.getfield 28, 3) := by decide +kernel
theorem dX2_normOf_17 : decode cX2_normOf 17 = .ok (.aload_n 1, 1) := by decide +kernel
theorem dX2_normOf_18 : decode cX2_normOf 18 = .ok (.aload_n 2, 1) := by decide +kernel
theorem dX2_normOf_19 : decode cX2_normOf 19 = .ok (.aload_n 0, 1) := by decide +kernel
theorem dX2_normOf_20 : decode cX2_normOf 20 = .ok (.getfield 16, 3) := by decide +kernel
theorem dX2_normOf_23 : decode cX2_normOf 23 = .ok (.invokevirtual 44, 3) := by decide +kernel
theorem dX2_normOf_26 : decode cX2_normOf 26 = .ok (.aload_n 0, 1) := by decide +kernel
theorem dX2_normOf_27 : decode cX2_normOf 27 = .ok (.getfield 31, 3) := by decide +kernel
theorem dX2_normOf_30 : decode cX2_normOf 30 = .ok (.aload_n 1, 1) := by decide +kernel
theorem dX2_normOf_31 : decode cX2_normOf 31 = .ok (.aload_n 2, 1) := by decide +kernel
theorem dX2_normOf_32 : decode cX2_normOf 32 = .ok (.aload_n 0, 1) := by decide +kernel
theorem dX2_normOf_33 : decode cX2_normOf 33 = .ok (.getfield 19, 3) := by decide +kernel
theorem dX2_normOf_36 : decode cX2_normOf 36 = .ok (.invokevirtual 44, 3) := by decide +kernel
theorem dX2_normOf_39 : decode cX2_normOf 39 = .ok (.aload_n 0, 1) := by decide +kernel
theorem dX2_normOf_40 : decode cX2_normOf 40 = .ok (.invokevirtual 48, 3) := by decide +kernel
theorem dX2_normOf_43 : decode cX2_normOf 43 = .ok (.lreturn, 1) := by decide +kernel
theorem dX2_determinantOfTraces_0 : decode cX2_determinantOfTraces 0 = .ok (.aload_n 0, 1) := by decide +kernel
theorem dX2_determinantOfTraces_1 : decode cX2_determinantOfTraces 1 = .ok (.aload_n 1, 1) := by decide +kernel
theorem dX2_determinantOfTraces_2 : decode cX2_determinantOfTraces 2 = .ok (.aload_n 0, 1) := by decide +kernel
theorem dX2_determinantOfTraces_3 : decode cX2_determinantOfTraces 3 = .ok (.getfield 25, 3) := by decide +kernel
theorem dX2_determinantOfTraces_6 : decode cX2_determinantOfTraces 6 = .ok (.aload_n 0, 1) := by decide +kernel
theorem dX2_determinantOfTraces_7 : decode cX2_determinantOfTraces 7 = .ok (.getfield 10, 3) := by decide +kernel
theorem dX2_determinantOfTraces_10 : decode cX2_determinantOfTraces 10 = .ok (.invokevirtual 52, 3) := by decide +kernel
theorem dX2_determinantOfTraces_13 : decode cX2_determinantOfTraces 13 = .ok (.aload_n 0, 1) := by decide +kernel
theorem dX2_determinantOfTraces_14 : decode cX2_determinantOfTraces 14 = .ok (.aload_n 1, 1) := by decide +kernel
theorem dX2_determinantOfTraces_15 : decode cX2_determinantOfTraces 15 = .ok (.aload_n 0, 1) := by decide +kernel
theorem dX2_determinantOfTraces_16 : decode cX2_determinantOfTraces 16 = .ok (.getfield 28, 3) := by decide +kernel
theorem dX2_determinantOfTraces_19 : decode cX2_determinantOfTraces 19 = .ok (.aload_n 0, 1) := by decide +kernel
theorem dX2_determinantOfTraces_20 : decode cX2_determinantOfTraces 20 = .ok (.getfield 16, 3) := by decide +kernel
theorem dX2_determinantOfTraces_23 : decode cX2_determinantOfTraces 23 = .ok (.invokevirtual 52, 3) := by decide +kernel
theorem dX2_determinantOfTraces_26 : decode cX2_determinantOfTraces 26 = .ok (.aload_n 0, 1) := by decide +kernel
theorem dX2_determinantOfTraces_27 : decode cX2_determinantOfTraces 27 = .ok (.aload_n 1, 1) := by decide +kernel
theorem dX2_determinantOfTraces_28 : decode cX2_determinantOfTraces 28 = .ok (.aload_n 0, 1) := by decide +kernel
theorem dX2_determinantOfTraces_29 : decode cX2_determinantOfTraces 29 = .ok (.getfield 31, 3) := by decide +kernel
theorem dX2_determinantOfTraces_32 : decode cX2_determinantOfTraces 32 = .ok (.aload_n 0, 1) := by decide +kernel
theorem dX2_determinantOfTraces_33 : decode cX2_determinantOfTraces 33 = .ok (.getfield 19, 3) := by decide +kernel
theorem dX2_determinantOfTraces_36 : decode cX2_determinantOfTraces 36 = .ok (.invokevirtual 52, 3) := by decide +kernel
theorem dX2_determinantOfTraces_39 : decode cX2_determinantOfTraces 39 = .ok (.aload_n 0, 1) := by decide +kernel
theorem dX2_determinantOfTraces_40 : decode cX2_determinantOfTraces 40 = .ok (.invokevirtual 48, 3) := by decide +kernel
theorem dX2_determinantOfTraces_43 : decode cX2_determinantOfTraces 43 = .ok (.lreturn, 1) := by decide +kernel
theorem dX2_setTraces_0 : decode cX2_setTraces 0 = .ok (.aload_n 2, 1) := by decide +kernel
theorem dX2_setTraces_1 : decode cX2_setTraces 1 = .ok (.aload_n 0, 1) := by decide +kernel
theorem dX2_setTraces_2 : decode cX2_setTraces 2 = .ok (.aload_n 1, 1) := by decide +kernel
theorem dX2_setTraces_3 : decode cX2_setTraces 3 = .ok (.aload_n 3, 1) := by decide +kernel
theorem dX2_setTraces_4 : decode cX2_setTraces 4 = .ok (.aload_n 0, 1) := by decide +kernel
theorem dX2_setTraces_5 : decode cX2_setTraces 5 = .ok (.getfield 10, 3) := by decide +kernel
theorem dX2_setTraces_8 : decode cX2_setTraces 8 = .ok (.invokevirtual 55, 3) := by decide +kernel
theorem dX2_setTraces_11 : decode cX2_setTraces 11 = .ok (.aload_n 1, 1) := by decide +kernel
theorem dX2_setTraces_12 : decode cX2_setTraces 12 = .ok (.invokevirtual 59, 3) := by decide +kernel
theorem dX2_setTraces_15 : decode cX2_setTraces 15 = .ok (.aload_n 0, 1) := by decide +kernel
theorem dX2_setTraces_16 : decode cX2_setTraces 16 = .ok (.aload_n 1, 1) := by decide +kernel
theorem dX2_setTraces_17 : decode cX2_setTraces 17 = .ok (.aload_n 3, 1) := by decide +kernel
theorem dX2_setTraces_18 : decode cX2_setTraces 18 = .ok (.aload_n 0, 1) := by decide +kernel
theorem dX2_setTraces_19 : decode cX2_setTraces 19 = .ok (.getfield 16, 3) := by decide +kernel
theorem dX2_setTraces_22 : decode cX2_setTraces 22 = .ok (.invokevirtual 55, 3) := by decide +kernel
theorem dX2_setTraces_25 : decode cX2_setTraces 25 = .ok (.aload_n 1, 1) := by decide +kernel
theorem dX2_setTraces_26 : decode cX2_setTraces 26 = .ok (.invokevirtual 59, 3) := by decide +kernel
theorem dX2_setTraces_29 : decode cX2_setTraces 29 = .ok (.aload_n 0, 1) := by decide +kernel
theorem dX2_setTraces_30 : decode cX2_setTraces 30 = .ok (.aload_n 1, 1) := by decide +kernel
theorem dX2_setTraces_31 : decode cX2_setTraces 31 = .ok (.aload_n 3, 1) := by decide +kernel
theorem dX2_setTraces_32 : decode cX2_setTraces 32 = .ok (.aload_n 0, 1) := by decide +kernel
theorem dX2_setTraces_33 : decode cX2_setTraces 33 = .ok (.getfield 19, 3) := by decide +kernel
theorem dX2_setTraces_36 : decode cX2_setTraces 36 = .ok (.invokevirtual 55, 3) := by decide +kernel
theorem dX2_setTraces_39 : decode cX2_setTraces 39 = .ok (.aload_n 1, 1) := by decide +kernel
theorem dX2_setTraces_40 : decode cX2_setTraces 40 = .ok (.invokevirtual 59, 3) := by decide +kernel
theorem dX2_setTraces_43 : decode cX2_setTraces 43 = .ok (.invokevirtual 63, 3) := by decide +kernel
theorem dX2_setTraces_46 : decode cX2_setTraces 46 = .ok (.return_, 1) := by decide +kernel
theorem dX2_determinantOfRows_0 : decode cX2_determinantOfRows 0 = .ok (.aload_n 0, 1) := by decide +kernel
theorem dX2_determinantOfRows_1 : decode cX2_determinantOfRows 1 = .ok (.getfield 25, 3) := by decide +kernel
theorem dX2_determinantOfRows_4 : decode cX2_determinantOfRows 4 = .ok (.getfield 34, 3) := by decide +kernel
theorem dX2_determinantOfRows_7 : decode cX2_determinantOfRows 7 = .ok (.aload_n 0, 1) := by decide +kernel
theorem dX2_determinantOfRows_8 : decode cX2_determinantOfRows 8 = .ok (.getfield 28, 3) := by decide +kernel
theorem dX2_determinantOfRows_11 : decode cX2_determinantOfRows 11 = .ok (.getfield 38, 3) := by decide +kernel
theorem dX2_determinantOfRows_14 : decode cX2_determinantOfRows 14 = .ok (.aload_n 0, 1) := by decide +kernel
theorem dX2_determinantOfRows_15 : decode cX2_determinantOfRows 15 = .ok (.getfield 31, 3) := by decide +kernel
theorem dX2_determinantOfRows_18 : decode cX2_determinantOfRows 18 = .ok (.getfield 41, 3) := by decide +kernel
theorem dX2_determinantOfRows_21 : decode cX2_determinantOfRows 21 = .ok (.lmul, 1) := by decide +kernel
theorem dX2_determinantOfRows_22 : decode cX2_determinantOfRows 22 = .ok (.aload_n 0, 1) := by decide +kernel
theorem dX2_determinantOfRows_23 : decode cX2_determinantOfRows 23 = .ok (.getfield 28, 3) := by decide +kernel
theorem dX2_determinantOfRows_26 : decode cX2_determinantOfRows 26 = .ok (.getfield 41, 3) := by decide +kernel
theorem dX2_determinantOfRows_29 : decode cX2_determinantOfRows 29 = .ok (.aload_n 0, 1) := by decide +kernel
theorem dX2_determinantOfRows_30 : decode cX2_determinantOfRows 30 = .ok (.getfield 31, 3) := by decide +kernel
theorem dX2_determinantOfRows_33 : decode cX2_determinantOfRows 33 = .ok (.getfield 38, 3) := by decide +kernel
theorem dX2_determinantOfRows_36 : decode cX2_determinantOfRows 36 = .ok (.lmul, 1) := by decide +kernel
theorem dX2_determinantOfRows_37 : decode cX2_determinantOfRows 37 = .ok (.lsub, 1) := by decide +kernel
theorem dX2_determinantOfRows_38 : decode cX2_determinantOfRows 38 = .ok (.lmul, 1) := by decide +kernel
theorem dX2_determinantOfRows_39 : decode cX2_determinantOfRows 39 = .ok (.aload_n 0, 1) := by decide +kernel
theorem dX2_determinantOfRows_40 : decode cX2_determinantOfRows 40 = .ok (.getfield 25, 3) := by decide +kernel
theorem dX2_determinantOfRows_43 : decode cX2_determinantOfRows 43 = .ok (.getfield 38, 3) := by decide +kernel
theorem dX2_determinantOfRows_46 : decode cX2_determinantOfRows 46 = .ok (.aload_n 0, 1) := by decide +kernel
theorem dX2_determinantOfRows_47 : decode cX2_determinantOfRows 47 = .ok (.getfield 28, 3) := by decide +kernel
theorem dX2_determinantOfRows_50 : decode cX2_determinantOfRows 50 = .ok (.getfield 34, 3) := by decide +kernel
theorem dX2_determinantOfRows_53 : decode cX2_determinantOfRows 53 = .ok (.aload_n 0, 1) := by decide +kernel
theorem dX2_determinantOfRows_54 : decode cX2_determinantOfRows 54 = .ok (.getfield 31, 3) := by decide +kernel
theorem dX2_determinantOfRows_57 : decode cX2_determinantOfRows 57 = .ok (.getfield 41, 3) := by decide +kernel
theorem dX2_determinantOfRows_60 : decode cX2_determinantOfRows 60 = .ok (.lmul, 1) := by decide +kernel
theorem dX2_determinantOfRows_61 : decode cX2_determinantOfRows 61 = .ok (.aload_n 0, 1) := by decide +kernel
theorem dX2_determinantOfRows_62 : decode cX2_determinantOfRows 62 = .ok (.getfield 28, 3) := by decide +kernel
theorem dX2_determinantOfRows_65 : decode cX2_determinantOfRows 65 = .ok (.getfield 41, 3) := by decide +kernel
theorem dX2_determinantOfRows_68 : decode cX2_determinantOfRows 68 = .ok (.aload_n 0, 1) := by decide +kernel
theorem dX2_determinantOfRows_69 : decode cX2_determinantOfRows 69 = .ok (.getfield 31, 3) := by decide +kernel
theorem dX2_determinantOfRows_72 : decode cX2_determinantOfRows 72 = .ok (.getfield 34, 3) := by decide +kernel
theorem dX2_determinantOfRows_75 : decode cX2_determinantOfRows 75 = .ok (.lmul, 1) := by decide +kernel
theorem dX2_determinantOfRows_76 : decode cX2_determinantOfRows 76 = .ok (.lsub, 1) := by decide +kernel
theorem dX2_determinantOfRows_77 : decode cX2_determinantOfRows 77 = .ok (.lmul, 1) := by decide +kernel
theorem dX2_determinantOfRows_78 : decode cX2_determinantOfRows 78 = .ok (.lsub, 1) := by decide +kernel
theorem dX2_determinantOfRows_79 : decode cX2_determinantOfRows 79 = .ok (.aload_n 0, 1) := by decide +kernel
theorem dX2_determinantOfRows_80 : decode cX2_determinantOfRows 80 = .ok (.getfield 25, 3) := by decide +kernel
theorem dX2_determinantOfRows_83 : decode cX2_determinantOfRows 83 = .ok (.getfield 41, 3) := by decide +kernel
theorem dX2_determinantOfRows_86 : decode cX2_determinantOfRows 86 = .ok (.aload_n 0, 1) := by decide +kernel
theorem dX2_determinantOfRows_87 : decode cX2_determinantOfRows 87 = .ok (.getfield 28, 3) := by decide +kernel
theorem dX2_determinantOfRows_90 : decode cX2_determinantOfRows 90 = .ok (.getfield 34, 3) := by decide +kernel
theorem dX2_determinantOfRows_93 : decode cX2_determinantOfRows 93 = .ok (.aload_n 0, 1) := by decide +kernel
theorem dX2_determinantOfRows_94 : decode cX2_determinantOfRows 94 = .ok (.getfield 31, 3) := by decide +kernel
theorem dX2_determinantOfRows_97 : decode cX2_determinantOfRows 97 = .ok (.getfield 38, 3) := by decide +kernel
theorem dX2_determinantOfRows_100 : decode cX2_determinantOfRows 100 = .ok (.lmul, 1) := by decide +kernel
theorem dX2_determinantOfRows_101 : decode cX2_determinantOfRows 101 = .ok (.aload_n 0, 1) := by decide +kernel
theorem dX2_determinantOfRows_102 : decode cX2_determinantOfRows 102 = .ok (.getfield 28, 3) := by decide +kernel
theorem dX2_determinantOfRows_105 : decode cX2_determinantOfRows 105 = .ok (.getfield 38, 3) := by decide +kernel
theorem dX2_determinantOfRows_108 : decode cX2_determinantOfRows 108 = .ok (.aload_n 0, 1) := by decide +kernel
theorem dX2_determinantOfRows_109 : decode cX2_determinantOfRows 109 = .ok (.getfield 31, 3) := by decide +kernel
theorem dX2_determinantOfRows_112 : decode cX2_determinantOfRows 112 = .ok (.getfield 34, 3) := by decide +kernel
theorem dX2_determinantOfRows_115 : decode cX2_determinantOfRows 115 = .ok (.lmul, 1) := by decide +kernel
theorem dX2_determinantOfRows_116 : decode cX2_determinantOfRows 116 = .ok (.lsub, 1) := by decide +kernel
theorem dX2_determinantOfRows_117 : decode cX2_determinantOfRows 117 = .ok (.lmul, 1) := by decide +kernel
theorem dX2_determinantOfRows_118 : decode cX2_determinantOfRows 118 = .ok (.ladd, 1) := by decide +kernel
theorem dX2_determinantOfRows_119 : decode cX2_determinantOfRows 119 = .ok (.lreturn, 1) := by decide +kernel
theorem dX2_indexOf_0 : decode cX2_indexOf 0 = .ok (.aload_n 0, 1) := by decide +kernel
theorem dX2_indexOf_1 : decode cX2_indexOf 1 = .ok (.aload_n 1, 1) := by decide +kernel
theorem dX2_indexOf_2 : decode cX2_indexOf 2 = .ok (.aload_n 2, 1) := by decide +kernel
theorem dX2_indexOf_3 : decode cX2_indexOf 3 = .ok (.aload_n 2, 1) := by decide +kernel
theorem dX2_indexOf_4 : decode cX2_indexOf 4 = .ok (.invokevirtual 55, 3) := by decide +kernel
theorem dX2_indexOf_7 : decode cX2_indexOf 7 = .ok (.astore_n 3, 1) := by decide +kernel
theorem dX2_indexOf_8 : decode cX2_indexOf 8 = .ok (.aload_n 2, 1) := by decide +kernel
theorem dX2_indexOf_9 : decode cX2_indexOf 9 = .ok (.getfield 38, 3) := by decide +kernel
theorem dX2_indexOf_12 : decode cX2_indexOf 12 = .ok (.aload_n 3, 1) := by decide +kernel
theorem dX2_indexOf_13 : decode cX2_indexOf 13 = .ok (.getfield 41, 3) := by decide +kernel
theorem dX2_indexOf_16 : decode cX2_indexOf 16 = .ok (.lmul, 1) := by decide +kernel
theorem dX2_indexOf_17 : decode cX2_indexOf 17 = .ok (.aload_n 2, 1) := by decide +kernel
theorem dX2_indexOf_18 : decode cX2_indexOf 18 = .ok (.getfield 41, 3) := by decide +kernel
theorem dX2_indexOf_21 : decode cX2_indexOf 21 = .ok (.aload_n 3, 1) := by decide +kernel
theorem dX2_indexOf_22 : decode cX2_indexOf 22 = .ok (.getfield 38, 3) := by decide +kernel
theorem dX2_indexOf_25 : decode cX2_indexOf 25 = .ok (.lmul, 1) := by decide +kernel
theorem dX2_indexOf_26 : decode cX2_indexOf 26 = .ok (.lsub, 1) := by decide +kernel
theorem dX2_indexOf_27 : decode cX2_indexOf 27 = .ok (.invokestatic 67, 3) := by decide +kernel
theorem dX2_indexOf_30 : decode cX2_indexOf 30 = .ok (.lreturn, 1) := by decide +kernel
theorem dX3_init_0 : decode cX3_init 0 = .ok (.aload_n 0, 1) := by decide +kernel
theorem dX3_init_1 : decode cX3_init 1 = .ok (.invokespecial 3, 3) := by decide +kernel
theorem dX3_init_4 : decode cX3_init 4 = .ok (.return_, 1) := by decide +kernel
theorem dX3_set_0 : decode cX3_set 0 = .ok (.aload_n 0, 1) := by decide +kernel
theorem dX3_set_1 : decode cX3_set 1 = .ok (.lload_n 1, 1) := by decide +kernel
theorem dX3_set_2 : decode cX3_set 2 = .ok (.putfield 9, 3) := by decide +kernel
theorem dX3_set_5 : decode cX3_set 5 = .ok (.aload_n 0, 1) := by decide +kernel
theorem dX3_set_6 : decode cX3_set 6 = .ok (.lload_n 3, 1) := by decide +kernel
theorem dX3_set_7 : decode cX3_set 7 = .ok (.putfield 15, 3) := by decide +kernel
theorem dX3_set_10 : decode cX3_set 10 = .ok (.aload_n 0, 1) := by decide +kernel
theorem dX3_set_11 : decode cX3_set 11 = .ok (.lload 5, 2) := by decide +kernel
theorem dX3_set_13 : decode cX3_set 13 = .ok (.putfield 18, 3) := by decide +kernel
theorem dX3_set_16 : decode cX3_set 16 = .ok (.return_, 1) := by decide +kernel
theorem dX3_isSameAs_0 : decode cX3_isSameAs 0 = .ok (.aload_n 0, 1) := by decide +kernel
theorem dX3_isSameAs_1 : decode cX3_isSameAs 1 = .ok (.getfield 9, 3) := by decide +kernel
theorem dX3_isSameAs_4 : decode cX3_isSameAs 4 = .ok (.aload_n 1, 1) := by decide +kernel
theorem dX3_isSameAs_5 : decode cX3_isSameAs 5 = .ok (.getfield 9, 3) := by decide +kernel
theorem dX3_isSameAs_8 : decode cX3_isSameAs 8 = .ok (.lcmp, 1) := by decide +kernel
theorem dX3_isSameAs_9 : decode cX3_isSameAs 9 = .ok (.ifCond .ne 31, 3) := by decide +kernel
theorem dX3_isSameAs_12 : decode cX3_isSameAs 12 = .ok (.aload_n 0, 1) := by decide +kernel
theorem dX3_isSameAs_13 : decode cX3_isSameAs 13 = .ok (.getfield 15, 3) := by decide +kernel
theorem dX3_isSameAs_16 : decode cX3_isSameAs 16 = .ok (.aload_n 1, 1) := by decide +kernel
theorem dX3_isSameAs_17 : decode cX3_isSameAs 17 = .ok (.getfield 15, 3) := by decide +kernel
theorem dX3_isSameAs_20 : decode cX3_isSameAs 20 = .ok (.lcmp, 1) := by decide +kernel
theorem dX3_isSameAs_21 : decode cX3_isSameAs 21 = .ok (.ifCond .ne 19, 3) := by decide +kernel
theorem dX3_isSameAs_24 : decode cX3_isSameAs 24 = .ok (.aload_n 0, 1) := by decide +kernel
theorem dX3_isSameAs_25 : decode cX3_isSameAs 25 = .ok (.getfield 18, 3) := by decide +kernel
theorem dX3_isSameAs_28 : decode cX3_isSameAs 28 = .ok (.aload_n 1, 1) := by decide +kernel
theorem dX3_isSameAs_29 : decode cX3_isSameAs 29 = .ok (.getfield 18, 3) := by decide +kernel
theorem dX3_isSameAs_32 : decode cX3_isSameAs 32 = .ok (.lcmp, 1) := by decide +kernel
theorem dX3_isSameAs_33 : decode cX3_isSameAs 33 = .ok (.ifCond .ne 7, 3) := by decide +kernel
theorem dX3_isSameAs_36 : decode cX3_isSameAs 36 = .ok (.iconst 1, 1) := by decide +kernel
theorem dX3_isSameAs_37 : decode cX3_isSameAs 37 = .ok (.goto 4, 3) := by decide +kernel
theorem dX3_isSameAs_40 : decode cX3_isSameAs 40 = .ok (.iconst 0, 1) := by decide +kernel
theorem dX3_isSameAs_41 : decode cX3_isSameAs 41 = .ok (.ireturn, 1) := by decide +kernel
theorem dX3_fitsRegister_0 : decode cX3_fitsRegister 0 = .ok (.aload_n 0, 1) := by decide +kernel
theorem dX3_fitsRegister_1 : decode cX3_fitsRegister 1 = .ok (.getfield 9, 3) := by decide +kernel
theorem dX3_fitsRegister_4 : decode cX3_fitsRegister 4 = .ok (.ldc2_w 21, 3) := by decide +kernel
theorem dX3_fitsRegister_7 : decode cX3_fitsRegister 7 = .ok (.invokestatic 23, 3) := by decide +kernel
theorem dX3_fitsRegister_10 : decode cX3_fitsRegister 10 = .ok (.ifCond .eq 33, 3) := by decide +kernel
theorem dX3_fitsRegister_13 : decode cX3_fitsRegister 13 = .ok (.aload_n 0, 1) := by decide +kernel
theorem dX3_fitsRegister_14 : decode cX3_fitsRegister 14 = .ok (.getfield 15, 3) := by decide +kernel
theorem dX3_fitsRegister_17 : decode cX3_fitsRegister 17 = .ok (.ldc2_w 21, 3) := by decide +kernel
theorem dX3_fitsRegister_20 : decode cX3_fitsRegister 20 = .ok (.invokestatic 23, 3) := by decide +kernel
theorem dX3_fitsRegister_23 : decode cX3_fitsRegister 23 = .ok (.ifCond .eq 20, 3) := by decide +kernel
theorem dX3_fitsRegister_26 : decode cX3_fitsRegister 26 = .ok (.aload_n 0, 1) := by decide +kernel
theorem dX3_fitsRegister_27 : decode cX3_fitsRegister 27 = .ok (.getfield 18, 3) := by decide +kernel
theorem dX3_fitsRegister_30 : decode cX3_fitsRegister 30 = .ok (.ldc2_w 21, 3) := by decide +kernel
theorem dX3_fitsRegister_33 : decode cX3_fitsRegister 33 = .ok (.invokestatic 23, 3) := by decide +kernel
theorem dX3_fitsRegister_36 : decode cX3_fitsRegister 36 = .ok (.ifCond .eq 7, 3) := by decide +kernel
theorem dX3_fitsRegister_39 : decode cX3_fitsRegister 39 = .ok (.iconst 1, 1) := by decide +kernel
theorem dX3_fitsRegister_40 : decode cX3_fitsRegister 40 = .ok (.goto 4, 3) := by decide +kernel
theorem dX3_fitsRegister_43 : decode cX3_fitsRegister 43 = .ok (.iconst 0, 1) := by decide +kernel
theorem dX3_fitsRegister_44 : decode cX3_fitsRegister 44 = .ok (.ireturn, 1) := by decide +kernel
theorem dX3_traceIn_0 : decode cX3_traceIn 0 = .ok (.ldc2_w 27, 3) := by decide +kernel
theorem dX3_traceIn_3 : decode cX3_traceIn 3 = .ok (.aload_n 0, 1) := by decide +kernel
theorem dX3_traceIn_4 : decode cX3_traceIn 4 = .ok (.getfield 9, 3) := by decide +kernel
theorem dX3_traceIn_7 : decode cX3_traceIn 7 = .ok (.lmul, 1) := by decide +kernel
theorem dX3_traceIn_8 : decode cX3_traceIn 8 = .ok (.aload_n 1, 1) := by decide +kernel
theorem dX3_traceIn_9 : decode cX3_traceIn 9 = .ok (.getfield 29, 3) := by decide +kernel
theorem dX3_traceIn_12 : decode cX3_traceIn 12 = .ok (.aload_n 0, 1) := by decide +kernel
theorem dX3_traceIn_13 : decode cX3_traceIn 13 = .ok (.getfield 15, 3) := by decide +kernel
theorem dX3_traceIn_16 : decode cX3_traceIn 16 = .ok (.lmul, 1) := by decide +kernel
theorem dX3_traceIn_17 : decode cX3_traceIn 17 = .ok (.ladd, 1) := by decide +kernel
theorem dX3_traceIn_18 : decode cX3_traceIn 18 = .ok (.aload_n 1, 1) := by decide +kernel
theorem dX3_traceIn_19 : decode cX3_traceIn 19 = .ok (.getfield 34, 3) := by decide +kernel
theorem dX3_traceIn_22 : decode cX3_traceIn 22 = .ok (.aload_n 0, 1) := by decide +kernel
theorem dX3_traceIn_23 : decode cX3_traceIn 23 = .ok (.getfield 18, 3) := by decide +kernel
theorem dX3_traceIn_26 : decode cX3_traceIn 26 = .ok (.lmul, 1) := by decide +kernel
theorem dX3_traceIn_27 : decode cX3_traceIn 27 = .ok (.lsub, 1) := by decide +kernel
theorem dX3_traceIn_28 : decode cX3_traceIn 28 = .ok (.lreturn, 1) := by decide +kernel
theorem dX3_becomeProduct_0 : decode cX3_becomeProduct 0 = .ok (.aload_n 2, 1) := by decide +kernel
theorem dX3_becomeProduct_1 : decode cX3_becomeProduct 1 = .ok (.getfield 15, 3) := by decide +kernel
theorem dX3_becomeProduct_4 : decode cX3_becomeProduct 4 = .ok (.aload_n 3, 1) := by decide +kernel
theorem dX3_becomeProduct_5 : decode cX3_becomeProduct 5 = .ok (.getfield 15, 3) := by decide +kernel
theorem dX3_becomeProduct_8 : decode cX3_becomeProduct 8 = .ok (.lmul, 1) := by decide +kernel
theorem dX3_becomeProduct_9 : decode cX3_becomeProduct 9 = .ok (.lstore 4, 2) := by decide +kernel
theorem dX3_becomeProduct_11 : decode cX3_becomeProduct 11 = .ok (.aload_n 2, 1) := by decide +kernel
theorem dX3_becomeProduct_12 : decode cX3_becomeProduct 12 = .ok (.getfield 18, 3) := by decide +kernel
theorem dX3_becomeProduct_15 : decode cX3_becomeProduct 15 = .ok (.aload_n 3, 1) := by decide +kernel
theorem dX3_becomeProduct_16 : decode cX3_becomeProduct 16 = .ok (.getfield 18, 3) := by decide +kernel
theorem dX3_becomeProduct_19 : decode cX3_becomeProduct 19 = .ok (.lmul, 1) := by decide +kernel
theorem dX3_becomeProduct_20 : decode cX3_becomeProduct 20 = .ok (.lstore 6, 2) := by decide +kernel
theorem dX3_becomeProduct_22 : decode cX3_becomeProduct 22 = .ok (.aload_n 2, 1) := by decide +kernel
theorem dX3_becomeProduct_23 : decode cX3_becomeProduct 23 = .ok (.getfield 15, 3) := by decide +kernel
theorem dX3_becomeProduct_26 : decode cX3_becomeProduct 26 = .ok (.aload_n 3, 1) := by decide +kernel
theorem dX3_becomeProduct_27 : decode cX3_becomeProduct 27 = .ok (.getfield 18, 3) := by decide +kernel
theorem dX3_becomeProduct_30 : decode cX3_becomeProduct 30 = .ok (.lmul, 1) := by decide +kernel
theorem dX3_becomeProduct_31 : decode cX3_becomeProduct 31 = .ok (.aload_n 2, 1) := by decide +kernel
theorem dX3_becomeProduct_32 : decode cX3_becomeProduct 32 = .ok (.getfield 18, 3) := by decide +kernel
theorem dX3_becomeProduct_35 : decode cX3_becomeProduct 35 = .ok (.aload_n 3, 1) := by decide +kernel
theorem dX3_becomeProduct_36 : decode cX3_becomeProduct 36 = .ok (.getfield 15, 3) := by decide +kernel
theorem dX3_becomeProduct_39 : decode cX3_becomeProduct 39 = .ok (.lmul, 1) := by decide +kernel
theorem dX3_becomeProduct_40 : decode cX3_becomeProduct 40 = .ok (.ladd, 1) := by decide +kernel
theorem dX3_becomeProduct_41 : decode cX3_becomeProduct 41 = .ok (.lstore 8, 2) := by decide +kernel
theorem dX3_becomeProduct_43 : decode cX3_becomeProduct 43 = .ok (.aload_n 0, 1) := by decide +kernel
theorem dX3_becomeProduct_44 : decode cX3_becomeProduct 44 = .ok (.aload_n 2, 1) := by decide +kernel
theorem dX3_becomeProduct_45 : decode cX3_becomeProduct 45 = .ok (.getfield 9, 3) := by decide +kernel
theorem dX3_becomeProduct_48 : decode cX3_becomeProduct 48 = .ok (.aload_n 3, 1) := by decide +kernel
theorem dX3_becomeProduct_49 : decode cX3_becomeProduct 49 = .ok (.getfield 9, 3) := by decide +kernel
theorem dX3_becomeProduct_52 : decode cX3_becomeProduct 52 = .ok (.lmul, 1) := by decide +kernel
theorem dX3_becomeProduct_53 : decode cX3_becomeProduct 53 = .ok (.aload_n 1, 1) := by decide +kernel
theorem dX3_becomeProduct_54 : decode cX3_becomeProduct 54 = .ok (.getfield 37, 3) := by decide +kernel
theorem dX3_becomeProduct_57 : decode cX3_becomeProduct 57 = .ok (.aload_n 1, 1) := by decide +kernel
theorem dX3_becomeProduct_58 : decode cX3_becomeProduct 58 = .ok (.getfield 34, 3) := by decide +kernel
theorem dX3_becomeProduct_61 : decode cX3_becomeProduct 61 = .ok (.lmul, 1) := by decide +kernel
theorem dX3_becomeProduct_62 : decode cX3_becomeProduct 62 = .ok (.lload 4, 2) := by decide +kernel
theorem dX3_becomeProduct_64 : decode cX3_becomeProduct 64 = .ok (.lmul, 1) := by decide +kernel
theorem dX3_becomeProduct_65 : decode cX3_becomeProduct 65 = .ok (.lsub, 1) := by decide +kernel
theorem dX3_becomeProduct_66 : decode cX3_becomeProduct 66 = .ok (.aload_n 1, 1) := by decide +kernel
theorem dX3_becomeProduct_67 : decode cX3_becomeProduct 67 = .ok (.getfield 29, 3) := by decide +kernel
theorem dX3_becomeProduct_70 : decode cX3_becomeProduct 70 = .ok (.aload_n 1, 1) := by decide +kernel
theorem dX3_becomeProduct_71 : decode cX3_becomeProduct 71 = .ok (.getfield 40, 3) := by decide +kernel
theorem dX3_becomeProduct_74 : decode cX3_becomeProduct 74 = .ok (.lmul, 1) := by decide +kernel
theorem dX3_becomeProduct_75 : decode cX3_becomeProduct 75 = .ok (.lload 6, 2) := by decide +kernel
theorem dX3_becomeProduct_77 : decode cX3_becomeProduct 77 = .ok (.lmul, 1) := by decide +kernel
theorem dX3_becomeProduct_78 : decode cX3_becomeProduct 78 = .ok (.lsub, 1) := by decide +kernel
theorem dX3_becomeProduct_79 : decode cX3_becomeProduct 79 = .ok (.aload_n 1, 1) := by decide +kernel
theorem dX3_becomeProduct_80 : decode cX3_becomeProduct 80 = .ok (.getfield 37, 3) := by decide +kernel
theorem dX3_becomeProduct_83 : decode cX3_becomeProduct 83 = .ok (.aload_n 1, 1) := by decide +kernel
theorem dX3_becomeProduct_84 : decode cX3_becomeProduct 84 = .ok (.getfield 40, 3) := by decide +kernel
theorem dX3_becomeProduct_87 : decode cX3_becomeProduct 87 = .ok (.lmul, 1) := by decide +kernel
theorem dX3_becomeProduct_88 : decode cX3_becomeProduct 88 = .ok (.lload 8, 2) := by decide +kernel
theorem dX3_becomeProduct_90 : decode cX3_becomeProduct 90 = .ok (.lmul, 1) := by decide +kernel
theorem dX3_becomeProduct_91 : decode cX3_becomeProduct 91 = .ok (.lsub, 1) := by decide +kernel
theorem dX3_becomeProduct_92 : decode cX3_becomeProduct 92 = .ok (.aload_n 2, 1) := by decide +kernel
theorem dX3_becomeProduct_93 : decode cX3_becomeProduct 93 = .ok (.getfield 9, 3) := by decide +kernel
theorem dX3_becomeProduct_96 : decode cX3_becomeProduct 96 = .ok (.aload_n 3, 1) := by decide +kernel
theorem dX3_becomeProduct_97 : decode cX3_becomeProduct 97 = .ok (.getfield 15, 3) := by decide +kernel
theorem dX3_becomeProduct_100 : decode cX3_becomeProduct 100 = .ok (.lmul, 1) := by decide +kernel
theorem dX3_becomeProduct_101 : decode cX3_becomeProduct 101 = .ok (.aload_n 2, 1) := by decide +kernel
theorem dX3_becomeProduct_102 : decode cX3_becomeProduct 102 = .ok (.getfield 15, 3) := by decide +kernel
theorem dX3_becomeProduct_105 : decode cX3_becomeProduct 105 = .ok (.aload_n 3, 1) := by decide +kernel
theorem dX3_becomeProduct_106 : decode cX3_becomeProduct 106 = .ok (.getfield 9, 3) := by decide +kernel
theorem dX3_becomeProduct_109 : decode cX3_becomeProduct 109 = .ok (.lmul, 1) := by decide +kernel
theorem dX3_becomeProduct_110 : decode cX3_becomeProduct 110 = .ok (.ladd, 1) := by decide +kernel
theorem dX3_becomeProduct_111 : decode cX3_becomeProduct 111 = .ok (.aload_n 1, 1) := by decide +kernel
theorem dX3_becomeProduct_112 : decode cX3_becomeProduct 112 = .ok (.getfield 29, 3) := by decide +kernel
theorem dX3_becomeProduct_115 : decode cX3_becomeProduct 115 = .ok (.lload 4, 2) := by decide +kernel
theorem dX3_becomeProduct_117 : decode cX3_becomeProduct 117 = .ok (.lmul, 1) := by decide +kernel
theorem dX3_becomeProduct_118 : decode cX3_becomeProduct 118 = .ok (.ladd, 1) := by decide +kernel
theorem dX3_becomeProduct_119 : decode cX3_becomeProduct 119 = .ok (.aload_n 1, 1) := by decide +kernel
theorem dX3_becomeProduct_120 : decode cX3_becomeProduct 120 = .ok (.getfield 40, 3) := by decide +kernel
theorem dX3_becomeProduct_123 : decode cX3_becomeProduct 123 = .ok (.lload 6, 2) := by decide +kernel
theorem dX3_becomeProduct_125 : decode cX3_becomeProduct 125 = .ok (.lmul, 1) := by decide +kernel
theorem dX3_becomeProduct_126 : decode cX3_becomeProduct 126 = .ok (.ladd, 1) := by decide +kernel
theorem dX3_becomeProduct_127 : decode cX3_becomeProduct 127 = .ok (.aload_n 2, 1) := by decide +kernel
theorem dX3_becomeProduct_128 : decode cX3_becomeProduct 128 = .ok (.getfield 9, 3) := by decide +kernel
theorem dX3_becomeProduct_131 : decode cX3_becomeProduct 131 = .ok (.aload_n 3, 1) := by decide +kernel
theorem dX3_becomeProduct_132 : decode cX3_becomeProduct 132 = .ok (.getfield 18, 3) := by decide +kernel
theorem dX3_becomeProduct_135 : decode cX3_becomeProduct 135 = .ok (.lmul, 1) := by decide +kernel
theorem dX3_becomeProduct_136 : decode cX3_becomeProduct 136 = .ok (.aload_n 2, 1) := by decide +kernel
theorem dX3_becomeProduct_137 : decode cX3_becomeProduct 137 = .ok (.getfield 18, 3) := by decide +kernel
theorem dX3_becomeProduct_140 : decode cX3_becomeProduct 140 = .ok (.aload_n 3, 1) := by decide +kernel
theorem dX3_becomeProduct_141 : decode cX3_becomeProduct 141 = .ok (.getfield 9, 3) := by decide +kernel
theorem dX3_becomeProduct_144 : decode cX3_becomeProduct 144 = .ok (.lmul, 1) := by decide +kernel
theorem dX3_becomeProduct_145 : decode cX3_becomeProduct 145 = .ok (.ladd, 1) := by decide +kernel
theorem dX3_becomeProduct_146 : decode cX3_becomeProduct 146 = .ok (.aload_n 1, 1) := by decide +kernel
theorem dX3_becomeProduct_147 : decode cX3_becomeProduct 147 = .ok (.getfield 37, 3) := by decide +kernel
theorem dX3_becomeProduct_150 : decode cX3_becomeProduct 150 = .ok (.lload 4, 2) := by decide +kernel
theorem dX3_becomeProduct_152 : decode cX3_becomeProduct 152 = .ok (.lmul, 1) := by decide +kernel
theorem dX3_becomeProduct_153 : decode cX3_becomeProduct 153 = .ok (.lsub, 1) := by decide +kernel
theorem dX3_becomeProduct_154 : decode cX3_becomeProduct 154 = .ok (.aload_n 1, 1) := by decide +kernel
theorem dX3_becomeProduct_155 : decode cX3_becomeProduct 155 = .ok (.getfield 34, 3) := by decide +kernel
theorem dX3_becomeProduct_158 : decode cX3_becomeProduct 158 = .ok (.lload 6, 2) := by decide +kernel
theorem dX3_becomeProduct_160 : decode cX3_becomeProduct 160 = .ok (.lmul, 1) := by decide +kernel
theorem dX3_becomeProduct_161 : decode cX3_becomeProduct 161 = .ok (.lsub, 1) := by decide +kernel
theorem dX3_becomeProduct_162 : decode cX3_becomeProduct 162 = .ok (.invokevirtual 43, 3) := by decide +kernel
theorem dX3_becomeProduct_165 : decode cX3_becomeProduct 165 = .ok (.return_, 1) := by decide +kernel
theorem dX4_init_0 : decode cX4_init 0 = .ok (.aload_n 0, 1) := by decide +kernel
theorem dX4_init_1 : decode cX4_init 1 = .ok (.invokespecial 3, 3) := by decide +kernel
theorem dX4_init_4 : decode cX4_init 4 = .ok (.aload_n 0, 1) := by decide +kernel
theorem dX4_init_5 : decode cX4_init 5 = .ok (.new 9, 3) := by decide +kernel
theorem dX4_init_8 : decode cX4_init 8 = .ok (.dup, 1) := by decide +kernel
theorem dX4_init_9 : decode cX4_init 9 = .ok (.invokespecial 11, 3) := by decide +kernel
theorem dX4_init_12 : decode cX4_init 12 = .ok (.putfield 12, 3) := by decide +kernel
theorem dX4_init_15 : decode cX4_init 15 = .ok (.aload_n 0, 1) := by decide +kernel
theorem dX4_init_16 : decode cX4_init 16 = .ok (.new 9, 3) := by decide +kernel
theorem dX4_init_19 : decode cX4_init 19 = .ok (.dup, 1) := by decide +kernel
theorem dX4_init_20 : decode cX4_init 20 = .ok (.invokespecial 11, 3) := by decide +kernel
theorem dX4_init_23 : decode cX4_init 23 = .ok (.putfield 18, 3) := by decide +kernel
theorem dX4_init_26 : decode cX4_init 26 = .ok (.return_, 1) := by decide +kernel
theorem dX4_makeCanonical_0 : decode cX4_makeCanonical 0 = .ok (.aload_n 1, 1) := by decide +kernel
theorem dX4_makeCanonical_1 : decode cX4_makeCanonical 1 = .ok (.invokevirtual 21, 3) := by decide +kernel
theorem dX4_makeCanonical_4 : decode cX4_makeCanonical 4 = .ok (.aload_n 0, 1) := by decide +kernel
theorem dX4_makeCanonical_5 : decode cX4_makeCanonical 5 = .ok (.getfield 12, 3) := by decide +kernel
theorem dX4_makeCanonical_8 : decode cX4_makeCanonical 8 = .ok (.aload_n 1, 1) := by decide +kernel
theorem dX4_makeCanonical_9 : decode cX4_makeCanonical 9 = .ok (.invokevirtual 24, 3) := by decide +kernel
theorem dX4_makeCanonical_12 : decode cX4_makeCanonical 12 = .ok (.iconst 0, 1) := by decide +kernel
theorem dX4_makeCanonical_13 : decode cX4_makeCanonical 13 = .ok (.istore_n 2, 1) := by decide +kernel
theorem dX4_makeCanonical_14 : decode cX4_makeCanonical 14 = .ok (.iload_n 2, 1) := by decide +kernel
theorem dX4_makeCanonical_15 : decode cX4_makeCanonical 15 = .ok (.bipush 81, 2) := by decide +kernel
theorem dX4_makeCanonical_17 : decode cX4_makeCanonical 17 = .ok (.if_icmp .ge 46, 3) := by decide +kernel
theorem dX4_makeCanonical_20 : decode cX4_makeCanonical 20 = .ok (.aload_n 0, 1) := by decide +kernel
theorem dX4_makeCanonical_21 : decode cX4_makeCanonical 21 = .ok (.iload_n 2, 1) := by decide +kernel
theorem dX4_makeCanonical_22 : decode cX4_makeCanonical 22 = .ok (.invokevirtual 28, 3) := by decide +kernel
theorem dX4_makeCanonical_25 : decode cX4_makeCanonical 25 = .ok (.ifCond .eq 32, 3) := by decide +kernel
theorem dX4_makeCanonical_28 : decode cX4_makeCanonical 28 = .ok (.aload_n 0, 1) := by decide +kernel
theorem dX4_makeCanonical_29 : decode cX4_makeCanonical 29 = .ok (.getfield 18, 3) := by decide +kernel
theorem dX4_makeCanonical_32 : decode cX4_makeCanonical 32 = .ok (.invokevirtual 32, 3) := by decide +kernel
theorem dX4_makeCanonical_35 : decode cX4_makeCanonical 35 = .ok (.ifCond .eq 22, 3) := by decide +kernel
theorem dX4_makeCanonical_38 : decode cX4_makeCanonical 38 = .ok (.aload_n 0, 1) := by decide +kernel
theorem dX4_makeCanonical_39 : decode cX4_makeCanonical 39 = .ok (.getfield 18, 3) := by decide +kernel
theorem dX4_makeCanonical_42 : decode cX4_makeCanonical 42 = .ok (.aload_n 1, 1) := by decide +kernel
theorem dX4_makeCanonical_43 : decode cX4_makeCanonical 43 = .ok (.invokevirtual 36, 3) := by decide +kernel
theorem dX4_makeCanonical_46 : decode cX4_makeCanonical 46 = .ok (.ifCond .eq 11, 3) := by decide +kernel
theorem dX4_makeCanonical_49 : decode cX4_makeCanonical 49 = .ok (.aload_n 1, 1) := by decide +kernel
theorem dX4_makeCanonical_50 : decode cX4_makeCanonical 50 = .ok (.aload_n 0, 1) := by decide +kernel
theorem dX4_makeCanonical_51 : decode cX4_makeCanonical 51 = .ok (.getfield 18, 3) := by decide +kernel
theorem dX4_makeCanonical_54 : decode cX4_makeCanonical 54 = .ok (.invokevirtual 24, 3) := by decide +kernel
theorem dX4_makeCanonical_57 : decode cX4_makeCanonical 57 = .ok (.iinc 2 1, 3) := by decide +kernel
theorem dX4_makeCanonical_60 : decode cX4_makeCanonical 60 = .ok (.goto (-46), 3) := by decide +kernel
theorem dX4_makeCanonical_63 : decode cX4_makeCanonical 63 = .ok (.return_, 1) := by decide +kernel
theorem dX4_countAutomorphisms_0 : decode cX4_countAutomorphisms 0 = .ok (.aload_n 1, 1) := by decide +kernel
theorem dX4_countAutomorphisms_1 : decode cX4_countAutomorphisms 1 = .ok (.invokevirtual 21, 3) := by decide +kernel
theorem dX4_countAutomorphisms_4 : decode cX4_countAutomorphisms 4 = .ok (.aload_n 0, 1) := by decide +kernel
theorem dX4_countAutomorphisms_5 : decode cX4_countAutomorphisms 5 = .ok (.getfield 12, 3) := by decide +kernel
theorem dX4_countAutomorphisms_8 : decode cX4_countAutomorphisms 8 = .ok (.aload_n 1, 1) := by decide +kernel
theorem dX4_countAutomorphisms_9 : decode cX4_countAutomorphisms 9 = .ok (.invokevirtual 24, 3) := by decide +kernel
theorem dX4_countAutomorphisms_12 : decode cX4_countAutomorphisms 12 = .ok (.iconst 0, 1) := by decide +kernel
theorem dX4_countAutomorphisms_13 : decode cX4_countAutomorphisms 13 = .ok (.istore_n 2, 1) := by decide +kernel
theorem dX4_countAutomorphisms_14 : decode cX4_countAutomorphisms 14 = .ok (.iconst 0, 1) := by decide +kernel
theorem dX4_countAutomorphisms_15 : decode cX4_countAutomorphisms 15 = .ok (.istore_n 3, 1) := by decide +kernel
theorem dX4_countAutomorphisms_16 : decode cX4_countAutomorphisms 16 = .ok (.iload_n 3, 1) := by decide +kernel
theorem dX4_countAutomorphisms_17 : decode cX4_countAutomorphisms 17 = .ok (.bipush 81, 2) := by decide +kernel
theorem dX4_countAutomorphisms_19 : decode cX4_countAutomorphisms 19 = .ok (.if_icmp .ge 34, 3) := by decide +kernel
theorem dX4_countAutomorphisms_22 : decode cX4_countAutomorphisms 22 = .ok (.aload_n 0, 1) := by decide +kernel
theorem dX4_countAutomorphisms_23 : decode cX4_countAutomorphisms 23 = .ok (.iload_n 3, 1) := by decide +kernel
theorem dX4_countAutomorphisms_24 : decode cX4_countAutomorphisms 24 = .ok (.invokevirtual 28, 3) := by decide +kernel
theorem dX4_countAutomorphisms_27 : decode cX4_countAutomorphisms 27 = .ok (.ifCond .eq 20, 3) := by decide +kernel
theorem dX4_countAutomorphisms_30 : decode cX4_countAutomorphisms 30 = .ok (.aload_n 0, 1) := by decide +kernel
theorem dX4_countAutomorphisms_31 : decode cX4_countAutomorphisms 31 = .ok (.getfield 18, 3) := by decide +kernel
theorem dX4_countAutomorphisms_34 : decode cX4_countAutomorphisms 34 = .ok (.aload_n 0, 1) := by decide +kernel
theorem dX4_countAutomorphisms_35 : decode cX4_countAutomorphisms 35 = .ok (.getfield 12, 3) := by decide +kernel
theorem dX4_countAutomorphisms_38 : decode cX4_countAutomorphisms 38 = .ok (.invokevirtual 40, 3) := by decide +kernel
theorem dX4_countAutomorphisms_41 : decode cX4_countAutomorphisms 41 = .ok (.ifCond .eq 6, 3) := by decide +kernel
theorem dX4_countAutomorphisms_44 : decode cX4_countAutomorphisms 44 = .ok (.iinc 2 1, 3) := by decide +kernel
theorem dX4_countAutomorphisms_47 : decode cX4_countAutomorphisms 47 = .ok (.iinc 3 1, 3) := by decide +kernel
theorem dX4_countAutomorphisms_50 : decode cX4_countAutomorphisms 50 = .ok (.goto (-34), 3) := by decide +kernel
theorem dX4_countAutomorphisms_53 : decode cX4_countAutomorphisms 53 = .ok (.iload_n 2, 1) := by decide +kernel
theorem dX4_countAutomorphisms_54 : decode cX4_countAutomorphisms 54 = .ok (.ireturn, 1) := by decide +kernel
theorem dX4_makeCandidate_0 : decode cX4_makeCandidate 0 = .ok (.iload_n 1, 1) := by decide +kernel
theorem dX4_makeCandidate_1 : decode cX4_makeCandidate 1 = .ok (.bipush 27, 2) := by decide +kernel
theorem dX4_makeCandidate_3 : decode cX4_makeCandidate 3 = .ok (.idiv, 1) := by decide +kernel
theorem dX4_makeCandidate_4 : decode cX4_makeCandidate 4 = .ok (.iconst 3, 1) := by decide +kernel
theorem dX4_makeCandidate_5 : decode cX4_makeCandidate 5 = .ok (.irem, 1) := by decide +kernel
theorem dX4_makeCandidate_6 : decode cX4_makeCandidate 6 = .ok (.iconst 1, 1) := by decide +kernel
theorem dX4_makeCandidate_7 : decode cX4_makeCandidate 7 = .ok (.isub, 1) := by decide +kernel
theorem dX4_makeCandidate_8 : decode cX4_makeCandidate 8 = .ok (.istore_n 2, 1) := by decide +kernel
theorem dX4_makeCandidate_9 : decode cX4_makeCandidate 9 = .ok (.iload_n 1, 1) := by decide +kernel
theorem dX4_makeCandidate_10 : decode cX4_makeCandidate 10 = .ok (.bipush 9, 2) := by decide +kernel
theorem dX4_makeCandidate_12 : decode cX4_makeCandidate 12 = .ok (.idiv, 1) := by decide +kernel
theorem dX4_makeCandidate_13 : decode cX4_makeCandidate 13 = .ok (.iconst 3, 1) := by decide +kernel
theorem dX4_makeCandidate_14 : decode cX4_makeCandidate 14 = .ok (.irem, 1) := by decide +kernel
theorem dX4_makeCandidate_15 : decode cX4_makeCandidate 15 = .ok (.iconst 1, 1) := by decide +kernel
theorem dX4_makeCandidate_16 : decode cX4_makeCandidate 16 = .ok (.isub, 1) := by decide +kernel
theorem dX4_makeCandidate_17 : decode cX4_makeCandidate 17 = .ok (.istore_n 3, 1) := by decide +kernel
theorem dX4_makeCandidate_18 : decode cX4_makeCandidate 18 = .ok (.iload_n 1, 1) := by decide +kernel
theorem dX4_makeCandidate_19 : decode cX4_makeCandidate 19 = .ok (.iconst 3, 1) := by decide +kernel
theorem dX4_makeCandidate_20 : decode cX4_makeCandidate 20 = .ok (.idiv, 1) := by decide +kernel
theorem dX4_makeCandidate_21 : decode cX4_makeCandidate 21 = .ok (.iconst 3, 1) := by decide +kernel
theorem dX4_makeCandidate_22 : decode cX4_makeCandidate 22 = .ok (.irem, 1) := by decide +kernel
theorem dX4_makeCandidate_23 : decode cX4_makeCandidate 23 = .ok (.iconst 1, 1) := by decide +kernel
theorem dX4_makeCandidate_24 : decode cX4_makeCandidate 24 = .ok (.isub, 1) := by decide +kernel
theorem dX4_makeCandidate_25 : decode cX4_makeCandidate 25 = .ok (.istore 4, 2) := by decide +kernel
theorem dX4_makeCandidate_27 : decode cX4_makeCandidate 27 = .ok (.iload_n 1, 1) := by decide +kernel
theorem dX4_makeCandidate_28 : decode cX4_makeCandidate 28 = .ok (.iconst 3, 1) := by decide +kernel
theorem dX4_makeCandidate_29 : decode cX4_makeCandidate 29 = .ok (.irem, 1) := by decide +kernel
theorem dX4_makeCandidate_30 : decode cX4_makeCandidate 30 = .ok (.iconst 1, 1) := by decide +kernel
theorem dX4_makeCandidate_31 : decode cX4_makeCandidate 31 = .ok (.isub, 1) := by decide +kernel
theorem dX4_makeCandidate_32 : decode cX4_makeCandidate 32 = .ok (.istore 5, 2) := by decide +kernel
theorem dX4_makeCandidate_34 : decode cX4_makeCandidate 34 = .ok (.iload_n 2, 1) := by decide +kernel
theorem dX4_makeCandidate_35 : decode cX4_makeCandidate 35 = .ok (.iload 5, 2) := by decide +kernel
theorem dX4_makeCandidate_37 : decode cX4_makeCandidate 37 = .ok (.imul, 1) := by decide +kernel
theorem dX4_makeCandidate_38 : decode cX4_makeCandidate 38 = .ok (.iload_n 3, 1) := by decide +kernel
theorem dX4_makeCandidate_39 : decode cX4_makeCandidate 39 = .ok (.iload 4, 2) := by decide +kernel
theorem dX4_makeCandidate_41 : decode cX4_makeCandidate 41 = .ok (.imul, 1) := by decide +kernel
theorem dX4_makeCandidate_42 : decode cX4_makeCandidate 42 = .ok (.isub, 1) := by decide +kernel
theorem dX4_makeCandidate_43 : decode cX4_makeCandidate 43 = .ok (.invokestatic 43, 3) := by decide +kernel
theorem dX4_makeCandidate_46 : decode cX4_makeCandidate 46 = .ok (.iconst 1, 1) := by decide +kernel
theorem dX4_makeCandidate_47 : decode cX4_makeCandidate 47 = .ok (.if_icmp .eq 5, 3) := by decide +kernel
theorem dX4_makeCandidate_50 : decode cX4_makeCandidate 50 = .ok (.iconst 0, 1) := by decide +kernel
theorem dX4_makeCandidate_51 : decode cX4_makeCandidate 51 = .ok (.ireturn, 1) := by decide +kernel
theorem dX4_makeCandidate_52 : decode cX4_makeCandidate 52 = .ok (.aload_n 0, 1) := by decide +kernel
theorem dX4_makeCandidate_53 : decode cX4_makeCandidate 53 = .ok (.getfield 18, 3) := by decide +kernel
theorem dX4_makeCandidate_56 : decode cX4_makeCandidate 56 = .ok (.aload_n 0, 1) := by decide +kernel
theorem dX4_makeCandidate_57 : decode cX4_makeCandidate 57 = .ok (.getfield 12, 3) := by decide +kernel
theorem dX4_makeCandidate_60 : decode cX4_makeCandidate 60 = .ok (.iload_n 2, 1) := by decide +kernel
theorem dX4_makeCandidate_61 : decode cX4_makeCandidate 61 = .ok (.i2l, 1) := by decide +kernel
theorem dX4_makeCandidate_62 : decode cX4_makeCandidate 62 = .ok (.iload_n 3, 1) := by decide +kernel
theorem dX4_makeCandidate_63 : decode cX4_makeCandidate 63 = .ok (.i2l, 1) := by decide +kernel
theorem dX4_makeCandidate_64 : decode cX4_makeCandidate 64 = .ok (.iload 4, 2) := by decide +kernel
theorem dX4_makeCandidate_66 : decode cX4_makeCandidate 66 = .ok (.i2l, 1) := by decide +kernel
theorem dX4_makeCandidate_67 : decode cX4_makeCandidate 67 = .ok (.iload 5, 2) := by decide +kernel
theorem dX4_makeCandidate_69 : decode cX4_makeCandidate 69 = .ok (.i2l, 1) := by decide +kernel
theorem dX4_makeCandidate_70 : decode cX4_makeCandidate 70 = .ok (.invokevirtual 49, 3) := by decide +kernel
theorem dX4_makeCandidate_73 : decode cX4_makeCandidate 73 = .ok (.iconst 1, 1) := by decide +kernel
theorem dX4_makeCandidate_74 : decode cX4_makeCandidate 74 = .ok (.ireturn, 1) := by decide +kernel
theorem dX4_splittingCode_0 : decode cX4_splittingCode 0 = .ok (.iload_n 2, 1) := by decide +kernel
theorem dX4_splittingCode_1 : decode cX4_splittingCode 1 = .ok (.ifCond .le 11, 3) := by decide +kernel
theorem dX4_splittingCode_4 : decode cX4_splittingCode 4 = .ok (.aload_n 1, 1) := by decide +kernel
theorem dX4_splittingCode_5 : decode cX4_splittingCode 5 = .ok (.iload_n 2, 1) := by decide +kernel
theorem dX4_splittingCode_6 : decode cX4_splittingCode 6 = .ok (.invokevirtual 53, 3) := by decide +kernel
theorem dX4_splittingCode_9 : decode cX4_splittingCode 9 = .ok (.ifCond .eq 5, 3) := by decide +kernel
theorem dX4_splittingCode_12 : decode cX4_splittingCode 12 = .ok (.iconst 0, 1) := by decide +kernel
theorem dX4_splittingCode_13 : decode cX4_splittingCode 13 = .ok (.ireturn, 1) := by decide +kernel
theorem dX4_splittingCode_14 : decode cX4_splittingCode 14 = .ok (.iconst 0, 1) := by decide +kernel
theorem dX4_splittingCode_15 : decode cX4_splittingCode 15 = .ok (.istore_n 3, 1) := by decide +kernel
theorem dX4_splittingCode_16 : decode cX4_splittingCode 16 = .ok (.iconst 0, 1) := by decide +kernel
theorem dX4_splittingCode_17 : decode cX4_splittingCode 17 = .ok (.istore 4, 2) := by decide +kernel
theorem dX4_splittingCode_19 : decode cX4_splittingCode 19 = .ok (.iconst 0, 1) := by decide +kernel
theorem dX4_splittingCode_20 : decode cX4_splittingCode 20 = .ok (.istore 5, 2) := by decide +kernel
theorem dX4_splittingCode_22 : decode cX4_splittingCode 22 = .ok (.iload 5, 2) := by decide +kernel
theorem dX4_splittingCode_24 : decode cX4_splittingCode 24 = .ok (.iload_n 2, 1) := by decide +kernel
theorem dX4_splittingCode_25 : decode cX4_splittingCode 25 = .ok (.if_icmp .gt 66, 3) := by decide +kernel
theorem dX4_splittingCode_28 : decode cX4_splittingCode 28 = .ok (.aload_n 0, 1) := by decide +kernel
theorem dX4_splittingCode_29 : decode cX4_splittingCode 29 = .ok (.getfield 18, 3) := by decide +kernel
theorem dX4_splittingCode_32 : decode cX4_splittingCode 32 = .ok (.aload_n 1, 1) := by decide +kernel
theorem dX4_splittingCode_33 : decode cX4_splittingCode 33 = .ok (.iload_n 2, 1) := by decide +kernel
theorem dX4_splittingCode_34 : decode cX4_splittingCode 34 = .ok (.iload 5, 2) := by decide +kernel
theorem dX4_splittingCode_36 : decode cX4_splittingCode 36 = .ok (.i2l, 1) := by decide +kernel
theorem dX4_splittingCode_37 : decode cX4_splittingCode 37 = .ok (.invokevirtual 56, 3) := by decide +kernel
theorem dX4_splittingCode_40 : decode cX4_splittingCode 40 = .ok (.aload_n 0, 1) := by decide +kernel
theorem dX4_splittingCode_41 : decode cX4_splittingCode 41 = .ok (.getfield 18, 3) := by decide +kernel
theorem dX4_splittingCode_44 : decode cX4_splittingCode 44 = .ok (.getfield 60, 3) := by decide +kernel
theorem dX4_splittingCode_47 : decode cX4_splittingCode 47 = .ok (.iload_n 2, 1) := by decide +kernel
theorem dX4_splittingCode_48 : decode cX4_splittingCode 48 = .ok (.i2l, 1) := by decide +kernel
theorem dX4_splittingCode_49 : decode cX4_splittingCode 49 = .ok (.lrem, 1) := by decide +kernel
theorem dX4_splittingCode_50 : decode cX4_splittingCode 50 = .ok (.lconst 0, 1) := by decide +kernel
theorem dX4_splittingCode_51 : decode cX4_splittingCode 51 = .ok (.lcmp, 1) := by decide +kernel
theorem dX4_splittingCode_52 : decode cX4_splittingCode 52 = .ok (.ifCond .ne 33, 3) := by decide +kernel
theorem dX4_splittingCode_55 : decode cX4_splittingCode 55 = .ok (.iinc 3 1, 3) := by decide +kernel
theorem dX4_splittingCode_58 : decode cX4_splittingCode 58 = .ok (.iload 4, 2) := by decide +kernel
theorem dX4_splittingCode_60 : decode cX4_splittingCode 60 = .ok (.ifCond .ne 18, 3) := by decide +kernel
theorem dX4_splittingCode_63 : decode cX4_splittingCode 63 = .ok (.aload_n 0, 1) := by decide +kernel
theorem dX4_splittingCode_64 : decode cX4_splittingCode 64 = .ok (.getfield 18, 3) := by decide +kernel
theorem dX4_splittingCode_67 : decode cX4_splittingCode 67 = .ok (.getfield 64, 3) := by decide +kernel
theorem dX4_splittingCode_70 : decode cX4_splittingCode 70 = .ok (.iload_n 2, 1) := by decide +kernel
theorem dX4_splittingCode_71 : decode cX4_splittingCode 71 = .ok (.i2l, 1) := by decide +kernel
theorem dX4_splittingCode_72 : decode cX4_splittingCode 72 = .ok (.lrem, 1) := by decide +kernel
theorem dX4_splittingCode_73 : decode cX4_splittingCode 73 = .ok (.lconst 0, 1) := by decide +kernel
theorem dX4_splittingCode_74 : decode cX4_splittingCode 74 = .ok (.lcmp, 1) := by decide +kernel
theorem dX4_splittingCode_75 : decode cX4_splittingCode 75 = .ok (.ifCond .ne 7, 3) := by decide +kernel
theorem dX4_splittingCode_78 : decode cX4_splittingCode 78 = .ok (.iconst 1, 1) := by decide +kernel
theorem dX4_splittingCode_79 : decode cX4_splittingCode 79 = .ok (.goto 4, 3) := by decide +kernel
theorem dX4_splittingCode_82 : decode cX4_splittingCode 82 = .ok (.iconst 0, 1) := by decide +kernel
theorem dX4_splittingCode_83 : decode cX4_splittingCode 83 = .ok (.istore 4, 2) := by decide +kernel
theorem dX4_splittingCode_85 : decode cX4_splittingCode 85 = .ok (.iinc 5 1, 3) := by decide +kernel
theorem dX4_splittingCode_88 : decode cX4_splittingCode 88 = .ok (.goto (-66), 3) := by decide +kernel
theorem dX4_splittingCode_91 : decode cX4_splittingCode 91 = .ok (.iload 4, 2) := by decide +kernel
theorem dX4_splittingCode_93 : decode cX4_splittingCode 93 = .ok (.ifCond .eq 16, 3) := by decide +kernel
theorem dX4_splittingCode_96 : decode cX4_splittingCode 96 = .ok (.iload_n 3, 1) := by decide +kernel
theorem dX4_splittingCode_97 : decode cX4_splittingCode 97 = .ok (.iconst 1, 1) := by decide +kernel
theorem dX4_splittingCode_98 : decode cX4_splittingCode 98 = .ok (.if_icmp .le 8, 3) := by decide +kernel
theorem dX4_splittingCode_101 : decode cX4_splittingCode 101 = .ok (.bipush 121, 2) := by decide +kernel
theorem dX4_splittingCode_103 : decode cX4_splittingCode 103 = .ok (.goto 5, 3) := by decide +kernel
theorem dX4_splittingCode_106 : decode cX4_splittingCode 106 = .ok (.bipush 13, 2) := by decide +kernel
theorem dX4_splittingCode_108 : decode cX4_splittingCode 108 = .ok (.ireturn, 1) := by decide +kernel
theorem dX4_splittingCode_109 : decode cX4_splittingCode 109 = .ok (.iload_n 3, 1) := by decide +kernel
theorem dX4_splittingCode_110 : decode cX4_splittingCode 110 = .ok (.ifCond .ne 5, 3) := by decide +kernel
theorem dX4_splittingCode_113 : decode cX4_splittingCode 113 = .ok (.iconst 3, 1) := by decide +kernel
theorem dX4_splittingCode_114 : decode cX4_splittingCode 114 = .ok (.ireturn, 1) := by decide +kernel
theorem dX4_splittingCode_115 : decode cX4_splittingCode 115 = .ok (.iload_n 3, 1) := by decide +kernel
theorem dX4_splittingCode_116 : decode cX4_splittingCode 116 = .ok (.iconst 1, 1) := by decide +kernel
theorem dX4_splittingCode_117 : decode cX4_splittingCode 117 = .ok (.if_icmp .ne 8, 3) := by decide +kernel
theorem dX4_splittingCode_120 : decode cX4_splittingCode 120 = .ok (.bipush 21, 2) := by decide +kernel
theorem dX4_splittingCode_122 : decode cX4_splittingCode 122 = .ok (.goto 5, 3) := by decide +kernel
theorem dX4_splittingCode_125 : decode cX4_splittingCode 125 = .ok (.bipush 111, 2) := by decide +kernel
theorem dX4_splittingCode_127 : decode cX4_splittingCode 127 = .ok (.ireturn, 1) := by decide +kernel
theorem dX4_growAt_0 : decode cX4_growAt 0 = .ok (.aload_n 0, 1) := by decide +kernel
theorem dX4_growAt_1 : decode cX4_growAt 1 = .ok (.getfield 18, 3) := by decide +kernel
theorem dX4_growAt_4 : decode cX4_growAt 4 = .ok (.aload_n 1, 1) := by decide +kernel
theorem dX4_growAt_5 : decode cX4_growAt 5 = .ok (.iload_n 2, 1) := by decide +kernel
theorem dX4_growAt_6 : decode cX4_growAt 6 = .ok (.invokevirtual 67, 3) := by decide +kernel
theorem dX4_growAt_9 : decode cX4_growAt 9 = .ok (.ifCond .ne 5, 3) := by decide +kernel
theorem dX4_growAt_12 : decode cX4_growAt 12 = .ok (.iconst 0, 1) := by decide +kernel
theorem dX4_growAt_13 : decode cX4_growAt 13 = .ok (.ireturn, 1) := by decide +kernel
theorem dX4_growAt_14 : decode cX4_growAt 14 = .ok (.aload_n 1, 1) := by decide +kernel
theorem dX4_growAt_15 : decode cX4_growAt 15 = .ok (.aload_n 0, 1) := by decide +kernel
theorem dX4_growAt_16 : decode cX4_growAt 16 = .ok (.getfield 18, 3) := by decide +kernel
theorem dX4_growAt_19 : decode cX4_growAt 19 = .ok (.invokevirtual 24, 3) := by decide +kernel
theorem dX4_growAt_22 : decode cX4_growAt 22 = .ok (.iconst 1, 1) := by decide +kernel
theorem dX4_growAt_23 : decode cX4_growAt 23 = .ok (.ireturn, 1) := by decide +kernel
theorem dX4_growAtLeastPrime_0 : decode cX4_growAtLeastPrime 0 = .ok (.aload_n 1, 1) := by decide +kernel
theorem dX4_growAtLeastPrime_1 : decode cX4_growAtLeastPrime 1 = .ok (.invokevirtual 71, 3) := by decide +kernel
theorem dX4_growAtLeastPrime_4 : decode cX4_growAtLeastPrime 4 = .ok (.lstore_n 2, 1) := by decide +kernel
theorem dX4_growAtLeastPrime_5 : decode cX4_growAtLeastPrime 5 = .ok (.iconst 2, 1) := by decide +kernel
theorem dX4_growAtLeastPrime_6 : decode cX4_growAtLeastPrime 6 = .ok (.istore 4, 2) := by decide +kernel
theorem dX4_growAtLeastPrime_8 : decode cX4_growAtLeastPrime 8 = .ok (.iload 4, 2) := by decide +kernel
theorem dX4_growAtLeastPrime_10 : decode cX4_growAtLeastPrime 10 = .ok (.sipush 997, 3) := by decide +kernel
theorem dX4_growAtLeastPrime_13 : decode cX4_growAtLeastPrime 13 = .ok (.if_icmp .gt 66, 3) := by decide +kernel
theorem dX4_growAtLeastPrime_16 : decode cX4_growAtLeastPrime 16 = .ok (.iload 4, 2) := by decide +kernel
theorem dX4_growAtLeastPrime_18 : decode cX4_growAtLeastPrime 18 = .ok (.i2l, 1) := by decide +kernel
theorem dX4_growAtLeastPrime_19 : decode cX4_growAtLeastPrime 19 = .ok (.iload 4, 2) := by decide +kernel
theorem dX4_growAtLeastPrime_21 : decode cX4_growAtLeastPrime 21 = .ok (.i2l, 1) := by decide +kernel
theorem dX4_growAtLeastPrime_22 : decode cX4_growAtLeastPrime 22 = .ok (.lmul, 1) := by decide +kernel
theorem dX4_growAtLeastPrime_23 : decode cX4_growAtLeastPrime 23 = .ok (.lload_n 2, 1) := by decide +kernel
theorem dX4_growAtLeastPrime_24 : decode cX4_growAtLeastPrime 24 = .ok (.lcmp, 1) := by decide +kernel
theorem dX4_growAtLeastPrime_25 : decode cX4_growAtLeastPrime 25 = .ok (.ifCond .gt 54, 3) := by decide +kernel
theorem dX4_growAtLeastPrime_28 : decode cX4_growAtLeastPrime 28 = .ok (.lload_n 2, 1) := by decide +kernel
theorem dX4_growAtLeastPrime_29 : decode cX4_growAtLeastPrime 29 = .ok (.iload 4, 2) := by decide +kernel
theorem dX4_growAtLeastPrime_31 : decode cX4_growAtLeastPrime 31 = .ok (.i2l, 1) := by decide +kernel
theorem dX4_growAtLeastPrime_32 : decode cX4_growAtLeastPrime 32 = .ok (.iload 4, 2) := by decide +kernel
theorem dX4_growAtLeastPrime_34 : decode cX4_growAtLeastPrime 34 = .ok (.i2l, 1) := by decide +kernel
theorem dX4_growAtLeastPrime_35 : decode cX4_growAtLeastPrime 35 = .ok (.lmul, 1) := by decide +kernel
theorem dX4_growAtLeastPrime_36 : decode cX4_growAtLeastPrime 36 = .ok (.lrem, 1) := by decide +kernel
theorem dX4_growAtLeastPrime_37 : decode cX4_growAtLeastPrime 37 = .ok (.lconst 0, 1) := by decide +kernel
theorem dX4_growAtLeastPrime_38 : decode cX4_growAtLeastPrime 38 = .ok (.lcmp, 1) := by decide +kernel
theorem dX4_growAtLeastPrime_39 : decode cX4_growAtLeastPrime 39 = .ok (.ifCond .ne 34, 3) := by decide +kernel
theorem dX4_growAtLeastPrime_42 : decode cX4_growAtLeastPrime 42 = .ok (.iload 4, 2) := by decide +kernel
theorem dX4_growAtLeastPrime_44 : decode cX4_growAtLeastPrime 44 = .ok (.invokestatic 75, 3) := by decide +kernel
theorem dX4_growAtLeastPrime_47 : decode cX4_growAtLeastPrime 47 = .ok (.ifCond .eq 26, 3) := by decide +kernel
theorem dX4_growAtLeastPrime_50 : decode cX4_growAtLeastPrime 50 = .ok (.aload_n 0, 1) := by decide +kernel
theorem dX4_growAtLeastPrime_51 : decode cX4_growAtLeastPrime 51 = .ok (.getfield 18, 3) := by decide +kernel
theorem dX4_growAtLeastPrime_54 : decode cX4_growAtLeastPrime 54 = .ok (.aload_n 1, 1) := by decide +kernel
theorem dX4_growAtLeastPrime_55 : decode cX4_growAtLeastPrime 55 = .ok (.iload 4, 2) := by decide +kernel
theorem dX4_growAtLeastPrime_57 : decode cX4_growAtLeastPrime 57 = .ok (.invokevirtual 67, 3) := by decide +kernel
theorem dX4_growAtLeastPrime_60 : decode cX4_growAtLeastPrime 60 = .ok (.ifCond .eq 13, 3) := by decide +kernel
theorem dX4_growAtLeastPrime_63 : decode cX4_growAtLeastPrime 63 = .ok (.aload_n 1, 1) := by decide +kernel
theorem dX4_growAtLeastPrime_64 : decode cX4_growAtLeastPrime 64 = .ok (.aload_n 0, 1) := by decide +kernel
theorem dX4_growAtLeastPrime_65 : decode cX4_growAtLeastPrime 65 = .ok (.getfield 18, 3) := by decide +kernel
theorem dX4_growAtLeastPrime_68 : decode cX4_growAtLeastPrime 68 = .ok (.invokevirtual 24, 3) := by decide +kernel
theorem dX4_growAtLeastPrime_71 : decode cX4_growAtLeastPrime 71 = .ok (.iconst 1, 1) := by decide +kernel
theorem dX4_growAtLeastPrime_72 : decode cX4_growAtLeastPrime 72 = .ok (.ireturn, 1) := by decide +kernel
theorem dX4_growAtLeastPrime_73 : decode cX4_growAtLeastPrime 73 = .ok (.iinc 4 1, 3) := by decide +kernel
theorem dX4_growAtLeastPrime_76 : decode cX4_growAtLeastPrime 76 = .ok (.goto (-68), 3) := by decide +kernel
theorem dX4_growAtLeastPrime_79 : decode cX4_growAtLeastPrime 79 = .ok (.iconst 0, 1) := by decide +kernel
theorem dX4_growAtLeastPrime_80 : decode cX4_growAtLeastPrime 80 = .ok (.ireturn, 1) := by decide +kernel
theorem dX4_makeMaximal_0 : decode cX4_makeMaximal 0 = .ok (.aload_n 0, 1) := by decide +kernel
theorem dX4_makeMaximal_1 : decode cX4_makeMaximal 1 = .ok (.aload_n 1, 1) := by decide +kernel
theorem dX4_makeMaximal_2 : decode cX4_makeMaximal 2 = .ok (.invokevirtual 78, 3) := by decide +kernel
theorem dX4_makeMaximal_5 : decode cX4_makeMaximal 5 = .ok (.iconst 0, 1) := by decide +kernel
theorem dX4_makeMaximal_6 : decode cX4_makeMaximal 6 = .ok (.istore_n 2, 1) := by decide +kernel
theorem dX4_makeMaximal_7 : decode cX4_makeMaximal 7 = .ok (.iload_n 2, 1) := by decide +kernel
theorem dX4_makeMaximal_8 : decode cX4_makeMaximal 8 = .ok (.bipush 64, 2) := by decide +kernel
theorem dX4_makeMaximal_10 : decode cX4_makeMaximal 10 = .ok (.if_icmp .ge 23, 3) := by decide +kernel
theorem dX4_makeMaximal_13 : decode cX4_makeMaximal 13 = .ok (.aload_n 0, 1) := by decide +kernel
theorem dX4_makeMaximal_14 : decode cX4_makeMaximal 14 = .ok (.aload_n 1, 1) := by decide +kernel
theorem dX4_makeMaximal_15 : decode cX4_makeMaximal 15 = .ok (.invokevirtual 81, 3) := by decide +kernel
theorem dX4_makeMaximal_18 : decode cX4_makeMaximal 18 = .ok (.ifCond .ne 4, 3) := by decide +kernel
theorem dX4_makeMaximal_21 : decode cX4_makeMaximal 21 = .ok (.return_, 1) := by decide +kernel
theorem dX4_makeMaximal_22 : decode cX4_makeMaximal 22 = .ok (.aload_n 0, 1) := by decide +kernel
theorem dX4_makeMaximal_23 : decode cX4_makeMaximal 23 = .ok (.aload_n 1, 1) := by decide +kernel
theorem dX4_makeMaximal_24 : decode cX4_makeMaximal 24 = .ok (.invokevirtual 78, 3) := by decide +kernel
theorem dX4_makeMaximal_27 : decode cX4_makeMaximal 27 = .ok (.iinc 2 1, 3) := by decide +kernel
theorem dX4_makeMaximal_30 : decode cX4_makeMaximal 30 = .ok (.goto (-23), 3) := by decide +kernel
theorem dX4_makeMaximal_33 : decode cX4_makeMaximal 33 = .ok (.return_, 1) := by decide +kernel
theorem dX5_init_0 : decode cX5_init 0 = .ok (.aload_n 0, 1) := by decide +kernel
theorem dX5_init_1 : decode cX5_init 1 = .ok (.invokespecial 3, 3) := by decide +kernel
theorem dX5_init_4 : decode cX5_init 4 = .ok (.aload_n 0, 1) := by decide +kernel
theorem dX5_init_5 : decode cX5_init 5 = .ok (.sipush 240, 3) := by decide +kernel
theorem dX5_init_8 : decode cX5_init 8 = .ok (.newarray .int, 2) := by decide +kernel
theorem dX5_init_10 : decode cX5_init 10 = .ok (.putfield 11, 3) := by decide +kernel
theorem dX5_init_13 : decode cX5_init 13 = .ok (.aload_n 0, 1) := by decide +kernel
theorem dX5_init_14 : decode cX5_init 14 = .ok (.iconst 0, 1) := by decide +kernel
theorem dX5_init_15 : decode cX5_init 15 = .ok (.putfield 15, 3) := by decide +kernel
theorem dX5_init_18 : decode cX5_init 18 = .ok (.aload_n 0, 1) := by decide +kernel
theorem dX5_init_19 : decode cX5_init 19 = .ok (.bipush 18, 2) := by decide +kernel
theorem dX5_init_21 : decode cX5_init 21 = .ok (.newarray .int, 2) := by decide +kernel
theorem dX5_init_23 : decode cX5_init 23 = .ok (.putfield 19, 3) := by decide +kernel
theorem dX5_init_26 : decode cX5_init 26 = .ok (.aload_n 0, 1) := by decide +kernel
theorem dX5_init_27 : decode cX5_init 27 = .ok (.new 22, 3) := by decide +kernel
theorem dX5_init_30 : decode cX5_init 30 = .ok (.dup, 1) := by decide +kernel
theorem dX5_init_31 : decode cX5_init 31 = .ok (.invokespecial 24, 3) := by decide +kernel
theorem dX5_init_34 : decode cX5_init 34 = .ok (.putfield 25, 3) := by decide +kernel
theorem dX5_init_37 : decode cX5_init 37 = .ok (.aload_n 0, 1) := by decide +kernel
theorem dX5_init_38 : decode cX5_init 38 = .ok (.new 22, 3) := by decide +kernel
theorem dX5_init_41 : decode cX5_init 41 = .ok (.dup, 1) := by decide +kernel
theorem dX5_init_42 : decode cX5_init 42 = .ok (.invokespecial 24, 3) := by decide +kernel
theorem dX5_init_45 : decode cX5_init 45 = .ok (.putfield 29, 3) := by decide +kernel
theorem dX5_init_48 : decode cX5_init 48 = .ok (.aload_n 0, 1) := by decide +kernel
theorem dX5_init_49 : decode cX5_init 49 = .ok (.new 32, 3) := by decide +kernel
theorem dX5_init_52 : decode cX5_init 52 = .ok (.dup, 1) := by decide +kernel
theorem dX5_init_53 : decode cX5_init 53 = .ok (.invokespecial 34, 3) := by decide +kernel
theorem dX5_init_56 : decode cX5_init 56 = .ok (.putfield 35, 3) := by decide +kernel
theorem dX5_init_59 : decode cX5_init 59 = .ok (.aload_n 0, 1) := by decide +kernel
theorem dX5_init_60 : decode cX5_init 60 = .ok (.new 32, 3) := by decide +kernel
theorem dX5_init_63 : decode cX5_init 63 = .ok (.dup, 1) := by decide +kernel
theorem dX5_init_64 : decode cX5_init 64 = .ok (.invokespecial 34, 3) := by decide +kernel
theorem dX5_init_67 : decode cX5_init 67 = .ok (.putfield 39, 3) := by decide +kernel
theorem dX5_init_70 : decode cX5_init 70 = .ok (.aload_n 0, 1) := by decide +kernel
theorem dX5_init_71 : decode cX5_init 71 = .ok (.new 42, 3) := by decide +kernel
theorem dX5_init_74 : decode cX5_init 74 = .ok (.dup, 1) := by decide +kernel
theorem dX5_init_75 : decode cX5_init 75 = .ok (.invokespecial 44, 3) := by decide +kernel
theorem dX5_init_78 : decode cX5_init 78 = .ok (.putfield 45, 3) := by decide +kernel
theorem dX5_init_81 : decode cX5_init 81 = .ok (.aload_n 0, 1) := by decide +kernel
theorem dX5_init_82 : decode cX5_init 82 = .ok (.new 49, 3) := by decide +kernel
theorem dX5_init_85 : decode cX5_init 85 = .ok (.dup, 1) := by decide +kernel
theorem dX5_init_86 : decode cX5_init 86 = .ok (.invokespecial 51, 3) := by decide +kernel
theorem dX5_init_89 : decode cX5_init 89 = .ok (.putfield 52, 3) := by decide +kernel
theorem dX5_init_92 : decode cX5_init 92 = .ok (.aload_n 0, 1) := by decide +kernel
theorem dX5_init_93 : decode cX5_init 93 = .ok (.new 56, 3) := by decide +kernel
theorem dX5_init_96 : decode cX5_init 96 = .ok (.dup, 1) := by decide +kernel
theorem dX5_init_97 : decode cX5_init 97 = .ok (.invokespecial 58, 3) := by decide +kernel
theorem dX5_init_100 : decode cX5_init 100 = .ok (.putfield 59, 3) := by decide +kernel
theorem dX5_init_103 : decode cX5_init 103 = .ok (.return_, 1) := by decide +kernel
theorem dX5_addForm_0 : decode cX5_addForm 0 = .ok (.aload_n 0, 1) := by decide +kernel
theorem dX5_addForm_1 : decode cX5_addForm 1 = .ok (.getfield 25, 3) := by decide +kernel
theorem dX5_addForm_4 : decode cX5_addForm 4 = .ok (.iload_n 1, 1) := by decide +kernel
theorem dX5_addForm_5 : decode cX5_addForm 5 = .ok (.i2l, 1) := by decide +kernel
theorem dX5_addForm_6 : decode cX5_addForm 6 = .ok (.iload_n 2, 1) := by decide +kernel
theorem dX5_addForm_7 : decode cX5_addForm 7 = .ok (.i2l, 1) := by decide +kernel
theorem dX5_addForm_8 : decode cX5_addForm 8 = .ok (.iload_n 3, 1) := by decide +kernel
theorem dX5_addForm_9 : decode cX5_addForm 9 = .ok (.i2l, 1) := by decide +kernel
theorem dX5_addForm_10 : decode cX5_addForm 10 = .ok (.iload 4, 2) := by decide +kernel
theorem dX5_addForm_12 : decode cX5_addForm 12 = .ok (.i2l, 1) := by decide +kernel
theorem dX5_addForm_13 : decode cX5_addForm 13 = .ok (.invokevirtual 63, 3) := by decide +kernel
theorem dX5_addForm_16 : decode cX5_addForm 16 = .ok (.aload_n 0, 1) := by decide +kernel
theorem dX5_addForm_17 : decode cX5_addForm 17 = .ok (.getfield 25, 3) := by decide +kernel
theorem dX5_addForm_20 : decode cX5_addForm 20 = .ok (.invokevirtual 67, 3) := by decide +kernel
theorem dX5_addForm_23 : decode cX5_addForm 23 = .ok (.ifCond .ne 7, 3) := by decide +kernel
theorem dX5_addForm_26 : decode cX5_addForm 26 = .ok (.sipush (-10003), 3) := by decide +kernel
theorem dX5_addForm_29 : decode cX5_addForm 29 = .ok (.ireturn, 1) := by decide +kernel
theorem dX5_addForm_30 : decode cX5_addForm 30 = .ok (.aload_n 0, 1) := by decide +kernel
theorem dX5_addForm_31 : decode cX5_addForm 31 = .ok (.aload_n 0, 1) := by decide +kernel
theorem dX5_addForm_32 : decode cX5_addForm 32 = .ok (.getfield 25, 3) := by decide +kernel
theorem dX5_addForm_35 : decode cX5_addForm 35 = .ok (.invokevirtual 71, 3) := by decide +kernel
theorem dX5_addForm_38 : decode cX5_addForm 38 = .ok (.ireturn, 1) := by decide +kernel
theorem dX5_clearForms_0 : decode cX5_clearForms 0 = .ok (.aload_n 0, 1) := by decide +kernel
theorem dX5_clearForms_1 : decode cX5_clearForms 1 = .ok (.getfield 15, 3) := by decide +kernel
theorem dX5_clearForms_4 : decode cX5_clearForms 4 = .ok (.istore_n 1, 1) := by decide +kernel
theorem dX5_clearForms_5 : decode cX5_clearForms 5 = .ok (.aload_n 0, 1) := by decide +kernel
theorem dX5_clearForms_6 : decode cX5_clearForms 6 = .ok (.iconst 0, 1) := by decide +kernel
theorem dX5_clearForms_7 : decode cX5_clearForms 7 = .ok (.putfield 15, 3) := by decide +kernel
theorem dX5_clearForms_10 : decode cX5_clearForms 10 = .ok (.iload_n 1, 1) := by decide +kernel
theorem dX5_clearForms_11 : decode cX5_clearForms 11 = .ok (.ireturn, 1) := by decide +kernel
theorem dX5_coefficient_0 : decode cX5_coefficient 0 = .ok (.aload_n 0, 1) := by decide +kernel
theorem dX5_coefficient_1 : decode cX5_coefficient 1 = .ok (.iload_n 1, 1) := by decide +kernel
theorem dX5_coefficient_2 : decode cX5_coefficient 2 = .ok (.invokevirtual 75, 3) := by decide +kernel
theorem dX5_coefficient_5 : decode cX5_coefficient 5 = .ok (.ifCond .ne 7, 3) := by decide +kernel
theorem dX5_coefficient_8 : decode cX5_coefficient 8 = .ok (.sipush (-10001), 3) := by decide +kernel
theorem dX5_coefficient_11 : decode cX5_coefficient 11 = .ok (.ireturn, 1) := by decide +kernel
theorem dX5_coefficient_12 : decode cX5_coefficient 12 = .ok (.iload_n 2, 1) := by decide +kernel
theorem dX5_coefficient_13 : decode cX5_coefficient 13 = .ok (.ifCond .lt 8, 3) := by decide +kernel
theorem dX5_coefficient_16 : decode cX5_coefficient 16 = .ok (.iload_n 2, 1) := by decide +kernel
theorem dX5_coefficient_17 : decode cX5_coefficient 17 = .ok (.iconst 4, 1) := by decide +kernel
theorem dX5_coefficient_18 : decode cX5_coefficient 18 = .ok (.if_icmp .lt 7, 3) := by decide +kernel
theorem dX5_coefficient_21 : decode cX5_coefficient 21 = .ok (.sipush (-10003), 3) := by decide +kernel
theorem dX5_coefficient_24 : decode cX5_coefficient 24 = .ok (.ireturn, 1) := by decide +kernel
theorem dX5_coefficient_25 : decode cX5_coefficient 25 = .ok (.aload_n 0, 1) := by decide +kernel
theorem dX5_coefficient_26 : decode cX5_coefficient 26 = .ok (.getfield 11, 3) := by decide +kernel
theorem dX5_coefficient_29 : decode cX5_coefficient 29 = .ok (.iload_n 1, 1) := by decide +kernel
theorem dX5_coefficient_30 : decode cX5_coefficient 30 = .ok (.iconst 4, 1) := by decide +kernel
theorem dX5_coefficient_31 : decode cX5_coefficient 31 = .ok (.imul, 1) := by decide +kernel
theorem dX5_coefficient_32 : decode cX5_coefficient 32 = .ok (.iload_n 2, 1) := by decide +kernel
theorem dX5_coefficient_33 : decode cX5_coefficient 33 = .ok (.iadd, 1) := by decide +kernel
theorem dX5_coefficient_34 : decode cX5_coefficient 34 = .ok (.iaload, 1) := by decide +kernel
theorem dX5_coefficient_35 : decode cX5_coefficient 35 = .ok (.ireturn, 1) := by decide +kernel
theorem dX5_discriminant_0 : decode cX5_discriminant 0 = .ok (.aload_n 0, 1) := by decide +kernel
theorem dX5_discriminant_1 : decode cX5_discriminant 1 = .ok (.iload_n 1, 1) := by decide +kernel
theorem dX5_discriminant_2 : decode cX5_discriminant 2 = .ok (.aload_n 0, 1) := by decide +kernel
theorem dX5_discriminant_3 : decode cX5_discriminant 3 = .ok (.getfield 25, 3) := by decide +kernel
theorem dX5_discriminant_6 : decode cX5_discriminant 6 = .ok (.invokevirtual 79, 3) := by decide +kernel
theorem dX5_discriminant_9 : decode cX5_discriminant 9 = .ok (.ifCond .eq 13, 3) := by decide +kernel
theorem dX5_discriminant_12 : decode cX5_discriminant 12 = .ok (.aload_n 0, 1) := by decide +kernel
theorem dX5_discriminant_13 : decode cX5_discriminant 13 = .ok (.getfield 25, 3) := by decide +kernel
theorem dX5_discriminant_16 : decode cX5_discriminant 16 = .ok (.invokevirtual 83, 3) := by decide +kernel
theorem dX5_discriminant_19 : decode cX5_discriminant 19 = .ok (.goto 6, 3) := by decide +kernel
theorem dX5_discriminant_22 : decode cX5_discriminant 22 = .ok (.ldc2_w 87, 3) := by decide +kernel
theorem dX5_discriminant_25 : decode cX5_discriminant 25 = .ok (.lreturn, 1) := by decide +kernel
theorem dX5_hessian_0 : decode cX5_hessian 0 = .ok (.aload_n 0, 1) := by decide +kernel
theorem dX5_hessian_1 : decode cX5_hessian 1 = .ok (.iload_n 1, 1) := by decide +kernel
theorem dX5_hessian_2 : decode cX5_hessian 2 = .ok (.aload_n 0, 1) := by decide +kernel
theorem dX5_hessian_3 : decode cX5_hessian 3 = .ok (.getfield 25, 3) := by decide +kernel
theorem dX5_hessian_6 : decode cX5_hessian 6 = .ok (.invokevirtual 79, 3) := by decide +kernel
theorem dX5_hessian_9 : decode cX5_hessian 9 = .ok (.ifCond .ne 7, 3) := by decide +kernel
theorem dX5_hessian_12 : decode cX5_hessian 12 = .ok (.ldc2_w 87, 3) := by decide +kernel
theorem dX5_hessian_15 : decode cX5_hessian 15 = .ok (.lreturn, 1) := by decide +kernel
theorem dX5_hessian_16 : decode cX5_hessian 16 = .ok (.iload_n 2, 1) := by decide +kernel
theorem dX5_hessian_17 : decode cX5_hessian 17 = .ok (.tableswitch 51 0 2 #[27, 35, 43], 27) := by decide +kernel
theorem dX5_hessian_44 : decode cX5_hessian 44 = .ok (.aload_n 0, 1) := by decide +kernel
theorem dX5_hessian_45 : decode cX5_hessian 45 = .ok (.getfield 25, 3) := by decide +kernel
theorem dX5_hessian_48 : decode cX5_hessian 48 = .ok (.invokevirtual 89, 3) := by decide +kernel
theorem dX5_hessian_51 : decode cX5_hessian 51 = .ok (.lreturn, 1) := by decide +kernel
theorem dX5_hessian_52 : decode cX5_hessian 52 = .ok (.aload_n 0, 1) := by decide +kernel
theorem dX5_hessian_53 : decode cX5_hessian 53 = .ok (.getfield 25, 3) := by decide +kernel
theorem dX5_hessian_56 : decode cX5_hessian 56 = .ok (.invokevirtual 92, 3) := by decide +kernel
theorem dX5_hessian_59 : decode cX5_hessian 59 = .ok (.lreturn, 1) := by decide +kernel
theorem dX5_hessian_60 : decode cX5_hessian 60 = .ok (.aload_n 0, 1) := by decide +kernel
theorem dX5_hessian_61 : decode cX5_hessian 61 = .ok (.getfield 25, 3) := by decide +kernel
theorem dX5_hessian_64 : decode cX5_hessian 64 = .ok (.invokevirtual 95, 3) := by decide +kernel
theorem dX5_hessian_67 : decode cX5_hessian 67 = .ok (.lreturn, 1) := by decide +kernel
theorem dX5_hessian_68 : decode cX5_hessian 68 = .ok (.ldc2_w 87, 3) := by decide +kernel
theorem dX5_hessian_71 : decode cX5_hessian 71 = .ok (.lreturn, 1) := by decide +kernel
theorem dX5_value_0 : decode cX5_value 0 = .ok (.aload_n 0, 1) := by decide +kernel
theorem dX5_value_1 : decode cX5_value 1 = .ok (.iload_n 1, 1) := by decide +kernel
theorem dX5_value_2 : decode cX5_value 2 = .ok (.aload_n 0, 1) := by decide +kernel
theorem dX5_value_3 : decode cX5_value 3 = .ok (.getfield 25, 3) := by decide +kernel
theorem dX5_value_6 : decode cX5_value 6 = .ok (.invokevirtual 79, 3) := by decide +kernel
theorem dX5_value_9 : decode cX5_value 9 = .ok (.ifCond .eq 25, 3) := by decide +kernel
theorem dX5_value_12 : decode cX5_value 12 = .ok (.iload_n 2, 1) := by decide +kernel
theorem dX5_value_13 : decode cX5_value 13 = .ok (.i2l, 1) := by decide +kernel
theorem dX5_value_14 : decode cX5_value 14 = .ok (.ldc2_w 98, 3) := by decide +kernel
theorem dX5_value_17 : decode cX5_value 17 = .ok (.invokestatic 100, 3) := by decide +kernel
theorem dX5_value_20 : decode cX5_value 20 = .ok (.ifCond .eq 14, 3) := by decide +kernel
theorem dX5_value_23 : decode cX5_value 23 = .ok (.iload_n 3, 1) := by decide +kernel
theorem dX5_value_24 : decode cX5_value 24 = .ok (.i2l, 1) := by decide +kernel
theorem dX5_value_25 : decode cX5_value 25 = .ok (.ldc2_w 98, 3) := by decide +kernel
theorem dX5_value_28 : decode cX5_value 28 = .ok (.invokestatic 100, 3) := by decide +kernel
theorem dX5_value_31 : decode cX5_value 31 = .ok (.ifCond .ne 7, 3) := by decide +kernel
theorem dX5_value_34 : decode cX5_value 34 = .ok (.ldc2_w 87, 3) := by decide +kernel
theorem dX5_value_37 : decode cX5_value 37 = .ok (.lreturn, 1) := by decide +kernel
theorem dX5_value_38 : decode cX5_value 38 = .ok (.aload_n 0, 1) := by decide +kernel
theorem dX5_value_39 : decode cX5_value 39 = .ok (.getfield 25, 3) := by decide +kernel
theorem dX5_value_42 : decode cX5_value 42 = .ok (.iload_n 2, 1) := by decide +kernel
theorem dX5_value_43 : decode cX5_value 43 = .ok (.i2l, 1) := by decide +kernel
theorem dX5_value_44 : decode cX5_value 44 = .ok (.iload_n 3, 1) := by decide +kernel
theorem dX5_value_45 : decode cX5_value 45 = .ok (.i2l, 1) := by decide +kernel
theorem dX5_value_46 : decode cX5_value 46 = .ok (.invokevirtual 104, 3) := by decide +kernel
theorem dX5_value_49 : decode cX5_value 49 = .ok (.lreturn, 1) := by decide +kernel
theorem dX5_substitute_0 : decode cX5_substitute 0 = .ok (.aload_n 0, 1) := by decide +kernel
theorem dX5_substitute_1 : decode cX5_substitute 1 = .ok (.iload_n 1, 1) := by decide +kernel
theorem dX5_substitute_2 : decode cX5_substitute 2 = .ok (.aload_n 0, 1) := by decide +kernel
theorem dX5_substitute_3 : decode cX5_substitute 3 = .ok (.getfield 29, 3) := by decide +kernel
theorem dX5_substitute_6 : decode cX5_substitute 6 = .ok (.invokevirtual 79, 3) := by decide +kernel
theorem dX5_substitute_9 : decode cX5_substitute 9 = .ok (.ifCond .ne 7, 3) := by decide +kernel
theorem dX5_substitute_12 : decode cX5_substitute 12 = .ok (.sipush (-10001), 3) := by decide +kernel
theorem dX5_substitute_15 : decode cX5_substitute 15 = .ok (.ireturn, 1) := by decide +kernel
theorem dX5_substitute_16 : decode cX5_substitute 16 = .ok (.iload_n 2, 1) := by decide +kernel
theorem dX5_substitute_17 : decode cX5_substitute 17 = .ok (.iload_n 3, 1) := by decide +kernel
theorem dX5_substitute_18 : decode cX5_substitute 18 = .ok (.iload 4, 2) := by decide +kernel
theorem dX5_substitute_20 : decode cX5_substitute 20 = .ok (.iload 5, 2) := by decide +kernel
theorem dX5_substitute_22 : decode cX5_substitute 22 = .ok (.invokestatic 108, 3) := by decide +kernel
theorem dX5_substitute_25 : decode cX5_substitute 25 = .ok (.ifCond .ne 7, 3) := by decide +kernel
theorem dX5_substitute_28 : decode cX5_substitute 28 = .ok (.sipush (-10003), 3) := by decide +kernel
theorem dX5_substitute_31 : decode cX5_substitute 31 = .ok (.ireturn, 1) := by decide +kernel
theorem dX5_substitute_32 : decode cX5_substitute 32 = .ok (.aload_n 0, 1) := by decide +kernel
theorem dX5_substitute_33 : decode cX5_substitute 33 = .ok (.getfield 25, 3) := by decide +kernel
theorem dX5_substitute_36 : decode cX5_substitute 36 = .ok (.aload_n 0, 1) := by decide +kernel
theorem dX5_substitute_37 : decode cX5_substitute 37 = .ok (.getfield 29, 3) := by decide +kernel
theorem dX5_substitute_40 : decode cX5_substitute 40 = .ok (.iload_n 2, 1) := by decide +kernel
theorem dX5_substitute_41 : decode cX5_substitute 41 = .ok (.i2l, 1) := by decide +kernel
theorem dX5_substitute_42 : decode cX5_substitute 42 = .ok (.iload_n 3, 1) := by decide +kernel
theorem dX5_substitute_43 : decode cX5_substitute 43 = .ok (.i2l, 1) := by decide +kernel
theorem dX5_substitute_44 : decode cX5_substitute 44 = .ok (.iload 4, 2) := by decide +kernel
theorem dX5_substitute_46 : decode cX5_substitute 46 = .ok (.i2l, 1) := by decide +kernel
theorem dX5_substitute_47 : decode cX5_substitute 47 = .ok (.iload 5, 2) := by decide +kernel
theorem dX5_substitute_49 : decode cX5_substitute 49 = .ok (.i2l, 1) := by decide +kernel
theorem dX5_substitute_50 : decode cX5_substitute 50 = .ok (.invokevirtual 112, 3) := by decide +kernel
theorem dX5_substitute_53 : decode cX5_substitute 53 = .ok (.aload_n 0, 1) := by decide +kernel
theorem dX5_substitute_54 : decode cX5_substitute 54 = .ok (.aload_n 0, 1) := by decide +kernel
theorem dX5_substitute_55 : decode cX5_substitute 55 = .ok (.getfield 25, 3) := by decide +kernel
theorem dX5_substitute_58 : decode cX5_substitute 58 = .ok (.invokevirtual 116, 3) := by decide +kernel
theorem dX5_substitute_61 : decode cX5_substitute 61 = .ok (.ireturn, 1) := by decide +kernel
theorem dX5_isReducible_0 : decode cX5_isReducible 0 = .ok (.aload_n 0, 1) := by decide +kernel
theorem dX5_isReducible_1 : decode cX5_isReducible 1 = .ok (.iload_n 1, 1) := by decide +kernel
theorem dX5_isReducible_2 : decode cX5_isReducible 2 = .ok (.aload_n 0, 1) := by decide +kernel
theorem dX5_isReducible_3 : decode cX5_isReducible 3 = .ok (.getfield 25, 3) := by decide +kernel
theorem dX5_isReducible_6 : decode cX5_isReducible 6 = .ok (.invokevirtual 79, 3) := by decide +kernel
theorem dX5_isReducible_9 : decode cX5_isReducible 9 = .ok (.ifCond .ne 7, 3) := by decide +kernel
theorem dX5_isReducible_12 : decode cX5_isReducible 12 = .ok (.sipush (-10001), 3) := by decide +kernel
theorem dX5_isReducible_15 : decode cX5_isReducible 15 = .ok (.ireturn, 1) := by decide +kernel
theorem dX5_isReducible_16 : decode cX5_isReducible 16 = .ok (.aload_n 0, 1) := by decide +kernel
theorem dX5_isReducible_17 : decode cX5_isReducible 17 = .ok (.getfield 25, 3) := by decide +kernel
theorem dX5_isReducible_20 : decode cX5_isReducible 20 = .ok (.invokevirtual 119, 3) := by decide +kernel
theorem dX5_isReducible_23 : decode cX5_isReducible 23 = .ok (.ifCond .eq 7, 3) := by decide +kernel
theorem dX5_isReducible_26 : decode cX5_isReducible 26 = .ok (.iconst 1, 1) := by decide +kernel
theorem dX5_isReducible_27 : decode cX5_isReducible 27 = .ok (.goto 4, 3) := by decide +kernel
theorem dX5_isReducible_30 : decode cX5_isReducible 30 = .ok (.iconst 0, 1) := by decide +kernel
theorem dX5_isReducible_31 : decode cX5_isReducible 31 = .ok (.ireturn, 1) := by decide +kernel
theorem dX5_canonical_0 : decode cX5_canonical 0 = .ok (.aload_n 0, 1) := by decide +kernel
theorem dX5_canonical_1 : decode cX5_canonical 1 = .ok (.iload_n 1, 1) := by decide +kernel
theorem dX5_canonical_2 : decode cX5_canonical 2 = .ok (.aload_n 0, 1) := by decide +kernel
theorem dX5_canonical_3 : decode cX5_canonical 3 = .ok (.getfield 25, 3) := by decide +kernel
theorem dX5_canonical_6 : decode cX5_canonical 6 = .ok (.invokevirtual 79, 3) := by decide +kernel
theorem dX5_canonical_9 : decode cX5_canonical 9 = .ok (.ifCond .ne 7, 3) := by decide +kernel
theorem dX5_canonical_12 : decode cX5_canonical 12 = .ok (.sipush (-10001), 3) := by decide +kernel
theorem dX5_canonical_15 : decode cX5_canonical 15 = .ok (.ireturn, 1) := by decide +kernel
theorem dX5_canonical_16 : decode cX5_canonical 16 = .ok (.aload_n 0, 1) := by decide +kernel
theorem dX5_canonical_17 : decode cX5_canonical 17 = .ok (.getfield 25, 3) := by decide +kernel
theorem dX5_canonical_20 : decode cX5_canonical 20 = .ok (.invokevirtual 83, 3) := by decide +kernel
theorem dX5_canonical_23 : decode cX5_canonical 23 = .ok (.lconst 0, 1) := by decide +kernel
theorem dX5_canonical_24 : decode cX5_canonical 24 = .ok (.lcmp, 1) := by decide +kernel
theorem dX5_canonical_25 : decode cX5_canonical 25 = .ok (.ifCond .gt 7, 3) := by decide +kernel
theorem dX5_canonical_28 : decode cX5_canonical 28 = .ok (.sipush (-10006), 3) := by decide +kernel
theorem dX5_canonical_31 : decode cX5_canonical 31 = .ok (.ireturn, 1) := by decide +kernel
theorem dX5_canonical_32 : decode cX5_canonical 32 = .ok (.aload_n 0, 1) := by decide +kernel
theorem dX5_canonical_33 : decode cX5_canonical 33 = .ok (.getfield 45, 3) := by decide +kernel
theorem dX5_canonical_36 : decode cX5_canonical 36 = .ok (.aload_n 0, 1) := by decide +kernel
theorem dX5_canonical_37 : decode cX5_canonical 37 = .ok (.getfield 25, 3) := by decide +kernel
theorem dX5_canonical_40 : decode cX5_canonical 40 = .ok (.invokevirtual 122, 3) := by decide +kernel
theorem dX5_canonical_43 : decode cX5_canonical 43 = .ok (.aload_n 0, 1) := by decide +kernel
theorem dX5_canonical_44 : decode cX5_canonical 44 = .ok (.aload_n 0, 1) := by decide +kernel
theorem dX5_canonical_45 : decode cX5_canonical 45 = .ok (.getfield 25, 3) := by decide +kernel
theorem dX5_canonical_48 : decode cX5_canonical 48 = .ok (.invokevirtual 116, 3) := by decide +kernel
theorem dX5_canonical_51 : decode cX5_canonical 51 = .ok (.ireturn, 1) := by decide +kernel
theorem dX5_areEquivalent_0 : decode cX5_areEquivalent 0 = .ok (.aload_n 0, 1) := by decide +kernel
theorem dX5_areEquivalent_1 : decode cX5_areEquivalent 1 = .ok (.iload_n 1, 1) := by decide +kernel
theorem dX5_areEquivalent_2 : decode cX5_areEquivalent 2 = .ok (.aload_n 0, 1) := by decide +kernel
theorem dX5_areEquivalent_3 : decode cX5_areEquivalent 3 = .ok (.getfield 25, 3) := by decide +kernel
theorem dX5_areEquivalent_6 : decode cX5_areEquivalent 6 = .ok (.invokevirtual 79, 3) := by decide +kernel
theorem dX5_areEquivalent_9 : decode cX5_areEquivalent 9 = .ok (.ifCond .eq 15, 3) := by decide +kernel
theorem dX5_areEquivalent_12 : decode cX5_areEquivalent 12 = .ok (.aload_n 0, 1) := by decide +kernel
theorem dX5_areEquivalent_13 : decode cX5_areEquivalent 13 = .ok (.iload_n 2, 1) := by decide +kernel
theorem dX5_areEquivalent_14 : decode cX5_areEquivalent 14 = .ok (.aload_n 0, 1) := by decide +kernel
theorem dX5_areEquivalent_15 : decode cX5_areEquivalent 15 = .ok (.getfield 29, 3) := by decide +kernel
theorem dX5_areEquivalent_18 : decode cX5_areEquivalent 18 = .ok (.invokevirtual 79, 3) := by decide +kernel
theorem dX5_areEquivalent_21 : decode cX5_areEquivalent 21 = .ok (.ifCond .ne 7, 3) := by decide +kernel
theorem dX5_areEquivalent_24 : decode cX5_areEquivalent 24 = .ok (.sipush (-10001), 3) := by decide +kernel
theorem dX5_areEquivalent_27 : decode cX5_areEquivalent 27 = .ok (.ireturn, 1) := by decide +kernel
theorem dX5_areEquivalent_28 : decode cX5_areEquivalent 28 = .ok (.aload_n 0, 1) := by decide +kernel
theorem dX5_areEquivalent_29 : decode cX5_areEquivalent 29 = .ok (.getfield 25, 3) := by decide +kernel
theorem dX5_areEquivalent_32 : decode cX5_areEquivalent 32 = .ok (.invokevirtual 83, 3) := by decide +kernel
theorem dX5_areEquivalent_35 : decode cX5_areEquivalent 35 = .ok (.lconst 0, 1) := by decide +kernel
theorem dX5_areEquivalent_36 : decode cX5_areEquivalent 36 = .ok (.lcmp, 1) := by decide +kernel
theorem dX5_areEquivalent_37 : decode cX5_areEquivalent 37 = .ok (.ifCond .le 15, 3) := by decide +kernel
theorem dX5_areEquivalent_40 : decode cX5_areEquivalent 40 = .ok (.aload_n 0, 1) := by decide +kernel
theorem dX5_areEquivalent_41 : decode cX5_areEquivalent 41 = .ok (.getfield 29, 3) := by decide +kernel
theorem dX5_areEquivalent_44 : decode cX5_areEquivalent 44 = .ok (.invokevirtual 83, 3) := by decide +kernel
theorem dX5_areEquivalent_47 : decode cX5_areEquivalent 47 = .ok (.lconst 0, 1) := by decide +kernel
theorem dX5_areEquivalent_48 : decode cX5_areEquivalent 48 = .ok (.lcmp, 1) := by decide +kernel
theorem dX5_areEquivalent_49 : decode cX5_areEquivalent 49 = .ok (.ifCond .gt 7, 3) := by decide +kernel
theorem dX5_areEquivalent_52 : decode cX5_areEquivalent 52 = .ok (.sipush (-10006), 3) := by decide +kernel
theorem dX5_areEquivalent_55 : decode cX5_areEquivalent 55 = .ok (.ireturn, 1) := by decide +kernel
theorem dX5_areEquivalent_56 : decode cX5_areEquivalent 56 = .ok (.aload_n 0, 1) := by decide +kernel
theorem dX5_areEquivalent_57 : decode cX5_areEquivalent 57 = .ok (.getfield 45, 3) := by decide +kernel
theorem dX5_areEquivalent_60 : decode cX5_areEquivalent 60 = .ok (.aload_n 0, 1) := by decide +kernel
theorem dX5_areEquivalent_61 : decode cX5_areEquivalent 61 = .ok (.getfield 25, 3) := by decide +kernel
theorem dX5_areEquivalent_64 : decode cX5_areEquivalent 64 = .ok (.invokevirtual 122, 3) := by decide +kernel
theorem dX5_areEquivalent_67 : decode cX5_areEquivalent 67 = .ok (.aload_n 0, 1) := by decide +kernel
theorem dX5_areEquivalent_68 : decode cX5_areEquivalent 68 = .ok (.getfield 45, 3) := by decide +kernel
theorem dX5_areEquivalent_71 : decode cX5_areEquivalent 71 = .ok (.aload_n 0, 1) := by decide +kernel
theorem dX5_areEquivalent_72 : decode cX5_areEquivalent 72 = .ok (.getfield 29, 3) := by decide +kernel
theorem dX5_areEquivalent_75 : decode cX5_areEquivalent 75 = .ok (.invokevirtual 122, 3) := by decide +kernel
theorem dX5_areEquivalent_78 : decode cX5_areEquivalent 78 = .ok (.aload_n 0, 1) := by decide +kernel
theorem dX5_areEquivalent_79 : decode cX5_areEquivalent 79 = .ok (.getfield 25, 3) := by decide +kernel
theorem dX5_areEquivalent_82 : decode cX5_areEquivalent 82 = .ok (.aload_n 0, 1) := by decide +kernel
theorem dX5_areEquivalent_83 : decode cX5_areEquivalent 83 = .ok (.getfield 29, 3) := by decide +kernel
theorem dX5_areEquivalent_86 : decode cX5_areEquivalent 86 = .ok (.invokevirtual 126, 3) := by decide +kernel
theorem dX5_areEquivalent_89 : decode cX5_areEquivalent 89 = .ok (.ifCond .eq 7, 3) := by decide +kernel
theorem dX5_areEquivalent_92 : decode cX5_areEquivalent 92 = .ok (.iconst 1, 1) := by decide +kernel
theorem dX5_areEquivalent_93 : decode cX5_areEquivalent 93 = .ok (.goto 4, 3) := by decide +kernel
theorem dX5_areEquivalent_96 : decode cX5_areEquivalent 96 = .ok (.iconst 0, 1) := by decide +kernel
theorem dX5_areEquivalent_97 : decode cX5_areEquivalent 97 = .ok (.ireturn, 1) := by decide +kernel
