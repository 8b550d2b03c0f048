theorem dX10_takeFrom_44 : decode cX10_takeFrom 44 = .ok (.aload_n 0, 1) := by decide +kernel
theorem dX10_takeFrom_45 : decode cX10_takeFrom 45 = .ok (.aload_n 1, 1) := by decide +kernel
theorem dX10_takeFrom_46 : decode cX10_takeFrom 46 = .ok (.getfield 40, 3) := by decide +kernel
theorem dX10_takeFrom_49 : decode cX10_takeFrom 49 = .ok (.aload_n 1, 1) := by decide +kernel
theorem dX10_takeFrom_50 : decode cX10_takeFrom 50 = .ok (.getfield 43, 3) := by decide +kernel
theorem dX10_takeFrom_53 : decode cX10_takeFrom 53 = .ok (.aload_n 1, 1) := by decide +kernel
theorem dX10_takeFrom_54 : decode cX10_takeFrom 54 = .ok (.getfield 46, 3) := by decide +kernel
theorem dX10_takeFrom_57 : decode cX10_takeFrom 57 = .ok (.aload_n 1, 1) := by decide +kernel
theorem dX10_takeFrom_58 : decode cX10_takeFrom 58 = .ok (.getfield 49, 3) := by decide +kernel
theorem dX10_takeFrom_61 : decode cX10_takeFrom 61 = .ok (.invokevirtual 33, 3) := by decide +kernel
theorem dX10_takeFrom_64 : decode cX10_takeFrom 64 = .ok (.return_, 1) := by decide +kernel
theorem dX10_setLook_0 : decode cX10_setLook 0 = .ok (.aload_n 0, 1) := by decide +kernel
theorem dX10_setLook_1 : decode cX10_setLook 1 = .ok (.iload_n 1, 1) := by decide +kernel
theorem dX10_setLook_2 : decode cX10_setLook 2 = .ok (.putfield 40, 3) := by decide +kernel
theorem dX10_setLook_5 : decode cX10_setLook 5 = .ok (.aload_n 0, 1) := by decide +kernel
theorem dX10_setLook_6 : decode cX10_setLook 6 = .ok (.iload_n 2, 1) := by decide +kernel
theorem dX10_setLook_7 : decode cX10_setLook 7 = .ok (.putfield 43, 3) := by decide +kernel
theorem dX10_setLook_10 : decode cX10_setLook 10 = .ok (.aload_n 0, 1) := by decide +kernel
theorem dX10_setLook_11 : decode cX10_setLook 11 = .ok (.iload_n 3, 1) := by decide +kernel
theorem dX10_setLook_12 : decode cX10_setLook 12 = .ok (.putfield 46, 3) := by decide +kernel
theorem dX10_setLook_15 : decode cX10_setLook 15 = .ok (.aload_n 0, 1) := by decide +kernel
theorem dX10_setLook_16 : decode cX10_setLook 16 = .ok (.iload 4, 2) := by decide +kernel
theorem dX10_setLook_18 : decode cX10_setLook 18 = .ok (.putfield 49, 3) := by decide +kernel
theorem dX10_setLook_21 : decode cX10_setLook 21 = .ok (.return_, 1) := by decide +kernel
theorem dX10_judge_0 : decode cX10_judge 0 = .ok (.aload_n 0, 1) := by decide +kernel
theorem dX10_judge_1 : decode cX10_judge 1 = .ok (.iload_n 1, 1) := by decide +kernel
theorem dX10_judge_2 : decode cX10_judge 2 = .ok (.iload_n 2, 1) := by decide +kernel
theorem dX10_judge_3 : decode cX10_judge 3 = .ok (.iload_n 3, 1) := by decide +kernel
theorem dX10_judge_4 : decode cX10_judge 4 = .ok (.iload 4, 2) := by decide +kernel
theorem dX10_judge_6 : decode cX10_judge 6 = .ok (.invokevirtual 33, 3) := by decide +kernel
theorem dX10_judge_9 : decode cX10_judge 9 = .ok (.aload_n 0, 1) := by decide +kernel
theorem dX10_judge_10 : decode cX10_judge 10 = .ok (.dup, 1) := by decide +kernel
theorem dX10_judge_11 : decode cX10_judge 11 = .ok (.getfield 24, 3) := by decide +kernel
theorem dX10_judge_14 : decode cX10_judge 14 = .ok (.iconst 1, 1) := by decide +kernel
theorem dX10_judge_15 : decode cX10_judge 15 = .ok (.iadd, 1) := by decide +kernel
theorem dX10_judge_16 : decode cX10_judge 16 = .ok (.putfield 24, 3) := by decide +kernel
theorem dX10_judge_19 : decode cX10_judge 19 = .ok (.aload_n 0, 1) := by decide +kernel
theorem dX10_judge_20 : decode cX10_judge 20 = .ok (.getfield 40, 3) := by decide +kernel
theorem dX10_judge_23 : decode cX10_judge 23 = .ok (.aload_n 0, 1) := by decide +kernel
theorem dX10_judge_24 : decode cX10_judge 24 = .ok (.getfield 43, 3) := by decide +kernel
theorem dX10_judge_27 : decode cX10_judge 27 = .ok (.iadd, 1) := by decide +kernel
theorem dX10_judge_28 : decode cX10_judge 28 = .ok (.aload_n 0, 1) := by decide +kernel
theorem dX10_judge_29 : decode cX10_judge 29 = .ok (.getfield 46, 3) := by decide +kernel
theorem dX10_judge_32 : decode cX10_judge 32 = .ok (.aload_n 0, 1) := by decide +kernel
theorem dX10_judge_33 : decode cX10_judge 33 = .ok (.getfield 49, 3) := by decide +kernel
theorem dX10_judge_36 : decode cX10_judge 36 = .ok (.iadd, 1) := by decide +kernel
theorem dX10_judge_37 : decode cX10_judge 37 = .ok (.invokestatic 52, 3) := by decide +kernel
theorem dX10_judge_40 : decode cX10_judge 40 = .ok (.lstore 5, 2) := by decide +kernel
theorem dX10_judge_42 : decode cX10_judge 42 = .ok (.aload_n 0, 1) := by decide +kernel
theorem dX10_judge_43 : decode cX10_judge 43 = .ok (.invokevirtual 56, 3) := by decide +kernel
theorem dX10_judge_46 : decode cX10_judge 46 = .ok (.lstore 7, 2) := by decide +kernel
theorem dX10_judge_48 : decode cX10_judge 48 = .ok (.aload_n 0, 1) := by decide +kernel
theorem dX10_judge_49 : decode cX10_judge 49 = .ok (.lload 7, 2) := by decide +kernel
theorem dX10_judge_51 : decode cX10_judge 51 = .ok (.lload 5, 2) := by decide +kernel
theorem dX10_judge_53 : decode cX10_judge 53 = .ok (.invokestatic 60, 3) := by decide +kernel
theorem dX10_judge_56 : decode cX10_judge 56 = .ok (.putfield 30, 3) := by decide +kernel
theorem dX10_judge_59 : decode cX10_judge 59 = .ok (.aload_n 0, 1) := by decide +kernel
theorem dX10_judge_60 : decode cX10_judge 60 = .ok (.lload 7, 2) := by decide +kernel
theorem dX10_judge_62 : decode cX10_judge 62 = .ok (.lload 5, 2) := by decide +kernel
theorem dX10_judge_64 : decode cX10_judge 64 = .ok (.invokevirtual 64, 3) := by decide +kernel
theorem dX10_judge_67 : decode cX10_judge 67 = .ok (.ifCond .eq 14, 3) := by decide +kernel
theorem dX10_judge_70 : decode cX10_judge 70 = .ok (.aload_n 0, 1) := by decide +kernel
theorem dX10_judge_71 : decode cX10_judge 71 = .ok (.aload_n 0, 1) := by decide +kernel
theorem dX10_judge_72 : decode cX10_judge 72 = .ok (.invokevirtual 68, 3) := by decide +kernel
theorem dX10_judge_75 : decode cX10_judge 75 = .ok (.putfield 27, 3) := by decide +kernel
theorem dX10_judge_78 : decode cX10_judge 78 = .ok (.goto 23, 3) := by decide +kernel
theorem dX10_judge_81 : decode cX10_judge 81 = .ok (.aload_n 0, 1) := by decide +kernel
theorem dX10_judge_82 : decode cX10_judge 82 = .ok (.aload_n 0, 1) := by decide +kernel
theorem dX10_judge_83 : decode cX10_judge 83 = .ok (.getfield 24, 3) := by decide +kernel
theorem dX10_judge_86 : decode cX10_judge 86 = .ok (.aload_n 0, 1) := by decide +kernel
theorem dX10_judge_87 : decode cX10_judge 87 = .ok (.getfield 21, 3) := by decide +kernel
theorem dX10_judge_90 : decode cX10_judge 90 = .ok (.if_icmp .lt 7, 3) := by decide +kernel
theorem dX10_judge_93 : decode cX10_judge 93 = .ok (.iconst 3, 1) := by decide +kernel
theorem dX10_judge_94 : decode cX10_judge 94 = .ok (.goto 4, 3) := by decide +kernel
theorem dX10_judge_97 : decode cX10_judge 97 = .ok (.iconst 0, 1) := by decide +kernel
theorem dX10_judge_98 : decode cX10_judge 98 = .ok (.putfield 27, 3) := by decide +kernel
theorem dX10_judge_101 : decode cX10_judge 101 = .ok (.aload_n 0, 1) := by decide +kernel
theorem dX10_judge_102 : decode cX10_judge 102 = .ok (.getfield 27, 3) := by decide +kernel
theorem dX10_judge_105 : decode cX10_judge 105 = .ok (.ireturn, 1) := by decide +kernel
theorem dX10_better_0 : decode cX10_better 0 = .ok (.aload_n 0, 1) := by decide +kernel
theorem dX10_better_1 : decode cX10_better 1 = .ok (.getfield 46, 3) := by decide +kernel
theorem dX10_better_4 : decode cX10_better 4 = .ok (.aload_n 0, 1) := by decide +kernel
theorem dX10_better_5 : decode cX10_better 5 = .ok (.getfield 43, 3) := by decide +kernel
theorem dX10_better_8 : decode cX10_better 8 = .ok (.imul, 1) := by decide +kernel
theorem dX10_better_9 : decode cX10_better 9 = .ok (.aload_n 0, 1) := by decide +kernel
theorem dX10_better_10 : decode cX10_better 10 = .ok (.getfield 49, 3) := by decide +kernel
theorem dX10_better_13 : decode cX10_better 13 = .ok (.aload_n 0, 1) := by decide +kernel
theorem dX10_better_14 : decode cX10_better 14 = .ok (.getfield 40, 3) := by decide +kernel
theorem dX10_better_17 : decode cX10_better 17 = .ok (.imul, 1) := by decide +kernel
theorem dX10_better_18 : decode cX10_better 18 = .ok (.isub, 1) := by decide +kernel
theorem dX10_better_19 : decode cX10_better 19 = .ok (.istore_n 1, 1) := by decide +kernel
theorem dX10_better_20 : decode cX10_better 20 = .ok (.iload_n 1, 1) := by decide +kernel
theorem dX10_better_21 : decode cX10_better 21 = .ok (.ifCond .ne 5, 3) := by decide +kernel
theorem dX10_better_24 : decode cX10_better 24 = .ok (.iconst 3, 1) := by decide +kernel
theorem dX10_better_25 : decode cX10_better 25 = .ok (.ireturn, 1) := by decide +kernel
theorem dX10_better_26 : decode cX10_better 26 = .ok (.iload_n 1, 1) := by decide +kernel
theorem dX10_better_27 : decode cX10_better 27 = .ok (.ifCond .le 7, 3) := by decide +kernel
theorem dX10_better_30 : decode cX10_better 30 = .ok (.iconst 1, 1) := by decide +kernel
theorem dX10_better_31 : decode cX10_better 31 = .ok (.goto 4, 3) := by decide +kernel
theorem dX10_better_34 : decode cX10_better 34 = .ok (.iconst 2, 1) := by decide +kernel
theorem dX10_better_35 : decode cX10_better 35 = .ok (.ireturn, 1) := by decide +kernel
theorem dX10_dealsAsFarApart_0 : decode cX10_dealsAsFarApart 0 = .ok (.aload_n 0, 1) := by decide +kernel
theorem dX10_dealsAsFarApart_1 : decode cX10_dealsAsFarApart 1 = .ok (.getfield 46, 3) := by decide +kernel
theorem dX10_dealsAsFarApart_4 : decode cX10_dealsAsFarApart 4 = .ok (.aload_n 0, 1) := by decide +kernel
theorem dX10_dealsAsFarApart_5 : decode cX10_dealsAsFarApart 5 = .ok (.getfield 49, 3) := by decide +kernel
theorem dX10_dealsAsFarApart_8 : decode cX10_dealsAsFarApart 8 = .ok (.iadd, 1) := by decide +kernel
theorem dX10_dealsAsFarApart_9 : decode cX10_dealsAsFarApart 9 = .ok (.istore_n 1, 1) := by decide +kernel
theorem dX10_dealsAsFarApart_10 : decode cX10_dealsAsFarApart 10 = .ok (.aload_n 0, 1) := by decide +kernel
theorem dX10_dealsAsFarApart_11 : decode cX10_dealsAsFarApart 11 = .ok (.getfield 46, 3) := by decide +kernel
theorem dX10_dealsAsFarApart_14 : decode cX10_dealsAsFarApart 14 = .ok (.aload_n 0, 1) := by decide +kernel
theorem dX10_dealsAsFarApart_15 : decode cX10_dealsAsFarApart 15 = .ok (.getfield 43, 3) := by decide +kernel
theorem dX10_dealsAsFarApart_18 : decode cX10_dealsAsFarApart 18 = .ok (.imul, 1) := by decide +kernel
theorem dX10_dealsAsFarApart_19 : decode cX10_dealsAsFarApart 19 = .ok (.aload_n 0, 1) := by decide +kernel
theorem dX10_dealsAsFarApart_20 : decode cX10_dealsAsFarApart 20 = .ok (.getfield 49, 3) := by decide +kernel
theorem dX10_dealsAsFarApart_23 : decode cX10_dealsAsFarApart 23 = .ok (.aload_n 0, 1) := by decide +kernel
theorem dX10_dealsAsFarApart_24 : decode cX10_dealsAsFarApart 24 = .ok (.getfield 40, 3) := by decide +kernel
theorem dX10_dealsAsFarApart_27 : decode cX10_dealsAsFarApart 27 = .ok (.imul, 1) := by decide +kernel
theorem dX10_dealsAsFarApart_28 : decode cX10_dealsAsFarApart 28 = .ok (.isub, 1) := by decide +kernel
theorem dX10_dealsAsFarApart_29 : decode cX10_dealsAsFarApart 29 = .ok (.invokestatic 72, 3) := by decide +kernel
theorem dX10_dealsAsFarApart_32 : decode cX10_dealsAsFarApart 32 = .ok (.istore_n 2, 1) := by decide +kernel
theorem dX10_dealsAsFarApart_33 : decode cX10_dealsAsFarApart 33 = .ok (.lconst 0, 1) := by decide +kernel
theorem dX10_dealsAsFarApart_34 : decode cX10_dealsAsFarApart 34 = .ok (.lstore_n 3, 1) := by decide +kernel
theorem dX10_dealsAsFarApart_35 : decode cX10_dealsAsFarApart 35 = .ok (.iconst 0, 1) := by decide +kernel
theorem dX10_dealsAsFarApart_36 : decode cX10_dealsAsFarApart 36 = .ok (.iload_n 1, 1) := by decide +kernel
theorem dX10_dealsAsFarApart_37 : decode cX10_dealsAsFarApart 37 = .ok (.aload_n 0, 1) := by decide +kernel
theorem dX10_dealsAsFarApart_38 : decode cX10_dealsAsFarApart 38 = .ok (.getfield 43, 3) := by decide +kernel
theorem dX10_dealsAsFarApart_41 : decode cX10_dealsAsFarApart 41 = .ok (.isub, 1) := by decide +kernel
theorem dX10_dealsAsFarApart_42 : decode cX10_dealsAsFarApart 42 = .ok (.invokestatic 78, 3) := by decide +kernel
theorem dX10_dealsAsFarApart_45 : decode cX10_dealsAsFarApart 45 = .ok (.istore 5, 2) := by decide +kernel
theorem dX10_dealsAsFarApart_47 : decode cX10_dealsAsFarApart 47 = .ok (.iload 5, 2) := by decide +kernel
theorem dX10_dealsAsFarApart_49 : decode cX10_dealsAsFarApart 49 = .ok (.aload_n 0, 1) := by decide +kernel
theorem dX10_dealsAsFarApart_50 : decode cX10_dealsAsFarApart 50 = .ok (.getfield 40, 3) := by decide +kernel
theorem dX10_dealsAsFarApart_53 : decode cX10_dealsAsFarApart 53 = .ok (.iload_n 1, 1) := by decide +kernel
theorem dX10_dealsAsFarApart_54 : decode cX10_dealsAsFarApart 54 = .ok (.invokestatic 82, 3) := by decide +kernel
theorem dX10_dealsAsFarApart_57 : decode cX10_dealsAsFarApart 57 = .ok (.if_icmp .gt 57, 3) := by decide +kernel
theorem dX10_dealsAsFarApart_60 : decode cX10_dealsAsFarApart 60 = .ok (.iload 5, 2) := by decide +kernel
theorem dX10_dealsAsFarApart_62 : decode cX10_dealsAsFarApart 62 = .ok (.aload_n 0, 1) := by decide +kernel
theorem dX10_dealsAsFarApart_63 : decode cX10_dealsAsFarApart 63 = .ok (.getfield 43, 3) := by decide +kernel
theorem dX10_dealsAsFarApart_66 : decode cX10_dealsAsFarApart 66 = .ok (.imul, 1) := by decide +kernel
theorem dX10_dealsAsFarApart_67 : decode cX10_dealsAsFarApart 67 = .ok (.iload_n 1, 1) := by decide +kernel
theorem dX10_dealsAsFarApart_68 : decode cX10_dealsAsFarApart 68 = .ok (.iload 5, 2) := by decide +kernel
theorem dX10_dealsAsFarApart_70 : decode cX10_dealsAsFarApart 70 = .ok (.isub, 1) := by decide +kernel
theorem dX10_dealsAsFarApart_71 : decode cX10_dealsAsFarApart 71 = .ok (.aload_n 0, 1) := by decide +kernel
theorem dX10_dealsAsFarApart_72 : decode cX10_dealsAsFarApart 72 = .ok (.getfield 40, 3) := by decide +kernel
theorem dX10_dealsAsFarApart_75 : decode cX10_dealsAsFarApart 75 = .ok (.imul, 1) := by decide +kernel
theorem dX10_dealsAsFarApart_76 : decode cX10_dealsAsFarApart 76 = .ok (.isub, 1) := by decide +kernel
theorem dX10_dealsAsFarApart_77 : decode cX10_dealsAsFarApart 77 = .ok (.invokestatic 72, 3) := by decide +kernel
theorem dX10_dealsAsFarApart_80 : decode cX10_dealsAsFarApart 80 = .ok (.iload_n 2, 1) := by decide +kernel
theorem dX10_dealsAsFarApart_81 : decode cX10_dealsAsFarApart 81 = .ok (.if_icmp .lt 27, 3) := by decide +kernel
theorem dX10_dealsAsFarApart_84 : decode cX10_dealsAsFarApart 84 = .ok (.lload_n 3, 1) := by decide +kernel
theorem dX10_dealsAsFarApart_85 : decode cX10_dealsAsFarApart 85 = .ok (.aload_n 0, 1) := by decide +kernel
theorem dX10_dealsAsFarApart_86 : decode cX10_dealsAsFarApart 86 = .ok (.getfield 40, 3) := by decide +kernel
theorem dX10_dealsAsFarApart_89 : decode cX10_dealsAsFarApart 89 = .ok (.iload 5, 2) := by decide +kernel
theorem dX10_dealsAsFarApart_91 : decode cX10_dealsAsFarApart 91 = .ok (.invokestatic 52, 3) := by decide +kernel
theorem dX10_dealsAsFarApart_94 : decode cX10_dealsAsFarApart 94 = .ok (.aload_n 0, 1) := by decide +kernel
theorem dX10_dealsAsFarApart_95 : decode cX10_dealsAsFarApart 95 = .ok (.getfield 43, 3) := by decide +kernel
theorem dX10_dealsAsFarApart_98 : decode cX10_dealsAsFarApart 98 = .ok (.iload_n 1, 1) := by decide +kernel
theorem dX10_dealsAsFarApart_99 : decode cX10_dealsAsFarApart 99 = .ok (.iload 5, 2) := by decide +kernel
theorem dX10_dealsAsFarApart_101 : decode cX10_dealsAsFarApart 101 = .ok (.isub, 1) := by decide +kernel
theorem dX10_dealsAsFarApart_102 : decode cX10_dealsAsFarApart 102 = .ok (.invokestatic 52, 3) := by decide +kernel
theorem dX10_dealsAsFarApart_105 : decode cX10_dealsAsFarApart 105 = .ok (.lmul, 1) := by decide +kernel
theorem dX10_dealsAsFarApart_106 : decode cX10_dealsAsFarApart 106 = .ok (.ladd, 1) := by decide +kernel
theorem dX10_dealsAsFarApart_107 : decode cX10_dealsAsFarApart 107 = .ok (.lstore_n 3, 1) := by decide +kernel
theorem dX10_dealsAsFarApart_108 : decode cX10_dealsAsFarApart 108 = .ok (.iinc 5 1, 3) := by decide +kernel
theorem dX10_dealsAsFarApart_111 : decode cX10_dealsAsFarApart 111 = .ok (.goto (-64), 3) := by decide +kernel
theorem dX10_dealsAsFarApart_114 : decode cX10_dealsAsFarApart 114 = .ok (.lload_n 3, 1) := by decide +kernel
theorem dX10_dealsAsFarApart_115 : decode cX10_dealsAsFarApart 115 = .ok (.lreturn, 1) := by decide +kernel
theorem dX10_isRare_0 : decode cX10_isRare 0 = .ok (.ldc2_w 85, 3) := by decide +kernel
theorem dX10_isRare_3 : decode cX10_isRare 3 = .ok (.aload_n 0, 1) := by decide +kernel
theorem dX10_isRare_4 : decode cX10_isRare 4 = .ok (.getfield 21, 3) := by decide +kernel
theorem dX10_isRare_7 : decode cX10_isRare 7 = .ok (.i2l, 1) := by decide +kernel
theorem dX10_isRare_8 : decode cX10_isRare 8 = .ok (.lmul, 1) := by decide +kernel
theorem dX10_isRare_9 : decode cX10_isRare 9 = .ok (.lstore 5, 2) := by decide +kernel
theorem dX10_isRare_11 : decode cX10_isRare 11 = .ok (.lload 5, 2) := by decide +kernel
theorem dX10_isRare_13 : decode cX10_isRare 13 = .ok (.lconst 0, 1) := by decide +kernel
theorem dX10_isRare_14 : decode cX10_isRare 14 = .ok (.lcmp, 1) := by decide +kernel
theorem dX10_isRare_15 : decode cX10_isRare 15 = .ok (.ifCond .gt 5, 3) := by decide +kernel
theorem dX10_isRare_18 : decode cX10_isRare 18 = .ok (.iconst 0, 1) := by decide +kernel
theorem dX10_isRare_19 : decode cX10_isRare 19 = .ok (.ireturn, 1) := by decide +kernel
theorem dX10_isRare_20 : decode cX10_isRare 20 = .ok (.lload_n 1, 1) := by decide +kernel
theorem dX10_isRare_21 : decode cX10_isRare 21 = .ok (.aload_n 0, 1) := by decide +kernel
theorem dX10_isRare_22 : decode cX10_isRare 22 = .ok (.getfield 18, 3) := by decide +kernel
theorem dX10_isRare_25 : decode cX10_isRare 25 = .ok (.i2l, 1) := by decide +kernel
theorem dX10_isRare_26 : decode cX10_isRare 26 = .ok (.lload_n 3, 1) := by decide +kernel
theorem dX10_isRare_27 : decode cX10_isRare 27 = .ok (.lload 5, 2) := by decide +kernel
theorem dX10_isRare_29 : decode cX10_isRare 29 = .ok (.ldiv, 1) := by decide +kernel
theorem dX10_isRare_30 : decode cX10_isRare 30 = .ok (.lmul, 1) := by decide +kernel
theorem dX10_isRare_31 : decode cX10_isRare 31 = .ok (.aload_n 0, 1) := by decide +kernel
theorem dX10_isRare_32 : decode cX10_isRare 32 = .ok (.getfield 18, 3) := by decide +kernel
theorem dX10_isRare_35 : decode cX10_isRare 35 = .ok (.i2l, 1) := by decide +kernel
theorem dX10_isRare_36 : decode cX10_isRare 36 = .ok (.lload_n 3, 1) := by decide +kernel
theorem dX10_isRare_37 : decode cX10_isRare 37 = .ok (.lload 5, 2) := by decide +kernel
theorem dX10_isRare_39 : decode cX10_isRare 39 = .ok (.lrem, 1) := by decide +kernel
theorem dX10_isRare_40 : decode cX10_isRare 40 = .ok (.lmul, 1) := by decide +kernel
theorem dX10_isRare_41 : decode cX10_isRare 41 = .ok (.lload 5, 2) := by decide +kernel
theorem dX10_isRare_43 : decode cX10_isRare 43 = .ok (.ldiv, 1) := by decide +kernel
theorem dX10_isRare_44 : decode cX10_isRare 44 = .ok (.ladd, 1) := by decide +kernel
theorem dX10_isRare_45 : decode cX10_isRare 45 = .ok (.lcmp, 1) := by decide +kernel
theorem dX10_isRare_46 : decode cX10_isRare 46 = .ok (.ifCond .gt 7, 3) := by decide +kernel
theorem dX10_isRare_49 : decode cX10_isRare 49 = .ok (.iconst 1, 1) := by decide +kernel
theorem dX10_isRare_50 : decode cX10_isRare 50 = .ok (.goto 4, 3) := by decide +kernel
theorem dX10_isRare_53 : decode cX10_isRare 53 = .ok (.iconst 0, 1) := by decide +kernel
theorem dX10_isRare_54 : decode cX10_isRare 54 = .ok (.ireturn, 1) := by decide +kernel
theorem dX10_inMillionths_0 : decode cX10_inMillionths 0 = .ok (.lload_n 2, 1) := by decide +kernel
theorem dX10_inMillionths_1 : decode cX10_inMillionths 1 = .ok (.lconst 0, 1) := by decide +kernel
theorem dX10_inMillionths_2 : decode cX10_inMillionths 2 = .ok (.lcmp, 1) := by decide +kernel
theorem dX10_inMillionths_3 : decode cX10_inMillionths 3 = .ok (.ifCond .gt 5, 3) := by decide +kernel
theorem dX10_inMillionths_6 : decode cX10_inMillionths 6 = .ok (.iconst 0, 1) := by decide +kernel
theorem dX10_inMillionths_7 : decode cX10_inMillionths 7 = .ok (.ireturn, 1) := by decide +kernel
theorem dX10_inMillionths_8 : decode cX10_inMillionths 8 = .ok (.lload_n 0, 1) := by decide +kernel
theorem dX10_inMillionths_9 : decode cX10_inMillionths 9 = .ok (.lload_n 2, 1) := by decide +kernel
theorem dX10_inMillionths_10 : decode cX10_inMillionths 10 = .ok (.ldiv, 1) := by decide +kernel
theorem dX10_inMillionths_11 : decode cX10_inMillionths 11 = .ok (.lstore 4, 2) := by decide +kernel
theorem dX10_inMillionths_13 : decode cX10_inMillionths 13 = .ok (.lload_n 0, 1) := by decide +kernel
theorem dX10_inMillionths_14 : decode cX10_inMillionths 14 = .ok (.lload_n 2, 1) := by decide +kernel
theorem dX10_inMillionths_15 : decode cX10_inMillionths 15 = .ok (.lrem, 1) := by decide +kernel
theorem dX10_inMillionths_16 : decode cX10_inMillionths 16 = .ok (.lstore 6, 2) := by decide +kernel
theorem dX10_inMillionths_18 : decode cX10_inMillionths 18 = .ok (.iconst 0, 1) := by decide +kernel
theorem dX10_inMillionths_19 : decode cX10_inMillionths 19 = .ok (.istore 8, 2) := by decide +kernel
theorem dX10_inMillionths_21 : decode cX10_inMillionths 21 = .ok (.iload 8, 2) := by decide +kernel
theorem dX10_inMillionths_23 : decode cX10_inMillionths 23 = .ok (.bipush 6, 2) := by decide +kernel
theorem dX10_inMillionths_25 : decode cX10_inMillionths 25 = .ok (.if_icmp .ge 36, 3) := by decide +kernel
theorem dX10_inMillionths_28 : decode cX10_inMillionths 28 = .ok (.lload 6, 2) := by decide +kernel
theorem dX10_inMillionths_30 : decode cX10_inMillionths 30 = .ok (.ldc2_w 87, 3) := by decide +kernel
theorem dX10_inMillionths_33 : decode cX10_inMillionths 33 = .ok (.lmul, 1) := by decide +kernel
theorem dX10_inMillionths_34 : decode cX10_inMillionths 34 = .ok (.lstore 6, 2) := by decide +kernel
theorem dX10_inMillionths_36 : decode cX10_inMillionths 36 = .ok (.lload 4, 2) := by decide +kernel
theorem dX10_inMillionths_38 : decode cX10_inMillionths 38 = .ok (.ldc2_w 87, 3) := by decide +kernel
theorem dX10_inMillionths_41 : decode cX10_inMillionths 41 = .ok (.lmul, 1) := by decide +kernel
theorem dX10_inMillionths_42 : decode cX10_inMillionths 42 = .ok (.lload 6, 2) := by decide +kernel
theorem dX10_inMillionths_44 : decode cX10_inMillionths 44 = .ok (.lload_n 2, 1) := by decide +kernel
theorem dX10_inMillionths_45 : decode cX10_inMillionths 45 = .ok (.ldiv, 1) := by decide +kernel
theorem dX10_inMillionths_46 : decode cX10_inMillionths 46 = .ok (.ladd, 1) := by decide +kernel
theorem dX10_inMillionths_47 : decode cX10_inMillionths 47 = .ok (.lstore 4, 2) := by decide +kernel
theorem dX10_inMillionths_49 : decode cX10_inMillionths 49 = .ok (.lload 6, 2) := by decide +kernel
theorem dX10_inMillionths_51 : decode cX10_inMillionths 51 = .ok (.lload_n 2, 1) := by decide +kernel
theorem dX10_inMillionths_52 : decode cX10_inMillionths 52 = .ok (.lrem, 1) := by decide +kernel
theorem dX10_inMillionths_53 : decode cX10_inMillionths 53 = .ok (.lstore 6, 2) := by decide +kernel
theorem dX10_inMillionths_55 : decode cX10_inMillionths 55 = .ok (.iinc 8 1, 3) := by decide +kernel
theorem dX10_inMillionths_58 : decode cX10_inMillionths 58 = .ok (.goto (-37), 3) := by decide +kernel
theorem dX10_inMillionths_61 : decode cX10_inMillionths 61 = .ok (.lload 4, 2) := by decide +kernel
theorem dX10_inMillionths_63 : decode cX10_inMillionths 63 = .ok (.l2i, 1) := by decide +kernel
theorem dX10_inMillionths_64 : decode cX10_inMillionths 64 = .ok (.ireturn, 1) := by decide +kernel
theorem dX10_choose_0 : decode cX10_choose 0 = .ok (.lconst 1, 1) := by decide +kernel
theorem dX10_choose_1 : decode cX10_choose 1 = .ok (.lstore_n 2, 1) := by decide +kernel
theorem dX10_choose_2 : decode cX10_choose 2 = .ok (.iconst 1, 1) := by decide +kernel
theorem dX10_choose_3 : decode cX10_choose 3 = .ok (.istore 4, 2) := by decide +kernel
theorem dX10_choose_5 : decode cX10_choose 5 = .ok (.iload 4, 2) := by decide +kernel
theorem dX10_choose_7 : decode cX10_choose 7 = .ok (.iload_n 1, 1) := by decide +kernel
theorem dX10_choose_8 : decode cX10_choose 8 = .ok (.if_icmp .gt 23, 3) := by decide +kernel
theorem dX10_choose_11 : decode cX10_choose 11 = .ok (.lload_n 2, 1) := by decide +kernel
theorem dX10_choose_12 : decode cX10_choose 12 = .ok (.iload_n 0, 1) := by decide +kernel
theorem dX10_choose_13 : decode cX10_choose 13 = .ok (.iload 4, 2) := by decide +kernel
theorem dX10_choose_15 : decode cX10_choose 15 = .ok (.isub, 1) := by decide +kernel
theorem dX10_choose_16 : decode cX10_choose 16 = .ok (.iconst 1, 1) := by decide +kernel
theorem dX10_choose_17 : decode cX10_choose 17 = .ok (.iadd, 1) := by decide +kernel
theorem dX10_choose_18 : decode cX10_choose 18 = .ok (.i2l, 1) := by decide +kernel
theorem dX10_choose_19 : decode cX10_choose 19 = .ok (.lmul, 1) := by decide +kernel
theorem dX10_choose_20 : decode cX10_choose 20 = .ok (.iload 4, 2) := by decide +kernel
theorem dX10_choose_22 : decode cX10_choose 22 = .ok (.i2l, 1) := by decide +kernel
theorem dX10_choose_23 : decode cX10_choose 23 = .ok (.ldiv, 1) := by decide +kernel
theorem dX10_choose_24 : decode cX10_choose 24 = .ok (.lstore_n 2, 1) := by decide +kernel
theorem dX10_choose_25 : decode cX10_choose 25 = .ok (.iinc 4 1, 3) := by decide +kernel
theorem dX10_choose_28 : decode cX10_choose 28 = .ok (.goto (-23), 3) := by decide +kernel
theorem dX10_choose_31 : decode cX10_choose 31 = .ok (.lload_n 2, 1) := by decide +kernel
theorem dX10_choose_32 : decode cX10_choose 32 = .ok (.lreturn, 1) := by decide +kernel
theorem dX11_init_0 : decode cX11_init 0 = .ok (.aload_n 0, 1) := by decide +kernel
theorem dX11_init_1 : decode cX11_init 1 = .ok (.invokespecial 1, 3) := by decide +kernel
theorem dX11_init_4 : decode cX11_init 4 = .ok (.aload_n 0, 1) := by decide +kernel
theorem dX11_init_5 : decode cX11_init 5 = .ok (.new 7, 3) := by decide +kernel
theorem dX11_init_8 : decode cX11_init 8 = .ok (.dup, 1) := by decide +kernel
theorem dX11_init_9 : decode cX11_init 9 = .ok (.invokespecial 9, 3) := by decide +kernel
theorem dX11_init_12 : decode cX11_init 12 = .ok (.putfield 10, 3) := by decide +kernel
theorem dX11_init_15 : decode cX11_init 15 = .ok (.aload_n 0, 1) := by decide +kernel
theorem dX11_init_16 : decode cX11_init 16 = .ok (.new 7, 3) := by decide +kernel
theorem dX11_init_19 : decode cX11_init 19 = .ok (.dup, 1) := by decide +kernel
theorem dX11_init_20 : decode cX11_init 20 = .ok (.invokespecial 9, 3) := by decide +kernel
theorem dX11_init_23 : decode cX11_init 23 = .ok (.putfield 16, 3) := by decide +kernel
theorem dX11_init_26 : decode cX11_init 26 = .ok (.aload_n 0, 1) := by decide +kernel
theorem dX11_init_27 : decode cX11_init 27 = .ok (.iconst 0, 1) := by decide +kernel
theorem dX11_init_28 : decode cX11_init 28 = .ok (.putfield 19, 3) := by decide +kernel
theorem dX11_init_31 : decode cX11_init 31 = .ok (.aload_n 0, 1) := by decide +kernel
theorem dX11_init_32 : decode cX11_init 32 = .ok (.new 23, 3) := by decide +kernel
theorem dX11_init_35 : decode cX11_init 35 = .ok (.dup, 1) := by decide +kernel
theorem dX11_init_36 : decode cX11_init 36 = .ok (.invokespecial 25, 3) := by decide +kernel
theorem dX11_init_39 : decode cX11_init 39 = .ok (.putfield 26, 3) := by decide +kernel
theorem dX11_init_42 : decode cX11_init 42 = .ok (.aload_n 0, 1) := by decide +kernel
theorem dX11_init_43 : decode cX11_init 43 = .ok (.new 30, 3) := by decide +kernel
theorem dX11_init_46 : decode cX11_init 46 = .ok (.dup, 1) := by decide +kernel
theorem dX11_init_47 : decode cX11_init 47 = .ok (.invokespecial 32, 3) := by decide +kernel
theorem dX11_init_50 : decode cX11_init 50 = .ok (.putfield 33, 3) := by decide +kernel
theorem dX11_init_53 : decode cX11_init 53 = .ok (.aload_n 0, 1) := by decide +kernel
theorem dX11_init_54 : decode cX11_init 54 = .ok (.bipush 14, 2) := by decide +kernel
theorem dX11_init_56 : decode cX11_init 56 = .ok (.newarray .int, 2) := by decide +kernel
theorem dX11_init_58 : decode cX11_init 58 = .ok (.putfield 37, 3) := by decide +kernel
theorem dX11_init_61 : decode cX11_init 61 = .ok (.return_, 1) := by decide +kernel
theorem dX11_caller_0 : decode cX11_caller 0 = .ok (.iload_n 1, 1) := by decide +kernel
theorem dX11_caller_1 : decode cX11_caller 1 = .ok (.ldc 41, 2) := by decide +kernel
theorem dX11_caller_3 : decode cX11_caller 3 = .ok (.invokestatic 42, 3) := by decide +kernel
theorem dX11_caller_6 : decode cX11_caller 6 = .ok (.ifCond .eq 32, 3) := by decide +kernel
theorem dX11_caller_9 : decode cX11_caller 9 = .ok (.iload_n 2, 1) := by decide +kernel
theorem dX11_caller_10 : decode cX11_caller 10 = .ok (.bipush 15, 2) := by decide +kernel
theorem dX11_caller_12 : decode cX11_caller 12 = .ok (.invokestatic 42, 3) := by decide +kernel
theorem dX11_caller_15 : decode cX11_caller 15 = .ok (.ifCond .eq 23, 3) := by decide +kernel
theorem dX11_caller_18 : decode cX11_caller 18 = .ok (.iload_n 3, 1) := by decide +kernel
theorem dX11_caller_19 : decode cX11_caller 19 = .ok (.sipush 4000, 3) := by decide +kernel
theorem dX11_caller_22 : decode cX11_caller 22 = .ok (.invokestatic 42, 3) := by decide +kernel
theorem dX11_caller_25 : decode cX11_caller 25 = .ok (.ifCond .eq 13, 3) := by decide +kernel
theorem dX11_caller_28 : decode cX11_caller 28 = .ok (.iload 4, 2) := by decide +kernel
theorem dX11_caller_30 : decode cX11_caller 30 = .ok (.bipush 7, 2) := by decide +kernel
theorem dX11_caller_32 : decode cX11_caller 32 = .ok (.invokestatic 42, 3) := by decide +kernel
theorem dX11_caller_35 : decode cX11_caller 35 = .ok (.ifCond .ne 10, 3) := by decide +kernel
theorem dX11_caller_38 : decode cX11_caller 38 = .ok (.aload_n 0, 1) := by decide +kernel
theorem dX11_caller_39 : decode cX11_caller 39 = .ok (.bipush (-3), 2) := by decide +kernel
theorem dX11_caller_41 : decode cX11_caller 41 = .ok (.invokevirtual 46, 3) := by decide +kernel
theorem dX11_caller_44 : decode cX11_caller 44 = .ok (.ireturn, 1) := by decide +kernel
theorem dX11_caller_45 : decode cX11_caller 45 = .ok (.aload_n 0, 1) := by decide +kernel
theorem dX11_caller_46 : decode cX11_caller 46 = .ok (.getfield 26, 3) := by decide +kernel
theorem dX11_caller_49 : decode cX11_caller 49 = .ok (.iload_n 1, 1) := by decide +kernel
theorem dX11_caller_50 : decode cX11_caller 50 = .ok (.iload_n 2, 1) := by decide +kernel
theorem dX11_caller_51 : decode cX11_caller 51 = .ok (.iload_n 3, 1) := by decide +kernel
theorem dX11_caller_52 : decode cX11_caller 52 = .ok (.iload 4, 2) := by decide +kernel
theorem dX11_caller_54 : decode cX11_caller 54 = .ok (.invokevirtual 50, 3) := by decide +kernel
theorem dX11_caller_57 : decode cX11_caller 57 = .ok (.iconst 1, 1) := by decide +kernel
theorem dX11_caller_58 : decode cX11_caller 58 = .ok (.ireturn, 1) := by decide +kernel
theorem dX11_seat_0 : decode cX11_seat 0 = .ok (.aload_n 0, 1) := by decide +kernel
theorem dX11_seat_1 : decode cX11_seat 1 = .ok (.getfield 10, 3) := by decide +kernel
theorem dX11_seat_4 : decode cX11_seat 4 = .ok (.iload_n 1, 1) := by decide +kernel
theorem dX11_seat_5 : decode cX11_seat 5 = .ok (.bipush 31, 2) := by decide +kernel
theorem dX11_seat_7 : decode cX11_seat 7 = .ok (.invokevirtual 54, 3) := by decide +kernel
theorem dX11_seat_10 : decode cX11_seat 10 = .ok (.astore_n 2, 1) := by decide +kernel
theorem dX11_seat_11 : decode cX11_seat 11 = .ok (.aload_n 2, 1) := by decide +kernel
theorem dX11_seat_12 : decode cX11_seat 12 = .ok (.ifnonnull 11, 3) := by decide +kernel
theorem dX11_seat_15 : decode cX11_seat 15 = .ok (.aload_n 0, 1) := by decide +kernel
theorem dX11_seat_16 : decode cX11_seat 16 = .ok (.iload_n 1, 1) := by decide +kernel
theorem dX11_seat_17 : decode cX11_seat 17 = .ok (.bipush 31, 2) := by decide +kernel
theorem dX11_seat_19 : decode cX11_seat 19 = .ok (.invokevirtual 58, 3) := by decide +kernel
theorem dX11_seat_22 : decode cX11_seat 22 = .ok (.ireturn, 1) := by decide +kernel
theorem dX11_seat_23 : decode cX11_seat 23 = .ok (.aload_n 2, 1) := by decide +kernel
theorem dX11_seat_24 : decode cX11_seat 24 = .ok (.aload_n 0, 1) := by decide +kernel
theorem dX11_seat_25 : decode cX11_seat 25 = .ok (.getfield 26, 3) := by decide +kernel
theorem dX11_seat_28 : decode cX11_seat 28 = .ok (.getfield 62, 3) := by decide +kernel
theorem dX11_seat_31 : decode cX11_seat 31 = .ok (.invokevirtual 66, 3) := by decide +kernel
theorem dX11_seat_34 : decode cX11_seat 34 = .ok (.ireturn, 1) := by decide +kernel
theorem dX11_way_0 : decode cX11_way 0 = .ok (.aload_n 0, 1) := by decide +kernel
theorem dX11_way_1 : decode cX11_way 1 = .ok (.getfield 10, 3) := by decide +kernel
theorem dX11_way_4 : decode cX11_way 4 = .ok (.iload_n 1, 1) := by decide +kernel
theorem dX11_way_5 : decode cX11_way 5 = .ok (.bipush 31, 2) := by decide +kernel
theorem dX11_way_7 : decode cX11_way 7 = .ok (.invokevirtual 54, 3) := by decide +kernel
theorem dX11_way_10 : decode cX11_way 10 = .ok (.ifnonnull 11, 3) := by decide +kernel
theorem dX11_way_13 : decode cX11_way 13 = .ok (.aload_n 0, 1) := by decide +kernel
theorem dX11_way_14 : decode cX11_way 14 = .ok (.iload_n 1, 1) := by decide +kernel
theorem dX11_way_15 : decode cX11_way 15 = .ok (.bipush 31, 2) := by decide +kernel
theorem dX11_way_17 : decode cX11_way 17 = .ok (.invokevirtual 58, 3) := by decide +kernel
theorem dX11_way_20 : decode cX11_way 20 = .ok (.ireturn, 1) := by decide +kernel
theorem dX11_way_21 : decode cX11_way 21 = .ok (.aload_n 0, 1) := by decide +kernel
theorem dX11_way_22 : decode cX11_way 22 = .ok (.getfield 26, 3) := by decide +kernel
theorem dX11_way_25 : decode cX11_way 25 = .ok (.aload_n 0, 1) := by decide +kernel
theorem dX11_way_26 : decode cX11_way 26 = .ok (.getfield 10, 3) := by decide +kernel
theorem dX11_way_29 : decode cX11_way 29 = .ok (.invokevirtual 71, 3) := by decide +kernel
theorem dX11_way_32 : decode cX11_way 32 = .ok (.aload_n 0, 1) := by decide +kernel
theorem dX11_way_33 : decode cX11_way 33 = .ok (.getfield 26, 3) := by decide +kernel
theorem dX11_way_36 : decode cX11_way 36 = .ok (.aload_n 0, 1) := by decide +kernel
theorem dX11_way_37 : decode cX11_way 37 = .ok (.getfield 26, 3) := by decide +kernel
theorem dX11_way_40 : decode cX11_way 40 = .ok (.getfield 62, 3) := by decide +kernel
theorem dX11_way_43 : decode cX11_way 43 = .ok (.invokevirtual 75, 3) := by decide +kernel
theorem dX11_way_46 : decode cX11_way 46 = .ok (.aload_n 0, 1) := by decide +kernel
theorem dX11_way_47 : decode cX11_way 47 = .ok (.getfield 26, 3) := by decide +kernel
theorem dX11_way_50 : decode cX11_way 50 = .ok (.aload_n 0, 1) := by decide +kernel
theorem dX11_way_51 : decode cX11_way 51 = .ok (.getfield 10, 3) := by decide +kernel
theorem dX11_way_54 : decode cX11_way 54 = .ok (.iload_n 1, 1) := by decide +kernel
theorem dX11_way_55 : decode cX11_way 55 = .ok (.iconst 0, 1) := by decide +kernel
theorem dX11_way_56 : decode cX11_way 56 = .ok (.invokevirtual 79, 3) := by decide +kernel
theorem dX11_way_59 : decode cX11_way 59 = .ok (.ireturn, 1) := by decide +kernel
theorem dX11_why_0 : decode cX11_why 0 = .ok (.aload_n 0, 1) := by decide +kernel
theorem dX11_why_1 : decode cX11_why 1 = .ok (.getfield 10, 3) := by decide +kernel
theorem dX11_why_4 : decode cX11_why 4 = .ok (.iload_n 1, 1) := by decide +kernel
theorem dX11_why_5 : decode cX11_why 5 = .ok (.bipush 31, 2) := by decide +kernel
theorem dX11_why_7 : decode cX11_why 7 = .ok (.invokevirtual 54, 3) := by decide +kernel
theorem dX11_why_10 : decode cX11_why 10 = .ok (.ifnonnull 11, 3) := by decide +kernel
theorem dX11_why_13 : decode cX11_why 13 = .ok (.aload_n 0, 1) := by decide +kernel
theorem dX11_why_14 : decode cX11_why 14 = .ok (.iload_n 1, 1) := by decide +kernel
theorem dX11_why_15 : decode cX11_why 15 = .ok (.bipush 31, 2) := by decide +kernel
theorem dX11_why_17 : decode cX11_why 17 = .ok (.invokevirtual 58, 3) := by decide +kernel
theorem dX11_why_20 : decode cX11_why 20 = .ok (.ireturn, 1) := by decide +kernel
theorem dX11_why_21 : decode cX11_why 21 = .ok (.aload_n 0, 1) := by decide +kernel
theorem dX11_why_22 : decode cX11_why 22 = .ok (.getfield 26, 3) := by decide +kernel
theorem dX11_why_25 : decode cX11_why 25 = .ok (.aload_n 0, 1) := by decide +kernel
theorem dX11_why_26 : decode cX11_why 26 = .ok (.getfield 10, 3) := by decide +kernel
theorem dX11_why_29 : decode cX11_why 29 = .ok (.invokevirtual 71, 3) := by decide +kernel
theorem dX11_why_32 : decode cX11_why 32 = .ok (.aload_n 0, 1) := by decide +kernel
theorem dX11_why_33 : decode cX11_why 33 = .ok (.getfield 26, 3) := by decide +kernel
theorem dX11_why_36 : decode cX11_why 36 = .ok (.aload_n 0, 1) := by decide +kernel
theorem dX11_why_37 : decode cX11_why 37 = .ok (.getfield 26, 3) := by decide +kernel
theorem dX11_why_40 : decode cX11_why 40 = .ok (.getfield 62, 3) := by decide +kernel
theorem dX11_why_43 : decode cX11_why 43 = .ok (.invokevirtual 75, 3) := by decide +kernel
theorem dX11_why_46 : decode cX11_why 46 = .ok (.aload_n 0, 1) := by decide +kernel
theorem dX11_why_47 : decode cX11_why 47 = .ok (.getfield 26, 3) := by decide +kernel
theorem dX11_why_50 : decode cX11_why 50 = .ok (.aload_n 0, 1) := by decide +kernel
theorem dX11_why_51 : decode cX11_why 51 = .ok (.getfield 10, 3) := by decide +kernel
theorem dX11_why_54 : decode cX11_why 54 = .ok (.iload_n 1, 1) := by decide +kernel
theorem dX11_why_55 : decode cX11_why 55 = .ok (.iconst 0, 1) := by decide +kernel
theorem dX11_why_56 : decode cX11_why 56 = .ok (.invokevirtual 83, 3) := by decide +kernel
theorem dX11_why_59 : decode cX11_why 59 = .ok (.ireturn, 1) := by decide +kernel
theorem dX11_make_0 : decode cX11_make 0 = .ok (.aload_n 0, 1) := by decide +kernel
theorem dX11_make_1 : decode cX11_make 1 = .ok (.getfield 10, 3) := by decide +kernel
theorem dX11_make_4 : decode cX11_make 4 = .ok (.iload_n 1, 1) := by decide +kernel
theorem dX11_make_5 : decode cX11_make 5 = .ok (.invokevirtual 86, 3) := by decide +kernel
theorem dX11_make_8 : decode cX11_make 8 = .ok (.astore 5, 2) := by decide +kernel
theorem dX11_make_10 : decode cX11_make 10 = .ok (.aload 5, 2) := by decide +kernel
theorem dX11_make_12 : decode cX11_make 12 = .ok (.ifnonnull 10, 3) := by decide +kernel
theorem dX11_make_15 : decode cX11_make 15 = .ok (.aload_n 0, 1) := by decide +kernel
theorem dX11_make_16 : decode cX11_make 16 = .ok (.bipush (-3), 2) := by decide +kernel
theorem dX11_make_18 : decode cX11_make 18 = .ok (.invokevirtual 46, 3) := by decide +kernel
theorem dX11_make_21 : decode cX11_make 21 = .ok (.ireturn, 1) := by decide +kernel
theorem dX11_make_22 : decode cX11_make 22 = .ok (.iload_n 2, 1) := by decide +kernel
theorem dX11_make_23 : decode cX11_make 23 = .ok (.iconst 4, 1) := by decide +kernel
theorem dX11_make_24 : decode cX11_make 24 = .ok (.invokestatic 42, 3) := by decide +kernel
theorem dX11_make_27 : decode cX11_make 27 = .ok (.ifCond .eq 21, 3) := by decide +kernel
theorem dX11_make_30 : decode cX11_make 30 = .ok (.iload_n 3, 1) := by decide +kernel
theorem dX11_make_31 : decode cX11_make 31 = .ok (.invokestatic 90, 3) := by decide +kernel
theorem dX11_make_34 : decode cX11_make 34 = .ok (.ifCond .eq 14, 3) := by decide +kernel
theorem dX11_make_37 : decode cX11_make 37 = .ok (.iload 4, 2) := by decide +kernel
theorem dX11_make_39 : decode cX11_make 39 = .ok (.sipush 9999, 3) := by decide +kernel
theorem dX11_make_42 : decode cX11_make 42 = .ok (.invokestatic 42, 3) := by decide +kernel
theorem dX11_make_45 : decode cX11_make 45 = .ok (.ifCond .ne 10, 3) := by decide +kernel
theorem dX11_make_48 : decode cX11_make 48 = .ok (.aload_n 0, 1) := by decide +kernel
theorem dX11_make_49 : decode cX11_make 49 = .ok (.bipush (-12), 2) := by decide +kernel
theorem dX11_make_51 : decode cX11_make 51 = .ok (.invokevirtual 46, 3) := by decide +kernel
theorem dX11_make_54 : decode cX11_make 54 = .ok (.ireturn, 1) := by decide +kernel
theorem dX11_make_55 : decode cX11_make 55 = .ok (.aload 5, 2) := by decide +kernel
theorem dX11_make_57 : decode cX11_make 57 = .ok (.iload_n 2, 1) := by decide +kernel
theorem dX11_make_58 : decode cX11_make 58 = .ok (.iload_n 3, 1) := by decide +kernel
theorem dX11_make_59 : decode cX11_make 59 = .ok (.iload 4, 2) := by decide +kernel
theorem dX11_make_61 : decode cX11_make 61 = .ok (.invokevirtual 94, 3) := by decide +kernel
theorem dX11_make_64 : decode cX11_make 64 = .ok (.iconst 1, 1) := by decide +kernel
theorem dX11_make_65 : decode cX11_make 65 = .ok (.ireturn, 1) := by decide +kernel
theorem dX11_note_0 : decode cX11_note 0 = .ok (.aload_n 0, 1) := by decide +kernel
theorem dX11_note_1 : decode cX11_note 1 = .ok (.getfield 10, 3) := by decide +kernel
theorem dX11_note_4 : decode cX11_note 4 = .ok (.iload_n 1, 1) := by decide +kernel
theorem dX11_note_5 : decode cX11_note 5 = .ok (.invokevirtual 86, 3) := by decide +kernel
theorem dX11_note_8 : decode cX11_note 8 = .ok (.astore 4, 2) := by decide +kernel
theorem dX11_note_10 : decode cX11_note 10 = .ok (.aload 4, 2) := by decide +kernel
theorem dX11_note_12 : decode cX11_note 12 = .ok (.ifnonnull 10, 3) := by decide +kernel
theorem dX11_note_15 : decode cX11_note 15 = .ok (.aload_n 0, 1) := by decide +kernel
theorem dX11_note_16 : decode cX11_note 16 = .ok (.bipush (-3), 2) := by decide +kernel
theorem dX11_note_18 : decode cX11_note 18 = .ok (.invokevirtual 46, 3) := by decide +kernel
theorem dX11_note_21 : decode cX11_note 21 = .ok (.ireturn, 1) := by decide +kernel
theorem dX11_note_22 : decode cX11_note 22 = .ok (.aload 4, 2) := by decide +kernel
theorem dX11_note_24 : decode cX11_note 24 = .ok (.lload_n 2, 1) := by decide +kernel
theorem dX11_note_25 : decode cX11_note 25 = .ok (.invokevirtual 100, 3) := by decide +kernel
theorem dX11_note_28 : decode cX11_note 28 = .ok (.iconst 1, 1) := by decide +kernel
theorem dX11_note_29 : decode cX11_note 29 = .ok (.ireturn, 1) := by decide +kernel
theorem dX11_empty_0 : decode cX11_empty 0 = .ok (.aload_n 0, 1) := by decide +kernel
theorem dX11_empty_1 : decode cX11_empty 1 = .ok (.getfield 10, 3) := by decide +kernel
theorem dX11_empty_4 : decode cX11_empty 4 = .ok (.iload_n 1, 1) := by decide +kernel
theorem dX11_empty_5 : decode cX11_empty 5 = .ok (.invokevirtual 86, 3) := by decide +kernel
theorem dX11_empty_8 : decode cX11_empty 8 = .ok (.astore_n 2, 1) := by decide +kernel
theorem dX11_empty_9 : decode cX11_empty 9 = .ok (.aload_n 2, 1) := by decide +kernel
theorem dX11_empty_10 : decode cX11_empty 10 = .ok (.ifnonnull 10, 3) := by decide +kernel
theorem dX11_empty_13 : decode cX11_empty 13 = .ok (.aload_n 0, 1) := by decide +kernel
theorem dX11_empty_14 : decode cX11_empty 14 = .ok (.bipush (-3), 2) := by decide +kernel
theorem dX11_empty_16 : decode cX11_empty 16 = .ok (.invokevirtual 46, 3) := by decide +kernel
theorem dX11_empty_19 : decode cX11_empty 19 = .ok (.ireturn, 1) := by decide +kernel
theorem dX11_empty_20 : decode cX11_empty 20 = .ok (.aload_n 2, 1) := by decide +kernel
theorem dX11_empty_21 : decode cX11_empty 21 = .ok (.invokevirtual 104, 3) := by decide +kernel
theorem dX11_empty_24 : decode cX11_empty 24 = .ok (.ifCond .eq 7, 3) := by decide +kernel
theorem dX11_empty_27 : decode cX11_empty 27 = .ok (.iconst 1, 1) := by decide +kernel
theorem dX11_empty_28 : decode cX11_empty 28 = .ok (.goto 4, 3) := by decide +kernel
theorem dX11_empty_31 : decode cX11_empty 31 = .ok (.iconst 0, 1) := by decide +kernel
theorem dX11_empty_32 : decode cX11_empty 32 = .ok (.ireturn, 1) := by decide +kernel
theorem dX11_holds_0 : decode cX11_holds 0 = .ok (.aload_n 0, 1) := by decide +kernel
theorem dX11_holds_1 : decode cX11_holds 1 = .ok (.getfield 10, 3) := by decide +kernel
theorem dX11_holds_4 : decode cX11_holds 4 = .ok (.iload_n 1, 1) := by decide +kernel
theorem dX11_holds_5 : decode cX11_holds 5 = .ok (.invokevirtual 86, 3) := by decide +kernel
theorem dX11_holds_8 : decode cX11_holds 8 = .ok (.astore_n 2, 1) := by decide +kernel
theorem dX11_holds_9 : decode cX11_holds 9 = .ok (.aload_n 2, 1) := by decide +kernel
theorem dX11_holds_10 : decode cX11_holds 10 = .ok (.ifnonnull 10, 3) := by decide +kernel
theorem dX11_holds_13 : decode cX11_holds 13 = .ok (.aload_n 0, 1) := by decide +kernel
theorem dX11_holds_14 : decode cX11_holds 14 = .ok (.bipush (-3), 2) := by decide +kernel
theorem dX11_holds_16 : decode cX11_holds 16 = .ok (.invokevirtual 46, 3) := by decide +kernel
theorem dX11_holds_19 : decode cX11_holds 19 = .ok (.ireturn, 1) := by decide +kernel
theorem dX11_holds_20 : decode cX11_holds 20 = .ok (.aload_n 2, 1) := by decide +kernel
theorem dX11_holds_21 : decode cX11_holds 21 = .ok (.invokevirtual 108, 3) := by decide +kernel
theorem dX11_holds_24 : decode cX11_holds 24 = .ok (.ireturn, 1) := by decide +kernel
theorem dX11_read_0 : decode cX11_read 0 = .ok (.aload_n 0, 1) := by decide +kernel
theorem dX11_read_1 : decode cX11_read 1 = .ok (.getfield 10, 3) := by decide +kernel
theorem dX11_read_4 : decode cX11_read 4 = .ok (.iload_n 1, 1) := by decide +kernel
theorem dX11_read_5 : decode cX11_read 5 = .ok (.invokevirtual 86, 3) := by decide +kernel
theorem dX11_read_8 : decode cX11_read 8 = .ok (.astore_n 2, 1) := by decide +kernel
theorem dX11_read_9 : decode cX11_read 9 = .ok (.aload_n 2, 1) := by decide +kernel
theorem dX11_read_10 : decode cX11_read 10 = .ok (.ifnonnull 12, 3) := by decide +kernel
theorem dX11_read_13 : decode cX11_read 13 = .ok (.aload_n 0, 1) := by decide +kernel
theorem dX11_read_14 : decode cX11_read 14 = .ok (.bipush (-3), 2) := by decide +kernel
theorem dX11_read_16 : decode cX11_read 16 = .ok (.invokevirtual 46, 3) := by decide +kernel
theorem dX11_read_19 : decode cX11_read 19 = .ok (.pop, 1) := by decide +kernel
theorem dX11_read_20 : decode cX11_read 20 = .ok (.lconst 0, 1) := by decide +kernel
theorem dX11_read_21 : decode cX11_read 21 = .ok (.lreturn, 1) := by decide +kernel
theorem dX11_read_22 : decode cX11_read 22 = .ok (.aload_n 2, 1) := by decide +kernel
theorem dX11_read_23 : decode cX11_read 23 = .ok (.getfield 112, 3) := by decide +kernel
theorem dX11_read_26 : decode cX11_read 26 = .ok (.ifCond .ne 24, 3) := by decide +kernel
theorem dX11_read_29 : decode cX11_read 29 = .ok (.aload_n 0, 1) := by decide +kernel
theorem dX11_read_30 : decode cX11_read 30 = .ok (.aload_n 2, 1) := by decide +kernel
theorem dX11_read_31 : decode cX11_read 31 = .ok (.getfield 115, 3) := by decide +kernel
theorem dX11_read_34 : decode cX11_read 34 = .ok (.ifnonnull 8, 3) := by decide +kernel
theorem dX11_read_37 : decode cX11_read 37 = .ok (.bipush (-2), 2) := by decide +kernel
theorem dX11_read_39 : decode cX11_read 39 = .ok (.goto 5, 3) := by decide +kernel
theorem dX11_read_42 : decode cX11_read 42 = .ok (.bipush (-5), 2) := by decide +kernel
theorem dX11_read_44 : decode cX11_read 44 = .ok (.invokevirtual 46, 3) := by decide +kernel
theorem dX11_read_47 : decode cX11_read 47 = .ok (.pop, 1) := by decide +kernel
theorem dX11_read_48 : decode cX11_read 48 = .ok (.lconst 0, 1) := by decide +kernel
theorem dX11_read_49 : decode cX11_read 49 = .ok (.lreturn, 1) := by decide +kernel
theorem dX11_read_50 : decode cX11_read 50 = .ok (.aload_n 2, 1) := by decide +kernel
theorem dX11_read_51 : decode cX11_read 51 = .ok (.getfield 119, 3) := by decide +kernel
theorem dX11_read_54 : decode cX11_read 54 = .ok (.lreturn, 1) := by decide +kernel
theorem dX11_rule_0 : decode cX11_rule 0 = .ok (.iload_n 2, 1) := by decide +kernel
theorem dX11_rule_1 : decode cX11_rule 1 = .ok (.iconst 2, 1) := by decide +kernel
theorem dX11_rule_2 : decode cX11_rule 2 = .ok (.invokestatic 42, 3) := by decide +kernel
theorem dX11_rule_5 : decode cX11_rule 5 = .ok (.ifCond .eq 13, 3) := by decide +kernel
theorem dX11_rule_8 : decode cX11_rule 8 = .ok (.iload 5, 2) := by decide +kernel
theorem dX11_rule_10 : decode cX11_rule 10 = .ok (.bipush 7, 2) := by decide +kernel
theorem dX11_rule_12 : decode cX11_rule 12 = .ok (.invokestatic 42, 3) := by decide +kernel
theorem dX11_rule_15 : decode cX11_rule 15 = .ok (.ifCond .ne 10, 3) := by decide +kernel
theorem dX11_rule_18 : decode cX11_rule 18 = .ok (.aload_n 0, 1) := by decide +kernel
theorem dX11_rule_19 : decode cX11_rule 19 = .ok (.bipush (-3), 2) := by decide +kernel
theorem dX11_rule_21 : decode cX11_rule 21 = .ok (.invokevirtual 46, 3) := by decide +kernel
theorem dX11_rule_24 : decode cX11_rule 24 = .ok (.ireturn, 1) := by decide +kernel
theorem dX11_rule_25 : decode cX11_rule 25 = .ok (.aload_n 0, 1) := by decide +kernel
theorem dX11_rule_26 : decode cX11_rule 26 = .ok (.getfield 10, 3) := by decide +kernel
theorem dX11_rule_29 : decode cX11_rule 29 = .ok (.iload_n 1, 1) := by decide +kernel
theorem dX11_rule_30 : decode cX11_rule 30 = .ok (.bipush 31, 2) := by decide +kernel
theorem dX11_rule_32 : decode cX11_rule 32 = .ok (.invokevirtual 54, 3) := by decide +kernel
theorem dX11_rule_35 : decode cX11_rule 35 = .ok (.astore 6, 2) := by decide +kernel
theorem dX11_rule_37 : decode cX11_rule 37 = .ok (.aload 6, 2) := by decide +kernel
theorem dX11_rule_39 : decode cX11_rule 39 = .ok (.ifnonnull 11, 3) := by decide +kernel
theorem dX11_rule_42 : decode cX11_rule 42 = .ok (.aload_n 0, 1) := by decide +kernel
theorem dX11_rule_43 : decode cX11_rule 43 = .ok (.iload_n 1, 1) := by decide +kernel
theorem dX11_rule_44 : decode cX11_rule 44 = .ok (.bipush 31, 2) := by decide +kernel
theorem dX11_rule_46 : decode cX11_rule 46 = .ok (.invokevirtual 58, 3) := by decide +kernel
theorem dX11_rule_49 : decode cX11_rule 49 = .ok (.ireturn, 1) := by decide +kernel
theorem dX11_rule_50 : decode cX11_rule 50 = .ok (.aload_n 0, 1) := by decide +kernel
theorem dX11_rule_51 : decode cX11_rule 51 = .ok (.aload 6, 2) := by decide +kernel
theorem dX11_rule_53 : decode cX11_rule 53 = .ok (.getfield 123, 3) := by decide +kernel
theorem dX11_rule_56 : decode cX11_rule 56 = .ok (.iload_n 2, 1) := by decide +kernel
theorem dX11_rule_57 : decode cX11_rule 57 = .ok (.iload_n 3, 1) := by decide +kernel
theorem dX11_rule_58 : decode cX11_rule 58 = .ok (.iload 4, 2) := by decide +kernel
theorem dX11_rule_60 : decode cX11_rule 60 = .ok (.iload 5, 2) := by decide +kernel
theorem dX11_rule_62 : decode cX11_rule 62 = .ok (.invokevirtual 127, 3) := by decide +kernel
theorem dX11_rule_65 : decode cX11_rule 65 = .ok (.invokevirtual 133, 3) := by decide +kernel
theorem dX11_rule_68 : decode cX11_rule 68 = .ok (.ireturn, 1) := by decide +kernel
theorem dX11_unrule_0 : decode cX11_unrule 0 = .ok (.aload_n 0, 1) := by decide +kernel
theorem dX11_unrule_1 : decode cX11_unrule 1 = .ok (.getfield 10, 3) := by decide +kernel
theorem dX11_unrule_4 : decode cX11_unrule 4 = .ok (.iload_n 1, 1) := by decide +kernel
theorem dX11_unrule_5 : decode cX11_unrule 5 = .ok (.bipush 31, 2) := by decide +kernel
theorem dX11_unrule_7 : decode cX11_unrule 7 = .ok (.invokevirtual 54, 3) := by decide +kernel
theorem dX11_unrule_10 : decode cX11_unrule 10 = .ok (.astore_n 2, 1) := by decide +kernel
theorem dX11_unrule_11 : decode cX11_unrule 11 = .ok (.aload_n 2, 1) := by decide +kernel
theorem dX11_unrule_12 : decode cX11_unrule 12 = .ok (.ifnonnull 11, 3) := by decide +kernel
theorem dX11_unrule_15 : decode cX11_unrule 15 = .ok (.aload_n 0, 1) := by decide +kernel
theorem dX11_unrule_16 : decode cX11_unrule 16 = .ok (.iload_n 1, 1) := by decide +kernel
theorem dX11_unrule_17 : decode cX11_unrule 17 = .ok (.bipush 31, 2) := by decide +kernel
theorem dX11_unrule_19 : decode cX11_unrule 19 = .ok (.invokevirtual 58, 3) := by decide +kernel
theorem dX11_unrule_22 : decode cX11_unrule 22 = .ok (.ireturn, 1) := by decide +kernel
theorem dX11_unrule_23 : decode cX11_unrule 23 = .ok (.aload_n 0, 1) := by decide +kernel
theorem dX11_unrule_24 : decode cX11_unrule 24 = .ok (.aload_n 2, 1) := by decide +kernel
theorem dX11_unrule_25 : decode cX11_unrule 25 = .ok (.getfield 123, 3) := by decide +kernel
theorem dX11_unrule_28 : decode cX11_unrule 28 = .ok (.invokevirtual 136, 3) := by decide +kernel
theorem dX11_unrule_31 : decode cX11_unrule 31 = .ok (.invokevirtual 133, 3) := by decide +kernel
theorem dX11_unrule_34 : decode cX11_unrule 34 = .ok (.ireturn, 1) := by decide +kernel
theorem dX11_share_0 : decode cX11_share 0 = .ok (.iload_n 2, 1) := by decide +kernel
theorem dX11_share_1 : decode cX11_share 1 = .ok (.invokestatic 139, 3) := by decide +kernel
theorem dX11_share_4 : decode cX11_share 4 = .ok (.ifCond .ne 10, 3) := by decide +kernel
theorem dX11_share_7 : decode cX11_share 7 = .ok (.aload_n 0, 1) := by decide +kernel
theorem dX11_share_8 : decode cX11_share 8 = .ok (.bipush (-3), 2) := by decide +kernel
theorem dX11_share_10 : decode cX11_share 10 = .ok (.invokevirtual 46, 3) := by decide +kernel
theorem dX11_share_13 : decode cX11_share 13 = .ok (.ireturn, 1) := by decide +kernel
theorem dX11_share_14 : decode cX11_share 14 = .ok (.aload_n 0, 1) := by decide +kernel
theorem dX11_share_15 : decode cX11_share 15 = .ok (.getfield 10, 3) := by decide +kernel
theorem dX11_share_18 : decode cX11_share 18 = .ok (.iload_n 1, 1) := by decide +kernel
theorem dX11_share_19 : decode cX11_share 19 = .ok (.bipush 31, 2) := by decide +kernel
theorem dX11_share_21 : decode cX11_share 21 = .ok (.invokevirtual 54, 3) := by decide +kernel
theorem dX11_share_24 : decode cX11_share 24 = .ok (.astore 5, 2) := by decide +kernel
theorem dX11_share_26 : decode cX11_share 26 = .ok (.aload 5, 2) := by decide +kernel
theorem dX11_share_28 : decode cX11_share 28 = .ok (.ifnonnull 11, 3) := by decide +kernel
theorem dX11_share_31 : decode cX11_share 31 = .ok (.aload_n 0, 1) := by decide +kernel
theorem dX11_share_32 : decode cX11_share 32 = .ok (.iload_n 1, 1) := by decide +kernel
theorem dX11_share_33 : decode cX11_share 33 = .ok (.bipush 31, 2) := by decide +kernel
theorem dX11_share_35 : decode cX11_share 35 = .ok (.invokevirtual 58, 3) := by decide +kernel
theorem dX11_share_38 : decode cX11_share 38 = .ok (.ireturn, 1) := by decide +kernel
theorem dX11_share_39 : decode cX11_share 39 = .ok (.iload 4, 2) := by decide +kernel
theorem dX11_share_41 : decode cX11_share 41 = .ok (.ifCond .ge 10, 3) := by decide +kernel
theorem dX11_share_44 : decode cX11_share 44 = .ok (.aload_n 0, 1) := by decide +kernel
theorem dX11_share_45 : decode cX11_share 45 = .ok (.bipush (-4), 2) := by decide +kernel
theorem dX11_share_47 : decode cX11_share 47 = .ok (.invokevirtual 46, 3) := by decide +kernel
theorem dX11_share_50 : decode cX11_share 50 = .ok (.ireturn, 1) := by decide +kernel
theorem dX11_share_51 : decode cX11_share 51 = .ok (.iload_n 2, 1) := by decide +kernel
theorem dX11_share_52 : decode cX11_share 52 = .ok (.iconst 1, 1) := by decide +kernel
theorem dX11_share_53 : decode cX11_share 53 = .ok (.if_icmp .ne 18, 3) := by decide +kernel
theorem dX11_share_56 : decode cX11_share 56 = .ok (.aload 5, 2) := by decide +kernel
theorem dX11_share_58 : decode cX11_share 58 = .ok (.getfield 142, 3) := by decide +kernel
theorem dX11_share_61 : decode cX11_share 61 = .ok (.invokevirtual 146, 3) := by decide +kernel
theorem dX11_share_64 : decode cX11_share 64 = .ok (.ifCond .eq 7, 3) := by decide +kernel
theorem dX11_share_67 : decode cX11_share 67 = .ok (.iconst 1, 1) := by decide +kernel
theorem dX11_share_68 : decode cX11_share 68 = .ok (.goto 4, 3) := by decide +kernel
theorem dX11_share_71 : decode cX11_share 71 = .ok (.iconst 0, 1) := by decide +kernel
theorem dX11_share_72 : decode cX11_share 72 = .ok (.istore 6, 2) := by decide +kernel
theorem dX11_share_74 : decode cX11_share 74 = .ok (.iload 6, 2) := by decide +kernel
theorem dX11_share_76 : decode cX11_share 76 = .ok (.ifCond .ne 18, 3) := by decide +kernel
theorem dX11_share_79 : decode cX11_share 79 = .ok (.aload 5, 2) := by decide +kernel
theorem dX11_share_81 : decode cX11_share 81 = .ok (.getfield 151, 3) := by decide +kernel
theorem dX11_share_84 : decode cX11_share 84 = .ok (.iload_n 2, 1) := by decide +kernel
theorem dX11_share_85 : decode cX11_share 85 = .ok (.iload_n 3, 1) := by decide +kernel
theorem dX11_share_86 : decode cX11_share 86 = .ok (.iload 4, 2) := by decide +kernel
theorem dX11_share_88 : decode cX11_share 88 = .ok (.invokevirtual 155, 3) := by decide +kernel
theorem dX11_share_91 : decode cX11_share 91 = .ok (.ifCond .ne 10, 3) := by decide +kernel
theorem dX11_share_94 : decode cX11_share 94 = .ok (.aload_n 0, 1) := by decide +kernel
theorem dX11_share_95 : decode cX11_share 95 = .ok (.bipush (-12), 2) := by decide +kernel
theorem dX11_share_97 : decode cX11_share 97 = .ok (.invokevirtual 46, 3) := by decide +kernel
theorem dX11_share_100 : decode cX11_share 100 = .ok (.ireturn, 1) := by decide +kernel
theorem dX11_share_101 : decode cX11_share 101 = .ok (.aload 5, 2) := by decide +kernel
theorem dX11_share_103 : decode cX11_share 103 = .ok (.getfield 151, 3) := by decide +kernel
theorem dX11_share_106 : decode cX11_share 106 = .ok (.iload_n 2, 1) := by decide +kernel
theorem dX11_share_107 : decode cX11_share 107 = .ok (.invokevirtual 161, 3) := by decide +kernel
theorem dX11_share_110 : decode cX11_share 110 = .ok (.istore 7, 2) := by decide +kernel
theorem dX11_share_112 : decode cX11_share 112 = .ok (.aload 5, 2) := by decide +kernel
theorem dX11_share_114 : decode cX11_share 114 = .ok (.getfield 151, 3) := by decide +kernel
theorem dX11_share_117 : decode cX11_share 117 = .ok (.iload_n 2, 1) := by decide +kernel
theorem dX11_share_118 : decode cX11_share 118 = .ok (.iload_n 3, 1) := by decide +kernel
theorem dX11_share_119 : decode cX11_share 119 = .ok (.iload 4, 2) := by decide +kernel
theorem dX11_share_121 : decode cX11_share 121 = .ok (.invokevirtual 164, 3) := by decide +kernel
theorem dX11_share_124 : decode cX11_share 124 = .ok (.iload 7, 2) := by decide +kernel
theorem dX11_share_126 : decode cX11_share 126 = .ok (.ireturn, 1) := by decide +kernel
theorem dX11_shares_0 : decode cX11_shares 0 = .ok (.iload_n 2, 1) := by decide +kernel
theorem dX11_shares_1 : decode cX11_shares 1 = .ok (.invokestatic 139, 3) := by decide +kernel
theorem dX11_shares_4 : decode cX11_shares 4 = .ok (.ifCond .ne 10, 3) := by decide +kernel
theorem dX11_shares_7 : decode cX11_shares 7 = .ok (.aload_n 0, 1) := by decide +kernel
theorem dX11_shares_8 : decode cX11_shares 8 = .ok (.bipush (-3), 2) := by decide +kernel
theorem dX11_shares_10 : decode cX11_shares 10 = .ok (.invokevirtual 46, 3) := by decide +kernel
theorem dX11_shares_13 : decode cX11_shares 13 = .ok (.ireturn, 1) := by decide +kernel
theorem dX11_shares_14 : decode cX11_shares 14 = .ok (.aload_n 0, 1) := by decide +kernel
theorem dX11_shares_15 : decode cX11_shares 15 = .ok (.getfield 10, 3) := by decide +kernel
theorem dX11_shares_18 : decode cX11_shares 18 = .ok (.iload_n 1, 1) := by decide +kernel
theorem dX11_shares_19 : decode cX11_shares 19 = .ok (.bipush 31, 2) := by decide +kernel
theorem dX11_shares_21 : decode cX11_shares 21 = .ok (.invokevirtual 54, 3) := by decide +kernel
theorem dX11_shares_24 : decode cX11_shares 24 = .ok (.astore 4, 2) := by decide +kernel
theorem dX11_shares_26 : decode cX11_shares 26 = .ok (.aload 4, 2) := by decide +kernel
theorem dX11_shares_28 : decode cX11_shares 28 = .ok (.ifnonnull 11, 3) := by decide +kernel
theorem dX11_shares_31 : decode cX11_shares 31 = .ok (.aload_n 0, 1) := by decide +kernel
theorem dX11_shares_32 : decode cX11_shares 32 = .ok (.iload_n 1, 1) := by decide +kernel
theorem dX11_shares_33 : decode cX11_shares 33 = .ok (.bipush 31, 2) := by decide +kernel
theorem dX11_shares_35 : decode cX11_shares 35 = .ok (.invokevirtual 58, 3) := by decide +kernel
theorem dX11_shares_38 : decode cX11_shares 38 = .ok (.ireturn, 1) := by decide +kernel
theorem dX11_shares_39 : decode cX11_shares 39 = .ok (.iload_n 3, 1) := by decide +kernel
theorem dX11_shares_40 : decode cX11_shares 40 = .ok (.lookupswitch 48 #[(0, 28), (1, 38)], 28) := by decide +kernel
theorem dX11_shares_68 : decode cX11_shares 68 = .ok (.aload 4, 2) := by decide +kernel
theorem dX11_shares_70 : decode cX11_shares 70 = .ok (.getfield 151, 3) := by decide +kernel
theorem dX11_shares_73 : decode cX11_shares 73 = .ok (.iload_n 2, 1) := by decide +kernel
theorem dX11_shares_74 : decode cX11_shares 74 = .ok (.invokevirtual 167, 3) := by decide +kernel
theorem dX11_shares_77 : decode cX11_shares 77 = .ok (.ireturn, 1) := by decide +kernel
theorem dX11_shares_78 : decode cX11_shares 78 = .ok (.aload 4, 2) := by decide +kernel
theorem dX11_shares_80 : decode cX11_shares 80 = .ok (.getfield 151, 3) := by decide +kernel
theorem dX11_shares_83 : decode cX11_shares 83 = .ok (.iload_n 2, 1) := by decide +kernel
theorem dX11_shares_84 : decode cX11_shares 84 = .ok (.invokevirtual 161, 3) := by decide +kernel
theorem dX11_shares_87 : decode cX11_shares 87 = .ok (.ireturn, 1) := by decide +kernel
theorem dX11_shares_88 : decode cX11_shares 88 = .ok (.aload_n 0, 1) := by decide +kernel
theorem dX11_shares_89 : decode cX11_shares 89 = .ok (.bipush (-12), 2) := by decide +kernel
theorem dX11_shares_91 : decode cX11_shares 91 = .ok (.invokevirtual 46, 3) := by decide +kernel
theorem dX11_shares_94 : decode cX11_shares 94 = .ok (.ireturn, 1) := by decide +kernel
theorem dX11_hang_0 : decode cX11_hang 0 = .ok (.iload_n 2, 1) := by decide +kernel
theorem dX11_hang_1 : decode cX11_hang 1 = .ok (.iconst (-1), 1) := by decide +kernel
theorem dX11_hang_2 : decode cX11_hang 2 = .ok (.if_icmp .ne 7, 3) := by decide +kernel
theorem dX11_hang_5 : decode cX11_hang 5 = .ok (.iconst 1, 1) := by decide +kernel
theorem dX11_hang_6 : decode cX11_hang 6 = .ok (.goto 4, 3) := by decide +kernel
theorem dX11_hang_9 : decode cX11_hang 9 = .ok (.iconst 0, 1) := by decide +kernel
theorem dX11_hang_10 : decode cX11_hang 10 = .ok (.istore 4, 2) := by decide +kernel
theorem dX11_hang_12 : decode cX11_hang 12 = .ok (.iload 4, 2) := by decide +kernel
theorem dX11_hang_14 : decode cX11_hang 14 = .ok (.ifCond .ne 19, 3) := by decide +kernel
theorem dX11_hang_17 : decode cX11_hang 17 = .ok (.iload_n 3, 1) := by decide +kernel
theorem dX11_hang_18 : decode cX11_hang 18 = .ok (.bipush 7, 2) := by decide +kernel
theorem dX11_hang_20 : decode cX11_hang 20 = .ok (.invokestatic 42, 3) := by decide +kernel
theorem dX11_hang_23 : decode cX11_hang 23 = .ok (.ifCond .ne 10, 3) := by decide +kernel
theorem dX11_hang_26 : decode cX11_hang 26 = .ok (.aload_n 0, 1) := by decide +kernel
theorem dX11_hang_27 : decode cX11_hang 27 = .ok (.bipush (-3), 2) := by decide +kernel
theorem dX11_hang_29 : decode cX11_hang 29 = .ok (.invokevirtual 46, 3) := by decide +kernel
theorem dX11_hang_32 : decode cX11_hang 32 = .ok (.ireturn, 1) := by decide +kernel
theorem dX11_hang_33 : decode cX11_hang 33 = .ok (.aload_n 0, 1) := by decide +kernel
theorem dX11_hang_34 : decode cX11_hang 34 = .ok (.iload_n 1, 1) := by decide +kernel
theorem dX11_hang_35 : decode cX11_hang 35 = .ok (.iload_n 2, 1) := by decide +kernel
theorem dX11_hang_36 : decode cX11_hang 36 = .ok (.invokevirtual 170, 3) := by decide +kernel
theorem dX11_hang_39 : decode cX11_hang 39 = .ok (.istore 5, 2) := by decide +kernel
theorem dX11_hang_41 : decode cX11_hang 41 = .ok (.aload_n 0, 1) := by decide +kernel
theorem dX11_hang_42 : decode cX11_hang 42 = .ok (.getfield 10, 3) := by decide +kernel
theorem dX11_hang_45 : decode cX11_hang 45 = .ok (.iload_n 1, 1) := by decide +kernel
theorem dX11_hang_46 : decode cX11_hang 46 = .ok (.bipush 24, 2) := by decide +kernel
theorem dX11_hang_48 : decode cX11_hang 48 = .ok (.invokevirtual 54, 3) := by decide +kernel
theorem dX11_hang_51 : decode cX11_hang 51 = .ok (.astore 6, 2) := by decide +kernel
theorem dX11_hang_53 : decode cX11_hang 53 = .ok (.iload 5, 2) := by decide +kernel
theorem dX11_hang_55 : decode cX11_hang 55 = .ok (.ifCond .ne 8, 3) := by decide +kernel
theorem dX11_hang_58 : decode cX11_hang 58 = .ok (.aload 6, 2) := by decide +kernel
theorem dX11_hang_60 : decode cX11_hang 60 = .ok (.ifnonnull 10, 3) := by decide +kernel
theorem dX11_hang_63 : decode cX11_hang 63 = .ok (.aload_n 0, 1) := by decide +kernel
theorem dX11_hang_64 : decode cX11_hang 64 = .ok (.iload 5, 2) := by decide +kernel
theorem dX11_hang_66 : decode cX11_hang 66 = .ok (.invokevirtual 46, 3) := by decide +kernel
theorem dX11_hang_69 : decode cX11_hang 69 = .ok (.ireturn, 1) := by decide +kernel
theorem dX11_hang_70 : decode cX11_hang 70 = .ok (.aload 6, 2) := by decide +kernel
theorem dX11_hang_72 : decode cX11_hang 72 = .ok (.getfield 173, 3) := by decide +kernel
theorem dX11_hang_75 : decode cX11_hang 75 = .ok (.istore 7, 2) := by decide +kernel
theorem dX11_hang_77 : decode cX11_hang 77 = .ok (.aload 6, 2) := by decide +kernel
theorem dX11_hang_79 : decode cX11_hang 79 = .ok (.getfield 176, 3) := by decide +kernel
theorem dX11_hang_82 : decode cX11_hang 82 = .ok (.istore 8, 2) := by decide +kernel
theorem dX11_hang_84 : decode cX11_hang 84 = .ok (.aload 6, 2) := by decide +kernel
theorem dX11_hang_86 : decode cX11_hang 86 = .ok (.iload_n 2, 1) := by decide +kernel
theorem dX11_hang_87 : decode cX11_hang 87 = .ok (.iload 4, 2) := by decide +kernel
theorem dX11_hang_89 : decode cX11_hang 89 = .ok (.ifCond .eq 7, 3) := by decide +kernel
theorem dX11_hang_92 : decode cX11_hang 92 = .ok (.iconst 0, 1) := by decide +kernel
theorem dX11_hang_93 : decode cX11_hang 93 = .ok (.goto 4, 3) := by decide +kernel
theorem dX11_hang_96 : decode cX11_hang 96 = .ok (.iload_n 3, 1) := by decide +kernel
theorem dX11_hang_97 : decode cX11_hang 97 = .ok (.invokevirtual 179, 3) := by decide +kernel
theorem dX11_hang_100 : decode cX11_hang 100 = .ok (.aload_n 0, 1) := by decide +kernel
theorem dX11_hang_101 : decode cX11_hang 101 = .ok (.getfield 33, 3) := by decide +kernel
theorem dX11_hang_104 : decode cX11_hang 104 = .ok (.aload_n 0, 1) := by decide +kernel
theorem dX11_hang_105 : decode cX11_hang 105 = .ok (.getfield 10, 3) := by decide +kernel
theorem dX11_hang_108 : decode cX11_hang 108 = .ok (.invokevirtual 183, 3) := by decide +kernel
theorem dX11_hang_111 : decode cX11_hang 111 = .ok (.ifCond .eq 19, 3) := by decide +kernel
theorem dX11_hang_114 : decode cX11_hang 114 = .ok (.aload 6, 2) := by decide +kernel
theorem dX11_hang_116 : decode cX11_hang 116 = .ok (.iload 7, 2) := by decide +kernel
theorem dX11_hang_118 : decode cX11_hang 118 = .ok (.iload 8, 2) := by decide +kernel
theorem dX11_hang_120 : decode cX11_hang 120 = .ok (.invokevirtual 179, 3) := by decide +kernel
theorem dX11_hang_123 : decode cX11_hang 123 = .ok (.aload_n 0, 1) := by decide +kernel
theorem dX11_hang_124 : decode cX11_hang 124 = .ok (.bipush (-7), 2) := by decide +kernel
theorem dX11_hang_126 : decode cX11_hang 126 = .ok (.invokevirtual 46, 3) := by decide +kernel
theorem dX11_hang_129 : decode cX11_hang 129 = .ok (.ireturn, 1) := by decide +kernel
theorem dX11_hang_130 : decode cX11_hang 130 = .ok (.iconst 1, 1) := by decide +kernel
theorem dX11_hang_131 : decode cX11_hang 131 = .ok (.ireturn, 1) := by decide +kernel
theorem dX11_stop_0 : decode cX11_stop 0 = .ok (.aload_n 0, 1) := by decide +kernel
theorem dX11_stop_1 : decode cX11_stop 1 = .ok (.getfield 10, 3) := by decide +kernel
theorem dX11_stop_4 : decode cX11_stop 4 = .ok (.iload_n 1, 1) := by decide +kernel
theorem dX11_stop_5 : decode cX11_stop 5 = .ok (.bipush 16, 2) := by decide +kernel
theorem dX11_stop_7 : decode cX11_stop 7 = .ok (.invokevirtual 54, 3) := by decide +kernel
theorem dX11_stop_10 : decode cX11_stop 10 = .ok (.astore 4, 2) := by decide +kernel
theorem dX11_stop_12 : decode cX11_stop 12 = .ok (.aload 4, 2) := by decide +kernel
theorem dX11_stop_14 : decode cX11_stop 14 = .ok (.ifnonnull 11, 3) := by decide +kernel
theorem dX11_stop_17 : decode cX11_stop 17 = .ok (.aload_n 0, 1) := by decide +kernel
theorem dX11_stop_18 : decode cX11_stop 18 = .ok (.iload_n 1, 1) := by decide +kernel
theorem dX11_stop_19 : decode cX11_stop 19 = .ok (.bipush 16, 2) := by decide +kernel
theorem dX11_stop_21 : decode cX11_stop 21 = .ok (.invokevirtual 58, 3) := by decide +kernel
theorem dX11_stop_24 : decode cX11_stop 24 = .ok (.ireturn, 1) := by decide +kernel
theorem dX11_stop_25 : decode cX11_stop 25 = .ok (.iload_n 2, 1) := by decide +kernel
theorem dX11_stop_26 : decode cX11_stop 26 = .ok (.bipush 16, 2) := by decide +kernel
theorem dX11_stop_28 : decode cX11_stop 28 = .ok (.iushr, 1) := by decide +kernel
theorem dX11_stop_29 : decode cX11_stop 29 = .ok (.ifCond .eq 7, 3) := by decide +kernel
theorem dX11_stop_32 : decode cX11_stop 32 = .ok (.iconst 1, 1) := by decide +kernel
theorem dX11_stop_33 : decode cX11_stop 33 = .ok (.goto 4, 3) := by decide +kernel
theorem dX11_stop_36 : decode cX11_stop 36 = .ok (.iconst 0, 1) := by decide +kernel
theorem dX11_stop_37 : decode cX11_stop 37 = .ok (.istore 5, 2) := by decide +kernel
theorem dX11_stop_39 : decode cX11_stop 39 = .ok (.iload 5, 2) := by decide +kernel
theorem dX11_stop_41 : decode cX11_stop 41 = .ok (.ifCond .ne 11, 3) := by decide +kernel
theorem dX11_stop_44 : decode cX11_stop 44 = .ok (.iload_n 2, 1) := by decide +kernel
theorem dX11_stop_45 : decode cX11_stop 45 = .ok (.iload_n 1, 1) := by decide +kernel
theorem dX11_stop_46 : decode cX11_stop 46 = .ok (.invokestatic 187, 3) := by decide +kernel
theorem dX11_stop_49 : decode cX11_stop 49 = .ok (.ifCond .eq 10, 3) := by decide +kernel
theorem dX11_stop_52 : decode cX11_stop 52 = .ok (.aload_n 0, 1) := by decide +kernel
theorem dX11_stop_53 : decode cX11_stop 53 = .ok (.bipush (-12), 2) := by decide +kernel
theorem dX11_stop_55 : decode cX11_stop 55 = .ok (.invokevirtual 46, 3) := by decide +kernel
theorem dX11_stop_58 : decode cX11_stop 58 = .ok (.ireturn, 1) := by decide +kernel
theorem dX11_stop_59 : decode cX11_stop 59 = .ok (.aload 4, 2) := by decide +kernel
theorem dX11_stop_61 : decode cX11_stop 61 = .ok (.getfield 190, 3) := by decide +kernel
theorem dX11_stop_64 : decode cX11_stop 64 = .ok (.istore 6, 2) := by decide +kernel
theorem dX11_stop_66 : decode cX11_stop 66 = .ok (.aload 4, 2) := by decide +kernel
theorem dX11_stop_68 : decode cX11_stop 68 = .ok (.iload_n 2, 1) := by decide +kernel
theorem dX11_stop_69 : decode cX11_stop 69 = .ok (.putfield 190, 3) := by decide +kernel
theorem dX11_stop_72 : decode cX11_stop 72 = .ok (.aload_n 0, 1) := by decide +kernel
theorem dX11_stop_73 : decode cX11_stop 73 = .ok (.getfield 33, 3) := by decide +kernel
theorem dX11_stop_76 : decode cX11_stop 76 = .ok (.aload_n 0, 1) := by decide +kernel
theorem dX11_stop_77 : decode cX11_stop 77 = .ok (.getfield 10, 3) := by decide +kernel
theorem dX11_stop_80 : decode cX11_stop 80 = .ok (.invokevirtual 183, 3) := by decide +kernel
theorem dX11_stop_83 : decode cX11_stop 83 = .ok (.ifCond .eq 17, 3) := by decide +kernel
theorem dX11_stop_86 : decode cX11_stop 86 = .ok (.aload 4, 2) := by decide +kernel
theorem dX11_stop_88 : decode cX11_stop 88 = .ok (.iload 6, 2) := by decide +kernel
theorem dX11_stop_90 : decode cX11_stop 90 = .ok (.putfield 190, 3) := by decide +kernel
theorem dX11_stop_93 : decode cX11_stop 93 = .ok (.aload_n 0, 1) := by decide +kernel
theorem dX11_stop_94 : decode cX11_stop 94 = .ok (.bipush (-7), 2) := by decide +kernel
theorem dX11_stop_96 : decode cX11_stop 96 = .ok (.invokevirtual 46, 3) := by decide +kernel
theorem dX11_stop_99 : decode cX11_stop 99 = .ok (.ireturn, 1) := by decide +kernel
theorem dX11_stop_100 : decode cX11_stop 100 = .ok (.aload 4, 2) := by decide +kernel
theorem dX11_stop_102 : decode cX11_stop 102 = .ok (.iload_n 3, 1) := by decide +kernel
theorem dX11_stop_103 : decode cX11_stop 103 = .ok (.putfield 193, 3) := by decide +kernel
theorem dX11_stop_106 : decode cX11_stop 106 = .ok (.iconst 1, 1) := by decide +kernel
theorem dX11_stop_107 : decode cX11_stop 107 = .ok (.ireturn, 1) := by decide +kernel
theorem dX11_ring_0 : decode cX11_ring 0 = .ok (.aload_n 0, 1) := by decide +kernel
theorem dX11_ring_1 : decode cX11_ring 1 = .ok (.aload_n 0, 1) := by decide +kernel
theorem dX11_ring_2 : decode cX11_ring 2 = .ok (.getfield 33, 3) := by decide +kernel
theorem dX11_ring_5 : decode cX11_ring 5 = .ok (.iload_n 1, 1) := by decide +kernel
theorem dX11_ring_6 : decode cX11_ring 6 = .ok (.invokevirtual 196, 3) := by decide +kernel
theorem dX11_ring_9 : decode cX11_ring 9 = .ok (.invokevirtual 133, 3) := by decide +kernel
theorem dX11_ring_12 : decode cX11_ring 12 = .ok (.ireturn, 1) := by decide +kernel
theorem dX11_row_0 : decode cX11_row 0 = .ok (.aload_n 0, 1) := by decide +kernel
theorem dX11_row_1 : decode cX11_row 1 = .ok (.getfield 10, 3) := by decide +kernel
theorem dX11_row_4 : decode cX11_row 4 = .ok (.iload_n 1, 1) := by decide +kernel
theorem dX11_row_5 : decode cX11_row 5 = .ok (.bipush 6, 2) := by decide +kernel
theorem dX11_row_7 : decode cX11_row 7 = .ok (.invokevirtual 54, 3) := by decide +kernel
theorem dX11_row_10 : decode cX11_row 10 = .ok (.astore_n 3, 1) := by decide +kernel
theorem dX11_row_11 : decode cX11_row 11 = .ok (.aload_n 3, 1) := by decide +kernel
theorem dX11_row_12 : decode cX11_row 12 = .ok (.ifnonnull 11, 3) := by decide +kernel
theorem dX11_row_15 : decode cX11_row 15 = .ok (.aload_n 0, 1) := by decide +kernel
theorem dX11_row_16 : decode cX11_row 16 = .ok (.iload_n 1, 1) := by decide +kernel
theorem dX11_row_17 : decode cX11_row 17 = .ok (.bipush 6, 2) := by decide +kernel
theorem dX11_row_19 : decode cX11_row 19 = .ok (.invokevirtual 58, 3) := by decide +kernel
theorem dX11_row_22 : decode cX11_row 22 = .ok (.ireturn, 1) := by decide +kernel
theorem dX11_row_23 : decode cX11_row 23 = .ok (.iload_n 2, 1) := by decide +kernel
theorem dX11_row_24 : decode cX11_row 24 = .ok (.ifCond .ge 10, 3) := by decide +kernel
theorem dX11_row_27 : decode cX11_row 27 = .ok (.aload_n 0, 1) := by decide +kernel
theorem dX11_row_28 : decode cX11_row 28 = .ok (.bipush (-4), 2) := by decide +kernel
theorem dX11_row_30 : decode cX11_row 30 = .ok (.invokevirtual 46, 3) := by decide +kernel
theorem dX11_row_33 : decode cX11_row 33 = .ok (.ireturn, 1) := by decide +kernel
theorem dX11_row_34 : decode cX11_row 34 = .ok (.iload_n 2, 1) := by decide +kernel
theorem dX11_row_35 : decode cX11_row 35 = .ok (.ifCond .eq 19, 3) := by decide +kernel
theorem dX11_row_38 : decode cX11_row 38 = .ok (.iload_n 2, 1) := by decide +kernel
theorem dX11_row_39 : decode cX11_row 39 = .ok (.bipush 20, 2) := by decide +kernel
theorem dX11_row_41 : decode cX11_row 41 = .ok (.if_icmp .gt 13, 3) := by decide +kernel
theorem dX11_row_44 : decode cX11_row 44 = .ok (.aload_n 3, 1) := by decide +kernel
theorem dX11_row_45 : decode cX11_row 45 = .ok (.getfield 142, 3) := by decide +kernel
theorem dX11_row_48 : decode cX11_row 48 = .ok (.invokevirtual 146, 3) := by decide +kernel
theorem dX11_row_51 : decode cX11_row 51 = .ok (.ifCond .eq 10, 3) := by decide +kernel
theorem dX11_row_54 : decode cX11_row 54 = .ok (.aload_n 0, 1) := by decide +kernel
theorem dX11_row_55 : decode cX11_row 55 = .ok (.bipush (-12), 2) := by decide +kernel
theorem dX11_row_57 : decode cX11_row 57 = .ok (.invokevirtual 46, 3) := by decide +kernel
theorem dX11_row_60 : decode cX11_row 60 = .ok (.ireturn, 1) := by decide +kernel
theorem dX11_row_61 : decode cX11_row 61 = .ok (.aload_n 3, 1) := by decide +kernel
theorem dX11_row_62 : decode cX11_row 62 = .ok (.getfield 142, 3) := by decide +kernel
theorem dX11_row_65 : decode cX11_row 65 = .ok (.iload_n 2, 1) := by decide +kernel
theorem dX11_row_66 : decode cX11_row 66 = .ok (.invokevirtual 199, 3) := by decide +kernel
theorem dX11_row_69 : decode cX11_row 69 = .ok (.iconst 1, 1) := by decide +kernel
theorem dX11_row_70 : decode cX11_row 70 = .ok (.ireturn, 1) := by decide +kernel
theorem dX11_tear_0 : decode cX11_tear 0 = .ok (.aload_n 0, 1) := by decide +kernel
theorem dX11_tear_1 : decode cX11_tear 1 = .ok (.getfield 10, 3) := by decide +kernel
theorem dX11_tear_4 : decode cX11_tear 4 = .ok (.iload_n 1, 1) := by decide +kernel
theorem dX11_tear_5 : decode cX11_tear 5 = .ok (.bipush 6, 2) := by decide +kernel
theorem dX11_tear_7 : decode cX11_tear 7 = .ok (.invokevirtual 54, 3) := by decide +kernel
theorem dX11_tear_10 : decode cX11_tear 10 = .ok (.astore_n 2, 1) := by decide +kernel
theorem dX11_tear_11 : decode cX11_tear 11 = .ok (.aload_n 2, 1) := by decide +kernel
theorem dX11_tear_12 : decode cX11_tear 12 = .ok (.ifnonnull 11, 3) := by decide +kernel
theorem dX11_tear_15 : decode cX11_tear 15 = .ok (.aload_n 0, 1) := by decide +kernel
theorem dX11_tear_16 : decode cX11_tear 16 = .ok (.iload_n 1, 1) := by decide +kernel
theorem dX11_tear_17 : decode cX11_tear 17 = .ok (.bipush 6, 2) := by decide +kernel
theorem dX11_tear_19 : decode cX11_tear 19 = .ok (.invokevirtual 58, 3) := by decide +kernel
theorem dX11_tear_22 : decode cX11_tear 22 = .ok (.ireturn, 1) := by decide +kernel
theorem dX11_tear_23 : decode cX11_tear 23 = .ok (.aload_n 2, 1) := by decide +kernel
theorem dX11_tear_24 : decode cX11_tear 24 = .ok (.getfield 142, 3) := by decide +kernel
theorem dX11_tear_27 : decode cX11_tear 27 = .ok (.invokevirtual 202, 3) := by decide +kernel
theorem dX11_tear_30 : decode cX11_tear 30 = .ok (.ifCond .eq 7, 3) := by decide +kernel
theorem dX11_tear_33 : decode cX11_tear 33 = .ok (.iconst 1, 1) := by decide +kernel
theorem dX11_tear_34 : decode cX11_tear 34 = .ok (.goto 4, 3) := by decide +kernel
theorem dX11_tear_37 : decode cX11_tear 37 = .ok (.iconst 0, 1) := by decide +kernel
theorem dX11_tear_38 : decode cX11_tear 38 = .ok (.ireturn, 1) := by decide +kernel
theorem dX11_step_0 : decode cX11_step 0 = .ok (.aload_n 0, 1) := by decide +kernel
theorem dX11_step_1 : decode cX11_step 1 = .ok (.getfield 10, 3) := by decide +kernel
theorem dX11_step_4 : decode cX11_step 4 = .ok (.iload_n 1, 1) := by decide +kernel
theorem dX11_step_5 : decode cX11_step 5 = .ok (.bipush 6, 2) := by decide +kernel
theorem dX11_step_7 : decode cX11_step 7 = .ok (.invokevirtual 54, 3) := by decide +kernel
theorem dX11_step_10 : decode cX11_step 10 = .ok (.astore 4, 2) := by decide +kernel
theorem dX11_step_12 : decode cX11_step 12 = .ok (.aload 4, 2) := by decide +kernel
theorem dX11_step_14 : decode cX11_step 14 = .ok (.ifnonnull 11, 3) := by decide +kernel
theorem dX11_step_17 : decode cX11_step 17 = .ok (.aload_n 0, 1) := by decide +kernel
theorem dX11_step_18 : decode cX11_step 18 = .ok (.iload_n 1, 1) := by decide +kernel
theorem dX11_step_19 : decode cX11_step 19 = .ok (.bipush 6, 2) := by decide +kernel
theorem dX11_step_21 : decode cX11_step 21 = .ok (.invokevirtual 58, 3) := by decide +kernel
theorem dX11_step_24 : decode cX11_step 24 = .ok (.ireturn, 1) := by decide +kernel
theorem dX11_step_25 : decode cX11_step 25 = .ok (.aload 4, 2) := by decide +kernel
theorem dX11_step_27 : decode cX11_step 27 = .ok (.getfield 142, 3) := by decide +kernel
theorem dX11_step_30 : decode cX11_step 30 = .ok (.invokevirtual 205, 3) := by decide +kernel
theorem dX11_step_33 : decode cX11_step 33 = .ok (.ifCond .ne 10, 3) := by decide +kernel
theorem dX11_step_36 : decode cX11_step 36 = .ok (.aload_n 0, 1) := by decide +kernel
theorem dX11_step_37 : decode cX11_step 37 = .ok (.bipush (-2), 2) := by decide +kernel
theorem dX11_step_39 : decode cX11_step 39 = .ok (.invokevirtual 46, 3) := by decide +kernel
theorem dX11_step_42 : decode cX11_step 42 = .ok (.ireturn, 1) := by decide +kernel
theorem dX11_step_43 : decode cX11_step 43 = .ok (.aload 4, 2) := by decide +kernel
theorem dX11_step_45 : decode cX11_step 45 = .ok (.getfield 142, 3) := by decide +kernel
theorem dX11_step_48 : decode cX11_step 48 = .ok (.iload_n 2, 1) := by decide +kernel
theorem dX11_step_49 : decode cX11_step 49 = .ok (.invokevirtual 208, 3) := by decide +kernel
theorem dX11_step_52 : decode cX11_step 52 = .ok (.ifCond .ne 10, 3) := by decide +kernel
theorem dX11_step_55 : decode cX11_step 55 = .ok (.aload_n 0, 1) := by decide +kernel
theorem dX11_step_56 : decode cX11_step 56 = .ok (.bipush (-3), 2) := by decide +kernel
theorem dX11_step_58 : decode cX11_step 58 = .ok (.invokevirtual 46, 3) := by decide +kernel
theorem dX11_step_61 : decode cX11_step 61 = .ok (.ireturn, 1) := by decide +kernel
theorem dX11_step_62 : decode cX11_step 62 = .ok (.iload_n 3, 1) := by decide +kernel
theorem dX11_step_63 : decode cX11_step 63 = .ok (.sipush 10000, 3) := by decide +kernel
theorem dX11_step_66 : decode cX11_step 66 = .ok (.invokestatic 42, 3) := by decide +kernel
theorem dX11_step_69 : decode cX11_step 69 = .ok (.ifCond .eq 15, 3) := by decide +kernel
theorem dX11_step_72 : decode cX11_step 72 = .ok (.aload 4, 2) := by decide +kernel
theorem dX11_step_74 : decode cX11_step 74 = .ok (.getfield 142, 3) := by decide +kernel
theorem dX11_step_77 : decode cX11_step 77 = .ok (.getfield 211, 3) := by decide +kernel
theorem dX11_step_80 : decode cX11_step 80 = .ok (.iload_n 2, 1) := by decide +kernel
theorem dX11_step_81 : decode cX11_step 81 = .ok (.if_icmp .lt 10, 3) := by decide +kernel
theorem dX11_step_84 : decode cX11_step 84 = .ok (.aload_n 0, 1) := by decide +kernel
theorem dX11_step_85 : decode cX11_step 85 = .ok (.bipush (-12), 2) := by decide +kernel
theorem dX11_step_87 : decode cX11_step 87 = .ok (.invokevirtual 46, 3) := by decide +kernel
theorem dX11_step_90 : decode cX11_step 90 = .ok (.ireturn, 1) := by decide +kernel
theorem dX11_step_91 : decode cX11_step 91 = .ok (.aload 4, 2) := by decide +kernel
theorem dX11_step_93 : decode cX11_step 93 = .ok (.getfield 142, 3) := by decide +kernel
theorem dX11_step_96 : decode cX11_step 96 = .ok (.iload_n 2, 1) := by decide +kernel
theorem dX11_step_97 : decode cX11_step 97 = .ok (.invokevirtual 214, 3) := by decide +kernel
theorem dX11_step_100 : decode cX11_step 100 = .ok (.istore 5, 2) := by decide +kernel
theorem dX11_step_102 : decode cX11_step 102 = .ok (.aload 4, 2) := by decide +kernel
theorem dX11_step_104 : decode cX11_step 104 = .ok (.getfield 142, 3) := by decide +kernel
theorem dX11_step_107 : decode cX11_step 107 = .ok (.iload_n 2, 1) := by decide +kernel
theorem dX11_step_108 : decode cX11_step 108 = .ok (.iload_n 3, 1) := by decide +kernel
theorem dX11_step_109 : decode cX11_step 109 = .ok (.invokevirtual 217, 3) := by decide +kernel
theorem dX11_step_112 : decode cX11_step 112 = .ok (.iload 5, 2) := by decide +kernel
theorem dX11_step_114 : decode cX11_step 114 = .ok (.ireturn, 1) := by decide +kernel
theorem dX11_copy_0 : decode cX11_copy 0 = .ok (.aload_n 0, 1) := by decide +kernel
theorem dX11_copy_1 : decode cX11_copy 1 = .ok (.getfield 10, 3) := by decide +kernel
theorem dX11_copy_4 : decode cX11_copy 4 = .ok (.iload_n 1, 1) := by decide +kernel
theorem dX11_copy_5 : decode cX11_copy 5 = .ok (.bipush 6, 2) := by decide +kernel
theorem dX11_copy_7 : decode cX11_copy 7 = .ok (.invokevirtual 54, 3) := by decide +kernel
theorem dX11_copy_10 : decode cX11_copy 10 = .ok (.astore 6, 2) := by decide +kernel
theorem dX11_copy_12 : decode cX11_copy 12 = .ok (.aload_n 0, 1) := by decide +kernel
theorem dX11_copy_13 : decode cX11_copy 13 = .ok (.getfield 10, 3) := by decide +kernel
theorem dX11_copy_16 : decode cX11_copy 16 = .ok (.iload_n 3, 1) := by decide +kernel
theorem dX11_copy_17 : decode cX11_copy 17 = .ok (.bipush 6, 2) := by decide +kernel
theorem dX11_copy_19 : decode cX11_copy 19 = .ok (.invokevirtual 54, 3) := by decide +kernel
theorem dX11_copy_22 : decode cX11_copy 22 = .ok (.astore 7, 2) := by decide +kernel
theorem dX11_copy_24 : decode cX11_copy 24 = .ok (.aload 6, 2) := by decide +kernel
theorem dX11_copy_26 : decode cX11_copy 26 = .ok (.ifnull 8, 3) := by decide +kernel
theorem dX11_copy_29 : decode cX11_copy 29 = .ok (.aload 7, 2) := by decide +kernel
theorem dX11_copy_31 : decode cX11_copy 31 = .ok (.ifnonnull 12, 3) := by decide +kernel
theorem dX11_copy_34 : decode cX11_copy 34 = .ok (.aload_n 0, 1) := by decide +kernel
theorem dX11_copy_35 : decode cX11_copy 35 = .ok (.iload_n 1, 1) := by decide +kernel
theorem dX11_copy_36 : decode cX11_copy 36 = .ok (.iload_n 3, 1) := by decide +kernel
theorem dX11_copy_37 : decode cX11_copy 37 = .ok (.bipush 6, 2) := by decide +kernel
theorem dX11_copy_39 : decode cX11_copy 39 = .ok (.invokevirtual 220, 3) := by decide +kernel
theorem dX11_copy_42 : decode cX11_copy 42 = .ok (.ireturn, 1) := by decide +kernel
theorem dX11_copy_43 : decode cX11_copy 43 = .ok (.aload 6, 2) := by decide +kernel
theorem dX11_copy_45 : decode cX11_copy 45 = .ok (.getfield 142, 3) := by decide +kernel
theorem dX11_copy_48 : decode cX11_copy 48 = .ok (.invokevirtual 205, 3) := by decide +kernel
theorem dX11_copy_51 : decode cX11_copy 51 = .ok (.ifCond .eq 14, 3) := by decide +kernel
theorem dX11_copy_54 : decode cX11_copy 54 = .ok (.aload 7, 2) := by decide +kernel
theorem dX11_copy_56 : decode cX11_copy 56 = .ok (.getfield 142, 3) := by decide +kernel
theorem dX11_copy_59 : decode cX11_copy 59 = .ok (.invokevirtual 205, 3) := by decide +kernel
theorem dX11_copy_62 : decode cX11_copy 62 = .ok (.ifCond .ne 10, 3) := by decide +kernel
theorem dX11_copy_65 : decode cX11_copy 65 = .ok (.aload_n 0, 1) := by decide +kernel
theorem dX11_copy_66 : decode cX11_copy 66 = .ok (.bipush (-2), 2) := by decide +kernel
theorem dX11_copy_68 : decode cX11_copy 68 = .ok (.invokevirtual 46, 3) := by decide +kernel
theorem dX11_copy_71 : decode cX11_copy 71 = .ok (.ireturn, 1) := by decide +kernel
theorem dX11_copy_72 : decode cX11_copy 72 = .ok (.aload 7, 2) := by decide +kernel
theorem dX11_copy_74 : decode cX11_copy 74 = .ok (.getfield 142, 3) := by decide +kernel
theorem dX11_copy_77 : decode cX11_copy 77 = .ok (.invokevirtual 146, 3) := by decide +kernel
theorem dX11_copy_80 : decode cX11_copy 80 = .ok (.ifCond .eq 10, 3) := by decide +kernel
theorem dX11_copy_83 : decode cX11_copy 83 = .ok (.aload_n 0, 1) := by decide +kernel
theorem dX11_copy_84 : decode cX11_copy 84 = .ok (.bipush (-12), 2) := by decide +kernel
theorem dX11_copy_86 : decode cX11_copy 86 = .ok (.invokevirtual 46, 3) := by decide +kernel
theorem dX11_copy_89 : decode cX11_copy 89 = .ok (.ireturn, 1) := by decide +kernel
theorem dX11_copy_90 : decode cX11_copy 90 = .ok (.aload 6, 2) := by decide +kernel
theorem dX11_copy_92 : decode cX11_copy 92 = .ok (.getfield 142, 3) := by decide +kernel
theorem dX11_copy_95 : decode cX11_copy 95 = .ok (.iload_n 2, 1) := by decide +kernel
theorem dX11_copy_96 : decode cX11_copy 96 = .ok (.iload 5, 2) := by decide +kernel
theorem dX11_copy_98 : decode cX11_copy 98 = .ok (.invokevirtual 224, 3) := by decide +kernel
theorem dX11_copy_101 : decode cX11_copy 101 = .ok (.ifCond .eq 18, 3) := by decide +kernel
theorem dX11_copy_104 : decode cX11_copy 104 = .ok (.aload 7, 2) := by decide +kernel
theorem dX11_copy_106 : decode cX11_copy 106 = .ok (.getfield 142, 3) := by decide +kernel
theorem dX11_copy_109 : decode cX11_copy 109 = .ok (.iload 4, 2) := by decide +kernel
theorem dX11_copy_111 : decode cX11_copy 111 = .ok (.iload 5, 2) := by decide +kernel
theorem dX11_copy_113 : decode cX11_copy 113 = .ok (.invokevirtual 224, 3) := by decide +kernel
theorem dX11_copy_116 : decode cX11_copy 116 = .ok (.ifCond .ne 10, 3) := by decide +kernel
theorem dX11_copy_119 : decode cX11_copy 119 = .ok (.aload_n 0, 1) := by decide +kernel
theorem dX11_copy_120 : decode cX11_copy 120 = .ok (.bipush (-6), 2) := by decide +kernel
theorem dX11_copy_122 : decode cX11_copy 122 = .ok (.invokevirtual 46, 3) := by decide +kernel
theorem dX11_copy_125 : decode cX11_copy 125 = .ok (.ireturn, 1) := by decide +kernel
theorem dX11_copy_126 : decode cX11_copy 126 = .ok (.aload 7, 2) := by decide +kernel
theorem dX11_copy_128 : decode cX11_copy 128 = .ok (.getfield 142, 3) := by decide +kernel
theorem dX11_copy_131 : decode cX11_copy 131 = .ok (.aload 6, 2) := by decide +kernel
theorem dX11_copy_133 : decode cX11_copy 133 = .ok (.getfield 142, 3) := by decide +kernel
theorem dX11_copy_136 : decode cX11_copy 136 = .ok (.iload_n 2, 1) := by decide +kernel
theorem dX11_copy_137 : decode cX11_copy 137 = .ok (.iload 4, 2) := by decide +kernel
theorem dX11_copy_139 : decode cX11_copy 139 = .ok (.iload 5, 2) := by decide +kernel
theorem dX11_copy_141 : decode cX11_copy 141 = .ok (.invokevirtual 227, 3) := by decide +kernel
theorem dX11_copy_144 : decode cX11_copy 144 = .ok (.iload 5, 2) := by decide +kernel
theorem dX11_copy_146 : decode cX11_copy 146 = .ok (.ireturn, 1) := by decide +kernel
theorem dX11_grow_0 : decode cX11_grow 0 = .ok (.iload_n 2, 1) := by decide +kernel
theorem dX11_grow_1 : decode cX11_grow 1 = .ok (.sipush 239, 3) := by decide +kernel
theorem dX11_grow_4 : decode cX11_grow 4 = .ok (.invokestatic 42, 3) := by decide +kernel
theorem dX11_grow_7 : decode cX11_grow 7 = .ok (.ifCond .ne 10, 3) := by decide +kernel
theorem dX11_grow_10 : decode cX11_grow 10 = .ok (.aload_n 0, 1) := by decide +kernel
theorem dX11_grow_11 : decode cX11_grow 11 = .ok (.bipush (-3), 2) := by decide +kernel
theorem dX11_grow_13 : decode cX11_grow 13 = .ok (.invokevirtual 46, 3) := by decide +kernel
theorem dX11_grow_16 : decode cX11_grow 16 = .ok (.ireturn, 1) := by decide +kernel
theorem dX11_grow_17 : decode cX11_grow 17 = .ok (.aload_n 0, 1) := by decide +kernel
theorem dX11_grow_18 : decode cX11_grow 18 = .ok (.getfield 10, 3) := by decide +kernel
theorem dX11_grow_21 : decode cX11_grow 21 = .ok (.iload_n 1, 1) := by decide +kernel
theorem dX11_grow_22 : decode cX11_grow 22 = .ok (.bipush 6, 2) := by decide +kernel
theorem dX11_grow_24 : decode cX11_grow 24 = .ok (.invokevirtual 54, 3) := by decide +kernel
theorem dX11_grow_27 : decode cX11_grow 27 = .ok (.astore_n 3, 1) := by decide +kernel
theorem dX11_grow_28 : decode cX11_grow 28 = .ok (.aload_n 3, 1) := by decide +kernel
theorem dX11_grow_29 : decode cX11_grow 29 = .ok (.ifnonnull 11, 3) := by decide +kernel
theorem dX11_grow_32 : decode cX11_grow 32 = .ok (.aload_n 0, 1) := by decide +kernel
theorem dX11_grow_33 : decode cX11_grow 33 = .ok (.iload_n 1, 1) := by decide +kernel
theorem dX11_grow_34 : decode cX11_grow 34 = .ok (.bipush 6, 2) := by decide +kernel
theorem dX11_grow_36 : decode cX11_grow 36 = .ok (.invokevirtual 58, 3) := by decide +kernel
theorem dX11_grow_39 : decode cX11_grow 39 = .ok (.ireturn, 1) := by decide +kernel
theorem dX11_grow_40 : decode cX11_grow 40 = .ok (.aload_n 3, 1) := by decide +kernel
theorem dX11_grow_41 : decode cX11_grow 41 = .ok (.iload_n 2, 1) := by decide +kernel
theorem dX11_grow_42 : decode cX11_grow 42 = .ok (.invokevirtual 231, 3) := by decide +kernel
theorem dX11_grow_45 : decode cX11_grow 45 = .ok (.istore 4, 2) := by decide +kernel
theorem dX11_grow_47 : decode cX11_grow 47 = .ok (.iload 4, 2) := by decide +kernel
theorem dX11_grow_49 : decode cX11_grow 49 = .ok (.ifCond .eq 10, 3) := by decide +kernel
theorem dX11_grow_52 : decode cX11_grow 52 = .ok (.aload_n 0, 1) := by decide +kernel
theorem dX11_grow_53 : decode cX11_grow 53 = .ok (.iload 4, 2) := by decide +kernel
theorem dX11_grow_55 : decode cX11_grow 55 = .ok (.invokevirtual 46, 3) := by decide +kernel
theorem dX11_grow_58 : decode cX11_grow 58 = .ok (.ireturn, 1) := by decide +kernel
theorem dX11_grow_59 : decode cX11_grow 59 = .ok (.aload_n 3, 1) := by decide +kernel
theorem dX11_grow_60 : decode cX11_grow 60 = .ok (.aload_n 3, 1) := by decide +kernel
theorem dX11_grow_61 : decode cX11_grow 61 = .ok (.getfield 142, 3) := by decide +kernel
theorem dX11_grow_64 : decode cX11_grow 64 = .ok (.getfield 211, 3) := by decide +kernel
theorem dX11_grow_67 : decode cX11_grow 67 = .ok (.iconst 1, 1) := by decide +kernel
theorem dX11_grow_68 : decode cX11_grow 68 = .ok (.iadd, 1) := by decide +kernel
theorem dX11_grow_69 : decode cX11_grow 69 = .ok (.invokevirtual 234, 3) := by decide +kernel
theorem dX11_grow_72 : decode cX11_grow 72 = .ok (.aload_n 3, 1) := by decide +kernel
theorem dX11_grow_73 : decode cX11_grow 73 = .ok (.getfield 151, 3) := by decide +kernel
theorem dX11_grow_76 : decode cX11_grow 76 = .ok (.iconst 1, 1) := by decide +kernel
theorem dX11_grow_77 : decode cX11_grow 77 = .ok (.invokevirtual 161, 3) := by decide +kernel
theorem dX11_grow_80 : decode cX11_grow 80 = .ok (.ireturn, 1) := by decide +kernel
theorem dX11_back_0 : decode cX11_back 0 = .ok (.aload_n 0, 1) := by decide +kernel
theorem dX11_back_1 : decode cX11_back 1 = .ok (.getfield 10, 3) := by decide +kernel
theorem dX11_back_4 : decode cX11_back 4 = .ok (.iload_n 1, 1) := by decide +kernel
theorem dX11_back_5 : decode cX11_back 5 = .ok (.bipush 6, 2) := by decide +kernel
theorem dX11_back_7 : decode cX11_back 7 = .ok (.invokevirtual 54, 3) := by decide +kernel
theorem dX11_back_10 : decode cX11_back 10 = .ok (.astore_n 2, 1) := by decide +kernel
theorem dX11_back_11 : decode cX11_back 11 = .ok (.aload_n 2, 1) := by decide +kernel
theorem dX11_back_12 : decode cX11_back 12 = .ok (.ifnonnull 11, 3) := by decide +kernel
theorem dX11_back_15 : decode cX11_back 15 = .ok (.aload_n 0, 1) := by decide +kernel
theorem dX11_back_16 : decode cX11_back 16 = .ok (.iload_n 1, 1) := by decide +kernel
theorem dX11_back_17 : decode cX11_back 17 = .ok (.bipush 6, 2) := by decide +kernel
theorem dX11_back_19 : decode cX11_back 19 = .ok (.invokevirtual 58, 3) := by decide +kernel
theorem dX11_back_22 : decode cX11_back 22 = .ok (.ireturn, 1) := by decide +kernel
theorem dX11_back_23 : decode cX11_back 23 = .ok (.aload_n 2, 1) := by decide +kernel
theorem dX11_back_24 : decode cX11_back 24 = .ok (.getfield 142, 3) := by decide +kernel
theorem dX11_back_27 : decode cX11_back 27 = .ok (.getfield 211, 3) := by decide +kernel
theorem dX11_back_30 : decode cX11_back 30 = .ok (.ifCond .le 20, 3) := by decide +kernel
theorem dX11_back_33 : decode cX11_back 33 = .ok (.aload_n 2, 1) := by decide +kernel
theorem dX11_back_34 : decode cX11_back 34 = .ok (.getfield 142, 3) := by decide +kernel
theorem dX11_back_37 : decode cX11_back 37 = .ok (.invokevirtual 205, 3) := by decide +kernel
theorem dX11_back_40 : decode cX11_back 40 = .ok (.ifCond .ne 10, 3) := by decide +kernel
theorem dX11_back_43 : decode cX11_back 43 = .ok (.aload_n 0, 1) := by decide +kernel
theorem dX11_back_44 : decode cX11_back 44 = .ok (.bipush (-2), 2) := by decide +kernel
theorem dX11_back_46 : decode cX11_back 46 = .ok (.invokevirtual 46, 3) := by decide +kernel
theorem dX11_back_49 : decode cX11_back 49 = .ok (.ireturn, 1) := by decide +kernel
theorem dX11_back_50 : decode cX11_back 50 = .ok (.aload_n 2, 1) := by decide +kernel
theorem dX11_back_51 : decode cX11_back 51 = .ok (.getfield 142, 3) := by decide +kernel
theorem dX11_back_54 : decode cX11_back 54 = .ok (.invokevirtual 146, 3) := by decide +kernel
theorem dX11_back_57 : decode cX11_back 57 = .ok (.ifCond .ne 10, 3) := by decide +kernel
theorem dX11_back_60 : decode cX11_back 60 = .ok (.aload_n 0, 1) := by decide +kernel
theorem dX11_back_61 : decode cX11_back 61 = .ok (.bipush (-12), 2) := by decide +kernel
theorem dX11_back_63 : decode cX11_back 63 = .ok (.invokevirtual 46, 3) := by decide +kernel
theorem dX11_back_66 : decode cX11_back 66 = .ok (.ireturn, 1) := by decide +kernel
theorem dX11_back_67 : decode cX11_back 67 = .ok (.aload_n 2, 1) := by decide +kernel
theorem dX11_back_68 : decode cX11_back 68 = .ok (.aload_n 2, 1) := by decide +kernel
theorem dX11_back_69 : decode cX11_back 69 = .ok (.getfield 142, 3) := by decide +kernel
theorem dX11_back_72 : decode cX11_back 72 = .ok (.getfield 211, 3) := by decide +kernel
theorem dX11_back_75 : decode cX11_back 75 = .ok (.iconst 1, 1) := by decide +kernel
theorem dX11_back_76 : decode cX11_back 76 = .ok (.isub, 1) := by decide +kernel
theorem dX11_back_77 : decode cX11_back 77 = .ok (.invokevirtual 234, 3) := by decide +kernel
theorem dX11_back_80 : decode cX11_back 80 = .ok (.aload_n 2, 1) := by decide +kernel
theorem dX11_back_81 : decode cX11_back 81 = .ok (.getfield 151, 3) := by decide +kernel
theorem dX11_back_84 : decode cX11_back 84 = .ok (.iconst 1, 1) := by decide +kernel
theorem dX11_back_85 : decode cX11_back 85 = .ok (.invokevirtual 161, 3) := by decide +kernel
theorem dX11_back_88 : decode cX11_back 88 = .ok (.ireturn, 1) := by decide +kernel
theorem dX11_stands_0 : decode cX11_stands 0 = .ok (.aload_n 0, 1) := by decide +kernel
theorem dX11_stands_1 : decode cX11_stands 1 = .ok (.getfield 10, 3) := by decide +kernel
theorem dX11_stands_4 : decode cX11_stands 4 = .ok (.iload_n 1, 1) := by decide +kernel
theorem dX11_stands_5 : decode cX11_stands 5 = .ok (.bipush 6, 2) := by decide +kernel
theorem dX11_stands_7 : decode cX11_stands 7 = .ok (.invokevirtual 54, 3) := by decide +kernel
theorem dX11_stands_10 : decode cX11_stands 10 = .ok (.astore_n 3, 1) := by decide +kernel
theorem dX11_stands_11 : decode cX11_stands 11 = .ok (.aload_n 3, 1) := by decide +kernel
theorem dX11_stands_12 : decode cX11_stands 12 = .ok (.ifnonnull 11, 3) := by decide +kernel
theorem dX11_stands_15 : decode cX11_stands 15 = .ok (.aload_n 0, 1) := by decide +kernel
theorem dX11_stands_16 : decode cX11_stands 16 = .ok (.iload_n 1, 1) := by decide +kernel
theorem dX11_stands_17 : decode cX11_stands 17 = .ok (.bipush 6, 2) := by decide +kernel
theorem dX11_stands_19 : decode cX11_stands 19 = .ok (.invokevirtual 58, 3) := by decide +kernel
theorem dX11_stands_22 : decode cX11_stands 22 = .ok (.ireturn, 1) := by decide +kernel
theorem dX11_stands_23 : decode cX11_stands 23 = .ok (.iload_n 2, 1) := by decide +kernel
theorem dX11_stands_24 : decode cX11_stands 24 = .ok (.tableswitch 64 0 3 #[32, 40, 48, 56], 32) := by decide +kernel
theorem dX11_stands_56 : decode cX11_stands 56 = .ok (.aload_n 3, 1) := by decide +kernel
theorem dX11_stands_57 : decode cX11_stands 57 = .ok (.getfield 142, 3) := by decide +kernel
theorem dX11_stands_60 : decode cX11_stands 60 = .ok (.getfield 211, 3) := by decide +kernel
theorem dX11_stands_63 : decode cX11_stands 63 = .ok (.ireturn, 1) := by decide +kernel
theorem dX11_stands_64 : decode cX11_stands 64 = .ok (.aload_n 3, 1) := by decide +kernel
theorem dX11_stands_65 : decode cX11_stands 65 = .ok (.getfield 142, 3) := by decide +kernel
theorem dX11_stands_68 : decode cX11_stands 68 = .ok (.getfield 237, 3) := by decide +kernel
theorem dX11_stands_71 : decode cX11_stands 71 = .ok (.ireturn, 1) := by decide +kernel
theorem dX11_stands_72 : decode cX11_stands 72 = .ok (.aload_n 3, 1) := by decide +kernel
theorem dX11_stands_73 : decode cX11_stands 73 = .ok (.getfield 240, 3) := by decide +kernel
theorem dX11_stands_76 : decode cX11_stands 76 = .ok (.getfield 244, 3) := by decide +kernel
theorem dX11_stands_79 : decode cX11_stands 79 = .ok (.ireturn, 1) := by decide +kernel
theorem dX11_stands_80 : decode cX11_stands 80 = .ok (.aload_n 3, 1) := by decide +kernel
theorem dX11_stands_81 : decode cX11_stands 81 = .ok (.getfield 240, 3) := by decide +kernel
theorem dX11_stands_84 : decode cX11_stands 84 = .ok (.getfield 249, 3) := by decide +kernel
theorem dX11_stands_87 : decode cX11_stands 87 = .ok (.ireturn, 1) := by decide +kernel
theorem dX11_stands_88 : decode cX11_stands 88 = .ok (.aload_n 0, 1) := by decide +kernel
theorem dX11_stands_89 : decode cX11_stands 89 = .ok (.bipush (-12), 2) := by decide +kernel
theorem dX11_stands_91 : decode cX11_stands 91 = .ok (.invokevirtual 46, 3) := by decide +kernel
theorem dX11_stands_94 : decode cX11_stands 94 = .ok (.ireturn, 1) := by decide +kernel
theorem dX11_budget_0 : decode cX11_budget 0 = .ok (.aload_n 0, 1) := by decide +kernel
theorem dX11_budget_1 : decode cX11_budget 1 = .ok (.getfield 10, 3) := by decide +kernel
theorem dX11_budget_4 : decode cX11_budget 4 = .ok (.iload_n 1, 1) := by decide +kernel
theorem dX11_budget_5 : decode cX11_budget 5 = .ok (.bipush 6, 2) := by decide +kernel
theorem dX11_budget_7 : decode cX11_budget 7 = .ok (.invokevirtual 54, 3) := by decide +kernel
theorem dX11_budget_10 : decode cX11_budget 10 = .ok (.astore 6, 2) := by decide +kernel
theorem dX11_budget_12 : decode cX11_budget 12 = .ok (.aload 6, 2) := by decide +kernel
theorem dX11_budget_14 : decode cX11_budget 14 = .ok (.ifnonnull 11, 3) := by decide +kernel
theorem dX11_budget_17 : decode cX11_budget 17 = .ok (.aload_n 0, 1) := by decide +kernel
theorem dX11_budget_18 : decode cX11_budget 18 = .ok (.iload_n 1, 1) := by decide +kernel
theorem dX11_budget_19 : decode cX11_budget 19 = .ok (.bipush 6, 2) := by decide +kernel
theorem dX11_budget_21 : decode cX11_budget 21 = .ok (.invokevirtual 58, 3) := by decide +kernel
theorem dX11_budget_24 : decode cX11_budget 24 = .ok (.ireturn, 1) := by decide +kernel
theorem dX11_budget_25 : decode cX11_budget 25 = .ok (.iload_n 2, 1) := by decide +kernel
theorem dX11_budget_26 : decode cX11_budget 26 = .ok (.iconst 1, 1) := by decide +kernel
theorem dX11_budget_27 : decode cX11_budget 27 = .ok (.if_icmp .lt 29, 3) := by decide +kernel
theorem dX11_budget_30 : decode cX11_budget 30 = .ok (.iload_n 2, 1) := by decide +kernel
theorem dX11_budget_31 : decode cX11_budget 31 = .ok (.bipush 60, 2) := by decide +kernel
theorem dX11_budget_33 : decode cX11_budget 33 = .ok (.if_icmp .gt 23, 3) := by decide +kernel
theorem dX11_budget_36 : decode cX11_budget 36 = .ok (.iload_n 3, 1) := by decide +kernel
theorem dX11_budget_37 : decode cX11_budget 37 = .ok (.ldc 252, 2) := by decide +kernel
theorem dX11_budget_39 : decode cX11_budget 39 = .ok (.invokestatic 42, 3) := by decide +kernel
theorem dX11_budget_42 : decode cX11_budget 42 = .ok (.ifCond .eq 14, 3) := by decide +kernel
theorem dX11_budget_45 : decode cX11_budget 45 = .ok (.iload 4, 2) := by decide +kernel
theorem dX11_budget_47 : decode cX11_budget 47 = .ok (.sipush 10000, 3) := by decide +kernel
theorem dX11_budget_50 : decode cX11_budget 50 = .ok (.invokestatic 42, 3) := by decide +kernel
theorem dX11_budget_53 : decode cX11_budget 53 = .ok (.ifCond .ne 10, 3) := by decide +kernel
theorem dX11_budget_56 : decode cX11_budget 56 = .ok (.aload_n 0, 1) := by decide +kernel
theorem dX11_budget_57 : decode cX11_budget 57 = .ok (.bipush (-12), 2) := by decide +kernel
theorem dX11_budget_59 : decode cX11_budget 59 = .ok (.invokevirtual 46, 3) := by decide +kernel
theorem dX11_budget_62 : decode cX11_budget 62 = .ok (.ireturn, 1) := by decide +kernel
theorem dX11_budget_63 : decode cX11_budget 63 = .ok (.aload 6, 2) := by decide +kernel
theorem dX11_budget_65 : decode cX11_budget 65 = .ok (.getfield 240, 3) := by decide +kernel
theorem dX11_budget_68 : decode cX11_budget 68 = .ok (.iload_n 2, 1) := by decide +kernel
theorem dX11_budget_69 : decode cX11_budget 69 = .ok (.iload_n 3, 1) := by decide +kernel
theorem dX11_budget_70 : decode cX11_budget 70 = .ok (.iload 4, 2) := by decide +kernel
theorem dX11_budget_72 : decode cX11_budget 72 = .ok (.iload 5, 2) := by decide +kernel
theorem dX11_budget_74 : decode cX11_budget 74 = .ok (.invokevirtual 253, 3) := by decide +kernel
theorem dX11_budget_77 : decode cX11_budget 77 = .ok (.iconst 1, 1) := by decide +kernel
theorem dX11_budget_78 : decode cX11_budget 78 = .ok (.ireturn, 1) := by decide +kernel
theorem dX11_waits_0 : decode cX11_waits 0 = .ok (.aload_n 0, 1) := by decide +kernel
theorem dX11_waits_1 : decode cX11_waits 1 = .ok (.getfield 10, 3) := by decide +kernel
theorem dX11_waits_4 : decode cX11_waits 4 = .ok (.iload_n 1, 1) := by decide +kernel
theorem dX11_waits_5 : decode cX11_waits 5 = .ok (.bipush 6, 2) := by decide +kernel
theorem dX11_waits_7 : decode cX11_waits 7 = .ok (.invokevirtual 54, 3) := by decide +kernel
theorem dX11_waits_10 : decode cX11_waits 10 = .ok (.astore_n 3, 1) := by decide +kernel
theorem dX11_waits_11 : decode cX11_waits 11 = .ok (.aload_n 3, 1) := by decide +kernel
theorem dX11_waits_12 : decode cX11_waits 12 = .ok (.ifnonnull 11, 3) := by decide +kernel
theorem dX11_waits_15 : decode cX11_waits 15 = .ok (.aload_n 0, 1) := by decide +kernel
theorem dX11_waits_16 : decode cX11_waits 16 = .ok (.iload_n 1, 1) := by decide +kernel
theorem dX11_waits_17 : decode cX11_waits 17 = .ok (.bipush 6, 2) := by decide +kernel
theorem dX11_waits_19 : decode cX11_waits 19 = .ok (.invokevirtual 58, 3) := by decide +kernel
theorem dX11_waits_22 : decode cX11_waits 22 = .ok (.ireturn, 1) := by decide +kernel
theorem dX11_waits_23 : decode cX11_waits 23 = .ok (.iload_n 2, 1) := by decide +kernel
theorem dX11_waits_24 : decode cX11_waits 24 = .ok (.bipush 100, 2) := by decide +kernel
theorem dX11_waits_26 : decode cX11_waits 26 = .ok (.invokestatic 42, 3) := by decide +kernel
theorem dX11_waits_29 : decode cX11_waits 29 = .ok (.ifCond .ne 10, 3) := by decide +kernel
theorem dX11_waits_32 : decode cX11_waits 32 = .ok (.aload_n 0, 1) := by decide +kernel
theorem dX11_waits_33 : decode cX11_waits 33 = .ok (.bipush (-12), 2) := by decide +kernel
theorem dX11_waits_35 : decode cX11_waits 35 = .ok (.invokevirtual 46, 3) := by decide +kernel
theorem dX11_waits_38 : decode cX11_waits 38 = .ok (.ireturn, 1) := by decide +kernel
theorem dX11_waits_39 : decode cX11_waits 39 = .ok (.aload_n 3, 1) := by decide +kernel
theorem dX11_waits_40 : decode cX11_waits 40 = .ok (.getfield 240, 3) := by decide +kernel
theorem dX11_waits_43 : decode cX11_waits 43 = .ok (.getfield 257, 3) := by decide +kernel
theorem dX11_waits_46 : decode cX11_waits 46 = .ok (.istore 4, 2) := by decide +kernel
theorem dX11_waits_48 : decode cX11_waits 48 = .ok (.aload_n 3, 1) := by decide +kernel
theorem dX11_waits_49 : decode cX11_waits 49 = .ok (.getfield 240, 3) := by decide +kernel
theorem dX11_waits_52 : decode cX11_waits 52 = .ok (.iload_n 2, 1) := by decide +kernel
theorem dX11_waits_53 : decode cX11_waits 53 = .ok (.putfield 257, 3) := by decide +kernel
theorem dX11_waits_56 : decode cX11_waits 56 = .ok (.iload 4, 2) := by decide +kernel
theorem dX11_waits_58 : decode cX11_waits 58 = .ok (.ireturn, 1) := by decide +kernel
theorem dX11_count_0 : decode cX11_count 0 = .ok (.iload_n 2, 1) := by decide +kernel
theorem dX11_count_1 : decode cX11_count 1 = .ok (.iload_n 3, 1) := by decide +kernel
theorem dX11_count_2 : decode cX11_count 2 = .ok (.invokestatic 260, 3) := by decide +kernel
theorem dX11_count_5 : decode cX11_count 5 = .ok (.ifCond .ne 10, 3) := by decide +kernel
theorem dX11_count_8 : decode cX11_count 8 = .ok (.aload_n 0, 1) := by decide +kernel
theorem dX11_count_9 : decode cX11_count 9 = .ok (.bipush (-3), 2) := by decide +kernel
theorem dX11_count_11 : decode cX11_count 11 = .ok (.invokevirtual 46, 3) := by decide +kernel
theorem dX11_count_14 : decode cX11_count 14 = .ok (.ireturn, 1) := by decide +kernel
theorem dX11_count_15 : decode cX11_count 15 = .ok (.aload_n 0, 1) := by decide +kernel
theorem dX11_count_16 : decode cX11_count 16 = .ok (.getfield 10, 3) := by decide +kernel
theorem dX11_count_19 : decode cX11_count 19 = .ok (.iload_n 1, 1) := by decide +kernel
theorem dX11_count_20 : decode cX11_count 20 = .ok (.bipush 31, 2) := by decide +kernel
theorem dX11_count_22 : decode cX11_count 22 = .ok (.invokevirtual 54, 3) := by decide +kernel
theorem dX11_count_25 : decode cX11_count 25 = .ok (.astore 6, 2) := by decide +kernel
theorem dX11_count_27 : decode cX11_count 27 = .ok (.aload 6, 2) := by decide +kernel
theorem dX11_count_29 : decode cX11_count 29 = .ok (.ifnonnull 11, 3) := by decide +kernel
theorem dX11_count_32 : decode cX11_count 32 = .ok (.aload_n 0, 1) := by decide +kernel
theorem dX11_count_33 : decode cX11_count 33 = .ok (.iload_n 1, 1) := by decide +kernel
theorem dX11_count_34 : decode cX11_count 34 = .ok (.bipush 31, 2) := by decide +kernel
theorem dX11_count_36 : decode cX11_count 36 = .ok (.invokevirtual 58, 3) := by decide +kernel
theorem dX11_count_39 : decode cX11_count 39 = .ok (.ireturn, 1) := by decide +kernel
theorem dX11_count_40 : decode cX11_count 40 = .ok (.aload 6, 2) := by decide +kernel
theorem dX11_count_42 : decode cX11_count 42 = .ok (.iload_n 2, 1) := by decide +kernel
theorem dX11_count_43 : decode cX11_count 43 = .ok (.invokevirtual 263, 3) := by decide +kernel
theorem dX11_count_46 : decode cX11_count 46 = .ok (.astore 7, 2) := by decide +kernel
theorem dX11_count_48 : decode cX11_count 48 = .ok (.aload 7, 2) := by decide +kernel
theorem dX11_count_50 : decode cX11_count 50 = .ok (.ifnonnull 10, 3) := by decide +kernel
theorem dX11_count_53 : decode cX11_count 53 = .ok (.aload_n 0, 1) := by decide +kernel
theorem dX11_count_54 : decode cX11_count 54 = .ok (.bipush (-2), 2) := by decide +kernel
theorem dX11_count_56 : decode cX11_count 56 = .ok (.invokevirtual 46, 3) := by decide +kernel
theorem dX11_count_59 : decode cX11_count 59 = .ok (.ireturn, 1) := by decide +kernel
theorem dX11_count_60 : decode cX11_count 60 = .ok (.iload 4, 2) := by decide +kernel
theorem dX11_count_62 : decode cX11_count 62 = .ok (.ldc 252, 2) := by decide +kernel
theorem dX11_count_64 : decode cX11_count 64 = .ok (.invokestatic 42, 3) := by decide +kernel
theorem dX11_count_67 : decode cX11_count 67 = .ok (.ifCond .eq 13, 3) := by decide +kernel
theorem dX11_count_70 : decode cX11_count 70 = .ok (.iload 5, 2) := by decide +kernel
theorem dX11_count_72 : decode cX11_count 72 = .ok (.iload 4, 2) := by decide +kernel
theorem dX11_count_74 : decode cX11_count 74 = .ok (.invokestatic 42, 3) := by decide +kernel
theorem dX11_count_77 : decode cX11_count 77 = .ok (.ifCond .ne 10, 3) := by decide +kernel
theorem dX11_count_80 : decode cX11_count 80 = .ok (.aload_n 0, 1) := by decide +kernel
theorem dX11_count_81 : decode cX11_count 81 = .ok (.bipush (-12), 2) := by decide +kernel
theorem dX11_count_83 : decode cX11_count 83 = .ok (.invokevirtual 46, 3) := by decide +kernel
theorem dX11_count_86 : decode cX11_count 86 = .ok (.ireturn, 1) := by decide +kernel
theorem dX11_count_87 : decode cX11_count 87 = .ok (.aload 7, 2) := by decide +kernel
theorem dX11_count_89 : decode cX11_count 89 = .ok (.iload_n 3, 1) := by decide +kernel
theorem dX11_count_90 : decode cX11_count 90 = .ok (.iload 4, 2) := by decide +kernel
theorem dX11_count_92 : decode cX11_count 92 = .ok (.iload 5, 2) := by decide +kernel
theorem dX11_count_94 : decode cX11_count 94 = .ok (.invokevirtual 267, 3) := by decide +kernel
theorem dX11_count_97 : decode cX11_count 97 = .ok (.iload_n 2, 1) := by decide +kernel
theorem dX11_count_98 : decode cX11_count 98 = .ok (.iconst 1, 1) := by decide +kernel
theorem dX11_count_99 : decode cX11_count 99 = .ok (.if_icmp .ne 9, 3) := by decide +kernel
theorem dX11_count_102 : decode cX11_count 102 = .ok (.aload 6, 2) := by decide +kernel
theorem dX11_count_104 : decode cX11_count 104 = .ok (.iload_n 3, 1) := by decide +kernel
theorem dX11_count_105 : decode cX11_count 105 = .ok (.invokevirtual 272, 3) := by decide +kernel
theorem dX11_count_108 : decode cX11_count 108 = .ok (.aload 6, 2) := by decide +kernel
theorem dX11_count_110 : decode cX11_count 110 = .ok (.getfield 151, 3) := by decide +kernel
theorem dX11_count_113 : decode cX11_count 113 = .ok (.iconst 1, 1) := by decide +kernel
theorem dX11_count_114 : decode cX11_count 114 = .ok (.invokevirtual 161, 3) := by decide +kernel
theorem dX11_count_117 : decode cX11_count 117 = .ok (.ireturn, 1) := by decide +kernel
theorem dX11_goods_0 : decode cX11_goods 0 = .ok (.iload_n 2, 1) := by decide +kernel
theorem dX11_goods_1 : decode cX11_goods 1 = .ok (.iload_n 3, 1) := by decide +kernel
theorem dX11_goods_2 : decode cX11_goods 2 = .ok (.invokestatic 260, 3) := by decide +kernel
theorem dX11_goods_5 : decode cX11_goods 5 = .ok (.ifCond .ne 10, 3) := by decide +kernel
theorem dX11_goods_8 : decode cX11_goods 8 = .ok (.aload_n 0, 1) := by decide +kernel
theorem dX11_goods_9 : decode cX11_goods 9 = .ok (.bipush (-3), 2) := by decide +kernel
theorem dX11_goods_11 : decode cX11_goods 11 = .ok (.invokevirtual 46, 3) := by decide +kernel
theorem dX11_goods_14 : decode cX11_goods 14 = .ok (.ireturn, 1) := by decide +kernel
theorem dX11_goods_15 : decode cX11_goods 15 = .ok (.aload_n 0, 1) := by decide +kernel
theorem dX11_goods_16 : decode cX11_goods 16 = .ok (.getfield 10, 3) := by decide +kernel
theorem dX11_goods_19 : decode cX11_goods 19 = .ok (.iload_n 1, 1) := by decide +kernel
theorem dX11_goods_20 : decode cX11_goods 20 = .ok (.bipush 31, 2) := by decide +kernel
theorem dX11_goods_22 : decode cX11_goods 22 = .ok (.invokevirtual 54, 3) := by decide +kernel
theorem dX11_goods_25 : decode cX11_goods 25 = .ok (.astore 5, 2) := by decide +kernel
theorem dX11_goods_27 : decode cX11_goods 27 = .ok (.aload 5, 2) := by decide +kernel
theorem dX11_goods_29 : decode cX11_goods 29 = .ok (.ifnonnull 11, 3) := by decide +kernel
theorem dX11_goods_32 : decode cX11_goods 32 = .ok (.aload_n 0, 1) := by decide +kernel
theorem dX11_goods_33 : decode cX11_goods 33 = .ok (.iload_n 1, 1) := by decide +kernel
theorem dX11_goods_34 : decode cX11_goods 34 = .ok (.bipush 31, 2) := by decide +kernel
theorem dX11_goods_36 : decode cX11_goods 36 = .ok (.invokevirtual 58, 3) := by decide +kernel
theorem dX11_goods_39 : decode cX11_goods 39 = .ok (.ireturn, 1) := by decide +kernel
theorem dX11_goods_40 : decode cX11_goods 40 = .ok (.aload 5, 2) := by decide +kernel
theorem dX11_goods_42 : decode cX11_goods 42 = .ok (.iload_n 2, 1) := by decide +kernel
theorem dX11_goods_43 : decode cX11_goods 43 = .ok (.invokevirtual 263, 3) := by decide +kernel
theorem dX11_goods_46 : decode cX11_goods 46 = .ok (.astore 6, 2) := by decide +kernel
theorem dX11_goods_48 : decode cX11_goods 48 = .ok (.aload 6, 2) := by decide +kernel
theorem dX11_goods_50 : decode cX11_goods 50 = .ok (.ifnonnull 10, 3) := by decide +kernel
theorem dX11_goods_53 : decode cX11_goods 53 = .ok (.aload_n 0, 1) := by decide +kernel
theorem dX11_goods_54 : decode cX11_goods 54 = .ok (.bipush (-2), 2) := by decide +kernel
theorem dX11_goods_56 : decode cX11_goods 56 = .ok (.invokevirtual 46, 3) := by decide +kernel
theorem dX11_goods_59 : decode cX11_goods 59 = .ok (.ireturn, 1) := by decide +kernel
theorem dX11_goods_60 : decode cX11_goods 60 = .ok (.aload 6, 2) := by decide +kernel
theorem dX11_goods_62 : decode cX11_goods 62 = .ok (.iload_n 3, 1) := by decide +kernel
theorem dX11_goods_63 : decode cX11_goods 63 = .ok (.invokevirtual 275, 3) := by decide +kernel
theorem dX11_goods_66 : decode cX11_goods 66 = .ok (.ifCond .ne 10, 3) := by decide +kernel
theorem dX11_goods_69 : decode cX11_goods 69 = .ok (.aload_n 0, 1) := by decide +kernel
theorem dX11_goods_70 : decode cX11_goods 70 = .ok (.bipush (-8), 2) := by decide +kernel
theorem dX11_goods_72 : decode cX11_goods 72 = .ok (.invokevirtual 46, 3) := by decide +kernel
theorem dX11_goods_75 : decode cX11_goods 75 = .ok (.ireturn, 1) := by decide +kernel
theorem dX11_goods_76 : decode cX11_goods 76 = .ok (.iload 4, 2) := by decide +kernel
theorem dX11_goods_78 : decode cX11_goods 78 = .ok (.aload 6, 2) := by decide +kernel
theorem dX11_goods_80 : decode cX11_goods 80 = .ok (.iload_n 3, 1) := by decide +kernel
theorem dX11_goods_81 : decode cX11_goods 81 = .ok (.invokevirtual 278, 3) := by decide +kernel
theorem dX11_goods_84 : decode cX11_goods 84 = .ok (.invokestatic 42, 3) := by decide +kernel
theorem dX11_goods_87 : decode cX11_goods 87 = .ok (.ifCond .ne 10, 3) := by decide +kernel
theorem dX11_goods_90 : decode cX11_goods 90 = .ok (.aload_n 0, 1) := by decide +kernel
theorem dX11_goods_91 : decode cX11_goods 91 = .ok (.bipush (-12), 2) := by decide +kernel
theorem dX11_goods_93 : decode cX11_goods 93 = .ok (.invokevirtual 46, 3) := by decide +kernel
theorem dX11_goods_96 : decode cX11_goods 96 = .ok (.ireturn, 1) := by decide +kernel
theorem dX11_goods_97 : decode cX11_goods 97 = .ok (.aload 6, 2) := by decide +kernel
theorem dX11_goods_99 : decode cX11_goods 99 = .ok (.iload_n 3, 1) := by decide +kernel
theorem dX11_goods_100 : decode cX11_goods 100 = .ok (.iload 4, 2) := by decide +kernel
theorem dX11_goods_102 : decode cX11_goods 102 = .ok (.invokevirtual 281, 3) := by decide +kernel
theorem dX11_goods_105 : decode cX11_goods 105 = .ok (.iconst 1, 1) := by decide +kernel
theorem dX11_goods_106 : decode cX11_goods 106 = .ok (.ireturn, 1) := by decide +kernel
theorem dX11_counts_0 : decode cX11_counts 0 = .ok (.iload_n 2, 1) := by decide +kernel
theorem dX11_counts_1 : decode cX11_counts 1 = .ok (.iconst 3, 1) := by decide +kernel
theorem dX11_counts_2 : decode cX11_counts 2 = .ok (.invokestatic 42, 3) := by decide +kernel
theorem dX11_counts_5 : decode cX11_counts 5 = .ok (.ifCond .ne 10, 3) := by decide +kernel
theorem dX11_counts_8 : decode cX11_counts 8 = .ok (.aload_n 0, 1) := by decide +kernel
theorem dX11_counts_9 : decode cX11_counts 9 = .ok (.bipush (-3), 2) := by decide +kernel
theorem dX11_counts_11 : decode cX11_counts 11 = .ok (.invokevirtual 46, 3) := by decide +kernel
theorem dX11_counts_14 : decode cX11_counts 14 = .ok (.ireturn, 1) := by decide +kernel
theorem dX11_counts_15 : decode cX11_counts 15 = .ok (.aload_n 0, 1) := by decide +kernel
theorem dX11_counts_16 : decode cX11_counts 16 = .ok (.getfield 10, 3) := by decide +kernel
theorem dX11_counts_19 : decode cX11_counts 19 = .ok (.iload_n 1, 1) := by decide +kernel
theorem dX11_counts_20 : decode cX11_counts 20 = .ok (.bipush 31, 2) := by decide +kernel
theorem dX11_counts_22 : decode cX11_counts 22 = .ok (.invokevirtual 54, 3) := by decide +kernel
theorem dX11_counts_25 : decode cX11_counts 25 = .ok (.astore 4, 2) := by decide +kernel
theorem dX11_counts_27 : decode cX11_counts 27 = .ok (.aload 4, 2) := by decide +kernel
theorem dX11_counts_29 : decode cX11_counts 29 = .ok (.ifnonnull 11, 3) := by decide +kernel
theorem dX11_counts_32 : decode cX11_counts 32 = .ok (.aload_n 0, 1) := by decide +kernel
theorem dX11_counts_33 : decode cX11_counts 33 = .ok (.iload_n 1, 1) := by decide +kernel
theorem dX11_counts_34 : decode cX11_counts 34 = .ok (.bipush 31, 2) := by decide +kernel
theorem dX11_counts_36 : decode cX11_counts 36 = .ok (.invokevirtual 58, 3) := by decide +kernel
theorem dX11_counts_39 : decode cX11_counts 39 = .ok (.ireturn, 1) := by decide +kernel
theorem dX11_counts_40 : decode cX11_counts 40 = .ok (.aload 4, 2) := by decide +kernel
theorem dX11_counts_42 : decode cX11_counts 42 = .ok (.iload_n 2, 1) := by decide +kernel
theorem dX11_counts_43 : decode cX11_counts 43 = .ok (.invokevirtual 263, 3) := by decide +kernel
theorem dX11_counts_46 : decode cX11_counts 46 = .ok (.ifnonnull 7, 3) := by decide +kernel
theorem dX11_counts_49 : decode cX11_counts 49 = .ok (.iconst 0, 1) := by decide +kernel
theorem dX11_counts_50 : decode cX11_counts 50 = .ok (.goto 4, 3) := by decide +kernel
theorem dX11_counts_53 : decode cX11_counts 53 = .ok (.iconst 1, 1) := by decide +kernel
theorem dX11_counts_54 : decode cX11_counts 54 = .ok (.istore 5, 2) := by decide +kernel
theorem dX11_counts_56 : decode cX11_counts 56 = .ok (.aload 4, 2) := by decide +kernel
theorem dX11_counts_58 : decode cX11_counts 58 = .ok (.iload_n 2, 1) := by decide +kernel
theorem dX11_counts_59 : decode cX11_counts 59 = .ok (.iload_n 3, 1) := by decide +kernel
theorem dX11_counts_60 : decode cX11_counts 60 = .ok (.invokevirtual 284, 3) := by decide +kernel
theorem dX11_counts_63 : decode cX11_counts 63 = .ok (.iload 5, 2) := by decide +kernel
theorem dX11_counts_65 : decode cX11_counts 65 = .ok (.ireturn, 1) := by decide +kernel
theorem dX11_told_0 : decode cX11_told 0 = .ok (.iload_n 2, 1) := by decide +kernel
theorem dX11_told_1 : decode cX11_told 1 = .ok (.iload_n 3, 1) := by decide +kernel
theorem dX11_told_2 : decode cX11_told 2 = .ok (.invokestatic 260, 3) := by decide +kernel
theorem dX11_told_5 : decode cX11_told 5 = .ok (.ifCond .ne 10, 3) := by decide +kernel
theorem dX11_told_8 : decode cX11_told 8 = .ok (.aload_n 0, 1) := by decide +kernel
theorem dX11_told_9 : decode cX11_told 9 = .ok (.bipush (-3), 2) := by decide +kernel
theorem dX11_told_11 : decode cX11_told 11 = .ok (.invokevirtual 46, 3) := by decide +kernel
theorem dX11_told_14 : decode cX11_told 14 = .ok (.ireturn, 1) := by decide +kernel
theorem dX11_told_15 : decode cX11_told 15 = .ok (.aload_n 0, 1) := by decide +kernel
theorem dX11_told_16 : decode cX11_told 16 = .ok (.getfield 10, 3) := by decide +kernel
theorem dX11_told_19 : decode cX11_told 19 = .ok (.iload_n 1, 1) := by decide +kernel
theorem dX11_told_20 : decode cX11_told 20 = .ok (.bipush 31, 2) := by decide +kernel
theorem dX11_told_22 : decode cX11_told 22 = .ok (.invokevirtual 54, 3) := by decide +kernel
theorem dX11_told_25 : decode cX11_told 25 = .ok (.astore 5, 2) := by decide +kernel
theorem dX11_told_27 : decode cX11_told 27 = .ok (.aload 5, 2) := by decide +kernel
theorem dX11_told_29 : decode cX11_told 29 = .ok (.ifnonnull 11, 3) := by decide +kernel
theorem dX11_told_32 : decode cX11_told 32 = .ok (.aload_n 0, 1) := by decide +kernel
theorem dX11_told_33 : decode cX11_told 33 = .ok (.iload_n 1, 1) := by decide +kernel
theorem dX11_told_34 : decode cX11_told 34 = .ok (.bipush 31, 2) := by decide +kernel
theorem dX11_told_36 : decode cX11_told 36 = .ok (.invokevirtual 58, 3) := by decide +kernel
theorem dX11_told_39 : decode cX11_told 39 = .ok (.ireturn, 1) := by decide +kernel
theorem dX11_told_40 : decode cX11_told 40 = .ok (.aload 5, 2) := by decide +kernel
theorem dX11_told_42 : decode cX11_told 42 = .ok (.iload_n 2, 1) := by decide +kernel
theorem dX11_told_43 : decode cX11_told 43 = .ok (.invokevirtual 263, 3) := by decide +kernel
theorem dX11_told_46 : decode cX11_told 46 = .ok (.astore 6, 2) := by decide +kernel
theorem dX11_told_48 : decode cX11_told 48 = .ok (.aload 6, 2) := by decide +kernel
theorem dX11_told_50 : decode cX11_told 50 = .ok (.ifnonnull 10, 3) := by decide +kernel
theorem dX11_told_53 : decode cX11_told 53 = .ok (.aload_n 0, 1) := by decide +kernel
theorem dX11_told_54 : decode cX11_told 54 = .ok (.bipush (-2), 2) := by decide +kernel
theorem dX11_told_56 : decode cX11_told 56 = .ok (.invokevirtual 46, 3) := by decide +kernel
theorem dX11_told_59 : decode cX11_told 59 = .ok (.ireturn, 1) := by decide +kernel
theorem dX11_told_60 : decode cX11_told 60 = .ok (.aload 6, 2) := by decide +kernel
theorem dX11_told_62 : decode cX11_told 62 = .ok (.iload_n 3, 1) := by decide +kernel
theorem dX11_told_63 : decode cX11_told 63 = .ok (.invokevirtual 275, 3) := by decide +kernel
theorem dX11_told_66 : decode cX11_told 66 = .ok (.ifCond .ne 10, 3) := by decide +kernel
theorem dX11_told_69 : decode cX11_told 69 = .ok (.aload_n 0, 1) := by decide +kernel
theorem dX11_told_70 : decode cX11_told 70 = .ok (.bipush (-8), 2) := by decide +kernel
theorem dX11_told_72 : decode cX11_told 72 = .ok (.invokevirtual 46, 3) := by decide +kernel
theorem dX11_told_75 : decode cX11_told 75 = .ok (.ireturn, 1) := by decide +kernel
theorem dX11_told_76 : decode cX11_told 76 = .ok (.iload 4, 2) := by decide +kernel
theorem dX11_told_78 : decode cX11_told 78 = .ok (.tableswitch 47 0 2 #[26, 33, 40], 26) := by decide +kernel
theorem dX11_told_104 : decode cX11_told 104 = .ok (.aload 6, 2) := by decide +kernel
theorem dX11_told_106 : decode cX11_told 106 = .ok (.iload_n 3, 1) := by decide +kernel
theorem dX11_told_107 : decode cX11_told 107 = .ok (.invokevirtual 278, 3) := by decide +kernel
theorem dX11_told_110 : decode cX11_told 110 = .ok (.ireturn, 1) := by decide +kernel
theorem dX11_told_111 : decode cX11_told 111 = .ok (.aload 6, 2) := by decide +kernel
theorem dX11_told_113 : decode cX11_told 113 = .ok (.iload_n 3, 1) := by decide +kernel
theorem dX11_told_114 : decode cX11_told 114 = .ok (.invokevirtual 288, 3) := by decide +kernel
theorem dX11_told_117 : decode cX11_told 117 = .ok (.ireturn, 1) := by decide +kernel
theorem dX11_told_118 : decode cX11_told 118 = .ok (.aload 6, 2) := by decide +kernel
theorem dX11_told_120 : decode cX11_told 120 = .ok (.iload_n 3, 1) := by decide +kernel
theorem dX11_told_121 : decode cX11_told 121 = .ok (.invokevirtual 291, 3) := by decide +kernel
theorem dX11_told_124 : decode cX11_told 124 = .ok (.ireturn, 1) := by decide +kernel
theorem dX11_told_125 : decode cX11_told 125 = .ok (.aload_n 0, 1) := by decide +kernel
theorem dX11_told_126 : decode cX11_told 126 = .ok (.bipush (-12), 2) := by decide +kernel
theorem dX11_told_128 : decode cX11_told 128 = .ok (.invokevirtual 46, 3) := by decide +kernel
theorem dX11_told_131 : decode cX11_told 131 = .ok (.ireturn, 1) := by decide +kernel
theorem dX11_left_0 : decode cX11_left 0 = .ok (.iload_n 2, 1) := by decide +kernel
theorem dX11_left_1 : decode cX11_left 1 = .ok (.sipush 239, 3) := by decide +kernel
theorem dX11_left_4 : decode cX11_left 4 = .ok (.invokestatic 42, 3) := by decide +kernel
theorem dX11_left_7 : decode cX11_left 7 = .ok (.ifCond .ne 10, 3) := by decide +kernel
theorem dX11_left_10 : decode cX11_left 10 = .ok (.aload_n 0, 1) := by decide +kernel
theorem dX11_left_11 : decode cX11_left 11 = .ok (.bipush (-3), 2) := by decide +kernel
theorem dX11_left_13 : decode cX11_left 13 = .ok (.invokevirtual 46, 3) := by decide +kernel
theorem dX11_left_16 : decode cX11_left 16 = .ok (.ireturn, 1) := by decide +kernel
theorem dX11_left_17 : decode cX11_left 17 = .ok (.aload_n 0, 1) := by decide +kernel
theorem dX11_left_18 : decode cX11_left 18 = .ok (.getfield 10, 3) := by decide +kernel
theorem dX11_left_21 : decode cX11_left 21 = .ok (.iload_n 1, 1) := by decide +kernel
theorem dX11_left_22 : decode cX11_left 22 = .ok (.bipush 6, 2) := by decide +kernel
theorem dX11_left_24 : decode cX11_left 24 = .ok (.invokevirtual 54, 3) := by decide +kernel
theorem dX11_left_27 : decode cX11_left 27 = .ok (.astore_n 3, 1) := by decide +kernel
theorem dX11_left_28 : decode cX11_left 28 = .ok (.aload_n 3, 1) := by decide +kernel
theorem dX11_left_29 : decode cX11_left 29 = .ok (.ifnonnull 11, 3) := by decide +kernel
theorem dX11_left_32 : decode cX11_left 32 = .ok (.aload_n 0, 1) := by decide +kernel
theorem dX11_left_33 : decode cX11_left 33 = .ok (.iload_n 1, 1) := by decide +kernel
theorem dX11_left_34 : decode cX11_left 34 = .ok (.bipush 6, 2) := by decide +kernel
theorem dX11_left_36 : decode cX11_left 36 = .ok (.invokevirtual 58, 3) := by decide +kernel
theorem dX11_left_39 : decode cX11_left 39 = .ok (.ireturn, 1) := by decide +kernel
theorem dX11_left_40 : decode cX11_left 40 = .ok (.aload_n 3, 1) := by decide +kernel
theorem dX11_left_41 : decode cX11_left 41 = .ok (.iconst 1, 1) := by decide +kernel
theorem dX11_left_42 : decode cX11_left 42 = .ok (.invokevirtual 263, 3) := by decide +kernel
theorem dX11_left_45 : decode cX11_left 45 = .ok (.astore 4, 2) := by decide +kernel
theorem dX11_left_47 : decode cX11_left 47 = .ok (.aload 4, 2) := by decide +kernel
theorem dX11_left_49 : decode cX11_left 49 = .ok (.ifnonnull 10, 3) := by decide +kernel
theorem dX11_left_52 : decode cX11_left 52 = .ok (.aload_n 0, 1) := by decide +kernel
theorem dX11_left_53 : decode cX11_left 53 = .ok (.bipush (-2), 2) := by decide +kernel
theorem dX11_left_55 : decode cX11_left 55 = .ok (.invokevirtual 46, 3) := by decide +kernel
theorem dX11_left_58 : decode cX11_left 58 = .ok (.ireturn, 1) := by decide +kernel
theorem dX11_left_59 : decode cX11_left 59 = .ok (.aload 4, 2) := by decide +kernel
theorem dX11_left_61 : decode cX11_left 61 = .ok (.aload_n 3, 1) := by decide +kernel
theorem dX11_left_62 : decode cX11_left 62 = .ok (.getfield 240, 3) := by decide +kernel
theorem dX11_left_65 : decode cX11_left 65 = .ok (.iload_n 2, 1) := by decide +kernel
theorem dX11_left_66 : decode cX11_left 66 = .ok (.invokevirtual 294, 3) := by decide +kernel
theorem dX11_left_69 : decode cX11_left 69 = .ok (.iload_n 2, 1) := by decide +kernel
theorem dX11_left_70 : decode cX11_left 70 = .ok (.invokevirtual 297, 3) := by decide +kernel
theorem dX11_left_73 : decode cX11_left 73 = .ok (.ifCond .ne 10, 3) := by decide +kernel
theorem dX11_left_76 : decode cX11_left 76 = .ok (.aload_n 0, 1) := by decide +kernel
theorem dX11_left_77 : decode cX11_left 77 = .ok (.bipush (-8), 2) := by decide +kernel
theorem dX11_left_79 : decode cX11_left 79 = .ok (.invokevirtual 46, 3) := by decide +kernel
theorem dX11_left_82 : decode cX11_left 82 = .ok (.ireturn, 1) := by decide +kernel
theorem dX11_left_83 : decode cX11_left 83 = .ok (.aload_n 3, 1) := by decide +kernel
theorem dX11_left_84 : decode cX11_left 84 = .ok (.getfield 240, 3) := by decide +kernel
theorem dX11_left_87 : decode cX11_left 87 = .ok (.aload 4, 2) := by decide +kernel
theorem dX11_left_89 : decode cX11_left 89 = .ok (.iload_n 2, 1) := by decide +kernel
theorem dX11_left_90 : decode cX11_left 90 = .ok (.invokevirtual 300, 3) := by decide +kernel
theorem dX11_left_93 : decode cX11_left 93 = .ok (.ireturn, 1) := by decide +kernel
theorem dX11_trial_0 : decode cX11_trial 0 = .ok (.iload_n 2, 1) := by decide +kernel
theorem dX11_trial_1 : decode cX11_trial 1 = .ok (.iconst 3, 1) := by decide +kernel
theorem dX11_trial_2 : decode cX11_trial 2 = .ok (.invokestatic 42, 3) := by decide +kernel
theorem dX11_trial_5 : decode cX11_trial 5 = .ok (.ifCond .eq 11, 3) := by decide +kernel
theorem dX11_trial_8 : decode cX11_trial 8 = .ok (.iload_n 3, 1) := by decide +kernel
theorem dX11_trial_9 : decode cX11_trial 9 = .ok (.iconst 3, 1) := by decide +kernel
theorem dX11_trial_10 : decode cX11_trial 10 = .ok (.invokestatic 42, 3) := by decide +kernel
theorem dX11_trial_13 : decode cX11_trial 13 = .ok (.ifCond .ne 10, 3) := by decide +kernel
theorem dX11_trial_16 : decode cX11_trial 16 = .ok (.aload_n 0, 1) := by decide +kernel
theorem dX11_trial_17 : decode cX11_trial 17 = .ok (.bipush (-3), 2) := by decide +kernel
theorem dX11_trial_19 : decode cX11_trial 19 = .ok (.invokevirtual 46, 3) := by decide +kernel
theorem dX11_trial_22 : decode cX11_trial 22 = .ok (.ireturn, 1) := by decide +kernel
theorem dX11_trial_23 : decode cX11_trial 23 = .ok (.aload_n 0, 1) := by decide +kernel
theorem dX11_trial_24 : decode cX11_trial 24 = .ok (.getfield 10, 3) := by decide +kernel
theorem dX11_trial_27 : decode cX11_trial 27 = .ok (.iload_n 1, 1) := by decide +kernel
theorem dX11_trial_28 : decode cX11_trial 28 = .ok (.iconst 4, 1) := by decide +kernel
theorem dX11_trial_29 : decode cX11_trial 29 = .ok (.invokevirtual 54, 3) := by decide +kernel
theorem dX11_trial_32 : decode cX11_trial 32 = .ok (.astore 6, 2) := by decide +kernel
theorem dX11_trial_34 : decode cX11_trial 34 = .ok (.aload 6, 2) := by decide +kernel
theorem dX11_trial_36 : decode cX11_trial 36 = .ok (.ifnonnull 10, 3) := by decide +kernel
theorem dX11_trial_39 : decode cX11_trial 39 = .ok (.aload_n 0, 1) := by decide +kernel
theorem dX11_trial_40 : decode cX11_trial 40 = .ok (.iload_n 1, 1) := by decide +kernel
theorem dX11_trial_41 : decode cX11_trial 41 = .ok (.iconst 4, 1) := by decide +kernel
theorem dX11_trial_42 : decode cX11_trial 42 = .ok (.invokevirtual 58, 3) := by decide +kernel
theorem dX11_trial_45 : decode cX11_trial 45 = .ok (.ireturn, 1) := by decide +kernel
theorem dX11_trial_46 : decode cX11_trial 46 = .ok (.iload_n 2, 1) := by decide +kernel
theorem dX11_trial_47 : decode cX11_trial 47 = .ok (.iload_n 3, 1) := by decide +kernel
theorem dX11_trial_48 : decode cX11_trial 48 = .ok (.if_icmp .eq 30, 3) := by decide +kernel
theorem dX11_trial_51 : decode cX11_trial 51 = .ok (.iload 4, 2) := by decide +kernel
theorem dX11_trial_53 : decode cX11_trial 53 = .ok (.iconst 1, 1) := by decide +kernel
theorem dX11_trial_54 : decode cX11_trial 54 = .ok (.if_icmp .lt 24, 3) := by decide +kernel
theorem dX11_trial_57 : decode cX11_trial 57 = .ok (.iload 4, 2) := by decide +kernel
theorem dX11_trial_59 : decode cX11_trial 59 = .ok (.sipush 5000, 3) := by decide +kernel
theorem dX11_trial_62 : decode cX11_trial 62 = .ok (.if_icmp .gt 16, 3) := by decide +kernel
theorem dX11_trial_65 : decode cX11_trial 65 = .ok (.iload 5, 2) := by decide +kernel
theorem dX11_trial_67 : decode cX11_trial 67 = .ok (.iconst 1, 1) := by decide +kernel
theorem dX11_trial_68 : decode cX11_trial 68 = .ok (.if_icmp .lt 10, 3) := by decide +kernel
theorem dX11_trial_71 : decode cX11_trial 71 = .ok (.iload 5, 2) := by decide +kernel
theorem dX11_trial_73 : decode cX11_trial 73 = .ok (.bipush 20, 2) := by decide +kernel
theorem dX11_trial_75 : decode cX11_trial 75 = .ok (.if_icmp .le 10, 3) := by decide +kernel
theorem dX11_trial_78 : decode cX11_trial 78 = .ok (.aload_n 0, 1) := by decide +kernel
theorem dX11_trial_79 : decode cX11_trial 79 = .ok (.bipush (-12), 2) := by decide +kernel
theorem dX11_trial_81 : decode cX11_trial 81 = .ok (.invokevirtual 46, 3) := by decide +kernel
theorem dX11_trial_84 : decode cX11_trial 84 = .ok (.ireturn, 1) := by decide +kernel
theorem dX11_trial_85 : decode cX11_trial 85 = .ok (.aload 6, 2) := by decide +kernel
theorem dX11_trial_87 : decode cX11_trial 87 = .ok (.getfield 304, 3) := by decide +kernel
theorem dX11_trial_90 : decode cX11_trial 90 = .ok (.iload_n 2, 1) := by decide +kernel
theorem dX11_trial_91 : decode cX11_trial 91 = .ok (.iload_n 3, 1) := by decide +kernel
theorem dX11_trial_92 : decode cX11_trial 92 = .ok (.iload 4, 2) := by decide +kernel
theorem dX11_trial_94 : decode cX11_trial 94 = .ok (.iload 5, 2) := by decide +kernel
theorem dX11_trial_96 : decode cX11_trial 96 = .ok (.invokevirtual 308, 3) := by decide +kernel
theorem dX11_trial_99 : decode cX11_trial 99 = .ok (.iconst 1, 1) := by decide +kernel
theorem dX11_trial_100 : decode cX11_trial 100 = .ok (.ireturn, 1) := by decide +kernel
theorem dX11_look_0 : decode cX11_look 0 = .ok (.iload_n 2, 1) := by decide +kernel
theorem dX11_look_1 : decode cX11_look 1 = .ok (.sipush 239, 3) := by decide +kernel
theorem dX11_look_4 : decode cX11_look 4 = .ok (.invokestatic 42, 3) := by decide +kernel
theorem dX11_look_7 : decode cX11_look 7 = .ok (.ifCond .ne 10, 3) := by decide +kernel
theorem dX11_look_10 : decode cX11_look 10 = .ok (.aload_n 0, 1) := by decide +kernel
theorem dX11_look_11 : decode cX11_look 11 = .ok (.bipush (-3), 2) := by decide +kernel
theorem dX11_look_13 : decode cX11_look 13 = .ok (.invokevirtual 46, 3) := by decide +kernel
theorem dX11_look_16 : decode cX11_look 16 = .ok (.ireturn, 1) := by decide +kernel
theorem dX11_look_17 : decode cX11_look 17 = .ok (.aload_n 0, 1) := by decide +kernel
theorem dX11_look_18 : decode cX11_look 18 = .ok (.getfield 10, 3) := by decide +kernel
theorem dX11_look_21 : decode cX11_look 21 = .ok (.iload_n 1, 1) := by decide +kernel
theorem dX11_look_22 : decode cX11_look 22 = .ok (.iconst 4, 1) := by decide +kernel
theorem dX11_look_23 : decode cX11_look 23 = .ok (.invokevirtual 54, 3) := by decide +kernel
theorem dX11_look_26 : decode cX11_look 26 = .ok (.astore_n 3, 1) := by decide +kernel
theorem dX11_look_27 : decode cX11_look 27 = .ok (.aload_n 3, 1) := by decide +kernel
theorem dX11_look_28 : decode cX11_look 28 = .ok (.ifnonnull 10, 3) := by decide +kernel
theorem dX11_look_31 : decode cX11_look 31 = .ok (.aload_n 0, 1) := by decide +kernel
theorem dX11_look_32 : decode cX11_look 32 = .ok (.iload_n 1, 1) := by decide +kernel
theorem dX11_look_33 : decode cX11_look 33 = .ok (.iconst 4, 1) := by decide +kernel
theorem dX11_look_34 : decode cX11_look 34 = .ok (.invokevirtual 58, 3) := by decide +kernel
theorem dX11_look_37 : decode cX11_look 37 = .ok (.ireturn, 1) := by decide +kernel
theorem dX11_look_38 : decode cX11_look 38 = .ok (.aload_n 3, 1) := by decide +kernel
theorem dX11_look_39 : decode cX11_look 39 = .ok (.aload_n 3, 1) := by decide +kernel
theorem dX11_look_40 : decode cX11_look 40 = .ok (.getfield 304, 3) := by decide +kernel
theorem dX11_look_43 : decode cX11_look 43 = .ok (.getfield 312, 3) := by decide +kernel
theorem dX11_look_46 : decode cX11_look 46 = .ok (.invokevirtual 263, 3) := by decide +kernel
theorem dX11_look_49 : decode cX11_look 49 = .ok (.astore 4, 2) := by decide +kernel
theorem dX11_look_51 : decode cX11_look 51 = .ok (.aload_n 3, 1) := by decide +kernel
theorem dX11_look_52 : decode cX11_look 52 = .ok (.aload_n 3, 1) := by decide +kernel
theorem dX11_look_53 : decode cX11_look 53 = .ok (.getfield 304, 3) := by decide +kernel
theorem dX11_look_56 : decode cX11_look 56 = .ok (.getfield 315, 3) := by decide +kernel
theorem dX11_look_59 : decode cX11_look 59 = .ok (.invokevirtual 263, 3) := by decide +kernel
theorem dX11_look_62 : decode cX11_look 62 = .ok (.astore 5, 2) := by decide +kernel
theorem dX11_look_64 : decode cX11_look 64 = .ok (.aload 4, 2) := by decide +kernel
theorem dX11_look_66 : decode cX11_look 66 = .ok (.ifnull 8, 3) := by decide +kernel
theorem dX11_look_69 : decode cX11_look 69 = .ok (.aload 5, 2) := by decide +kernel
theorem dX11_look_71 : decode cX11_look 71 = .ok (.ifnonnull 10, 3) := by decide +kernel
theorem dX11_look_74 : decode cX11_look 74 = .ok (.aload_n 0, 1) := by decide +kernel
theorem dX11_look_75 : decode cX11_look 75 = .ok (.bipush (-2), 2) := by decide +kernel
theorem dX11_look_77 : decode cX11_look 77 = .ok (.invokevirtual 46, 3) := by decide +kernel
theorem dX11_look_80 : decode cX11_look 80 = .ok (.ireturn, 1) := by decide +kernel
theorem dX11_look_81 : decode cX11_look 81 = .ok (.aload_n 3, 1) := by decide +kernel
theorem dX11_look_82 : decode cX11_look 82 = .ok (.getfield 304, 3) := by decide +kernel
theorem dX11_look_85 : decode cX11_look 85 = .ok (.getfield 318, 3) := by decide +kernel
theorem dX11_look_88 : decode cX11_look 88 = .ok (.ifCond .eq 10, 3) := by decide +kernel
theorem dX11_look_91 : decode cX11_look 91 = .ok (.aload_n 0, 1) := by decide +kernel
theorem dX11_look_92 : decode cX11_look 92 = .ok (.bipush (-12), 2) := by decide +kernel
theorem dX11_look_94 : decode cX11_look 94 = .ok (.invokevirtual 46, 3) := by decide +kernel
theorem dX11_look_97 : decode cX11_look 97 = .ok (.ireturn, 1) := by decide +kernel
theorem dX11_look_98 : decode cX11_look 98 = .ok (.aload 4, 2) := by decide +kernel
theorem dX11_look_100 : decode cX11_look 100 = .ok (.aload 5, 2) := by decide +kernel
theorem dX11_look_102 : decode cX11_look 102 = .ok (.iload_n 2, 1) := by decide +kernel
theorem dX11_look_103 : decode cX11_look 103 = .ok (.invokevirtual 321, 3) := by decide +kernel
theorem dX11_look_106 : decode cX11_look 106 = .ok (.istore 6, 2) := by decide +kernel
theorem dX11_look_108 : decode cX11_look 108 = .ok (.aload 5, 2) := by decide +kernel
theorem dX11_look_110 : decode cX11_look 110 = .ok (.aload 4, 2) := by decide +kernel
theorem dX11_look_112 : decode cX11_look 112 = .ok (.iload_n 2, 1) := by decide +kernel
theorem dX11_look_113 : decode cX11_look 113 = .ok (.invokevirtual 321, 3) := by decide +kernel
theorem dX11_look_116 : decode cX11_look 116 = .ok (.istore 7, 2) := by decide +kernel
theorem dX11_look_118 : decode cX11_look 118 = .ok (.iload 6, 2) := by decide +kernel
theorem dX11_look_120 : decode cX11_look 120 = .ok (.ifCond .eq 8, 3) := by decide +kernel
theorem dX11_look_123 : decode cX11_look 123 = .ok (.iload 7, 2) := by decide +kernel
theorem dX11_look_125 : decode cX11_look 125 = .ok (.ifCond .ne 10, 3) := by decide +kernel
theorem dX11_look_128 : decode cX11_look 128 = .ok (.aload_n 0, 1) := by decide +kernel
theorem dX11_look_129 : decode cX11_look 129 = .ok (.bipush (-8), 2) := by decide +kernel
theorem dX11_look_131 : decode cX11_look 131 = .ok (.invokevirtual 46, 3) := by decide +kernel
theorem dX11_look_134 : decode cX11_look 134 = .ok (.ireturn, 1) := by decide +kernel
theorem dX11_look_135 : decode cX11_look 135 = .ok (.iload 6, 2) := by decide +kernel
theorem dX11_look_137 : decode cX11_look 137 = .ok (.bipush 30, 2) := by decide +kernel
theorem dX11_look_139 : decode cX11_look 139 = .ok (.if_icmp .gt 10, 3) := by decide +kernel
theorem dX11_look_142 : decode cX11_look 142 = .ok (.iload 7, 2) := by decide +kernel
theorem dX11_look_144 : decode cX11_look 144 = .ok (.bipush 30, 2) := by decide +kernel
theorem dX11_look_146 : decode cX11_look 146 = .ok (.if_icmp .le 10, 3) := by decide +kernel
theorem dX11_look_149 : decode cX11_look 149 = .ok (.aload_n 0, 1) := by decide +kernel
theorem dX11_look_150 : decode cX11_look 150 = .ok (.bipush (-13), 2) := by decide +kernel
theorem dX11_look_152 : decode cX11_look 152 = .ok (.invokevirtual 46, 3) := by decide +kernel
theorem dX11_look_155 : decode cX11_look 155 = .ok (.ireturn, 1) := by decide +kernel
theorem dX11_look_156 : decode cX11_look 156 = .ok (.aload_n 3, 1) := by decide +kernel
theorem dX11_look_157 : decode cX11_look 157 = .ok (.getfield 304, 3) := by decide +kernel
theorem dX11_look_160 : decode cX11_look 160 = .ok (.iload 6, 2) := by decide +kernel
theorem dX11_look_162 : decode cX11_look 162 = .ok (.iload 7, 2) := by decide +kernel
theorem dX11_look_164 : decode cX11_look 164 = .ok (.aload 4, 2) := by decide +kernel
theorem dX11_look_166 : decode cX11_look 166 = .ok (.aload 5, 2) := by decide +kernel
theorem dX11_look_168 : decode cX11_look 168 = .ok (.iload_n 2, 1) := by decide +kernel
theorem dX11_look_169 : decode cX11_look 169 = .ok (.invokevirtual 324, 3) := by decide +kernel
theorem dX11_look_172 : decode cX11_look 172 = .ok (.aload 5, 2) := by decide +kernel
theorem dX11_look_174 : decode cX11_look 174 = .ok (.aload 4, 2) := by decide +kernel
theorem dX11_look_176 : decode cX11_look 176 = .ok (.iload_n 2, 1) := by decide +kernel
theorem dX11_look_177 : decode cX11_look 177 = .ok (.invokevirtual 324, 3) := by decide +kernel
theorem dX11_look_180 : decode cX11_look 180 = .ok (.invokevirtual 327, 3) := by decide +kernel
theorem dX11_look_183 : decode cX11_look 183 = .ok (.ireturn, 1) := by decide +kernel
theorem dX11_trialTold_0 : decode cX11_trialTold 0 = .ok (.aload_n 0, 1) := by decide +kernel
theorem dX11_trialTold_1 : decode cX11_trialTold 1 = .ok (.getfield 10, 3) := by decide +kernel
theorem dX11_trialTold_4 : decode cX11_trialTold 4 = .ok (.iload_n 1, 1) := by decide +kernel
theorem dX11_trialTold_5 : decode cX11_trialTold 5 = .ok (.iconst 4, 1) := by decide +kernel
theorem dX11_trialTold_6 : decode cX11_trialTold 6 = .ok (.invokevirtual 54, 3) := by decide +kernel
theorem dX11_trialTold_9 : decode cX11_trialTold 9 = .ok (.astore_n 3, 1) := by decide +kernel
theorem dX11_trialTold_10 : decode cX11_trialTold 10 = .ok (.aload_n 3, 1) := by decide +kernel
theorem dX11_trialTold_11 : decode cX11_trialTold 11 = .ok (.ifnonnull 10, 3) := by decide +kernel
theorem dX11_trialTold_14 : decode cX11_trialTold 14 = .ok (.aload_n 0, 1) := by decide +kernel
theorem dX11_trialTold_15 : decode cX11_trialTold 15 = .ok (.iload_n 1, 1) := by decide +kernel
theorem dX11_trialTold_16 : decode cX11_trialTold 16 = .ok (.iconst 4, 1) := by decide +kernel
theorem dX11_trialTold_17 : decode cX11_trialTold 17 = .ok (.invokevirtual 58, 3) := by decide +kernel
theorem dX11_trialTold_20 : decode cX11_trialTold 20 = .ok (.ireturn, 1) := by decide +kernel
theorem dX11_trialTold_21 : decode cX11_trialTold 21 = .ok (.iload_n 2, 1) := by decide +kernel
theorem dX11_trialTold_22 : decode cX11_trialTold 22 = .ok (.tableswitch 98 0 6 #[42, 50, 58, 66, 74, 82, 90], 42) := by decide +kernel
theorem dX11_trialTold_64 : decode cX11_trialTold 64 = .ok (.aload_n 3, 1) := by decide +kernel
theorem dX11_trialTold_65 : decode cX11_trialTold 65 = .ok (.getfield 304, 3) := by decide +kernel
theorem dX11_trialTold_68 : decode cX11_trialTold 68 = .ok (.getfield 330, 3) := by decide +kernel
theorem dX11_trialTold_71 : decode cX11_trialTold 71 = .ok (.ireturn, 1) := by decide +kernel
theorem dX11_trialTold_72 : decode cX11_trialTold 72 = .ok (.aload_n 3, 1) := by decide +kernel
theorem dX11_trialTold_73 : decode cX11_trialTold 73 = .ok (.getfield 304, 3) := by decide +kernel
theorem dX11_trialTold_76 : decode cX11_trialTold 76 = .ok (.getfield 333, 3) := by decide +kernel
theorem dX11_trialTold_79 : decode cX11_trialTold 79 = .ok (.ireturn, 1) := by decide +kernel
theorem dX11_trialTold_80 : decode cX11_trialTold 80 = .ok (.aload_n 3, 1) := by decide +kernel
theorem dX11_trialTold_81 : decode cX11_trialTold 81 = .ok (.getfield 304, 3) := by decide +kernel
theorem dX11_trialTold_84 : decode cX11_trialTold 84 = .ok (.getfield 336, 3) := by decide +kernel
theorem dX11_trialTold_87 : decode cX11_trialTold 87 = .ok (.ireturn, 1) := by decide +kernel
theorem dX11_trialTold_88 : decode cX11_trialTold 88 = .ok (.aload_n 3, 1) := by decide +kernel
theorem dX11_trialTold_89 : decode cX11_trialTold 89 = .ok (.getfield 304, 3) := by decide +kernel
theorem dX11_trialTold_92 : decode cX11_trialTold 92 = .ok (.getfield 339, 3) := by decide +kernel
theorem dX11_trialTold_95 : decode cX11_trialTold 95 = .ok (.ireturn, 1) := by decide +kernel
theorem dX11_trialTold_96 : decode cX11_trialTold 96 = .ok (.aload_n 3, 1) := by decide +kernel
theorem dX11_trialTold_97 : decode cX11_trialTold 97 = .ok (.getfield 304, 3) := by decide +kernel
theorem dX11_trialTold_100 : decode cX11_trialTold 100 = .ok (.getfield 342, 3) := by decide +kernel
theorem dX11_trialTold_103 : decode cX11_trialTold 103 = .ok (.ireturn, 1) := by decide +kernel
theorem dX11_trialTold_104 : decode cX11_trialTold 104 = .ok (.aload_n 3, 1) := by decide +kernel
theorem dX11_trialTold_105 : decode cX11_trialTold 105 = .ok (.getfield 304, 3) := by decide +kernel
theorem dX11_trialTold_108 : decode cX11_trialTold 108 = .ok (.getfield 345, 3) := by decide +kernel
theorem dX11_trialTold_111 : decode cX11_trialTold 111 = .ok (.ireturn, 1) := by decide +kernel
theorem dX11_trialTold_112 : decode cX11_trialTold 112 = .ok (.aload_n 3, 1) := by decide +kernel
theorem dX11_trialTold_113 : decode cX11_trialTold 113 = .ok (.getfield 304, 3) := by decide +kernel
theorem dX11_trialTold_116 : decode cX11_trialTold 116 = .ok (.getfield 318, 3) := by decide +kernel
theorem dX11_trialTold_119 : decode cX11_trialTold 119 = .ok (.ireturn, 1) := by decide +kernel
theorem dX11_trialTold_120 : decode cX11_trialTold 120 = .ok (.aload_n 0, 1) := by decide +kernel
theorem dX11_trialTold_121 : decode cX11_trialTold 121 = .ok (.bipush (-12), 2) := by decide +kernel
theorem dX11_trialTold_123 : decode cX11_trialTold 123 = .ok (.invokevirtual 46, 3) := by decide +kernel
theorem dX11_trialTold_126 : decode cX11_trialTold 126 = .ok (.ireturn, 1) := by decide +kernel
theorem dX11_among_0 : decode cX11_among 0 = .ok (.iload_n 2, 1) := by decide +kernel
theorem dX11_among_1 : decode cX11_among 1 = .ok (.bipush 7, 2) := by decide +kernel
theorem dX11_among_3 : decode cX11_among 3 = .ok (.invokestatic 42, 3) := by decide +kernel
theorem dX11_among_6 : decode cX11_among 6 = .ok (.ifCond .eq 12, 3) := by decide +kernel
theorem dX11_among_9 : decode cX11_among 9 = .ok (.iload_n 3, 1) := by decide +kernel
theorem dX11_among_10 : decode cX11_among 10 = .ok (.ldc 41, 2) := by decide +kernel
theorem dX11_among_12 : decode cX11_among 12 = .ok (.invokestatic 42, 3) := by decide +kernel
theorem dX11_among_15 : decode cX11_among 15 = .ok (.ifCond .ne 10, 3) := by decide +kernel
theorem dX11_among_18 : decode cX11_among 18 = .ok (.aload_n 0, 1) := by decide +kernel
theorem dX11_among_19 : decode cX11_among 19 = .ok (.bipush (-3), 2) := by decide +kernel
theorem dX11_among_21 : decode cX11_among 21 = .ok (.invokevirtual 46, 3) := by decide +kernel
theorem dX11_among_24 : decode cX11_among 24 = .ok (.ireturn, 1) := by decide +kernel
theorem dX11_among_25 : decode cX11_among 25 = .ok (.aload_n 0, 1) := by decide +kernel
theorem dX11_among_26 : decode cX11_among 26 = .ok (.getfield 10, 3) := by decide +kernel
theorem dX11_among_29 : decode cX11_among 29 = .ok (.iload_n 1, 1) := by decide +kernel
theorem dX11_among_30 : decode cX11_among 30 = .ok (.bipush 31, 2) := by decide +kernel
theorem dX11_among_32 : decode cX11_among 32 = .ok (.invokevirtual 54, 3) := by decide +kernel
theorem dX11_among_35 : decode cX11_among 35 = .ok (.ifnonnull 11, 3) := by decide +kernel
theorem dX11_among_38 : decode cX11_among 38 = .ok (.aload_n 0, 1) := by decide +kernel
theorem dX11_among_39 : decode cX11_among 39 = .ok (.iload_n 1, 1) := by decide +kernel
theorem dX11_among_40 : decode cX11_among 40 = .ok (.bipush 31, 2) := by decide +kernel
theorem dX11_among_42 : decode cX11_among 42 = .ok (.invokevirtual 58, 3) := by decide +kernel
theorem dX11_among_45 : decode cX11_among 45 = .ok (.ireturn, 1) := by decide +kernel
theorem dX11_among_46 : decode cX11_among 46 = .ok (.iload_n 3, 1) := by decide +kernel
theorem dX11_among_47 : decode cX11_among 47 = .ok (.iload 4, 2) := by decide +kernel
theorem dX11_among_49 : decode cX11_among 49 = .ok (.invokestatic 348, 3) := by decide +kernel
theorem dX11_among_52 : decode cX11_among 52 = .ok (.istore 5, 2) := by decide +kernel
theorem dX11_among_54 : decode cX11_among 54 = .ok (.iload 5, 2) := by decide +kernel
theorem dX11_among_56 : decode cX11_among 56 = .ok (.ifCond .eq 10, 3) := by decide +kernel
theorem dX11_among_59 : decode cX11_among 59 = .ok (.aload_n 0, 1) := by decide +kernel
theorem dX11_among_60 : decode cX11_among 60 = .ok (.iload 5, 2) := by decide +kernel
theorem dX11_among_62 : decode cX11_among 62 = .ok (.invokevirtual 46, 3) := by decide +kernel
theorem dX11_among_65 : decode cX11_among 65 = .ok (.ireturn, 1) := by decide +kernel
theorem dX11_among_66 : decode cX11_among 66 = .ok (.aload_n 0, 1) := by decide +kernel
theorem dX11_among_67 : decode cX11_among 67 = .ok (.getfield 26, 3) := by decide +kernel
theorem dX11_among_70 : decode cX11_among 70 = .ok (.aload_n 0, 1) := by decide +kernel
theorem dX11_among_71 : decode cX11_among 71 = .ok (.getfield 10, 3) := by decide +kernel
theorem dX11_among_74 : decode cX11_among 74 = .ok (.invokevirtual 71, 3) := by decide +kernel
theorem dX11_among_77 : decode cX11_among 77 = .ok (.iconst 0, 1) := by decide +kernel
theorem dX11_among_78 : decode cX11_among 78 = .ok (.istore 6, 2) := by decide +kernel
theorem dX11_among_80 : decode cX11_among 80 = .ok (.iconst 0, 1) := by decide +kernel
theorem dX11_among_81 : decode cX11_among 81 = .ok (.istore 7, 2) := by decide +kernel
theorem dX11_among_83 : decode cX11_among 83 = .ok (.iload 7, 2) := by decide +kernel
theorem dX11_among_85 : decode cX11_among 85 = .ok (.iload 4, 2) := by decide +kernel
theorem dX11_among_87 : decode cX11_among 87 = .ok (.if_icmp .ge 40, 3) := by decide +kernel
theorem dX11_among_90 : decode cX11_among 90 = .ok (.aload_n 0, 1) := by decide +kernel
theorem dX11_among_91 : decode cX11_among 91 = .ok (.getfield 26, 3) := by decide +kernel
theorem dX11_among_94 : decode cX11_among 94 = .ok (.iload_n 3, 1) := by decide +kernel
theorem dX11_among_95 : decode cX11_among 95 = .ok (.iload 7, 2) := by decide +kernel
theorem dX11_among_97 : decode cX11_among 97 = .ok (.iadd, 1) := by decide +kernel
theorem dX11_among_98 : decode cX11_among 98 = .ok (.invokevirtual 75, 3) := by decide +kernel
theorem dX11_among_101 : decode cX11_among 101 = .ok (.aload_n 0, 1) := by decide +kernel
theorem dX11_among_102 : decode cX11_among 102 = .ok (.getfield 26, 3) := by decide +kernel
theorem dX11_among_105 : decode cX11_among 105 = .ok (.aload_n 0, 1) := by decide +kernel
theorem dX11_among_106 : decode cX11_among 106 = .ok (.getfield 10, 3) := by decide +kernel
theorem dX11_among_109 : decode cX11_among 109 = .ok (.iload_n 1, 1) := by decide +kernel
theorem dX11_among_110 : decode cX11_among 110 = .ok (.iconst 0, 1) := by decide +kernel
theorem dX11_among_111 : decode cX11_among 111 = .ok (.invokevirtual 79, 3) := by decide +kernel
theorem dX11_among_114 : decode cX11_among 114 = .ok (.iload_n 2, 1) := by decide +kernel
theorem dX11_among_115 : decode cX11_among 115 = .ok (.if_icmp .ne 6, 3) := by decide +kernel
theorem dX11_among_118 : decode cX11_among 118 = .ok (.iinc 6 1, 3) := by decide +kernel
theorem dX11_among_121 : decode cX11_among 121 = .ok (.iinc 7 1, 3) := by decide +kernel
theorem dX11_among_124 : decode cX11_among 124 = .ok (.goto (-41), 3) := by decide +kernel
theorem dX11_among_127 : decode cX11_among 127 = .ok (.iload 6, 2) := by decide +kernel
theorem dX11_among_129 : decode cX11_among 129 = .ok (.ireturn, 1) := by decide +kernel
theorem dX11_both_0 : decode cX11_both 0 = .ok (.iload_n 3, 1) := by decide +kernel
theorem dX11_both_1 : decode cX11_both 1 = .ok (.ldc 41, 2) := by decide +kernel
theorem dX11_both_3 : decode cX11_both 3 = .ok (.invokestatic 42, 3) := by decide +kernel
theorem dX11_both_6 : decode cX11_both 6 = .ok (.ifCond .ne 10, 3) := by decide +kernel
theorem dX11_both_9 : decode cX11_both 9 = .ok (.aload_n 0, 1) := by decide +kernel
theorem dX11_both_10 : decode cX11_both 10 = .ok (.bipush (-3), 2) := by decide +kernel
theorem dX11_both_12 : decode cX11_both 12 = .ok (.invokevirtual 46, 3) := by decide +kernel
theorem dX11_both_15 : decode cX11_both 15 = .ok (.ireturn, 1) := by decide +kernel
theorem dX11_both_16 : decode cX11_both 16 = .ok (.aload_n 0, 1) := by decide +kernel
theorem dX11_both_17 : decode cX11_both 17 = .ok (.getfield 10, 3) := by decide +kernel
theorem dX11_both_20 : decode cX11_both 20 = .ok (.iload_n 1, 1) := by decide +kernel
theorem dX11_both_21 : decode cX11_both 21 = .ok (.bipush 31, 2) := by decide +kernel
theorem dX11_both_23 : decode cX11_both 23 = .ok (.invokevirtual 54, 3) := by decide +kernel
theorem dX11_both_26 : decode cX11_both 26 = .ok (.ifnull 16, 3) := by decide +kernel
theorem dX11_both_29 : decode cX11_both 29 = .ok (.aload_n 0, 1) := by decide +kernel
theorem dX11_both_30 : decode cX11_both 30 = .ok (.getfield 10, 3) := by decide +kernel
theorem dX11_both_33 : decode cX11_both 33 = .ok (.iload_n 2, 1) := by decide +kernel
theorem dX11_both_34 : decode cX11_both 34 = .ok (.bipush 31, 2) := by decide +kernel
theorem dX11_both_36 : decode cX11_both 36 = .ok (.invokevirtual 54, 3) := by decide +kernel
theorem dX11_both_39 : decode cX11_both 39 = .ok (.ifnonnull 12, 3) := by decide +kernel
theorem dX11_both_42 : decode cX11_both 42 = .ok (.aload_n 0, 1) := by decide +kernel
theorem dX11_both_43 : decode cX11_both 43 = .ok (.iload_n 1, 1) := by decide +kernel
theorem dX11_both_44 : decode cX11_both 44 = .ok (.iload_n 2, 1) := by decide +kernel
theorem dX11_both_45 : decode cX11_both 45 = .ok (.bipush 31, 2) := by decide +kernel
theorem dX11_both_47 : decode cX11_both 47 = .ok (.invokevirtual 220, 3) := by decide +kernel
theorem dX11_both_50 : decode cX11_both 50 = .ok (.ireturn, 1) := by decide +kernel
theorem dX11_both_51 : decode cX11_both 51 = .ok (.iload_n 3, 1) := by decide +kernel
theorem dX11_both_52 : decode cX11_both 52 = .ok (.iload 4, 2) := by decide +kernel
theorem dX11_both_54 : decode cX11_both 54 = .ok (.invokestatic 348, 3) := by decide +kernel
theorem dX11_both_57 : decode cX11_both 57 = .ok (.istore 5, 2) := by decide +kernel
theorem dX11_both_59 : decode cX11_both 59 = .ok (.iload 5, 2) := by decide +kernel
theorem dX11_both_61 : decode cX11_both 61 = .ok (.ifCond .eq 10, 3) := by decide +kernel
theorem dX11_both_64 : decode cX11_both 64 = .ok (.aload_n 0, 1) := by decide +kernel
theorem dX11_both_65 : decode cX11_both 65 = .ok (.iload 5, 2) := by decide +kernel
theorem dX11_both_67 : decode cX11_both 67 = .ok (.invokevirtual 46, 3) := by decide +kernel
theorem dX11_both_70 : decode cX11_both 70 = .ok (.ireturn, 1) := by decide +kernel
theorem dX11_both_71 : decode cX11_both 71 = .ok (.aload_n 0, 1) := by decide +kernel
theorem dX11_both_72 : decode cX11_both 72 = .ok (.getfield 26, 3) := by decide +kernel
theorem dX11_both_75 : decode cX11_both 75 = .ok (.aload_n 0, 1) := by decide +kernel
theorem dX11_both_76 : decode cX11_both 76 = .ok (.getfield 10, 3) := by decide +kernel
theorem dX11_both_79 : decode cX11_both 79 = .ok (.invokevirtual 71, 3) := by decide +kernel
theorem dX11_both_82 : decode cX11_both 82 = .ok (.iconst 0, 1) := by decide +kernel
theorem dX11_both_83 : decode cX11_both 83 = .ok (.istore 6, 2) := by decide +kernel
theorem dX11_both_85 : decode cX11_both 85 = .ok (.iconst 0, 1) := by decide +kernel
theorem dX11_both_86 : decode cX11_both 86 = .ok (.istore 7, 2) := by decide +kernel
theorem dX11_both_88 : decode cX11_both 88 = .ok (.iload 7, 2) := by decide +kernel
theorem dX11_both_90 : decode cX11_both 90 = .ok (.iload 4, 2) := by decide +kernel
theorem dX11_both_92 : decode cX11_both 92 = .ok (.if_icmp .ge 57, 3) := by decide +kernel
theorem dX11_both_95 : decode cX11_both 95 = .ok (.aload_n 0, 1) := by decide +kernel
theorem dX11_both_96 : decode cX11_both 96 = .ok (.getfield 26, 3) := by decide +kernel
theorem dX11_both_99 : decode cX11_both 99 = .ok (.iload_n 3, 1) := by decide +kernel
theorem dX11_both_100 : decode cX11_both 100 = .ok (.iload 7, 2) := by decide +kernel
theorem dX11_both_102 : decode cX11_both 102 = .ok (.iadd, 1) := by decide +kernel
theorem dX11_both_103 : decode cX11_both 103 = .ok (.invokevirtual 75, 3) := by decide +kernel
theorem dX11_both_106 : decode cX11_both 106 = .ok (.aload_n 0, 1) := by decide +kernel
theorem dX11_both_107 : decode cX11_both 107 = .ok (.getfield 26, 3) := by decide +kernel
theorem dX11_both_110 : decode cX11_both 110 = .ok (.aload_n 0, 1) := by decide +kernel
theorem dX11_both_111 : decode cX11_both 111 = .ok (.getfield 10, 3) := by decide +kernel
theorem dX11_both_114 : decode cX11_both 114 = .ok (.iload_n 1, 1) := by decide +kernel
theorem dX11_both_115 : decode cX11_both 115 = .ok (.iconst 0, 1) := by decide +kernel
theorem dX11_both_116 : decode cX11_both 116 = .ok (.invokevirtual 79, 3) := by decide +kernel
theorem dX11_both_119 : decode cX11_both 119 = .ok (.iconst 1, 1) := by decide +kernel
theorem dX11_both_120 : decode cX11_both 120 = .ok (.if_icmp .ne 23, 3) := by decide +kernel
theorem dX11_both_123 : decode cX11_both 123 = .ok (.aload_n 0, 1) := by decide +kernel
theorem dX11_both_124 : decode cX11_both 124 = .ok (.getfield 26, 3) := by decide +kernel
theorem dX11_both_127 : decode cX11_both 127 = .ok (.aload_n 0, 1) := by decide +kernel
theorem dX11_both_128 : decode cX11_both 128 = .ok (.getfield 10, 3) := by decide +kernel
theorem dX11_both_131 : decode cX11_both 131 = .ok (.iload_n 2, 1) := by decide +kernel
theorem dX11_both_132 : decode cX11_both 132 = .ok (.iconst 0, 1) := by decide +kernel
theorem dX11_both_133 : decode cX11_both 133 = .ok (.invokevirtual 79, 3) := by decide +kernel
theorem dX11_both_136 : decode cX11_both 136 = .ok (.iconst 1, 1) := by decide +kernel
theorem dX11_both_137 : decode cX11_both 137 = .ok (.if_icmp .ne 6, 3) := by decide +kernel
theorem dX11_both_140 : decode cX11_both 140 = .ok (.iinc 6 1, 3) := by decide +kernel
theorem dX11_both_143 : decode cX11_both 143 = .ok (.iinc 7 1, 3) := by decide +kernel
theorem dX11_both_146 : decode cX11_both 146 = .ok (.goto (-58), 3) := by decide +kernel
theorem dX11_both_149 : decode cX11_both 149 = .ok (.iload 6, 2) := by decide +kernel
theorem dX11_both_151 : decode cX11_both 151 = .ok (.ireturn, 1) := by decide +kernel
theorem dX11_moves_0 : decode cX11_moves 0 = .ok (.iload_n 3, 1) := by decide +kernel
theorem dX11_moves_1 : decode cX11_moves 1 = .ok (.ldc 41, 2) := by decide +kernel
theorem dX11_moves_3 : decode cX11_moves 3 = .ok (.invokestatic 42, 3) := by decide +kernel
theorem dX11_moves_6 : decode cX11_moves 6 = .ok (.ifCond .ne 10, 3) := by decide +kernel
theorem dX11_moves_9 : decode cX11_moves 9 = .ok (.aload_n 0, 1) := by decide +kernel
theorem dX11_moves_10 : decode cX11_moves 10 = .ok (.bipush (-3), 2) := by decide +kernel
theorem dX11_moves_12 : decode cX11_moves 12 = .ok (.invokevirtual 46, 3) := by decide +kernel
theorem dX11_moves_15 : decode cX11_moves 15 = .ok (.ireturn, 1) := by decide +kernel
theorem dX11_moves_16 : decode cX11_moves 16 = .ok (.aload_n 0, 1) := by decide +kernel
theorem dX11_moves_17 : decode cX11_moves 17 = .ok (.getfield 10, 3) := by decide +kernel
theorem dX11_moves_20 : decode cX11_moves 20 = .ok (.iload_n 1, 1) := by decide +kernel
theorem dX11_moves_21 : decode cX11_moves 21 = .ok (.bipush 31, 2) := by decide +kernel
theorem dX11_moves_23 : decode cX11_moves 23 = .ok (.invokevirtual 54, 3) := by decide +kernel
theorem dX11_moves_26 : decode cX11_moves 26 = .ok (.astore 5, 2) := by decide +kernel
theorem dX11_moves_28 : decode cX11_moves 28 = .ok (.aload 5, 2) := by decide +kernel
theorem dX11_moves_30 : decode cX11_moves 30 = .ok (.ifnonnull 11, 3) := by decide +kernel
theorem dX11_moves_33 : decode cX11_moves 33 = .ok (.aload_n 0, 1) := by decide +kernel
theorem dX11_moves_34 : decode cX11_moves 34 = .ok (.iload_n 1, 1) := by decide +kernel
theorem dX11_moves_35 : decode cX11_moves 35 = .ok (.bipush 31, 2) := by decide +kernel
theorem dX11_moves_37 : decode cX11_moves 37 = .ok (.invokevirtual 58, 3) := by decide +kernel
theorem dX11_moves_40 : decode cX11_moves 40 = .ok (.ireturn, 1) := by decide +kernel
theorem dX11_moves_41 : decode cX11_moves 41 = .ok (.iload_n 3, 1) := by decide +kernel
theorem dX11_moves_42 : decode cX11_moves 42 = .ok (.iload 4, 2) := by decide +kernel
theorem dX11_moves_44 : decode cX11_moves 44 = .ok (.invokestatic 348, 3) := by decide +kernel
theorem dX11_moves_47 : decode cX11_moves 47 = .ok (.istore 6, 2) := by decide +kernel
theorem dX11_moves_49 : decode cX11_moves 49 = .ok (.iload 6, 2) := by decide +kernel
theorem dX11_moves_51 : decode cX11_moves 51 = .ok (.ifCond .eq 10, 3) := by decide +kernel
theorem dX11_moves_54 : decode cX11_moves 54 = .ok (.aload_n 0, 1) := by decide +kernel
theorem dX11_moves_55 : decode cX11_moves 55 = .ok (.iload 6, 2) := by decide +kernel
theorem dX11_moves_57 : decode cX11_moves 57 = .ok (.invokevirtual 46, 3) := by decide +kernel
theorem dX11_moves_60 : decode cX11_moves 60 = .ok (.ireturn, 1) := by decide +kernel
theorem dX11_moves_61 : decode cX11_moves 61 = .ok (.aload 5, 2) := by decide +kernel
theorem dX11_moves_63 : decode cX11_moves 63 = .ok (.getfield 151, 3) := by decide +kernel
theorem dX11_moves_66 : decode cX11_moves 66 = .ok (.iconst 1, 1) := by decide +kernel
theorem dX11_moves_67 : decode cX11_moves 67 = .ok (.aload 5, 2) := by decide +kernel
theorem dX11_moves_69 : decode cX11_moves 69 = .ok (.getfield 151, 3) := by decide +kernel
theorem dX11_moves_72 : decode cX11_moves 72 = .ok (.iconst 1, 1) := by decide +kernel
theorem dX11_moves_73 : decode cX11_moves 73 = .ok (.invokevirtual 167, 3) := by decide +kernel
theorem dX11_moves_76 : decode cX11_moves 76 = .ok (.iload_n 2, 1) := by decide +kernel
theorem dX11_moves_77 : decode cX11_moves 77 = .ok (.invokevirtual 155, 3) := by decide +kernel
theorem dX11_moves_80 : decode cX11_moves 80 = .ok (.ifCond .ne 10, 3) := by decide +kernel
theorem dX11_moves_83 : decode cX11_moves 83 = .ok (.aload_n 0, 1) := by decide +kernel
theorem dX11_moves_84 : decode cX11_moves 84 = .ok (.bipush (-12), 2) := by decide +kernel
theorem dX11_moves_86 : decode cX11_moves 86 = .ok (.invokevirtual 46, 3) := by decide +kernel
theorem dX11_moves_89 : decode cX11_moves 89 = .ok (.ireturn, 1) := by decide +kernel
theorem dX11_moves_90 : decode cX11_moves 90 = .ok (.aload_n 0, 1) := by decide +kernel
theorem dX11_moves_91 : decode cX11_moves 91 = .ok (.getfield 26, 3) := by decide +kernel
theorem dX11_moves_94 : decode cX11_moves 94 = .ok (.aload_n 0, 1) := by decide +kernel
theorem dX11_moves_95 : decode cX11_moves 95 = .ok (.getfield 10, 3) := by decide +kernel
theorem dX11_moves_98 : decode cX11_moves 98 = .ok (.invokevirtual 71, 3) := by decide +kernel
theorem dX11_moves_101 : decode cX11_moves 101 = .ok (.iconst 0, 1) := by decide +kernel
theorem dX11_moves_102 : decode cX11_moves 102 = .ok (.istore 7, 2) := by decide +kernel
theorem dX11_moves_104 : decode cX11_moves 104 = .ok (.iconst 0, 1) := by decide +kernel
theorem dX11_moves_105 : decode cX11_moves 105 = .ok (.istore 8, 2) := by decide +kernel
theorem dX11_moves_107 : decode cX11_moves 107 = .ok (.iload 8, 2) := by decide +kernel
theorem dX11_moves_109 : decode cX11_moves 109 = .ok (.iload 4, 2) := by decide +kernel
theorem dX11_moves_111 : decode cX11_moves 111 = .ok (.if_icmp .ge 64, 3) := by decide +kernel
theorem dX11_moves_114 : decode cX11_moves 114 = .ok (.aload_n 0, 1) := by decide +kernel
theorem dX11_moves_115 : decode cX11_moves 115 = .ok (.getfield 26, 3) := by decide +kernel
theorem dX11_moves_118 : decode cX11_moves 118 = .ok (.iload_n 3, 1) := by decide +kernel
theorem dX11_moves_119 : decode cX11_moves 119 = .ok (.iload 8, 2) := by decide +kernel
theorem dX11_moves_121 : decode cX11_moves 121 = .ok (.iadd, 1) := by decide +kernel
theorem dX11_moves_122 : decode cX11_moves 122 = .ok (.invokevirtual 75, 3) := by decide +kernel
theorem dX11_moves_125 : decode cX11_moves 125 = .ok (.aload 5, 2) := by decide +kernel
theorem dX11_moves_127 : decode cX11_moves 127 = .ok (.getfield 151, 3) := by decide +kernel
theorem dX11_moves_130 : decode cX11_moves 130 = .ok (.aload 5, 2) := by decide +kernel
theorem dX11_moves_132 : decode cX11_moves 132 = .ok (.iload_n 3, 1) := by decide +kernel
theorem dX11_moves_133 : decode cX11_moves 133 = .ok (.iload 8, 2) := by decide +kernel
theorem dX11_moves_135 : decode cX11_moves 135 = .ok (.iadd, 1) := by decide +kernel
theorem dX11_moves_136 : decode cX11_moves 136 = .ok (.invokevirtual 66, 3) := by decide +kernel
theorem dX11_moves_139 : decode cX11_moves 139 = .ok (.iload_n 2, 1) := by decide +kernel
theorem dX11_moves_140 : decode cX11_moves 140 = .ok (.invokevirtual 351, 3) := by decide +kernel
theorem dX11_moves_143 : decode cX11_moves 143 = .ok (.istore 9, 2) := by decide +kernel
theorem dX11_moves_145 : decode cX11_moves 145 = .ok (.iload 9, 2) := by decide +kernel
theorem dX11_moves_147 : decode cX11_moves 147 = .ok (.ifCond .eq 22, 3) := by decide +kernel
theorem dX11_moves_150 : decode cX11_moves 150 = .ok (.aload_n 0, 1) := by decide +kernel
theorem dX11_moves_151 : decode cX11_moves 151 = .ok (.getfield 26, 3) := by decide +kernel
theorem dX11_moves_154 : decode cX11_moves 154 = .ok (.aload_n 0, 1) := by decide +kernel
theorem dX11_moves_155 : decode cX11_moves 155 = .ok (.getfield 10, 3) := by decide +kernel
theorem dX11_moves_158 : decode cX11_moves 158 = .ok (.iload_n 1, 1) := by decide +kernel
theorem dX11_moves_159 : decode cX11_moves 159 = .ok (.iconst 0, 1) := by decide +kernel
theorem dX11_moves_160 : decode cX11_moves 160 = .ok (.invokevirtual 83, 3) := by decide +kernel
theorem dX11_moves_163 : decode cX11_moves 163 = .ok (.ifCond .ne 6, 3) := by decide +kernel
theorem dX11_moves_166 : decode cX11_moves 166 = .ok (.iinc 7 1, 3) := by decide +kernel
theorem dX11_moves_169 : decode cX11_moves 169 = .ok (.iinc 8 1, 3) := by decide +kernel
theorem dX11_moves_172 : decode cX11_moves 172 = .ok (.goto (-65), 3) := by decide +kernel
theorem dX11_moves_175 : decode cX11_moves 175 = .ok (.iload 7, 2) := by decide +kernel
theorem dX11_moves_177 : decode cX11_moves 177 = .ok (.ireturn, 1) := by decide +kernel
theorem dX11_image_0 : decode cX11_image 0 = .ok (.aload_n 0, 1) := by decide +kernel
theorem dX11_image_1 : decode cX11_image 1 = .ok (.getfield 16, 3) := by decide +kernel
theorem dX11_image_4 : decode cX11_image 4 = .ok (.aload_n 0, 1) := by decide +kernel
theorem dX11_image_5 : decode cX11_image 5 = .ok (.getfield 10, 3) := by decide +kernel
theorem dX11_image_8 : decode cX11_image 8 = .ok (.invokevirtual 354, 3) := by decide +kernel
theorem dX11_image_11 : decode cX11_image 11 = .ok (.aload_n 0, 1) := by decide +kernel
theorem dX11_image_12 : decode cX11_image 12 = .ok (.iconst 1, 1) := by decide +kernel
theorem dX11_image_13 : decode cX11_image 13 = .ok (.putfield 19, 3) := by decide +kernel
theorem dX11_image_16 : decode cX11_image 16 = .ok (.aload_n 0, 1) := by decide +kernel
theorem dX11_image_17 : decode cX11_image 17 = .ok (.getfield 16, 3) := by decide +kernel
theorem dX11_image_20 : decode cX11_image 20 = .ok (.invokevirtual 357, 3) := by decide +kernel
theorem dX11_image_23 : decode cX11_image 23 = .ok (.ireturn, 1) := by decide +kernel
theorem dX11_restore_0 : decode cX11_restore 0 = .ok (.aload_n 0, 1) := by decide +kernel
theorem dX11_restore_1 : decode cX11_restore 1 = .ok (.getfield 19, 3) := by decide +kernel
theorem dX11_restore_4 : decode cX11_restore 4 = .ok (.ifCond .ne 10, 3) := by decide +kernel
theorem dX11_restore_7 : decode cX11_restore 7 = .ok (.aload_n 0, 1) := by decide +kernel
theorem dX11_restore_8 : decode cX11_restore 8 = .ok (.bipush (-2), 2) := by decide +kernel
theorem dX11_restore_10 : decode cX11_restore 10 = .ok (.invokevirtual 46, 3) := by decide +kernel
theorem dX11_restore_13 : decode cX11_restore 13 = .ok (.ireturn, 1) := by decide +kernel
theorem dX11_restore_14 : decode cX11_restore 14 = .ok (.aload_n 0, 1) := by decide +kernel
theorem dX11_restore_15 : decode cX11_restore 15 = .ok (.getfield 10, 3) := by decide +kernel
theorem dX11_restore_18 : decode cX11_restore 18 = .ok (.aload_n 0, 1) := by decide +kernel
theorem dX11_restore_19 : decode cX11_restore 19 = .ok (.getfield 16, 3) := by decide +kernel
theorem dX11_restore_22 : decode cX11_restore 22 = .ok (.invokevirtual 354, 3) := by decide +kernel
theorem dX11_restore_25 : decode cX11_restore 25 = .ok (.aload_n 0, 1) := by decide +kernel
theorem dX11_restore_26 : decode cX11_restore 26 = .ok (.getfield 10, 3) := by decide +kernel
theorem dX11_restore_29 : decode cX11_restore 29 = .ok (.invokevirtual 357, 3) := by decide +kernel
theorem dX11_restore_32 : decode cX11_restore 32 = .ok (.ireturn, 1) := by decide +kernel
theorem dX11_status_0 : decode cX11_status 0 = .ok (.iload_n 1, 1) := by decide +kernel
theorem dX11_status_1 : decode cX11_status 1 = .ok (.invokestatic 360, 3) := by decide +kernel
theorem dX11_status_4 : decode cX11_status 4 = .ok (.ifCond .ne 10, 3) := by decide +kernel
theorem dX11_status_7 : decode cX11_status 7 = .ok (.aload_n 0, 1) := by decide +kernel
theorem dX11_status_8 : decode cX11_status 8 = .ok (.bipush (-12), 2) := by decide +kernel
theorem dX11_status_10 : decode cX11_status 10 = .ok (.invokevirtual 46, 3) := by decide +kernel
theorem dX11_status_13 : decode cX11_status 13 = .ok (.ireturn, 1) := by decide +kernel
theorem dX11_status_14 : decode cX11_status 14 = .ok (.aload_n 0, 1) := by decide +kernel
theorem dX11_status_15 : decode cX11_status 15 = .ok (.getfield 37, 3) := by decide +kernel
theorem dX11_status_18 : decode cX11_status 18 = .ok (.iload_n 1, 1) := by decide +kernel
theorem dX11_status_19 : decode cX11_status 19 = .ok (.ineg, 1) := by decide +kernel
theorem dX11_status_20 : decode cX11_status 20 = .ok (.iaload, 1) := by decide +kernel
theorem dX11_status_21 : decode cX11_status 21 = .ok (.ireturn, 1) := by decide +kernel
theorem dX11_within_0 : decode cX11_within 0 = .ok (.iload_n 0, 1) := by decide +kernel
theorem dX11_within_1 : decode cX11_within 1 = .ok (.ifCond .lt 12, 3) := by decide +kernel
theorem dX11_within_4 : decode cX11_within 4 = .ok (.iload_n 0, 1) := by decide +kernel
theorem dX11_within_5 : decode cX11_within 5 = .ok (.iload_n 1, 1) := by decide +kernel
theorem dX11_within_6 : decode cX11_within 6 = .ok (.if_icmp .gt 7, 3) := by decide +kernel
theorem dX11_within_9 : decode cX11_within 9 = .ok (.iconst 1, 1) := by decide +kernel
theorem dX11_within_10 : decode cX11_within 10 = .ok (.goto 4, 3) := by decide +kernel
theorem dX11_within_13 : decode cX11_within 13 = .ok (.iconst 0, 1) := by decide +kernel
theorem dX11_within_14 : decode cX11_within 14 = .ok (.ireturn, 1) := by decide +kernel
theorem dX11_hasBit_0 : decode cX11_hasBit 0 = .ok (.iload_n 0, 1) := by decide +kernel
theorem dX11_hasBit_1 : decode cX11_hasBit 1 = .ok (.iload_n 1, 1) := by decide +kernel
theorem dX11_hasBit_2 : decode cX11_hasBit 2 = .ok (.iushr, 1) := by decide +kernel
theorem dX11_hasBit_3 : decode cX11_hasBit 3 = .ok (.iconst 1, 1) := by decide +kernel
theorem dX11_hasBit_4 : decode cX11_hasBit 4 = .ok (.iand, 1) := by decide +kernel
theorem dX11_hasBit_5 : decode cX11_hasBit 5 = .ok (.ifCond .eq 7, 3) := by decide +kernel
theorem dX11_hasBit_8 : decode cX11_hasBit 8 = .ok (.iconst 1, 1) := by decide +kernel
theorem dX11_hasBit_9 : decode cX11_hasBit 9 = .ok (.goto 4, 3) := by decide +kernel
theorem dX11_hasBit_12 : decode cX11_hasBit 12 = .ok (.iconst 0, 1) := by decide +kernel
theorem dX11_hasBit_13 : decode cX11_hasBit 13 = .ok (.ireturn, 1) := by decide +kernel
theorem dX11_isFactor_0 : decode cX11_isFactor 0 = .ok (.iload_n 0, 1) := by decide +kernel
theorem dX11_isFactor_1 : decode cX11_isFactor 1 = .ok (.iconst 1, 1) := by decide +kernel
theorem dX11_isFactor_2 : decode cX11_isFactor 2 = .ok (.if_icmp .lt 26, 3) := by decide +kernel
theorem dX11_isFactor_5 : decode cX11_isFactor 5 = .ok (.iload_n 0, 1) := by decide +kernel
theorem dX11_isFactor_6 : decode cX11_isFactor 6 = .ok (.sipush 10000, 3) := by decide +kernel
theorem dX11_isFactor_9 : decode cX11_isFactor 9 = .ok (.if_icmp .ge 19, 3) := by decide +kernel
theorem dX11_isFactor_12 : decode cX11_isFactor 12 = .ok (.iload_n 0, 1) := by decide +kernel
theorem dX11_isFactor_13 : decode cX11_isFactor 13 = .ok (.iconst 2, 1) := by decide +kernel
theorem dX11_isFactor_14 : decode cX11_isFactor 14 = .ok (.irem, 1) := by decide +kernel
theorem dX11_isFactor_15 : decode cX11_isFactor 15 = .ok (.ifCond .eq 13, 3) := by decide +kernel
theorem dX11_isFactor_18 : decode cX11_isFactor 18 = .ok (.iload_n 0, 1) := by decide +kernel
theorem dX11_isFactor_19 : decode cX11_isFactor 19 = .ok (.iconst 5, 1) := by decide +kernel
theorem dX11_isFactor_20 : decode cX11_isFactor 20 = .ok (.irem, 1) := by decide +kernel
theorem dX11_isFactor_21 : decode cX11_isFactor 21 = .ok (.ifCond .eq 7, 3) := by decide +kernel
theorem dX11_isFactor_24 : decode cX11_isFactor 24 = .ok (.iconst 1, 1) := by decide +kernel
theorem dX11_isFactor_25 : decode cX11_isFactor 25 = .ok (.goto 4, 3) := by decide +kernel
theorem dX11_isFactor_28 : decode cX11_isFactor 28 = .ok (.iconst 0, 1) := by decide +kernel
theorem dX11_isFactor_29 : decode cX11_isFactor 29 = .ok (.ireturn, 1) := by decide +kernel
theorem dX11_isSharedWay_0 : decode cX11_isSharedWay 0 = .ok (.iload_n 0, 1) := by decide +kernel
theorem dX11_isSharedWay_1 : decode cX11_isSharedWay 1 = .ok (.iconst 1, 1) := by decide +kernel
theorem dX11_isSharedWay_2 : decode cX11_isSharedWay 2 = .ok (.if_icmp .lt 13, 3) := by decide +kernel
theorem dX11_isSharedWay_5 : decode cX11_isSharedWay 5 = .ok (.iload_n 0, 1) := by decide +kernel
theorem dX11_isSharedWay_6 : decode cX11_isSharedWay 6 = .ok (.bipush 8, 2) := by decide +kernel
theorem dX11_isSharedWay_8 : decode cX11_isSharedWay 8 = .ok (.if_icmp .ge 7, 3) := by decide +kernel
theorem dX11_isSharedWay_11 : decode cX11_isSharedWay 11 = .ok (.iconst 1, 1) := by decide +kernel
theorem dX11_isSharedWay_12 : decode cX11_isSharedWay 12 = .ok (.goto 4, 3) := by decide +kernel
theorem dX11_isSharedWay_15 : decode cX11_isSharedWay 15 = .ok (.iconst 0, 1) := by decide +kernel
theorem dX11_isSharedWay_16 : decode cX11_isSharedWay 16 = .ok (.ireturn, 1) := by decide +kernel
theorem dX11_isCountedAt_0 : decode cX11_isCountedAt 0 = .ok (.iload_n 0, 1) := by decide +kernel
theorem dX11_isCountedAt_1 : decode cX11_isCountedAt 1 = .ok (.iconst 3, 1) := by decide +kernel
theorem dX11_isCountedAt_2 : decode cX11_isCountedAt 2 = .ok (.invokestatic 42, 3) := by decide +kernel
theorem dX11_isCountedAt_5 : decode cX11_isCountedAt 5 = .ok (.ifCond .eq 17, 3) := by decide +kernel
theorem dX11_isCountedAt_8 : decode cX11_isCountedAt 8 = .ok (.iload_n 1, 1) := by decide +kernel
theorem dX11_isCountedAt_9 : decode cX11_isCountedAt 9 = .ok (.sipush 239, 3) := by decide +kernel
theorem dX11_isCountedAt_12 : decode cX11_isCountedAt 12 = .ok (.invokestatic 42, 3) := by decide +kernel
theorem dX11_isCountedAt_15 : decode cX11_isCountedAt 15 = .ok (.ifCond .eq 7, 3) := by decide +kernel
theorem dX11_isCountedAt_18 : decode cX11_isCountedAt 18 = .ok (.iconst 1, 1) := by decide +kernel
theorem dX11_isCountedAt_19 : decode cX11_isCountedAt 19 = .ok (.goto 4, 3) := by decide +kernel
theorem dX11_isCountedAt_22 : decode cX11_isCountedAt 22 = .ok (.iconst 0, 1) := by decide +kernel
theorem dX11_isCountedAt_23 : decode cX11_isCountedAt 23 = .ok (.ireturn, 1) := by decide +kernel
theorem dX11_isRefusal_0 : decode cX11_isRefusal 0 = .ok (.iload_n 0, 1) := by decide +kernel
theorem dX11_isRefusal_1 : decode cX11_isRefusal 1 = .ok (.bipush (-2), 2) := by decide +kernel
theorem dX11_isRefusal_3 : decode cX11_isRefusal 3 = .ok (.if_icmp .gt 13, 3) := by decide +kernel
theorem dX11_isRefusal_6 : decode cX11_isRefusal 6 = .ok (.iload_n 0, 1) := by decide +kernel
theorem dX11_isRefusal_7 : decode cX11_isRefusal 7 = .ok (.bipush (-13), 2) := by decide +kernel
theorem dX11_isRefusal_9 : decode cX11_isRefusal 9 = .ok (.if_icmp .lt 7, 3) := by decide +kernel
theorem dX11_isRefusal_12 : decode cX11_isRefusal 12 = .ok (.iconst 1, 1) := by decide +kernel
theorem dX11_isRefusal_13 : decode cX11_isRefusal 13 = .ok (.goto 4, 3) := by decide +kernel
theorem dX11_isRefusal_16 : decode cX11_isRefusal 16 = .ok (.iconst 0, 1) := by decide +kernel
theorem dX11_isRefusal_17 : decode cX11_isRefusal 17 = .ok (.ireturn, 1) := by decide +kernel
theorem dX11_refuse_0 : decode cX11_refuse 0 = .ok (.iload_n 1, 1) := by decide +kernel
theorem dX11_refuse_1 : decode cX11_refuse 1 = .ok (.invokestatic 360, 3) := by decide +kernel
theorem dX11_refuse_4 : decode cX11_refuse 4 = .ok (.ifCond .eq 14, 3) := by decide +kernel
theorem dX11_refuse_7 : decode cX11_refuse 7 = .ok (.aload_n 0, 1) := by decide +kernel
theorem dX11_refuse_8 : decode cX11_refuse 8 = .ok (.getfield 37, 3) := by decide +kernel
theorem dX11_refuse_11 : decode cX11_refuse 11 = .ok (.iload_n 1, 1) := by decide +kernel
theorem dX11_refuse_12 : decode cX11_refuse 12 = .ok (.ineg, 1) := by decide +kernel
theorem dX11_refuse_13 : decode cX11_refuse 13 = .ok (.dup2, 1) := by decide +kernel
theorem dX11_refuse_14 : decode cX11_refuse 14 = .ok (.iaload, 1) := by decide +kernel
theorem dX11_refuse_15 : decode cX11_refuse 15 = .ok (.iconst 1, 1) := by decide +kernel
theorem dX11_refuse_16 : decode cX11_refuse 16 = .ok (.iadd, 1) := by decide +kernel
theorem dX11_refuse_17 : decode cX11_refuse 17 = .ok (.iastore, 1) := by decide +kernel
theorem dX11_refuse_18 : decode cX11_refuse 18 = .ok (.iload_n 1, 1) := by decide +kernel
theorem dX11_refuse_19 : decode cX11_refuse 19 = .ok (.ireturn, 1) := by decide +kernel
theorem dX11_refuseAt_0 : decode cX11_refuseAt 0 = .ok (.aload_n 0, 1) := by decide +kernel
theorem dX11_refuseAt_1 : decode cX11_refuseAt 1 = .ok (.aload_n 0, 1) := by decide +kernel
theorem dX11_refuseAt_2 : decode cX11_refuseAt 2 = .ok (.getfield 10, 3) := by decide +kernel
theorem dX11_refuseAt_5 : decode cX11_refuseAt 5 = .ok (.iload_n 1, 1) := by decide +kernel
theorem dX11_refuseAt_6 : decode cX11_refuseAt 6 = .ok (.iload_n 2, 1) := by decide +kernel
theorem dX11_refuseAt_7 : decode cX11_refuseAt 7 = .ok (.invokevirtual 363, 3) := by decide +kernel
theorem dX11_refuseAt_10 : decode cX11_refuseAt 10 = .ok (.invokevirtual 46, 3) := by decide +kernel
theorem dX11_refuseAt_13 : decode cX11_refuseAt 13 = .ok (.ireturn, 1) := by decide +kernel
theorem dX11_answer_0 : decode cX11_answer 0 = .ok (.iload_n 1, 1) := by decide +kernel
theorem dX11_answer_1 : decode cX11_answer 1 = .ok (.ifCond .ge 11, 3) := by decide +kernel
theorem dX11_answer_4 : decode cX11_answer 4 = .ok (.aload_n 0, 1) := by decide +kernel
theorem dX11_answer_5 : decode cX11_answer 5 = .ok (.iload_n 1, 1) := by decide +kernel
theorem dX11_answer_6 : decode cX11_answer 6 = .ok (.invokevirtual 46, 3) := by decide +kernel
theorem dX11_answer_9 : decode cX11_answer 9 = .ok (.goto 4, 3) := by decide +kernel
theorem dX11_answer_12 : decode cX11_answer 12 = .ok (.iload_n 1, 1) := by decide +kernel
theorem dX11_answer_13 : decode cX11_answer 13 = .ok (.ireturn, 1) := by decide +kernel
theorem dX11_refuseAtEither_0 : decode cX11_refuseAtEither 0 = .ok (.aload_n 0, 1) := by decide +kernel
theorem dX11_refuseAtEither_1 : decode cX11_refuseAtEither 1 = .ok (.aload_n 0, 1) := by decide +kernel
theorem dX11_refuseAtEither_2 : decode cX11_refuseAtEither 2 = .ok (.getfield 10, 3) := by decide +kernel
theorem dX11_refuseAtEither_5 : decode cX11_refuseAtEither 5 = .ok (.iload_n 1, 1) := by decide +kernel
theorem dX11_refuseAtEither_6 : decode cX11_refuseAtEither 6 = .ok (.iload_n 3, 1) := by decide +kernel
theorem dX11_refuseAtEither_7 : decode cX11_refuseAtEither 7 = .ok (.invokevirtual 363, 3) := by decide +kernel
theorem dX11_refuseAtEither_10 : decode cX11_refuseAtEither 10 = .ok (.aload_n 0, 1) := by decide +kernel
theorem dX11_refuseAtEither_11 : decode cX11_refuseAtEither 11 = .ok (.getfield 10, 3) := by decide +kernel
theorem dX11_refuseAtEither_14 : decode cX11_refuseAtEither 14 = .ok (.iload_n 2, 1) := by decide +kernel
theorem dX11_refuseAtEither_15 : decode cX11_refuseAtEither 15 = .ok (.iload_n 3, 1) := by decide +kernel
theorem dX11_refuseAtEither_16 : decode cX11_refuseAtEither 16 = .ok (.invokevirtual 363, 3) := by decide +kernel
theorem dX11_refuseAtEither_19 : decode cX11_refuseAtEither 19 = .ok (.invokestatic 366, 3) := by decide +kernel
