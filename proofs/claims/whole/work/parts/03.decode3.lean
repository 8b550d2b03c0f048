theorem dX12_whyNoGrowth_22 : decode cX12_whyNoGrowth 22 = .ok (.ifCond .ne 6, 3) := by decide +kernel
theorem dX12_whyNoGrowth_25 : decode cX12_whyNoGrowth 25 = .ok (.bipush (-8), 2) := by decide +kernel
theorem dX12_whyNoGrowth_27 : decode cX12_whyNoGrowth 27 = .ok (.ireturn, 1) := by decide +kernel
theorem dX12_whyNoGrowth_28 : decode cX12_whyNoGrowth 28 = .ok (.iload_n 3, 1) := by decide +kernel
theorem dX12_whyNoGrowth_29 : decode cX12_whyNoGrowth 29 = .ok (.ifCond .lt 22, 3) := by decide +kernel
theorem dX12_whyNoGrowth_32 : decode cX12_whyNoGrowth 32 = .ok (.aload_n 0, 1) := by decide +kernel
theorem dX12_whyNoGrowth_33 : decode cX12_whyNoGrowth 33 = .ok (.getfield 171, 3) := by decide +kernel
theorem dX12_whyNoGrowth_36 : decode cX12_whyNoGrowth 36 = .ok (.aload_n 0, 1) := by decide +kernel
theorem dX12_whyNoGrowth_37 : decode cX12_whyNoGrowth 37 = .ok (.iload_n 1, 1) := by decide +kernel
theorem dX12_whyNoGrowth_38 : decode cX12_whyNoGrowth 38 = .ok (.bipush 71, 2) := by decide +kernel
theorem dX12_whyNoGrowth_40 : decode cX12_whyNoGrowth 40 = .ok (.invokevirtual 43, 3) := by decide +kernel
theorem dX12_whyNoGrowth_43 : decode cX12_whyNoGrowth 43 = .ok (.i2l, 1) := by decide +kernel
theorem dX12_whyNoGrowth_44 : decode cX12_whyNoGrowth 44 = .ok (.lcmp, 1) := by decide +kernel
theorem dX12_whyNoGrowth_45 : decode cX12_whyNoGrowth 45 = .ok (.ifCond .ge 6, 3) := by decide +kernel
theorem dX12_whyNoGrowth_48 : decode cX12_whyNoGrowth 48 = .ok (.bipush (-9), 2) := by decide +kernel
theorem dX12_whyNoGrowth_50 : decode cX12_whyNoGrowth 50 = .ok (.ireturn, 1) := by decide +kernel
theorem dX12_whyNoGrowth_51 : decode cX12_whyNoGrowth 51 = .ok (.iload_n 3, 1) := by decide +kernel
theorem dX12_whyNoGrowth_52 : decode cX12_whyNoGrowth 52 = .ok (.ifCond .lt 15, 3) := by decide +kernel
theorem dX12_whyNoGrowth_55 : decode cX12_whyNoGrowth 55 = .ok (.aload_n 0, 1) := by decide +kernel
theorem dX12_whyNoGrowth_56 : decode cX12_whyNoGrowth 56 = .ok (.iload_n 1, 1) := by decide +kernel
theorem dX12_whyNoGrowth_57 : decode cX12_whyNoGrowth 57 = .ok (.iload_n 2, 1) := by decide +kernel
theorem dX12_whyNoGrowth_58 : decode cX12_whyNoGrowth 58 = .ok (.invokevirtual 185, 3) := by decide +kernel
theorem dX12_whyNoGrowth_61 : decode cX12_whyNoGrowth 61 = .ok (.ifCond .eq 6, 3) := by decide +kernel
theorem dX12_whyNoGrowth_64 : decode cX12_whyNoGrowth 64 = .ok (.bipush (-10), 2) := by decide +kernel
theorem dX12_whyNoGrowth_66 : decode cX12_whyNoGrowth 66 = .ok (.ireturn, 1) := by decide +kernel
theorem dX12_whyNoGrowth_67 : decode cX12_whyNoGrowth 67 = .ok (.iload_n 2, 1) := by decide +kernel
theorem dX12_whyNoGrowth_68 : decode cX12_whyNoGrowth 68 = .ok (.aload_n 0, 1) := by decide +kernel
theorem dX12_whyNoGrowth_69 : decode cX12_whyNoGrowth 69 = .ok (.iload_n 1, 1) := by decide +kernel
theorem dX12_whyNoGrowth_70 : decode cX12_whyNoGrowth 70 = .ok (.bipush 75, 2) := by decide +kernel
theorem dX12_whyNoGrowth_72 : decode cX12_whyNoGrowth 72 = .ok (.invokevirtual 43, 3) := by decide +kernel
theorem dX12_whyNoGrowth_75 : decode cX12_whyNoGrowth 75 = .ok (.if_icmp .ge 6, 3) := by decide +kernel
theorem dX12_whyNoGrowth_78 : decode cX12_whyNoGrowth 78 = .ok (.bipush (-11), 2) := by decide +kernel
theorem dX12_whyNoGrowth_80 : decode cX12_whyNoGrowth 80 = .ok (.ireturn, 1) := by decide +kernel
theorem dX12_whyNoGrowth_81 : decode cX12_whyNoGrowth 81 = .ok (.aload_n 0, 1) := by decide +kernel
theorem dX12_whyNoGrowth_82 : decode cX12_whyNoGrowth 82 = .ok (.iload_n 1, 1) := by decide +kernel
theorem dX12_whyNoGrowth_83 : decode cX12_whyNoGrowth 83 = .ok (.bipush 49, 2) := by decide +kernel
theorem dX12_whyNoGrowth_85 : decode cX12_whyNoGrowth 85 = .ok (.iload_n 3, 1) := by decide +kernel
theorem dX12_whyNoGrowth_86 : decode cX12_whyNoGrowth 86 = .ok (.iadd, 1) := by decide +kernel
theorem dX12_whyNoGrowth_87 : decode cX12_whyNoGrowth 87 = .ok (.iconst 1, 1) := by decide +kernel
theorem dX12_whyNoGrowth_88 : decode cX12_whyNoGrowth 88 = .ok (.iadd, 1) := by decide +kernel
theorem dX12_whyNoGrowth_89 : decode cX12_whyNoGrowth 89 = .ok (.invokevirtual 43, 3) := by decide +kernel
theorem dX12_whyNoGrowth_92 : decode cX12_whyNoGrowth 92 = .ok (.istore 4, 2) := by decide +kernel
theorem dX12_whyNoGrowth_94 : decode cX12_whyNoGrowth 94 = .ok (.aload_n 0, 1) := by decide +kernel
theorem dX12_whyNoGrowth_95 : decode cX12_whyNoGrowth 95 = .ok (.iload_n 1, 1) := by decide +kernel
theorem dX12_whyNoGrowth_96 : decode cX12_whyNoGrowth 96 = .ok (.bipush 29, 2) := by decide +kernel
theorem dX12_whyNoGrowth_98 : decode cX12_whyNoGrowth 98 = .ok (.invokevirtual 43, 3) := by decide +kernel
theorem dX12_whyNoGrowth_101 : decode cX12_whyNoGrowth 101 = .ok (.istore 5, 2) := by decide +kernel
theorem dX12_whyNoGrowth_103 : decode cX12_whyNoGrowth 103 = .ok (.iload 4, 2) := by decide +kernel
theorem dX12_whyNoGrowth_105 : decode cX12_whyNoGrowth 105 = .ok (.aload_n 0, 1) := by decide +kernel
theorem dX12_whyNoGrowth_106 : decode cX12_whyNoGrowth 106 = .ok (.iload_n 1, 1) := by decide +kernel
theorem dX12_whyNoGrowth_107 : decode cX12_whyNoGrowth 107 = .ok (.bipush 37, 2) := by decide +kernel
theorem dX12_whyNoGrowth_109 : decode cX12_whyNoGrowth 109 = .ok (.invokevirtual 43, 3) := by decide +kernel
theorem dX12_whyNoGrowth_112 : decode cX12_whyNoGrowth 112 = .ok (.if_icmp .lt 27, 3) := by decide +kernel
theorem dX12_whyNoGrowth_115 : decode cX12_whyNoGrowth 115 = .ok (.iload 5, 2) := by decide +kernel
theorem dX12_whyNoGrowth_117 : decode cX12_whyNoGrowth 117 = .ok (.iload 4, 2) := by decide +kernel
theorem dX12_whyNoGrowth_119 : decode cX12_whyNoGrowth 119 = .ok (.iadd, 1) := by decide +kernel
theorem dX12_whyNoGrowth_120 : decode cX12_whyNoGrowth 120 = .ok (.sipush 10000, 3) := by decide +kernel
theorem dX12_whyNoGrowth_123 : decode cX12_whyNoGrowth 123 = .ok (.if_icmp .gt 16, 3) := by decide +kernel
theorem dX12_whyNoGrowth_126 : decode cX12_whyNoGrowth 126 = .ok (.aload_n 0, 1) := by decide +kernel
theorem dX12_whyNoGrowth_127 : decode cX12_whyNoGrowth 127 = .ok (.iload_n 1, 1) := by decide +kernel
theorem dX12_whyNoGrowth_128 : decode cX12_whyNoGrowth 128 = .ok (.iconst 1, 1) := by decide +kernel
theorem dX12_whyNoGrowth_129 : decode cX12_whyNoGrowth 129 = .ok (.iload 5, 2) := by decide +kernel
theorem dX12_whyNoGrowth_131 : decode cX12_whyNoGrowth 131 = .ok (.iload 4, 2) := by decide +kernel
theorem dX12_whyNoGrowth_133 : decode cX12_whyNoGrowth 133 = .ok (.invokevirtual 139, 3) := by decide +kernel
theorem dX12_whyNoGrowth_136 : decode cX12_whyNoGrowth 136 = .ok (.ifCond .eq 8, 3) := by decide +kernel
theorem dX12_whyNoGrowth_139 : decode cX12_whyNoGrowth 139 = .ok (.bipush (-12), 2) := by decide +kernel
theorem dX12_whyNoGrowth_141 : decode cX12_whyNoGrowth 141 = .ok (.goto 4, 3) := by decide +kernel
theorem dX12_whyNoGrowth_144 : decode cX12_whyNoGrowth 144 = .ok (.iconst 0, 1) := by decide +kernel
theorem dX12_whyNoGrowth_145 : decode cX12_whyNoGrowth 145 = .ok (.ireturn, 1) := by decide +kernel
theorem dX12_isMinute_0 : decode cX12_isMinute 0 = .ok (.iload_n 0, 1) := by decide +kernel
theorem dX12_isMinute_1 : decode cX12_isMinute 1 = .ok (.ifCond .lt 14, 3) := by decide +kernel
theorem dX12_isMinute_4 : decode cX12_isMinute 4 = .ok (.iload_n 0, 1) := by decide +kernel
theorem dX12_isMinute_5 : decode cX12_isMinute 5 = .ok (.sipush 240, 3) := by decide +kernel
theorem dX12_isMinute_8 : decode cX12_isMinute 8 = .ok (.if_icmp .ge 7, 3) := by decide +kernel
theorem dX12_isMinute_11 : decode cX12_isMinute 11 = .ok (.iconst 1, 1) := by decide +kernel
theorem dX12_isMinute_12 : decode cX12_isMinute 12 = .ok (.goto 4, 3) := by decide +kernel
theorem dX12_isMinute_15 : decode cX12_isMinute 15 = .ok (.iconst 0, 1) := by decide +kernel
theorem dX12_isMinute_16 : decode cX12_isMinute 16 = .ok (.ireturn, 1) := by decide +kernel
theorem dX12_grow_0 : decode cX12_grow 0 = .ok (.iload_n 2, 1) := by decide +kernel
theorem dX12_grow_1 : decode cX12_grow 1 = .ok (.invokestatic 188, 3) := by decide +kernel
theorem dX12_grow_4 : decode cX12_grow 4 = .ok (.ifCond .ne 8, 3) := by decide +kernel
theorem dX12_grow_7 : decode cX12_grow 7 = .ok (.bipush (-3), 2) := by decide +kernel
theorem dX12_grow_9 : decode cX12_grow 9 = .ok (.goto 9, 3) := by decide +kernel
theorem dX12_grow_12 : decode cX12_grow 12 = .ok (.aload_n 0, 1) := by decide +kernel
theorem dX12_grow_13 : decode cX12_grow 13 = .ok (.iload_n 1, 1) := by decide +kernel
theorem dX12_grow_14 : decode cX12_grow 14 = .ok (.iconst 1, 1) := by decide +kernel
theorem dX12_grow_15 : decode cX12_grow 15 = .ok (.invokevirtual 119, 3) := by decide +kernel
theorem dX12_grow_18 : decode cX12_grow 18 = .ok (.istore_n 3, 1) := by decide +kernel
theorem dX12_grow_19 : decode cX12_grow 19 = .ok (.iload_n 3, 1) := by decide +kernel
theorem dX12_grow_20 : decode cX12_grow 20 = .ok (.ifCond .ne 16, 3) := by decide +kernel
theorem dX12_grow_23 : decode cX12_grow 23 = .ok (.aload_n 0, 1) := by decide +kernel
theorem dX12_grow_24 : decode cX12_grow 24 = .ok (.iload_n 1, 1) := by decide +kernel
theorem dX12_grow_25 : decode cX12_grow 25 = .ok (.bipush 48, 2) := by decide +kernel
theorem dX12_grow_27 : decode cX12_grow 27 = .ok (.invokevirtual 43, 3) := by decide +kernel
theorem dX12_grow_30 : decode cX12_grow 30 = .ok (.ifCond .ne 6, 3) := by decide +kernel
theorem dX12_grow_33 : decode cX12_grow 33 = .ok (.bipush (-2), 2) := by decide +kernel
theorem dX12_grow_35 : decode cX12_grow 35 = .ok (.istore_n 3, 1) := by decide +kernel
theorem dX12_grow_36 : decode cX12_grow 36 = .ok (.iload_n 3, 1) := by decide +kernel
theorem dX12_grow_37 : decode cX12_grow 37 = .ok (.ifCond .ne 25, 3) := by decide +kernel
theorem dX12_grow_40 : decode cX12_grow 40 = .ok (.aload_n 0, 1) := by decide +kernel
theorem dX12_grow_41 : decode cX12_grow 41 = .ok (.iload_n 1, 1) := by decide +kernel
theorem dX12_grow_42 : decode cX12_grow 42 = .ok (.bipush 69, 2) := by decide +kernel
theorem dX12_grow_44 : decode cX12_grow 44 = .ok (.invokevirtual 43, 3) := by decide +kernel
theorem dX12_grow_47 : decode cX12_grow 47 = .ok (.iconst 1, 1) := by decide +kernel
theorem dX12_grow_48 : decode cX12_grow 48 = .ok (.iadd, 1) := by decide +kernel
theorem dX12_grow_49 : decode cX12_grow 49 = .ok (.aload_n 0, 1) := by decide +kernel
theorem dX12_grow_50 : decode cX12_grow 50 = .ok (.iload_n 1, 1) := by decide +kernel
theorem dX12_grow_51 : decode cX12_grow 51 = .ok (.bipush 48, 2) := by decide +kernel
theorem dX12_grow_53 : decode cX12_grow 53 = .ok (.invokevirtual 43, 3) := by decide +kernel
theorem dX12_grow_56 : decode cX12_grow 56 = .ok (.if_icmp .lt 6, 3) := by decide +kernel
theorem dX12_grow_59 : decode cX12_grow 59 = .ok (.bipush (-3), 2) := by decide +kernel
theorem dX12_grow_61 : decode cX12_grow 61 = .ok (.istore_n 3, 1) := by decide +kernel
theorem dX12_grow_62 : decode cX12_grow 62 = .ok (.iload_n 3, 1) := by decide +kernel
theorem dX12_grow_63 : decode cX12_grow 63 = .ok (.ifCond .ne 10, 3) := by decide +kernel
theorem dX12_grow_66 : decode cX12_grow 66 = .ok (.aload_n 0, 1) := by decide +kernel
theorem dX12_grow_67 : decode cX12_grow 67 = .ok (.iload_n 1, 1) := by decide +kernel
theorem dX12_grow_68 : decode cX12_grow 68 = .ok (.iload_n 2, 1) := by decide +kernel
theorem dX12_grow_69 : decode cX12_grow 69 = .ok (.invokevirtual 191, 3) := by decide +kernel
theorem dX12_grow_72 : decode cX12_grow 72 = .ok (.istore_n 3, 1) := by decide +kernel
theorem dX12_grow_73 : decode cX12_grow 73 = .ok (.iload_n 3, 1) := by decide +kernel
theorem dX12_grow_74 : decode cX12_grow 74 = .ok (.ifCond .eq 9, 3) := by decide +kernel
theorem dX12_grow_77 : decode cX12_grow 77 = .ok (.aload_n 0, 1) := by decide +kernel
theorem dX12_grow_78 : decode cX12_grow 78 = .ok (.iload_n 3, 1) := by decide +kernel
theorem dX12_grow_79 : decode cX12_grow 79 = .ok (.invokevirtual 72, 3) := by decide +kernel
theorem dX12_grow_82 : decode cX12_grow 82 = .ok (.ireturn, 1) := by decide +kernel
theorem dX12_grow_83 : decode cX12_grow 83 = .ok (.aload_n 0, 1) := by decide +kernel
theorem dX12_grow_84 : decode cX12_grow 84 = .ok (.iload_n 1, 1) := by decide +kernel
theorem dX12_grow_85 : decode cX12_grow 85 = .ok (.bipush 69, 2) := by decide +kernel
theorem dX12_grow_87 : decode cX12_grow 87 = .ok (.aload_n 0, 1) := by decide +kernel
theorem dX12_grow_88 : decode cX12_grow 88 = .ok (.iload_n 1, 1) := by decide +kernel
theorem dX12_grow_89 : decode cX12_grow 89 = .ok (.bipush 69, 2) := by decide +kernel
theorem dX12_grow_91 : decode cX12_grow 91 = .ok (.invokevirtual 43, 3) := by decide +kernel
theorem dX12_grow_94 : decode cX12_grow 94 = .ok (.iconst 1, 1) := by decide +kernel
theorem dX12_grow_95 : decode cX12_grow 95 = .ok (.iadd, 1) := by decide +kernel
theorem dX12_grow_96 : decode cX12_grow 96 = .ok (.invokevirtual 125, 3) := by decide +kernel
theorem dX12_grow_99 : decode cX12_grow 99 = .ok (.aload_n 0, 1) := by decide +kernel
theorem dX12_grow_100 : decode cX12_grow 100 = .ok (.iload_n 1, 1) := by decide +kernel
theorem dX12_grow_101 : decode cX12_grow 101 = .ok (.bipush 37, 2) := by decide +kernel
theorem dX12_grow_103 : decode cX12_grow 103 = .ok (.aload_n 0, 1) := by decide +kernel
theorem dX12_grow_104 : decode cX12_grow 104 = .ok (.iload_n 1, 1) := by decide +kernel
theorem dX12_grow_105 : decode cX12_grow 105 = .ok (.bipush 49, 2) := by decide +kernel
theorem dX12_grow_107 : decode cX12_grow 107 = .ok (.aload_n 0, 1) := by decide +kernel
theorem dX12_grow_108 : decode cX12_grow 108 = .ok (.iload_n 1, 1) := by decide +kernel
theorem dX12_grow_109 : decode cX12_grow 109 = .ok (.bipush 69, 2) := by decide +kernel
theorem dX12_grow_111 : decode cX12_grow 111 = .ok (.invokevirtual 43, 3) := by decide +kernel
theorem dX12_grow_114 : decode cX12_grow 114 = .ok (.iadd, 1) := by decide +kernel
theorem dX12_grow_115 : decode cX12_grow 115 = .ok (.invokevirtual 43, 3) := by decide +kernel
theorem dX12_grow_118 : decode cX12_grow 118 = .ok (.invokevirtual 125, 3) := by decide +kernel
theorem dX12_grow_121 : decode cX12_grow 121 = .ok (.aload_n 0, 1) := by decide +kernel
theorem dX12_grow_122 : decode cX12_grow 122 = .ok (.iload_n 1, 1) := by decide +kernel
theorem dX12_grow_123 : decode cX12_grow 123 = .ok (.bipush 37, 2) := by decide +kernel
theorem dX12_grow_125 : decode cX12_grow 125 = .ok (.invokevirtual 43, 3) := by decide +kernel
theorem dX12_grow_128 : decode cX12_grow 128 = .ok (.ireturn, 1) := by decide +kernel
theorem dX12_goesTo_0 : decode cX12_goesTo 0 = .ok (.aload_n 0, 1) := by decide +kernel
theorem dX12_goesTo_1 : decode cX12_goesTo 1 = .ok (.iload_n 1, 1) := by decide +kernel
theorem dX12_goesTo_2 : decode cX12_goesTo 2 = .ok (.bipush 69, 2) := by decide +kernel
theorem dX12_goesTo_4 : decode cX12_goesTo 4 = .ok (.iload_n 2, 1) := by decide +kernel
theorem dX12_goesTo_5 : decode cX12_goesTo 5 = .ok (.invokevirtual 125, 3) := by decide +kernel
theorem dX12_goesTo_8 : decode cX12_goesTo 8 = .ok (.aload_n 0, 1) := by decide +kernel
theorem dX12_goesTo_9 : decode cX12_goesTo 9 = .ok (.iload_n 1, 1) := by decide +kernel
theorem dX12_goesTo_10 : decode cX12_goesTo 10 = .ok (.bipush 37, 2) := by decide +kernel
theorem dX12_goesTo_12 : decode cX12_goesTo 12 = .ok (.iload_n 2, 1) := by decide +kernel
theorem dX12_goesTo_13 : decode cX12_goesTo 13 = .ok (.ifCond .ge 7, 3) := by decide +kernel
theorem dX12_goesTo_16 : decode cX12_goesTo 16 = .ok (.iconst 0, 1) := by decide +kernel
theorem dX12_goesTo_17 : decode cX12_goesTo 17 = .ok (.goto 12, 3) := by decide +kernel
theorem dX12_goesTo_20 : decode cX12_goesTo 20 = .ok (.aload_n 0, 1) := by decide +kernel
theorem dX12_goesTo_21 : decode cX12_goesTo 21 = .ok (.iload_n 1, 1) := by decide +kernel
theorem dX12_goesTo_22 : decode cX12_goesTo 22 = .ok (.bipush 49, 2) := by decide +kernel
theorem dX12_goesTo_24 : decode cX12_goesTo 24 = .ok (.iload_n 2, 1) := by decide +kernel
theorem dX12_goesTo_25 : decode cX12_goesTo 25 = .ok (.iadd, 1) := by decide +kernel
theorem dX12_goesTo_26 : decode cX12_goesTo 26 = .ok (.invokevirtual 43, 3) := by decide +kernel
theorem dX12_goesTo_29 : decode cX12_goesTo 29 = .ok (.invokevirtual 125, 3) := by decide +kernel
theorem dX12_goesTo_32 : decode cX12_goesTo 32 = .ok (.return_, 1) := by decide +kernel
theorem dX12_back_0 : decode cX12_back 0 = .ok (.aload_n 0, 1) := by decide +kernel
theorem dX12_back_1 : decode cX12_back 1 = .ok (.iload_n 1, 1) := by decide +kernel
theorem dX12_back_2 : decode cX12_back 2 = .ok (.iconst 1, 1) := by decide +kernel
theorem dX12_back_3 : decode cX12_back 3 = .ok (.invokevirtual 119, 3) := by decide +kernel
theorem dX12_back_6 : decode cX12_back 6 = .ok (.istore_n 2, 1) := by decide +kernel
theorem dX12_back_7 : decode cX12_back 7 = .ok (.iload_n 2, 1) := by decide +kernel
theorem dX12_back_8 : decode cX12_back 8 = .ok (.ifCond .ne 26, 3) := by decide +kernel
theorem dX12_back_11 : decode cX12_back 11 = .ok (.aload_n 0, 1) := by decide +kernel
theorem dX12_back_12 : decode cX12_back 12 = .ok (.iload_n 1, 1) := by decide +kernel
theorem dX12_back_13 : decode cX12_back 13 = .ok (.bipush 69, 2) := by decide +kernel
theorem dX12_back_15 : decode cX12_back 15 = .ok (.invokevirtual 43, 3) := by decide +kernel
theorem dX12_back_18 : decode cX12_back 18 = .ok (.ifCond .le 16, 3) := by decide +kernel
theorem dX12_back_21 : decode cX12_back 21 = .ok (.aload_n 0, 1) := by decide +kernel
theorem dX12_back_22 : decode cX12_back 22 = .ok (.iload_n 1, 1) := by decide +kernel
theorem dX12_back_23 : decode cX12_back 23 = .ok (.bipush 48, 2) := by decide +kernel
theorem dX12_back_25 : decode cX12_back 25 = .ok (.invokevirtual 43, 3) := by decide +kernel
theorem dX12_back_28 : decode cX12_back 28 = .ok (.ifCond .ne 6, 3) := by decide +kernel
theorem dX12_back_31 : decode cX12_back 31 = .ok (.bipush (-2), 2) := by decide +kernel
theorem dX12_back_33 : decode cX12_back 33 = .ok (.istore_n 2, 1) := by decide +kernel
theorem dX12_back_34 : decode cX12_back 34 = .ok (.iload_n 2, 1) := by decide +kernel
theorem dX12_back_35 : decode cX12_back 35 = .ok (.ifCond .ne 16, 3) := by decide +kernel
theorem dX12_back_38 : decode cX12_back 38 = .ok (.aload_n 0, 1) := by decide +kernel
theorem dX12_back_39 : decode cX12_back 39 = .ok (.iload_n 1, 1) := by decide +kernel
theorem dX12_back_40 : decode cX12_back 40 = .ok (.bipush 69, 2) := by decide +kernel
theorem dX12_back_42 : decode cX12_back 42 = .ok (.invokevirtual 43, 3) := by decide +kernel
theorem dX12_back_45 : decode cX12_back 45 = .ok (.ifCond .ge 6, 3) := by decide +kernel
theorem dX12_back_48 : decode cX12_back 48 = .ok (.bipush (-12), 2) := by decide +kernel
theorem dX12_back_50 : decode cX12_back 50 = .ok (.istore_n 2, 1) := by decide +kernel
theorem dX12_back_51 : decode cX12_back 51 = .ok (.iload_n 2, 1) := by decide +kernel
theorem dX12_back_52 : decode cX12_back 52 = .ok (.ifCond .eq 9, 3) := by decide +kernel
theorem dX12_back_55 : decode cX12_back 55 = .ok (.aload_n 0, 1) := by decide +kernel
theorem dX12_back_56 : decode cX12_back 56 = .ok (.iload_n 2, 1) := by decide +kernel
theorem dX12_back_57 : decode cX12_back 57 = .ok (.invokevirtual 72, 3) := by decide +kernel
theorem dX12_back_60 : decode cX12_back 60 = .ok (.ireturn, 1) := by decide +kernel
theorem dX12_back_61 : decode cX12_back 61 = .ok (.aload_n 0, 1) := by decide +kernel
theorem dX12_back_62 : decode cX12_back 62 = .ok (.iload_n 1, 1) := by decide +kernel
theorem dX12_back_63 : decode cX12_back 63 = .ok (.aload_n 0, 1) := by decide +kernel
theorem dX12_back_64 : decode cX12_back 64 = .ok (.iload_n 1, 1) := by decide +kernel
theorem dX12_back_65 : decode cX12_back 65 = .ok (.bipush 69, 2) := by decide +kernel
theorem dX12_back_67 : decode cX12_back 67 = .ok (.invokevirtual 43, 3) := by decide +kernel
theorem dX12_back_70 : decode cX12_back 70 = .ok (.iconst 1, 1) := by decide +kernel
theorem dX12_back_71 : decode cX12_back 71 = .ok (.isub, 1) := by decide +kernel
theorem dX12_back_72 : decode cX12_back 72 = .ok (.invokevirtual 194, 3) := by decide +kernel
theorem dX12_back_75 : decode cX12_back 75 = .ok (.aload_n 0, 1) := by decide +kernel
theorem dX12_back_76 : decode cX12_back 76 = .ok (.iload_n 1, 1) := by decide +kernel
theorem dX12_back_77 : decode cX12_back 77 = .ok (.bipush 37, 2) := by decide +kernel
theorem dX12_back_79 : decode cX12_back 79 = .ok (.invokevirtual 43, 3) := by decide +kernel
theorem dX12_back_82 : decode cX12_back 82 = .ok (.ireturn, 1) := by decide +kernel
theorem dX12_stands_0 : decode cX12_stands 0 = .ok (.aload_n 0, 1) := by decide +kernel
theorem dX12_stands_1 : decode cX12_stands 1 = .ok (.iload_n 1, 1) := by decide +kernel
theorem dX12_stands_2 : decode cX12_stands 2 = .ok (.iconst 1, 1) := by decide +kernel
theorem dX12_stands_3 : decode cX12_stands 3 = .ok (.invokevirtual 119, 3) := by decide +kernel
theorem dX12_stands_6 : decode cX12_stands 6 = .ok (.istore_n 3, 1) := by decide +kernel
theorem dX12_stands_7 : decode cX12_stands 7 = .ok (.iload_n 3, 1) := by decide +kernel
theorem dX12_stands_8 : decode cX12_stands 8 = .ok (.ifCond .eq 9, 3) := by decide +kernel
theorem dX12_stands_11 : decode cX12_stands 11 = .ok (.aload_n 0, 1) := by decide +kernel
theorem dX12_stands_12 : decode cX12_stands 12 = .ok (.iload_n 3, 1) := by decide +kernel
theorem dX12_stands_13 : decode cX12_stands 13 = .ok (.invokevirtual 72, 3) := by decide +kernel
theorem dX12_stands_16 : decode cX12_stands 16 = .ok (.ireturn, 1) := by decide +kernel
theorem dX12_stands_17 : decode cX12_stands 17 = .ok (.iload_n 2, 1) := by decide +kernel
theorem dX12_stands_18 : decode cX12_stands 18 = .ok (.i2l, 1) := by decide +kernel
theorem dX12_stands_19 : decode cX12_stands 19 = .ok (.lconst 0, 1) := by decide +kernel
theorem dX12_stands_20 : decode cX12_stands 20 = .ok (.ldc2_w 197, 3) := by decide +kernel
theorem dX12_stands_23 : decode cX12_stands 23 = .ok (.invokestatic 62, 3) := by decide +kernel
theorem dX12_stands_26 : decode cX12_stands 26 = .ok (.ifCond .ne 10, 3) := by decide +kernel
theorem dX12_stands_29 : decode cX12_stands 29 = .ok (.aload_n 0, 1) := by decide +kernel
theorem dX12_stands_30 : decode cX12_stands 30 = .ok (.bipush (-12), 2) := by decide +kernel
theorem dX12_stands_32 : decode cX12_stands 32 = .ok (.invokevirtual 72, 3) := by decide +kernel
theorem dX12_stands_35 : decode cX12_stands 35 = .ok (.ireturn, 1) := by decide +kernel
theorem dX12_stands_36 : decode cX12_stands 36 = .ok (.iload_n 2, 1) := by decide +kernel
theorem dX12_stands_37 : decode cX12_stands 37 = .ok (.iconst 1, 1) := by decide +kernel
theorem dX12_stands_38 : decode cX12_stands 38 = .ok (.if_icmp .ne 25, 3) := by decide +kernel
theorem dX12_stands_41 : decode cX12_stands 41 = .ok (.aload_n 0, 1) := by decide +kernel
theorem dX12_stands_42 : decode cX12_stands 42 = .ok (.iload_n 1, 1) := by decide +kernel
theorem dX12_stands_43 : decode cX12_stands 43 = .ok (.bipush 48, 2) := by decide +kernel
theorem dX12_stands_45 : decode cX12_stands 45 = .ok (.invokevirtual 43, 3) := by decide +kernel
theorem dX12_stands_48 : decode cX12_stands 48 = .ok (.ifCond .ne 7, 3) := by decide +kernel
theorem dX12_stands_51 : decode cX12_stands 51 = .ok (.iconst (-1), 1) := by decide +kernel
theorem dX12_stands_52 : decode cX12_stands 52 = .ok (.goto 10, 3) := by decide +kernel
theorem dX12_stands_55 : decode cX12_stands 55 = .ok (.aload_n 0, 1) := by decide +kernel
theorem dX12_stands_56 : decode cX12_stands 56 = .ok (.iload_n 1, 1) := by decide +kernel
theorem dX12_stands_57 : decode cX12_stands 57 = .ok (.bipush 48, 2) := by decide +kernel
theorem dX12_stands_59 : decode cX12_stands 59 = .ok (.invokevirtual 43, 3) := by decide +kernel
theorem dX12_stands_62 : decode cX12_stands 62 = .ok (.ireturn, 1) := by decide +kernel
theorem dX12_stands_63 : decode cX12_stands 63 = .ok (.aload_n 0, 1) := by decide +kernel
theorem dX12_stands_64 : decode cX12_stands 64 = .ok (.iload_n 1, 1) := by decide +kernel
theorem dX12_stands_65 : decode cX12_stands 65 = .ok (.iload_n 2, 1) := by decide +kernel
theorem dX12_stands_66 : decode cX12_stands 66 = .ok (.ifCond .ne 8, 3) := by decide +kernel
theorem dX12_stands_69 : decode cX12_stands 69 = .ok (.bipush 69, 2) := by decide +kernel
theorem dX12_stands_71 : decode cX12_stands 71 = .ok (.goto 15, 3) := by decide +kernel
theorem dX12_stands_74 : decode cX12_stands 74 = .ok (.iload_n 2, 1) := by decide +kernel
theorem dX12_stands_75 : decode cX12_stands 75 = .ok (.iconst 2, 1) := by decide +kernel
theorem dX12_stands_76 : decode cX12_stands 76 = .ok (.if_icmp .ne 8, 3) := by decide +kernel
theorem dX12_stands_79 : decode cX12_stands 79 = .ok (.bipush 75, 2) := by decide +kernel
theorem dX12_stands_81 : decode cX12_stands 81 = .ok (.goto 5, 3) := by decide +kernel
theorem dX12_stands_84 : decode cX12_stands 84 = .ok (.bipush 76, 2) := by decide +kernel
theorem dX12_stands_86 : decode cX12_stands 86 = .ok (.invokevirtual 43, 3) := by decide +kernel
theorem dX12_stands_89 : decode cX12_stands 89 = .ok (.ireturn, 1) := by decide +kernel
theorem dX12_budget_0 : decode cX12_budget 0 = .ok (.aload_n 0, 1) := by decide +kernel
theorem dX12_budget_1 : decode cX12_budget 1 = .ok (.iload_n 1, 1) := by decide +kernel
theorem dX12_budget_2 : decode cX12_budget 2 = .ok (.iconst 1, 1) := by decide +kernel
theorem dX12_budget_3 : decode cX12_budget 3 = .ok (.invokevirtual 119, 3) := by decide +kernel
theorem dX12_budget_6 : decode cX12_budget 6 = .ok (.istore 6, 2) := by decide +kernel
theorem dX12_budget_8 : decode cX12_budget 8 = .ok (.iload 6, 2) := by decide +kernel
theorem dX12_budget_10 : decode cX12_budget 10 = .ok (.ifCond .eq 10, 3) := by decide +kernel
theorem dX12_budget_13 : decode cX12_budget 13 = .ok (.aload_n 0, 1) := by decide +kernel
theorem dX12_budget_14 : decode cX12_budget 14 = .ok (.iload 6, 2) := by decide +kernel
theorem dX12_budget_16 : decode cX12_budget 16 = .ok (.invokevirtual 72, 3) := by decide +kernel
theorem dX12_budget_19 : decode cX12_budget 19 = .ok (.ireturn, 1) := by decide +kernel
theorem dX12_budget_20 : decode cX12_budget 20 = .ok (.iload_n 2, 1) := by decide +kernel
theorem dX12_budget_21 : decode cX12_budget 21 = .ok (.i2l, 1) := by decide +kernel
theorem dX12_budget_22 : decode cX12_budget 22 = .ok (.lconst 1, 1) := by decide +kernel
theorem dX12_budget_23 : decode cX12_budget 23 = .ok (.ldc2_w 199, 3) := by decide +kernel
theorem dX12_budget_26 : decode cX12_budget 26 = .ok (.invokestatic 62, 3) := by decide +kernel
theorem dX12_budget_29 : decode cX12_budget 29 = .ok (.ifCond .eq 28, 3) := by decide +kernel
theorem dX12_budget_32 : decode cX12_budget 32 = .ok (.iload_n 3, 1) := by decide +kernel
theorem dX12_budget_33 : decode cX12_budget 33 = .ok (.i2l, 1) := by decide +kernel
theorem dX12_budget_34 : decode cX12_budget 34 = .ok (.lconst 0, 1) := by decide +kernel
theorem dX12_budget_35 : decode cX12_budget 35 = .ok (.ldc2_w 201, 3) := by decide +kernel
theorem dX12_budget_38 : decode cX12_budget 38 = .ok (.invokestatic 62, 3) := by decide +kernel
theorem dX12_budget_41 : decode cX12_budget 41 = .ok (.ifCond .eq 16, 3) := by decide +kernel
theorem dX12_budget_44 : decode cX12_budget 44 = .ok (.iload 4, 2) := by decide +kernel
theorem dX12_budget_46 : decode cX12_budget 46 = .ok (.i2l, 1) := by decide +kernel
theorem dX12_budget_47 : decode cX12_budget 47 = .ok (.lconst 0, 1) := by decide +kernel
theorem dX12_budget_48 : decode cX12_budget 48 = .ok (.ldc2_w 89, 3) := by decide +kernel
theorem dX12_budget_51 : decode cX12_budget 51 = .ok (.invokestatic 62, 3) := by decide +kernel
theorem dX12_budget_54 : decode cX12_budget 54 = .ok (.ifCond .ne 10, 3) := by decide +kernel
theorem dX12_budget_57 : decode cX12_budget 57 = .ok (.aload_n 0, 1) := by decide +kernel
theorem dX12_budget_58 : decode cX12_budget 58 = .ok (.bipush (-12), 2) := by decide +kernel
theorem dX12_budget_60 : decode cX12_budget 60 = .ok (.invokevirtual 72, 3) := by decide +kernel
theorem dX12_budget_63 : decode cX12_budget 63 = .ok (.ireturn, 1) := by decide +kernel
theorem dX12_budget_64 : decode cX12_budget 64 = .ok (.aload_n 0, 1) := by decide +kernel
theorem dX12_budget_65 : decode cX12_budget 65 = .ok (.iload_n 1, 1) := by decide +kernel
theorem dX12_budget_66 : decode cX12_budget 66 = .ok (.bipush 70, 2) := by decide +kernel
theorem dX12_budget_68 : decode cX12_budget 68 = .ok (.iload_n 2, 1) := by decide +kernel
theorem dX12_budget_69 : decode cX12_budget 69 = .ok (.invokevirtual 125, 3) := by decide +kernel
theorem dX12_budget_72 : decode cX12_budget 72 = .ok (.aload_n 0, 1) := by decide +kernel
theorem dX12_budget_73 : decode cX12_budget 73 = .ok (.iload_n 1, 1) := by decide +kernel
theorem dX12_budget_74 : decode cX12_budget 74 = .ok (.bipush 71, 2) := by decide +kernel
theorem dX12_budget_76 : decode cX12_budget 76 = .ok (.iload_n 3, 1) := by decide +kernel
theorem dX12_budget_77 : decode cX12_budget 77 = .ok (.invokevirtual 125, 3) := by decide +kernel
theorem dX12_budget_80 : decode cX12_budget 80 = .ok (.aload_n 0, 1) := by decide +kernel
theorem dX12_budget_81 : decode cX12_budget 81 = .ok (.iload_n 1, 1) := by decide +kernel
theorem dX12_budget_82 : decode cX12_budget 82 = .ok (.bipush 72, 2) := by decide +kernel
theorem dX12_budget_84 : decode cX12_budget 84 = .ok (.iload 4, 2) := by decide +kernel
theorem dX12_budget_86 : decode cX12_budget 86 = .ok (.invokevirtual 125, 3) := by decide +kernel
theorem dX12_budget_89 : decode cX12_budget 89 = .ok (.aload_n 0, 1) := by decide +kernel
theorem dX12_budget_90 : decode cX12_budget 90 = .ok (.iload_n 1, 1) := by decide +kernel
theorem dX12_budget_91 : decode cX12_budget 91 = .ok (.bipush 74, 2) := by decide +kernel
theorem dX12_budget_93 : decode cX12_budget 93 = .ok (.iload 5, 2) := by decide +kernel
theorem dX12_budget_95 : decode cX12_budget 95 = .ok (.ifCond .eq 7, 3) := by decide +kernel
theorem dX12_budget_98 : decode cX12_budget 98 = .ok (.iconst 1, 1) := by decide +kernel
theorem dX12_budget_99 : decode cX12_budget 99 = .ok (.goto 4, 3) := by decide +kernel
theorem dX12_budget_102 : decode cX12_budget 102 = .ok (.iconst 0, 1) := by decide +kernel
theorem dX12_budget_103 : decode cX12_budget 103 = .ok (.invokevirtual 125, 3) := by decide +kernel
theorem dX12_budget_106 : decode cX12_budget 106 = .ok (.iconst 1, 1) := by decide +kernel
theorem dX12_budget_107 : decode cX12_budget 107 = .ok (.ireturn, 1) := by decide +kernel
theorem dX12_waits_0 : decode cX12_waits 0 = .ok (.aload_n 0, 1) := by decide +kernel
theorem dX12_waits_1 : decode cX12_waits 1 = .ok (.iload_n 1, 1) := by decide +kernel
theorem dX12_waits_2 : decode cX12_waits 2 = .ok (.iconst 1, 1) := by decide +kernel
theorem dX12_waits_3 : decode cX12_waits 3 = .ok (.invokevirtual 119, 3) := by decide +kernel
theorem dX12_waits_6 : decode cX12_waits 6 = .ok (.istore_n 3, 1) := by decide +kernel
theorem dX12_waits_7 : decode cX12_waits 7 = .ok (.iload_n 3, 1) := by decide +kernel
theorem dX12_waits_8 : decode cX12_waits 8 = .ok (.ifCond .eq 9, 3) := by decide +kernel
theorem dX12_waits_11 : decode cX12_waits 11 = .ok (.aload_n 0, 1) := by decide +kernel
theorem dX12_waits_12 : decode cX12_waits 12 = .ok (.iload_n 3, 1) := by decide +kernel
theorem dX12_waits_13 : decode cX12_waits 13 = .ok (.invokevirtual 72, 3) := by decide +kernel
theorem dX12_waits_16 : decode cX12_waits 16 = .ok (.ireturn, 1) := by decide +kernel
theorem dX12_waits_17 : decode cX12_waits 17 = .ok (.iload_n 2, 1) := by decide +kernel
theorem dX12_waits_18 : decode cX12_waits 18 = .ok (.i2l, 1) := by decide +kernel
theorem dX12_waits_19 : decode cX12_waits 19 = .ok (.lconst 0, 1) := by decide +kernel
theorem dX12_waits_20 : decode cX12_waits 20 = .ok (.ldc2_w 203, 3) := by decide +kernel
theorem dX12_waits_23 : decode cX12_waits 23 = .ok (.invokestatic 62, 3) := by decide +kernel
theorem dX12_waits_26 : decode cX12_waits 26 = .ok (.ifCond .ne 10, 3) := by decide +kernel
theorem dX12_waits_29 : decode cX12_waits 29 = .ok (.aload_n 0, 1) := by decide +kernel
theorem dX12_waits_30 : decode cX12_waits 30 = .ok (.bipush (-12), 2) := by decide +kernel
theorem dX12_waits_32 : decode cX12_waits 32 = .ok (.invokevirtual 72, 3) := by decide +kernel
theorem dX12_waits_35 : decode cX12_waits 35 = .ok (.ireturn, 1) := by decide +kernel
theorem dX12_waits_36 : decode cX12_waits 36 = .ok (.aload_n 0, 1) := by decide +kernel
theorem dX12_waits_37 : decode cX12_waits 37 = .ok (.iload_n 1, 1) := by decide +kernel
theorem dX12_waits_38 : decode cX12_waits 38 = .ok (.bipush 73, 2) := by decide +kernel
theorem dX12_waits_40 : decode cX12_waits 40 = .ok (.invokevirtual 43, 3) := by decide +kernel
theorem dX12_waits_43 : decode cX12_waits 43 = .ok (.istore 4, 2) := by decide +kernel
theorem dX12_waits_45 : decode cX12_waits 45 = .ok (.aload_n 0, 1) := by decide +kernel
theorem dX12_waits_46 : decode cX12_waits 46 = .ok (.iload_n 1, 1) := by decide +kernel
theorem dX12_waits_47 : decode cX12_waits 47 = .ok (.bipush 73, 2) := by decide +kernel
theorem dX12_waits_49 : decode cX12_waits 49 = .ok (.iload_n 2, 1) := by decide +kernel
theorem dX12_waits_50 : decode cX12_waits 50 = .ok (.invokevirtual 125, 3) := by decide +kernel
theorem dX12_waits_53 : decode cX12_waits 53 = .ok (.iload 4, 2) := by decide +kernel
theorem dX12_waits_55 : decode cX12_waits 55 = .ok (.ireturn, 1) := by decide +kernel
theorem dX12_isWay_0 : decode cX12_isWay 0 = .ok (.iload_n 0, 1) := by decide +kernel
theorem dX12_isWay_1 : decode cX12_isWay 1 = .ok (.ifCond .lt 12, 3) := by decide +kernel
theorem dX12_isWay_4 : decode cX12_isWay 4 = .ok (.iload_n 0, 1) := by decide +kernel
theorem dX12_isWay_5 : decode cX12_isWay 5 = .ok (.iconst 4, 1) := by decide +kernel
theorem dX12_isWay_6 : decode cX12_isWay 6 = .ok (.if_icmp .ge 7, 3) := by decide +kernel
theorem dX12_isWay_9 : decode cX12_isWay 9 = .ok (.iconst 1, 1) := by decide +kernel
theorem dX12_isWay_10 : decode cX12_isWay 10 = .ok (.goto 4, 3) := by decide +kernel
theorem dX12_isWay_13 : decode cX12_isWay 13 = .ok (.iconst 0, 1) := by decide +kernel
theorem dX12_isWay_14 : decode cX12_isWay 14 = .ok (.ireturn, 1) := by decide +kernel
theorem dX12_whyCounts_0 : decode cX12_whyCounts 0 = .ok (.iload_n 1, 1) := by decide +kernel
theorem dX12_whyCounts_1 : decode cX12_whyCounts 1 = .ok (.invokestatic 47, 3) := by decide +kernel
theorem dX12_whyCounts_4 : decode cX12_whyCounts 4 = .ok (.ifCond .eq 17, 3) := by decide +kernel
theorem dX12_whyCounts_7 : decode cX12_whyCounts 7 = .ok (.iload_n 2, 1) := by decide +kernel
theorem dX12_whyCounts_8 : decode cX12_whyCounts 8 = .ok (.invokestatic 205, 3) := by decide +kernel
theorem dX12_whyCounts_11 : decode cX12_whyCounts 11 = .ok (.ifCond .eq 10, 3) := by decide +kernel
theorem dX12_whyCounts_14 : decode cX12_whyCounts 14 = .ok (.iload_n 3, 1) := by decide +kernel
theorem dX12_whyCounts_15 : decode cX12_whyCounts 15 = .ok (.invokestatic 188, 3) := by decide +kernel
theorem dX12_whyCounts_18 : decode cX12_whyCounts 18 = .ok (.ifCond .ne 6, 3) := by decide +kernel
theorem dX12_whyCounts_21 : decode cX12_whyCounts 21 = .ok (.bipush (-3), 2) := by decide +kernel
theorem dX12_whyCounts_23 : decode cX12_whyCounts 23 = .ok (.ireturn, 1) := by decide +kernel
theorem dX12_whyCounts_24 : decode cX12_whyCounts 24 = .ok (.aload_n 0, 1) := by decide +kernel
theorem dX12_whyCounts_25 : decode cX12_whyCounts 25 = .ok (.iload_n 1, 1) := by decide +kernel
theorem dX12_whyCounts_26 : decode cX12_whyCounts 26 = .ok (.iconst 0, 1) := by decide +kernel
theorem dX12_whyCounts_27 : decode cX12_whyCounts 27 = .ok (.invokevirtual 119, 3) := by decide +kernel
theorem dX12_whyCounts_30 : decode cX12_whyCounts 30 = .ok (.istore 4, 2) := by decide +kernel
theorem dX12_whyCounts_32 : decode cX12_whyCounts 32 = .ok (.iload 4, 2) := by decide +kernel
theorem dX12_whyCounts_34 : decode cX12_whyCounts 34 = .ok (.ifCond .eq 8, 3) := by decide +kernel
theorem dX12_whyCounts_37 : decode cX12_whyCounts 37 = .ok (.iload 4, 2) := by decide +kernel
theorem dX12_whyCounts_39 : decode cX12_whyCounts 39 = .ok (.goto 21, 3) := by decide +kernel
theorem dX12_whyCounts_42 : decode cX12_whyCounts 42 = .ok (.aload_n 0, 1) := by decide +kernel
theorem dX12_whyCounts_43 : decode cX12_whyCounts 43 = .ok (.iload_n 1, 1) := by decide +kernel
theorem dX12_whyCounts_44 : decode cX12_whyCounts 44 = .ok (.bipush 90, 2) := by decide +kernel
theorem dX12_whyCounts_46 : decode cX12_whyCounts 46 = .ok (.iload_n 2, 1) := by decide +kernel
theorem dX12_whyCounts_47 : decode cX12_whyCounts 47 = .ok (.iadd, 1) := by decide +kernel
theorem dX12_whyCounts_48 : decode cX12_whyCounts 48 = .ok (.invokevirtual 43, 3) := by decide +kernel
theorem dX12_whyCounts_51 : decode cX12_whyCounts 51 = .ok (.ifCond .ne 8, 3) := by decide +kernel
theorem dX12_whyCounts_54 : decode cX12_whyCounts 54 = .ok (.bipush (-2), 2) := by decide +kernel
theorem dX12_whyCounts_56 : decode cX12_whyCounts 56 = .ok (.goto 4, 3) := by decide +kernel
theorem dX12_whyCounts_59 : decode cX12_whyCounts 59 = .ok (.iconst 0, 1) := by decide +kernel
theorem dX12_whyCounts_60 : decode cX12_whyCounts 60 = .ok (.ireturn, 1) := by decide +kernel
theorem dX12_count_0 : decode cX12_count 0 = .ok (.aload_n 0, 1) := by decide +kernel
theorem dX12_count_1 : decode cX12_count 1 = .ok (.iload_n 1, 1) := by decide +kernel
theorem dX12_count_2 : decode cX12_count 2 = .ok (.iload_n 2, 1) := by decide +kernel
theorem dX12_count_3 : decode cX12_count 3 = .ok (.iload_n 3, 1) := by decide +kernel
theorem dX12_count_4 : decode cX12_count 4 = .ok (.invokevirtual 208, 3) := by decide +kernel
theorem dX12_count_7 : decode cX12_count 7 = .ok (.istore 6, 2) := by decide +kernel
theorem dX12_count_9 : decode cX12_count 9 = .ok (.iload 6, 2) := by decide +kernel
theorem dX12_count_11 : decode cX12_count 11 = .ok (.ifCond .eq 10, 3) := by decide +kernel
theorem dX12_count_14 : decode cX12_count 14 = .ok (.aload_n 0, 1) := by decide +kernel
theorem dX12_count_15 : decode cX12_count 15 = .ok (.iload 6, 2) := by decide +kernel
theorem dX12_count_17 : decode cX12_count 17 = .ok (.invokevirtual 72, 3) := by decide +kernel
theorem dX12_count_20 : decode cX12_count 20 = .ok (.ireturn, 1) := by decide +kernel
theorem dX12_count_21 : decode cX12_count 21 = .ok (.iload 4, 2) := by decide +kernel
theorem dX12_count_23 : decode cX12_count 23 = .ok (.i2l, 1) := by decide +kernel
theorem dX12_count_24 : decode cX12_count 24 = .ok (.lconst 0, 1) := by decide +kernel
theorem dX12_count_25 : decode cX12_count 25 = .ok (.ldc2_w 201, 3) := by decide +kernel
theorem dX12_count_28 : decode cX12_count 28 = .ok (.invokestatic 62, 3) := by decide +kernel
theorem dX12_count_31 : decode cX12_count 31 = .ok (.ifCond .eq 16, 3) := by decide +kernel
theorem dX12_count_34 : decode cX12_count 34 = .ok (.iload 5, 2) := by decide +kernel
theorem dX12_count_36 : decode cX12_count 36 = .ok (.i2l, 1) := by decide +kernel
theorem dX12_count_37 : decode cX12_count 37 = .ok (.lconst 0, 1) := by decide +kernel
theorem dX12_count_38 : decode cX12_count 38 = .ok (.iload 4, 2) := by decide +kernel
theorem dX12_count_40 : decode cX12_count 40 = .ok (.i2l, 1) := by decide +kernel
theorem dX12_count_41 : decode cX12_count 41 = .ok (.invokestatic 62, 3) := by decide +kernel
theorem dX12_count_44 : decode cX12_count 44 = .ok (.ifCond .ne 10, 3) := by decide +kernel
theorem dX12_count_47 : decode cX12_count 47 = .ok (.aload_n 0, 1) := by decide +kernel
theorem dX12_count_48 : decode cX12_count 48 = .ok (.bipush (-12), 2) := by decide +kernel
theorem dX12_count_50 : decode cX12_count 50 = .ok (.invokevirtual 72, 3) := by decide +kernel
theorem dX12_count_53 : decode cX12_count 53 = .ok (.ireturn, 1) := by decide +kernel
theorem dX12_count_54 : decode cX12_count 54 = .ok (.iload_n 2, 1) := by decide +kernel
theorem dX12_count_55 : decode cX12_count 55 = .ok (.iload_n 3, 1) := by decide +kernel
theorem dX12_count_56 : decode cX12_count 56 = .ok (.invokestatic 178, 3) := by decide +kernel
theorem dX12_count_59 : decode cX12_count 59 = .ok (.istore 7, 2) := by decide +kernel
theorem dX12_count_61 : decode cX12_count 61 = .ok (.aload_n 0, 1) := by decide +kernel
theorem dX12_count_62 : decode cX12_count 62 = .ok (.iload_n 1, 1) := by decide +kernel
theorem dX12_count_63 : decode cX12_count 63 = .ok (.iload 7, 2) := by decide +kernel
theorem dX12_count_65 : decode cX12_count 65 = .ok (.iconst 1, 1) := by decide +kernel
theorem dX12_count_66 : decode cX12_count 66 = .ok (.invokevirtual 125, 3) := by decide +kernel
theorem dX12_count_69 : decode cX12_count 69 = .ok (.aload_n 0, 1) := by decide +kernel
theorem dX12_count_70 : decode cX12_count 70 = .ok (.iload_n 1, 1) := by decide +kernel
theorem dX12_count_71 : decode cX12_count 71 = .ok (.iload 7, 2) := by decide +kernel
theorem dX12_count_73 : decode cX12_count 73 = .ok (.iconst 1, 1) := by decide +kernel
theorem dX12_count_74 : decode cX12_count 74 = .ok (.iadd, 1) := by decide +kernel
theorem dX12_count_75 : decode cX12_count 75 = .ok (.iload 4, 2) := by decide +kernel
theorem dX12_count_77 : decode cX12_count 77 = .ok (.invokevirtual 125, 3) := by decide +kernel
theorem dX12_count_80 : decode cX12_count 80 = .ok (.aload_n 0, 1) := by decide +kernel
theorem dX12_count_81 : decode cX12_count 81 = .ok (.iload_n 1, 1) := by decide +kernel
theorem dX12_count_82 : decode cX12_count 82 = .ok (.iload 7, 2) := by decide +kernel
theorem dX12_count_84 : decode cX12_count 84 = .ok (.iconst 2, 1) := by decide +kernel
theorem dX12_count_85 : decode cX12_count 85 = .ok (.iadd, 1) := by decide +kernel
theorem dX12_count_86 : decode cX12_count 86 = .ok (.iload 5, 2) := by decide +kernel
theorem dX12_count_88 : decode cX12_count 88 = .ok (.invokevirtual 125, 3) := by decide +kernel
theorem dX12_count_91 : decode cX12_count 91 = .ok (.aload_n 0, 1) := by decide +kernel
theorem dX12_count_92 : decode cX12_count 92 = .ok (.iload_n 1, 1) := by decide +kernel
theorem dX12_count_93 : decode cX12_count 93 = .ok (.iload 7, 2) := by decide +kernel
theorem dX12_count_95 : decode cX12_count 95 = .ok (.iconst 3, 1) := by decide +kernel
theorem dX12_count_96 : decode cX12_count 96 = .ok (.iadd, 1) := by decide +kernel
theorem dX12_count_97 : decode cX12_count 97 = .ok (.iconst 0, 1) := by decide +kernel
theorem dX12_count_98 : decode cX12_count 98 = .ok (.invokevirtual 125, 3) := by decide +kernel
theorem dX12_count_101 : decode cX12_count 101 = .ok (.aload_n 0, 1) := by decide +kernel
theorem dX12_count_102 : decode cX12_count 102 = .ok (.iload_n 1, 1) := by decide +kernel
theorem dX12_count_103 : decode cX12_count 103 = .ok (.bipush 69, 2) := by decide +kernel
theorem dX12_count_105 : decode cX12_count 105 = .ok (.invokevirtual 43, 3) := by decide +kernel
theorem dX12_count_108 : decode cX12_count 108 = .ok (.istore 8, 2) := by decide +kernel
theorem dX12_count_110 : decode cX12_count 110 = .ok (.iload_n 2, 1) := by decide +kernel
theorem dX12_count_111 : decode cX12_count 111 = .ok (.iconst 1, 1) := by decide +kernel
theorem dX12_count_112 : decode cX12_count 112 = .ok (.if_icmp .ne 93, 3) := by decide +kernel
theorem dX12_count_115 : decode cX12_count 115 = .ok (.aload_n 0, 1) := by decide +kernel
theorem dX12_count_116 : decode cX12_count 116 = .ok (.iload_n 1, 1) := by decide +kernel
theorem dX12_count_117 : decode cX12_count 117 = .ok (.invokevirtual 54, 3) := by decide +kernel
theorem dX12_count_120 : decode cX12_count 120 = .ok (.ifCond .eq 85, 3) := by decide +kernel
theorem dX12_count_123 : decode cX12_count 123 = .ok (.iload 8, 2) := by decide +kernel
theorem dX12_count_125 : decode cX12_count 125 = .ok (.ifCond .lt 80, 3) := by decide +kernel
theorem dX12_count_128 : decode cX12_count 128 = .ok (.aload_n 0, 1) := by decide +kernel
theorem dX12_count_129 : decode cX12_count 129 = .ok (.iload_n 1, 1) := by decide +kernel
theorem dX12_count_130 : decode cX12_count 130 = .ok (.iload_n 3, 1) := by decide +kernel
theorem dX12_count_131 : decode cX12_count 131 = .ok (.invokevirtual 185, 3) := by decide +kernel
theorem dX12_count_134 : decode cX12_count 134 = .ok (.ifCond .eq 71, 3) := by decide +kernel
theorem dX12_count_137 : decode cX12_count 137 = .ok (.aload_n 0, 1) := by decide +kernel
theorem dX12_count_138 : decode cX12_count 138 = .ok (.iload_n 1, 1) := by decide +kernel
theorem dX12_count_139 : decode cX12_count 139 = .ok (.aload_n 0, 1) := by decide +kernel
theorem dX12_count_140 : decode cX12_count 140 = .ok (.iload_n 1, 1) := by decide +kernel
theorem dX12_count_141 : decode cX12_count 141 = .ok (.bipush 74, 2) := by decide +kernel
theorem dX12_count_143 : decode cX12_count 143 = .ok (.invokevirtual 43, 3) := by decide +kernel
theorem dX12_count_146 : decode cX12_count 146 = .ok (.iconst 1, 1) := by decide +kernel
theorem dX12_count_147 : decode cX12_count 147 = .ok (.if_icmp .eq 13, 3) := by decide +kernel
theorem dX12_count_150 : decode cX12_count 150 = .ok (.aload_n 0, 1) := by decide +kernel
theorem dX12_count_151 : decode cX12_count 151 = .ok (.iload_n 1, 1) := by decide +kernel
theorem dX12_count_152 : decode cX12_count 152 = .ok (.bipush 48, 2) := by decide +kernel
theorem dX12_count_154 : decode cX12_count 154 = .ok (.invokevirtual 43, 3) := by decide +kernel
theorem dX12_count_157 : decode cX12_count 157 = .ok (.ifCond .ne 7, 3) := by decide +kernel
theorem dX12_count_160 : decode cX12_count 160 = .ok (.iconst (-1), 1) := by decide +kernel
theorem dX12_count_161 : decode cX12_count 161 = .ok (.goto 7, 3) := by decide +kernel
theorem dX12_count_164 : decode cX12_count 164 = .ok (.iload 8, 2) := by decide +kernel
theorem dX12_count_166 : decode cX12_count 166 = .ok (.iconst 1, 1) := by decide +kernel
theorem dX12_count_167 : decode cX12_count 167 = .ok (.isub, 1) := by decide +kernel
theorem dX12_count_168 : decode cX12_count 168 = .ok (.invokevirtual 194, 3) := by decide +kernel
theorem dX12_count_171 : decode cX12_count 171 = .ok (.aload_n 0, 1) := by decide +kernel
theorem dX12_count_172 : decode cX12_count 172 = .ok (.iload_n 1, 1) := by decide +kernel
theorem dX12_count_173 : decode cX12_count 173 = .ok (.bipush 75, 2) := by decide +kernel
theorem dX12_count_175 : decode cX12_count 175 = .ok (.iload_n 3, 1) := by decide +kernel
theorem dX12_count_176 : decode cX12_count 176 = .ok (.aload_n 0, 1) := by decide +kernel
theorem dX12_count_177 : decode cX12_count 177 = .ok (.iload_n 1, 1) := by decide +kernel
theorem dX12_count_178 : decode cX12_count 178 = .ok (.bipush 73, 2) := by decide +kernel
theorem dX12_count_180 : decode cX12_count 180 = .ok (.invokevirtual 43, 3) := by decide +kernel
theorem dX12_count_183 : decode cX12_count 183 = .ok (.iadd, 1) := by decide +kernel
theorem dX12_count_184 : decode cX12_count 184 = .ok (.iconst 1, 1) := by decide +kernel
theorem dX12_count_185 : decode cX12_count 185 = .ok (.iadd, 1) := by decide +kernel
theorem dX12_count_186 : decode cX12_count 186 = .ok (.invokevirtual 125, 3) := by decide +kernel
theorem dX12_count_189 : decode cX12_count 189 = .ok (.aload_n 0, 1) := by decide +kernel
theorem dX12_count_190 : decode cX12_count 190 = .ok (.iload_n 1, 1) := by decide +kernel
theorem dX12_count_191 : decode cX12_count 191 = .ok (.bipush 76, 2) := by decide +kernel
theorem dX12_count_193 : decode cX12_count 193 = .ok (.aload_n 0, 1) := by decide +kernel
theorem dX12_count_194 : decode cX12_count 194 = .ok (.iload_n 1, 1) := by decide +kernel
theorem dX12_count_195 : decode cX12_count 195 = .ok (.bipush 76, 2) := by decide +kernel
theorem dX12_count_197 : decode cX12_count 197 = .ok (.invokevirtual 43, 3) := by decide +kernel
theorem dX12_count_200 : decode cX12_count 200 = .ok (.iconst 1, 1) := by decide +kernel
theorem dX12_count_201 : decode cX12_count 201 = .ok (.iadd, 1) := by decide +kernel
theorem dX12_count_202 : decode cX12_count 202 = .ok (.invokevirtual 125, 3) := by decide +kernel
theorem dX12_count_205 : decode cX12_count 205 = .ok (.aload_n 0, 1) := by decide +kernel
theorem dX12_count_206 : decode cX12_count 206 = .ok (.iload_n 1, 1) := by decide +kernel
theorem dX12_count_207 : decode cX12_count 207 = .ok (.bipush 37, 2) := by decide +kernel
theorem dX12_count_209 : decode cX12_count 209 = .ok (.invokevirtual 43, 3) := by decide +kernel
theorem dX12_count_212 : decode cX12_count 212 = .ok (.ireturn, 1) := by decide +kernel
theorem dX12_goods_0 : decode cX12_goods 0 = .ok (.aload_n 0, 1) := by decide +kernel
theorem dX12_goods_1 : decode cX12_goods 1 = .ok (.iload_n 1, 1) := by decide +kernel
theorem dX12_goods_2 : decode cX12_goods 2 = .ok (.iload_n 2, 1) := by decide +kernel
theorem dX12_goods_3 : decode cX12_goods 3 = .ok (.iload_n 3, 1) := by decide +kernel
theorem dX12_goods_4 : decode cX12_goods 4 = .ok (.invokevirtual 208, 3) := by decide +kernel
theorem dX12_goods_7 : decode cX12_goods 7 = .ok (.istore 5, 2) := by decide +kernel
theorem dX12_goods_9 : decode cX12_goods 9 = .ok (.iload 5, 2) := by decide +kernel
theorem dX12_goods_11 : decode cX12_goods 11 = .ok (.ifCond .eq 10, 3) := by decide +kernel
theorem dX12_goods_14 : decode cX12_goods 14 = .ok (.aload_n 0, 1) := by decide +kernel
theorem dX12_goods_15 : decode cX12_goods 15 = .ok (.iload 5, 2) := by decide +kernel
theorem dX12_goods_17 : decode cX12_goods 17 = .ok (.invokevirtual 72, 3) := by decide +kernel
theorem dX12_goods_20 : decode cX12_goods 20 = .ok (.ireturn, 1) := by decide +kernel
theorem dX12_goods_21 : decode cX12_goods 21 = .ok (.iload_n 2, 1) := by decide +kernel
theorem dX12_goods_22 : decode cX12_goods 22 = .ok (.iload_n 3, 1) := by decide +kernel
theorem dX12_goods_23 : decode cX12_goods 23 = .ok (.invokestatic 178, 3) := by decide +kernel
theorem dX12_goods_26 : decode cX12_goods 26 = .ok (.istore 6, 2) := by decide +kernel
theorem dX12_goods_28 : decode cX12_goods 28 = .ok (.aload_n 0, 1) := by decide +kernel
theorem dX12_goods_29 : decode cX12_goods 29 = .ok (.iload_n 1, 1) := by decide +kernel
theorem dX12_goods_30 : decode cX12_goods 30 = .ok (.iload 6, 2) := by decide +kernel
theorem dX12_goods_32 : decode cX12_goods 32 = .ok (.invokevirtual 43, 3) := by decide +kernel
theorem dX12_goods_35 : decode cX12_goods 35 = .ok (.ifCond .ne 10, 3) := by decide +kernel
theorem dX12_goods_38 : decode cX12_goods 38 = .ok (.aload_n 0, 1) := by decide +kernel
theorem dX12_goods_39 : decode cX12_goods 39 = .ok (.bipush (-8), 2) := by decide +kernel
theorem dX12_goods_41 : decode cX12_goods 41 = .ok (.invokevirtual 72, 3) := by decide +kernel
theorem dX12_goods_44 : decode cX12_goods 44 = .ok (.ireturn, 1) := by decide +kernel
theorem dX12_goods_45 : decode cX12_goods 45 = .ok (.iload 4, 2) := by decide +kernel
theorem dX12_goods_47 : decode cX12_goods 47 = .ok (.i2l, 1) := by decide +kernel
theorem dX12_goods_48 : decode cX12_goods 48 = .ok (.lconst 0, 1) := by decide +kernel
theorem dX12_goods_49 : decode cX12_goods 49 = .ok (.aload_n 0, 1) := by decide +kernel
theorem dX12_goods_50 : decode cX12_goods 50 = .ok (.iload_n 1, 1) := by decide +kernel
theorem dX12_goods_51 : decode cX12_goods 51 = .ok (.iload 6, 2) := by decide +kernel
theorem dX12_goods_53 : decode cX12_goods 53 = .ok (.iconst 1, 1) := by decide +kernel
theorem dX12_goods_54 : decode cX12_goods 54 = .ok (.iadd, 1) := by decide +kernel
theorem dX12_goods_55 : decode cX12_goods 55 = .ok (.invokevirtual 43, 3) := by decide +kernel
theorem dX12_goods_58 : decode cX12_goods 58 = .ok (.i2l, 1) := by decide +kernel
theorem dX12_goods_59 : decode cX12_goods 59 = .ok (.invokestatic 62, 3) := by decide +kernel
theorem dX12_goods_62 : decode cX12_goods 62 = .ok (.ifCond .ne 10, 3) := by decide +kernel
theorem dX12_goods_65 : decode cX12_goods 65 = .ok (.aload_n 0, 1) := by decide +kernel
theorem dX12_goods_66 : decode cX12_goods 66 = .ok (.bipush (-12), 2) := by decide +kernel
theorem dX12_goods_68 : decode cX12_goods 68 = .ok (.invokevirtual 72, 3) := by decide +kernel
theorem dX12_goods_71 : decode cX12_goods 71 = .ok (.ireturn, 1) := by decide +kernel
theorem dX12_goods_72 : decode cX12_goods 72 = .ok (.aload_n 0, 1) := by decide +kernel
theorem dX12_goods_73 : decode cX12_goods 73 = .ok (.iload_n 1, 1) := by decide +kernel
theorem dX12_goods_74 : decode cX12_goods 74 = .ok (.iload 6, 2) := by decide +kernel
theorem dX12_goods_76 : decode cX12_goods 76 = .ok (.iconst 3, 1) := by decide +kernel
theorem dX12_goods_77 : decode cX12_goods 77 = .ok (.iadd, 1) := by decide +kernel
theorem dX12_goods_78 : decode cX12_goods 78 = .ok (.iload 4, 2) := by decide +kernel
theorem dX12_goods_80 : decode cX12_goods 80 = .ok (.invokevirtual 125, 3) := by decide +kernel
theorem dX12_goods_83 : decode cX12_goods 83 = .ok (.iconst 1, 1) := by decide +kernel
theorem dX12_goods_84 : decode cX12_goods 84 = .ok (.ireturn, 1) := by decide +kernel
theorem dX12_counts_0 : decode cX12_counts 0 = .ok (.iload_n 1, 1) := by decide +kernel
theorem dX12_counts_1 : decode cX12_counts 1 = .ok (.invokestatic 47, 3) := by decide +kernel
theorem dX12_counts_4 : decode cX12_counts 4 = .ok (.ifCond .eq 10, 3) := by decide +kernel
theorem dX12_counts_7 : decode cX12_counts 7 = .ok (.iload_n 2, 1) := by decide +kernel
theorem dX12_counts_8 : decode cX12_counts 8 = .ok (.invokestatic 205, 3) := by decide +kernel
theorem dX12_counts_11 : decode cX12_counts 11 = .ok (.ifCond .ne 8, 3) := by decide +kernel
theorem dX12_counts_14 : decode cX12_counts 14 = .ok (.bipush (-3), 2) := by decide +kernel
theorem dX12_counts_16 : decode cX12_counts 16 = .ok (.goto 9, 3) := by decide +kernel
theorem dX12_counts_19 : decode cX12_counts 19 = .ok (.aload_n 0, 1) := by decide +kernel
theorem dX12_counts_20 : decode cX12_counts 20 = .ok (.iload_n 1, 1) := by decide +kernel
theorem dX12_counts_21 : decode cX12_counts 21 = .ok (.iconst 0, 1) := by decide +kernel
theorem dX12_counts_22 : decode cX12_counts 22 = .ok (.invokevirtual 119, 3) := by decide +kernel
theorem dX12_counts_25 : decode cX12_counts 25 = .ok (.istore 4, 2) := by decide +kernel
theorem dX12_counts_27 : decode cX12_counts 27 = .ok (.iload 4, 2) := by decide +kernel
theorem dX12_counts_29 : decode cX12_counts 29 = .ok (.ifCond .eq 10, 3) := by decide +kernel
theorem dX12_counts_32 : decode cX12_counts 32 = .ok (.aload_n 0, 1) := by decide +kernel
theorem dX12_counts_33 : decode cX12_counts 33 = .ok (.iload 4, 2) := by decide +kernel
theorem dX12_counts_35 : decode cX12_counts 35 = .ok (.invokevirtual 72, 3) := by decide +kernel
theorem dX12_counts_38 : decode cX12_counts 38 = .ok (.ireturn, 1) := by decide +kernel
theorem dX12_counts_39 : decode cX12_counts 39 = .ok (.aload_n 0, 1) := by decide +kernel
theorem dX12_counts_40 : decode cX12_counts 40 = .ok (.iload_n 1, 1) := by decide +kernel
theorem dX12_counts_41 : decode cX12_counts 41 = .ok (.bipush 90, 2) := by decide +kernel
theorem dX12_counts_43 : decode cX12_counts 43 = .ok (.iload_n 2, 1) := by decide +kernel
theorem dX12_counts_44 : decode cX12_counts 44 = .ok (.iadd, 1) := by decide +kernel
theorem dX12_counts_45 : decode cX12_counts 45 = .ok (.invokevirtual 43, 3) := by decide +kernel
theorem dX12_counts_48 : decode cX12_counts 48 = .ok (.istore 5, 2) := by decide +kernel
theorem dX12_counts_50 : decode cX12_counts 50 = .ok (.aload_n 0, 1) := by decide +kernel
theorem dX12_counts_51 : decode cX12_counts 51 = .ok (.iload_n 1, 1) := by decide +kernel
theorem dX12_counts_52 : decode cX12_counts 52 = .ok (.bipush 90, 2) := by decide +kernel
theorem dX12_counts_54 : decode cX12_counts 54 = .ok (.iload_n 2, 1) := by decide +kernel
theorem dX12_counts_55 : decode cX12_counts 55 = .ok (.iadd, 1) := by decide +kernel
theorem dX12_counts_56 : decode cX12_counts 56 = .ok (.iload_n 3, 1) := by decide +kernel
theorem dX12_counts_57 : decode cX12_counts 57 = .ok (.ifCond .eq 7, 3) := by decide +kernel
theorem dX12_counts_60 : decode cX12_counts 60 = .ok (.iconst 1, 1) := by decide +kernel
theorem dX12_counts_61 : decode cX12_counts 61 = .ok (.goto 4, 3) := by decide +kernel
theorem dX12_counts_64 : decode cX12_counts 64 = .ok (.iconst 0, 1) := by decide +kernel
theorem dX12_counts_65 : decode cX12_counts 65 = .ok (.invokevirtual 125, 3) := by decide +kernel
theorem dX12_counts_68 : decode cX12_counts 68 = .ok (.iconst 0, 1) := by decide +kernel
theorem dX12_counts_69 : decode cX12_counts 69 = .ok (.istore 6, 2) := by decide +kernel
theorem dX12_counts_71 : decode cX12_counts 71 = .ok (.iload 6, 2) := by decide +kernel
theorem dX12_counts_73 : decode cX12_counts 73 = .ok (.sipush 960, 3) := by decide +kernel
theorem dX12_counts_76 : decode cX12_counts 76 = .ok (.if_icmp .ge 23, 3) := by decide +kernel
theorem dX12_counts_79 : decode cX12_counts 79 = .ok (.aload_n 0, 1) := by decide +kernel
theorem dX12_counts_80 : decode cX12_counts 80 = .ok (.iload_n 1, 1) := by decide +kernel
theorem dX12_counts_81 : decode cX12_counts 81 = .ok (.iload_n 2, 1) := by decide +kernel
theorem dX12_counts_82 : decode cX12_counts 82 = .ok (.iconst 0, 1) := by decide +kernel
theorem dX12_counts_83 : decode cX12_counts 83 = .ok (.invokestatic 178, 3) := by decide +kernel
theorem dX12_counts_86 : decode cX12_counts 86 = .ok (.iload 6, 2) := by decide +kernel
theorem dX12_counts_88 : decode cX12_counts 88 = .ok (.iadd, 1) := by decide +kernel
theorem dX12_counts_89 : decode cX12_counts 89 = .ok (.iconst 0, 1) := by decide +kernel
theorem dX12_counts_90 : decode cX12_counts 90 = .ok (.invokevirtual 125, 3) := by decide +kernel
theorem dX12_counts_93 : decode cX12_counts 93 = .ok (.iinc 6 1, 3) := by decide +kernel
theorem dX12_counts_96 : decode cX12_counts 96 = .ok (.goto (-25), 3) := by decide +kernel
theorem dX12_counts_99 : decode cX12_counts 99 = .ok (.iload 5, 2) := by decide +kernel
theorem dX12_counts_101 : decode cX12_counts 101 = .ok (.ireturn, 1) := by decide +kernel
theorem dX12_told_0 : decode cX12_told 0 = .ok (.aload_n 0, 1) := by decide +kernel
theorem dX12_told_1 : decode cX12_told 1 = .ok (.iload_n 1, 1) := by decide +kernel
theorem dX12_told_2 : decode cX12_told 2 = .ok (.iload_n 2, 1) := by decide +kernel
theorem dX12_told_3 : decode cX12_told 3 = .ok (.iload_n 3, 1) := by decide +kernel
theorem dX12_told_4 : decode cX12_told 4 = .ok (.invokevirtual 208, 3) := by decide +kernel
theorem dX12_told_7 : decode cX12_told 7 = .ok (.istore 5, 2) := by decide +kernel
theorem dX12_told_9 : decode cX12_told 9 = .ok (.iload 5, 2) := by decide +kernel
theorem dX12_told_11 : decode cX12_told 11 = .ok (.ifCond .eq 10, 3) := by decide +kernel
theorem dX12_told_14 : decode cX12_told 14 = .ok (.aload_n 0, 1) := by decide +kernel
theorem dX12_told_15 : decode cX12_told 15 = .ok (.iload 5, 2) := by decide +kernel
theorem dX12_told_17 : decode cX12_told 17 = .ok (.invokevirtual 72, 3) := by decide +kernel
theorem dX12_told_20 : decode cX12_told 20 = .ok (.ireturn, 1) := by decide +kernel
theorem dX12_told_21 : decode cX12_told 21 = .ok (.iload_n 2, 1) := by decide +kernel
theorem dX12_told_22 : decode cX12_told 22 = .ok (.iload_n 3, 1) := by decide +kernel
theorem dX12_told_23 : decode cX12_told 23 = .ok (.invokestatic 178, 3) := by decide +kernel
theorem dX12_told_26 : decode cX12_told 26 = .ok (.istore 6, 2) := by decide +kernel
theorem dX12_told_28 : decode cX12_told 28 = .ok (.aload_n 0, 1) := by decide +kernel
theorem dX12_told_29 : decode cX12_told 29 = .ok (.iload_n 1, 1) := by decide +kernel
theorem dX12_told_30 : decode cX12_told 30 = .ok (.iload 6, 2) := by decide +kernel
theorem dX12_told_32 : decode cX12_told 32 = .ok (.invokevirtual 43, 3) := by decide +kernel
theorem dX12_told_35 : decode cX12_told 35 = .ok (.ifCond .ne 10, 3) := by decide +kernel
theorem dX12_told_38 : decode cX12_told 38 = .ok (.aload_n 0, 1) := by decide +kernel
theorem dX12_told_39 : decode cX12_told 39 = .ok (.bipush (-8), 2) := by decide +kernel
theorem dX12_told_41 : decode cX12_told 41 = .ok (.invokevirtual 72, 3) := by decide +kernel
theorem dX12_told_44 : decode cX12_told 44 = .ok (.ireturn, 1) := by decide +kernel
theorem dX12_told_45 : decode cX12_told 45 = .ok (.iload 4, 2) := by decide +kernel
theorem dX12_told_47 : decode cX12_told 47 = .ok (.i2l, 1) := by decide +kernel
theorem dX12_told_48 : decode cX12_told 48 = .ok (.lconst 0, 1) := by decide +kernel
theorem dX12_told_49 : decode cX12_told 49 = .ok (.ldc2_w 137, 3) := by decide +kernel
theorem dX12_told_52 : decode cX12_told 52 = .ok (.invokestatic 62, 3) := by decide +kernel
theorem dX12_told_55 : decode cX12_told 55 = .ok (.ifCond .eq 18, 3) := by decide +kernel
theorem dX12_told_58 : decode cX12_told 58 = .ok (.aload_n 0, 1) := by decide +kernel
theorem dX12_told_59 : decode cX12_told 59 = .ok (.iload_n 1, 1) := by decide +kernel
theorem dX12_told_60 : decode cX12_told 60 = .ok (.iload 6, 2) := by decide +kernel
theorem dX12_told_62 : decode cX12_told 62 = .ok (.iconst 1, 1) := by decide +kernel
theorem dX12_told_63 : decode cX12_told 63 = .ok (.iadd, 1) := by decide +kernel
theorem dX12_told_64 : decode cX12_told 64 = .ok (.iload 4, 2) := by decide +kernel
theorem dX12_told_66 : decode cX12_told 66 = .ok (.iadd, 1) := by decide +kernel
theorem dX12_told_67 : decode cX12_told 67 = .ok (.invokevirtual 43, 3) := by decide +kernel
theorem dX12_told_70 : decode cX12_told 70 = .ok (.goto 9, 3) := by decide +kernel
theorem dX12_told_73 : decode cX12_told 73 = .ok (.aload_n 0, 1) := by decide +kernel
theorem dX12_told_74 : decode cX12_told 74 = .ok (.bipush (-12), 2) := by decide +kernel
theorem dX12_told_76 : decode cX12_told 76 = .ok (.invokevirtual 72, 3) := by decide +kernel
theorem dX12_told_79 : decode cX12_told 79 = .ok (.ireturn, 1) := by decide +kernel
theorem dX12_left_0 : decode cX12_left 0 = .ok (.iload_n 1, 1) := by decide +kernel
theorem dX12_left_1 : decode cX12_left 1 = .ok (.invokestatic 47, 3) := by decide +kernel
theorem dX12_left_4 : decode cX12_left 4 = .ok (.ifCond .eq 10, 3) := by decide +kernel
theorem dX12_left_7 : decode cX12_left 7 = .ok (.iload_n 2, 1) := by decide +kernel
theorem dX12_left_8 : decode cX12_left 8 = .ok (.invokestatic 188, 3) := by decide +kernel
theorem dX12_left_11 : decode cX12_left 11 = .ok (.ifCond .ne 8, 3) := by decide +kernel
theorem dX12_left_14 : decode cX12_left 14 = .ok (.bipush (-3), 2) := by decide +kernel
theorem dX12_left_16 : decode cX12_left 16 = .ok (.goto 9, 3) := by decide +kernel
theorem dX12_left_19 : decode cX12_left 19 = .ok (.aload_n 0, 1) := by decide +kernel
theorem dX12_left_20 : decode cX12_left 20 = .ok (.iload_n 1, 1) := by decide +kernel
theorem dX12_left_21 : decode cX12_left 21 = .ok (.iconst 1, 1) := by decide +kernel
theorem dX12_left_22 : decode cX12_left 22 = .ok (.invokevirtual 119, 3) := by decide +kernel
theorem dX12_left_25 : decode cX12_left 25 = .ok (.istore_n 3, 1) := by decide +kernel
theorem dX12_left_26 : decode cX12_left 26 = .ok (.iload_n 3, 1) := by decide +kernel
theorem dX12_left_27 : decode cX12_left 27 = .ok (.ifCond .ne 16, 3) := by decide +kernel
theorem dX12_left_30 : decode cX12_left 30 = .ok (.aload_n 0, 1) := by decide +kernel
theorem dX12_left_31 : decode cX12_left 31 = .ok (.iload_n 1, 1) := by decide +kernel
theorem dX12_left_32 : decode cX12_left 32 = .ok (.bipush 91, 2) := by decide +kernel
theorem dX12_left_34 : decode cX12_left 34 = .ok (.invokevirtual 43, 3) := by decide +kernel
theorem dX12_left_37 : decode cX12_left 37 = .ok (.ifCond .ne 6, 3) := by decide +kernel
theorem dX12_left_40 : decode cX12_left 40 = .ok (.bipush (-2), 2) := by decide +kernel
theorem dX12_left_42 : decode cX12_left 42 = .ok (.istore_n 3, 1) := by decide +kernel
theorem dX12_left_43 : decode cX12_left 43 = .ok (.iload_n 3, 1) := by decide +kernel
theorem dX12_left_44 : decode cX12_left 44 = .ok (.ifCond .eq 9, 3) := by decide +kernel
theorem dX12_left_47 : decode cX12_left 47 = .ok (.aload_n 0, 1) := by decide +kernel
theorem dX12_left_48 : decode cX12_left 48 = .ok (.iload_n 3, 1) := by decide +kernel
theorem dX12_left_49 : decode cX12_left 49 = .ok (.invokevirtual 72, 3) := by decide +kernel
theorem dX12_left_52 : decode cX12_left 52 = .ok (.ireturn, 1) := by decide +kernel
theorem dX12_left_53 : decode cX12_left 53 = .ok (.aload_n 0, 1) := by decide +kernel
theorem dX12_left_54 : decode cX12_left 54 = .ok (.iload_n 1, 1) := by decide +kernel
theorem dX12_left_55 : decode cX12_left 55 = .ok (.iload_n 2, 1) := by decide +kernel
theorem dX12_left_56 : decode cX12_left 56 = .ok (.invokevirtual 181, 3) := by decide +kernel
theorem dX12_left_59 : decode cX12_left 59 = .ok (.aload_n 0, 1) := by decide +kernel
theorem dX12_left_60 : decode cX12_left 60 = .ok (.getfield 167, 3) := by decide +kernel
theorem dX12_left_63 : decode cX12_left 63 = .ok (.ifCond .eq 29, 3) := by decide +kernel
theorem dX12_left_66 : decode cX12_left 66 = .ok (.aload_n 0, 1) := by decide +kernel
theorem dX12_left_67 : decode cX12_left 67 = .ok (.iload_n 1, 1) := by decide +kernel
theorem dX12_left_68 : decode cX12_left 68 = .ok (.bipush 72, 2) := by decide +kernel
theorem dX12_left_70 : decode cX12_left 70 = .ok (.invokevirtual 43, 3) := by decide +kernel
theorem dX12_left_73 : decode cX12_left 73 = .ok (.i2l, 1) := by decide +kernel
theorem dX12_left_74 : decode cX12_left 74 = .ok (.aload_n 0, 1) := by decide +kernel
theorem dX12_left_75 : decode cX12_left 75 = .ok (.getfield 171, 3) := by decide +kernel
theorem dX12_left_78 : decode cX12_left 78 = .ok (.lmul, 1) := by decide +kernel
theorem dX12_left_79 : decode cX12_left 79 = .ok (.ldc2_w 89, 3) := by decide +kernel
theorem dX12_left_82 : decode cX12_left 82 = .ok (.ldiv, 1) := by decide +kernel
theorem dX12_left_83 : decode cX12_left 83 = .ok (.aload_n 0, 1) := by decide +kernel
theorem dX12_left_84 : decode cX12_left 84 = .ok (.getfield 175, 3) := by decide +kernel
theorem dX12_left_87 : decode cX12_left 87 = .ok (.lsub, 1) := by decide +kernel
theorem dX12_left_88 : decode cX12_left 88 = .ok (.l2i, 1) := by decide +kernel
theorem dX12_left_89 : decode cX12_left 89 = .ok (.goto 9, 3) := by decide +kernel
theorem dX12_left_92 : decode cX12_left 92 = .ok (.aload_n 0, 1) := by decide +kernel
theorem dX12_left_93 : decode cX12_left 93 = .ok (.bipush (-8), 2) := by decide +kernel
theorem dX12_left_95 : decode cX12_left 95 = .ok (.invokevirtual 72, 3) := by decide +kernel
theorem dX12_left_98 : decode cX12_left 98 = .ok (.ireturn, 1) := by decide +kernel
theorem dX12_trial_0 : decode cX12_trial 0 = .ok (.iload_n 2, 1) := by decide +kernel
theorem dX12_trial_1 : decode cX12_trial 1 = .ok (.invokestatic 205, 3) := by decide +kernel
theorem dX12_trial_4 : decode cX12_trial 4 = .ok (.ifCond .eq 10, 3) := by decide +kernel
theorem dX12_trial_7 : decode cX12_trial 7 = .ok (.iload_n 3, 1) := by decide +kernel
theorem dX12_trial_8 : decode cX12_trial 8 = .ok (.invokestatic 205, 3) := by decide +kernel
theorem dX12_trial_11 : decode cX12_trial 11 = .ok (.ifCond .ne 8, 3) := by decide +kernel
theorem dX12_trial_14 : decode cX12_trial 14 = .ok (.bipush (-3), 2) := by decide +kernel
theorem dX12_trial_16 : decode cX12_trial 16 = .ok (.goto 9, 3) := by decide +kernel
theorem dX12_trial_19 : decode cX12_trial 19 = .ok (.aload_n 0, 1) := by decide +kernel
theorem dX12_trial_20 : decode cX12_trial 20 = .ok (.iload_n 1, 1) := by decide +kernel
theorem dX12_trial_21 : decode cX12_trial 21 = .ok (.iconst 3, 1) := by decide +kernel
theorem dX12_trial_22 : decode cX12_trial 22 = .ok (.invokevirtual 119, 3) := by decide +kernel
theorem dX12_trial_25 : decode cX12_trial 25 = .ok (.istore 6, 2) := by decide +kernel
theorem dX12_trial_27 : decode cX12_trial 27 = .ok (.iload 6, 2) := by decide +kernel
theorem dX12_trial_29 : decode cX12_trial 29 = .ok (.ifCond .eq 10, 3) := by decide +kernel
theorem dX12_trial_32 : decode cX12_trial 32 = .ok (.aload_n 0, 1) := by decide +kernel
theorem dX12_trial_33 : decode cX12_trial 33 = .ok (.iload 6, 2) := by decide +kernel
theorem dX12_trial_35 : decode cX12_trial 35 = .ok (.invokevirtual 72, 3) := by decide +kernel
theorem dX12_trial_38 : decode cX12_trial 38 = .ok (.ireturn, 1) := by decide +kernel
theorem dX12_trial_39 : decode cX12_trial 39 = .ok (.iload_n 2, 1) := by decide +kernel
theorem dX12_trial_40 : decode cX12_trial 40 = .ok (.iload_n 3, 1) := by decide +kernel
theorem dX12_trial_41 : decode cX12_trial 41 = .ok (.if_icmp .eq 29, 3) := by decide +kernel
theorem dX12_trial_44 : decode cX12_trial 44 = .ok (.iload 4, 2) := by decide +kernel
theorem dX12_trial_46 : decode cX12_trial 46 = .ok (.i2l, 1) := by decide +kernel
theorem dX12_trial_47 : decode cX12_trial 47 = .ok (.lconst 1, 1) := by decide +kernel
theorem dX12_trial_48 : decode cX12_trial 48 = .ok (.ldc2_w 211, 3) := by decide +kernel
theorem dX12_trial_51 : decode cX12_trial 51 = .ok (.invokestatic 62, 3) := by decide +kernel
theorem dX12_trial_54 : decode cX12_trial 54 = .ok (.ifCond .eq 16, 3) := by decide +kernel
theorem dX12_trial_57 : decode cX12_trial 57 = .ok (.iload 5, 2) := by decide +kernel
theorem dX12_trial_59 : decode cX12_trial 59 = .ok (.i2l, 1) := by decide +kernel
theorem dX12_trial_60 : decode cX12_trial 60 = .ok (.lconst 1, 1) := by decide +kernel
theorem dX12_trial_61 : decode cX12_trial 61 = .ok (.ldc2_w 161, 3) := by decide +kernel
theorem dX12_trial_64 : decode cX12_trial 64 = .ok (.invokestatic 62, 3) := by decide +kernel
theorem dX12_trial_67 : decode cX12_trial 67 = .ok (.ifCond .ne 10, 3) := by decide +kernel
theorem dX12_trial_70 : decode cX12_trial 70 = .ok (.aload_n 0, 1) := by decide +kernel
theorem dX12_trial_71 : decode cX12_trial 71 = .ok (.bipush (-12), 2) := by decide +kernel
theorem dX12_trial_73 : decode cX12_trial 73 = .ok (.invokevirtual 72, 3) := by decide +kernel
theorem dX12_trial_76 : decode cX12_trial 76 = .ok (.ireturn, 1) := by decide +kernel
theorem dX12_trial_77 : decode cX12_trial 77 = .ok (.bipush 81, 2) := by decide +kernel
theorem dX12_trial_79 : decode cX12_trial 79 = .ok (.istore 7, 2) := by decide +kernel
theorem dX12_trial_81 : decode cX12_trial 81 = .ok (.iload 7, 2) := by decide +kernel
theorem dX12_trial_83 : decode cX12_trial 83 = .ok (.bipush 88, 2) := by decide +kernel
theorem dX12_trial_85 : decode cX12_trial 85 = .ok (.if_icmp .ge 17, 3) := by decide +kernel
theorem dX12_trial_88 : decode cX12_trial 88 = .ok (.aload_n 0, 1) := by decide +kernel
theorem dX12_trial_89 : decode cX12_trial 89 = .ok (.iload_n 1, 1) := by decide +kernel
theorem dX12_trial_90 : decode cX12_trial 90 = .ok (.iload 7, 2) := by decide +kernel
theorem dX12_trial_92 : decode cX12_trial 92 = .ok (.iconst 0, 1) := by decide +kernel
theorem dX12_trial_93 : decode cX12_trial 93 = .ok (.invokevirtual 125, 3) := by decide +kernel
theorem dX12_trial_96 : decode cX12_trial 96 = .ok (.iinc 7 1, 3) := by decide +kernel
theorem dX12_trial_99 : decode cX12_trial 99 = .ok (.goto (-18), 3) := by decide +kernel
theorem dX12_trial_102 : decode cX12_trial 102 = .ok (.aload_n 0, 1) := by decide +kernel
theorem dX12_trial_103 : decode cX12_trial 103 = .ok (.iload_n 1, 1) := by decide +kernel
theorem dX12_trial_104 : decode cX12_trial 104 = .ok (.bipush 77, 2) := by decide +kernel
theorem dX12_trial_106 : decode cX12_trial 106 = .ok (.iload_n 2, 1) := by decide +kernel
theorem dX12_trial_107 : decode cX12_trial 107 = .ok (.invokevirtual 125, 3) := by decide +kernel
theorem dX12_trial_110 : decode cX12_trial 110 = .ok (.aload_n 0, 1) := by decide +kernel
theorem dX12_trial_111 : decode cX12_trial 111 = .ok (.iload_n 1, 1) := by decide +kernel
theorem dX12_trial_112 : decode cX12_trial 112 = .ok (.bipush 78, 2) := by decide +kernel
theorem dX12_trial_114 : decode cX12_trial 114 = .ok (.iload_n 3, 1) := by decide +kernel
theorem dX12_trial_115 : decode cX12_trial 115 = .ok (.invokevirtual 125, 3) := by decide +kernel
theorem dX12_trial_118 : decode cX12_trial 118 = .ok (.aload_n 0, 1) := by decide +kernel
theorem dX12_trial_119 : decode cX12_trial 119 = .ok (.iload_n 1, 1) := by decide +kernel
theorem dX12_trial_120 : decode cX12_trial 120 = .ok (.bipush 79, 2) := by decide +kernel
theorem dX12_trial_122 : decode cX12_trial 122 = .ok (.iload 4, 2) := by decide +kernel
theorem dX12_trial_124 : decode cX12_trial 124 = .ok (.invokevirtual 125, 3) := by decide +kernel
theorem dX12_trial_127 : decode cX12_trial 127 = .ok (.aload_n 0, 1) := by decide +kernel
theorem dX12_trial_128 : decode cX12_trial 128 = .ok (.iload_n 1, 1) := by decide +kernel
theorem dX12_trial_129 : decode cX12_trial 129 = .ok (.bipush 80, 2) := by decide +kernel
theorem dX12_trial_131 : decode cX12_trial 131 = .ok (.iload 5, 2) := by decide +kernel
theorem dX12_trial_133 : decode cX12_trial 133 = .ok (.invokevirtual 125, 3) := by decide +kernel
theorem dX12_trial_136 : decode cX12_trial 136 = .ok (.iconst 1, 1) := by decide +kernel
theorem dX12_trial_137 : decode cX12_trial 137 = .ok (.ireturn, 1) := by decide +kernel
theorem dX12_sums_0 : decode cX12_sums 0 = .ok (.aload_n 0, 1) := by decide +kernel
theorem dX12_sums_1 : decode cX12_sums 1 = .ok (.iconst 0, 1) := by decide +kernel
theorem dX12_sums_2 : decode cX12_sums 2 = .ok (.putfield 213, 3) := by decide +kernel
theorem dX12_sums_5 : decode cX12_sums 5 = .ok (.aload_n 0, 1) := by decide +kernel
theorem dX12_sums_6 : decode cX12_sums 6 = .ok (.iconst 0, 1) := by decide +kernel
theorem dX12_sums_7 : decode cX12_sums 7 = .ok (.putfield 216, 3) := by decide +kernel
theorem dX12_sums_10 : decode cX12_sums 10 = .ok (.aload_n 0, 1) := by decide +kernel
theorem dX12_sums_11 : decode cX12_sums 11 = .ok (.iconst 0, 1) := by decide +kernel
theorem dX12_sums_12 : decode cX12_sums 12 = .ok (.putfield 219, 3) := by decide +kernel
theorem dX12_sums_15 : decode cX12_sums 15 = .ok (.aload_n 0, 1) := by decide +kernel
theorem dX12_sums_16 : decode cX12_sums 16 = .ok (.iconst 0, 1) := by decide +kernel
theorem dX12_sums_17 : decode cX12_sums 17 = .ok (.putfield 222, 3) := by decide +kernel
theorem dX12_sums_20 : decode cX12_sums 20 = .ok (.iconst 0, 1) := by decide +kernel
theorem dX12_sums_21 : decode cX12_sums 21 = .ok (.istore_n 3, 1) := by decide +kernel
theorem dX12_sums_22 : decode cX12_sums 22 = .ok (.iload_n 3, 1) := by decide +kernel
theorem dX12_sums_23 : decode cX12_sums 23 = .ok (.iload_n 2, 1) := by decide +kernel
theorem dX12_sums_24 : decode cX12_sums 24 = .ok (.if_icmp .gt 130, 3) := by decide +kernel
theorem dX12_sums_27 : decode cX12_sums 27 = .ok (.aload_n 0, 1) := by decide +kernel
theorem dX12_sums_28 : decode cX12_sums 28 = .ok (.iload_n 1, 1) := by decide +kernel
theorem dX12_sums_29 : decode cX12_sums 29 = .ok (.bipush 77, 2) := by decide +kernel
theorem dX12_sums_31 : decode cX12_sums 31 = .ok (.invokevirtual 43, 3) := by decide +kernel
theorem dX12_sums_34 : decode cX12_sums 34 = .ok (.iload_n 3, 1) := by decide +kernel
theorem dX12_sums_35 : decode cX12_sums 35 = .ok (.invokestatic 178, 3) := by decide +kernel
theorem dX12_sums_38 : decode cX12_sums 38 = .ok (.istore 4, 2) := by decide +kernel
theorem dX12_sums_40 : decode cX12_sums 40 = .ok (.aload_n 0, 1) := by decide +kernel
theorem dX12_sums_41 : decode cX12_sums 41 = .ok (.iload_n 1, 1) := by decide +kernel
theorem dX12_sums_42 : decode cX12_sums 42 = .ok (.bipush 78, 2) := by decide +kernel
theorem dX12_sums_44 : decode cX12_sums 44 = .ok (.invokevirtual 43, 3) := by decide +kernel
theorem dX12_sums_47 : decode cX12_sums 47 = .ok (.iload_n 3, 1) := by decide +kernel
theorem dX12_sums_48 : decode cX12_sums 48 = .ok (.invokestatic 178, 3) := by decide +kernel
theorem dX12_sums_51 : decode cX12_sums 51 = .ok (.istore 5, 2) := by decide +kernel
theorem dX12_sums_53 : decode cX12_sums 53 = .ok (.aload_n 0, 1) := by decide +kernel
theorem dX12_sums_54 : decode cX12_sums 54 = .ok (.iload_n 1, 1) := by decide +kernel
theorem dX12_sums_55 : decode cX12_sums 55 = .ok (.iload 4, 2) := by decide +kernel
theorem dX12_sums_57 : decode cX12_sums 57 = .ok (.invokevirtual 43, 3) := by decide +kernel
theorem dX12_sums_60 : decode cX12_sums 60 = .ok (.ifCond .eq 88, 3) := by decide +kernel
theorem dX12_sums_63 : decode cX12_sums 63 = .ok (.aload_n 0, 1) := by decide +kernel
theorem dX12_sums_64 : decode cX12_sums 64 = .ok (.iload_n 1, 1) := by decide +kernel
theorem dX12_sums_65 : decode cX12_sums 65 = .ok (.iload 5, 2) := by decide +kernel
theorem dX12_sums_67 : decode cX12_sums 67 = .ok (.invokevirtual 43, 3) := by decide +kernel
theorem dX12_sums_70 : decode cX12_sums 70 = .ok (.ifCond .ne 6, 3) := by decide +kernel
theorem dX12_sums_73 : decode cX12_sums 73 = .ok (.goto 75, 3) := by decide +kernel
theorem dX12_sums_76 : decode cX12_sums 76 = .ok (.aload_n 0, 1) := by decide +kernel
theorem dX12_sums_77 : decode cX12_sums 77 = .ok (.dup, 1) := by decide +kernel
theorem dX12_sums_78 : decode cX12_sums 78 = .ok (.getfield 213, 3) := by decide +kernel
theorem dX12_sums_81 : decode cX12_sums 81 = .ok (.aload_n 0, 1) := by decide +kernel
theorem dX12_sums_82 : decode cX12_sums 82 = .ok (.iload_n 1, 1) := by decide +kernel
theorem dX12_sums_83 : decode cX12_sums 83 = .ok (.iload 4, 2) := by decide +kernel
theorem dX12_sums_85 : decode cX12_sums 85 = .ok (.iconst 1, 1) := by decide +kernel
theorem dX12_sums_86 : decode cX12_sums 86 = .ok (.iadd, 1) := by decide +kernel
theorem dX12_sums_87 : decode cX12_sums 87 = .ok (.invokevirtual 43, 3) := by decide +kernel
theorem dX12_sums_90 : decode cX12_sums 90 = .ok (.iadd, 1) := by decide +kernel
theorem dX12_sums_91 : decode cX12_sums 91 = .ok (.putfield 213, 3) := by decide +kernel
theorem dX12_sums_94 : decode cX12_sums 94 = .ok (.aload_n 0, 1) := by decide +kernel
theorem dX12_sums_95 : decode cX12_sums 95 = .ok (.dup, 1) := by decide +kernel
theorem dX12_sums_96 : decode cX12_sums 96 = .ok (.getfield 216, 3) := by decide +kernel
theorem dX12_sums_99 : decode cX12_sums 99 = .ok (.aload_n 0, 1) := by decide +kernel
theorem dX12_sums_100 : decode cX12_sums 100 = .ok (.iload_n 1, 1) := by decide +kernel
theorem dX12_sums_101 : decode cX12_sums 101 = .ok (.iload 5, 2) := by decide +kernel
theorem dX12_sums_103 : decode cX12_sums 103 = .ok (.iconst 1, 1) := by decide +kernel
theorem dX12_sums_104 : decode cX12_sums 104 = .ok (.iadd, 1) := by decide +kernel
theorem dX12_sums_105 : decode cX12_sums 105 = .ok (.invokevirtual 43, 3) := by decide +kernel
theorem dX12_sums_108 : decode cX12_sums 108 = .ok (.iadd, 1) := by decide +kernel
theorem dX12_sums_109 : decode cX12_sums 109 = .ok (.putfield 216, 3) := by decide +kernel
theorem dX12_sums_112 : decode cX12_sums 112 = .ok (.aload_n 0, 1) := by decide +kernel
theorem dX12_sums_113 : decode cX12_sums 113 = .ok (.dup, 1) := by decide +kernel
theorem dX12_sums_114 : decode cX12_sums 114 = .ok (.getfield 219, 3) := by decide +kernel
theorem dX12_sums_117 : decode cX12_sums 117 = .ok (.aload_n 0, 1) := by decide +kernel
theorem dX12_sums_118 : decode cX12_sums 118 = .ok (.iload_n 1, 1) := by decide +kernel
theorem dX12_sums_119 : decode cX12_sums 119 = .ok (.iload 4, 2) := by decide +kernel
theorem dX12_sums_121 : decode cX12_sums 121 = .ok (.iconst 3, 1) := by decide +kernel
theorem dX12_sums_122 : decode cX12_sums 122 = .ok (.iadd, 1) := by decide +kernel
theorem dX12_sums_123 : decode cX12_sums 123 = .ok (.invokevirtual 43, 3) := by decide +kernel
theorem dX12_sums_126 : decode cX12_sums 126 = .ok (.iadd, 1) := by decide +kernel
theorem dX12_sums_127 : decode cX12_sums 127 = .ok (.putfield 219, 3) := by decide +kernel
theorem dX12_sums_130 : decode cX12_sums 130 = .ok (.aload_n 0, 1) := by decide +kernel
theorem dX12_sums_131 : decode cX12_sums 131 = .ok (.dup, 1) := by decide +kernel
theorem dX12_sums_132 : decode cX12_sums 132 = .ok (.getfield 222, 3) := by decide +kernel
theorem dX12_sums_135 : decode cX12_sums 135 = .ok (.aload_n 0, 1) := by decide +kernel
theorem dX12_sums_136 : decode cX12_sums 136 = .ok (.iload_n 1, 1) := by decide +kernel
theorem dX12_sums_137 : decode cX12_sums 137 = .ok (.iload 5, 2) := by decide +kernel
theorem dX12_sums_139 : decode cX12_sums 139 = .ok (.iconst 3, 1) := by decide +kernel
theorem dX12_sums_140 : decode cX12_sums 140 = .ok (.iadd, 1) := by decide +kernel
theorem dX12_sums_141 : decode cX12_sums 141 = .ok (.invokevirtual 43, 3) := by decide +kernel
theorem dX12_sums_144 : decode cX12_sums 144 = .ok (.iadd, 1) := by decide +kernel
theorem dX12_sums_145 : decode cX12_sums 145 = .ok (.putfield 222, 3) := by decide +kernel
theorem dX12_sums_148 : decode cX12_sums 148 = .ok (.iinc 3 1, 3) := by decide +kernel
theorem dX12_sums_151 : decode cX12_sums 151 = .ok (.goto (-129), 3) := by decide +kernel
theorem dX12_sums_154 : decode cX12_sums 154 = .ok (.return_, 1) := by decide +kernel
theorem dX12_chosen_0 : decode cX12_chosen 0 = .ok (.iload_n 1, 1) := by decide +kernel
theorem dX12_chosen_1 : decode cX12_chosen 1 = .ok (.ifCond .lt 8, 3) := by decide +kernel
theorem dX12_chosen_4 : decode cX12_chosen 4 = .ok (.iload_n 1, 1) := by decide +kernel
theorem dX12_chosen_5 : decode cX12_chosen 5 = .ok (.iload_n 0, 1) := by decide +kernel
theorem dX12_chosen_6 : decode cX12_chosen 6 = .ok (.if_icmp .le 5, 3) := by decide +kernel
theorem dX12_chosen_9 : decode cX12_chosen 9 = .ok (.lconst 0, 1) := by decide +kernel
theorem dX12_chosen_10 : decode cX12_chosen 10 = .ok (.lreturn, 1) := by decide +kernel
theorem dX12_chosen_11 : decode cX12_chosen 11 = .ok (.lconst 1, 1) := by decide +kernel
theorem dX12_chosen_12 : decode cX12_chosen 12 = .ok (.lstore_n 2, 1) := by decide +kernel
theorem dX12_chosen_13 : decode cX12_chosen 13 = .ok (.iconst 1, 1) := by decide +kernel
theorem dX12_chosen_14 : decode cX12_chosen 14 = .ok (.istore 4, 2) := by decide +kernel
theorem dX12_chosen_16 : decode cX12_chosen 16 = .ok (.iload 4, 2) := by decide +kernel
theorem dX12_chosen_18 : decode cX12_chosen 18 = .ok (.iload_n 1, 1) := by decide +kernel
theorem dX12_chosen_19 : decode cX12_chosen 19 = .ok (.iload_n 0, 1) := by decide +kernel
theorem dX12_chosen_20 : decode cX12_chosen 20 = .ok (.iload_n 1, 1) := by decide +kernel
theorem dX12_chosen_21 : decode cX12_chosen 21 = .ok (.isub, 1) := by decide +kernel
theorem dX12_chosen_22 : decode cX12_chosen 22 = .ok (.if_icmp .ge 7, 3) := by decide +kernel
theorem dX12_chosen_25 : decode cX12_chosen 25 = .ok (.iload_n 1, 1) := by decide +kernel
theorem dX12_chosen_26 : decode cX12_chosen 26 = .ok (.goto 6, 3) := by decide +kernel
theorem dX12_chosen_29 : decode cX12_chosen 29 = .ok (.iload_n 0, 1) := by decide +kernel
theorem dX12_chosen_30 : decode cX12_chosen 30 = .ok (.iload_n 1, 1) := by decide +kernel
theorem dX12_chosen_31 : decode cX12_chosen 31 = .ok (.isub, 1) := by decide +kernel
theorem dX12_chosen_32 : decode cX12_chosen 32 = .ok (.if_icmp .gt 41, 3) := by decide +kernel
theorem dX12_chosen_35 : decode cX12_chosen 35 = .ok (.lload_n 2, 1) := by decide +kernel
theorem dX12_chosen_36 : decode cX12_chosen 36 = .ok (.iload 4, 2) := by decide +kernel
theorem dX12_chosen_38 : decode cX12_chosen 38 = .ok (.i2l, 1) := by decide +kernel
theorem dX12_chosen_39 : decode cX12_chosen 39 = .ok (.ldiv, 1) := by decide +kernel
theorem dX12_chosen_40 : decode cX12_chosen 40 = .ok (.iload_n 0, 1) := by decide +kernel
theorem dX12_chosen_41 : decode cX12_chosen 41 = .ok (.iload 4, 2) := by decide +kernel
theorem dX12_chosen_43 : decode cX12_chosen 43 = .ok (.isub, 1) := by decide +kernel
theorem dX12_chosen_44 : decode cX12_chosen 44 = .ok (.iconst 1, 1) := by decide +kernel
theorem dX12_chosen_45 : decode cX12_chosen 45 = .ok (.iadd, 1) := by decide +kernel
theorem dX12_chosen_46 : decode cX12_chosen 46 = .ok (.i2l, 1) := by decide +kernel
theorem dX12_chosen_47 : decode cX12_chosen 47 = .ok (.lmul, 1) := by decide +kernel
theorem dX12_chosen_48 : decode cX12_chosen 48 = .ok (.lload_n 2, 1) := by decide +kernel
theorem dX12_chosen_49 : decode cX12_chosen 49 = .ok (.iload 4, 2) := by decide +kernel
theorem dX12_chosen_51 : decode cX12_chosen 51 = .ok (.i2l, 1) := by decide +kernel
theorem dX12_chosen_52 : decode cX12_chosen 52 = .ok (.lrem, 1) := by decide +kernel
theorem dX12_chosen_53 : decode cX12_chosen 53 = .ok (.iload_n 0, 1) := by decide +kernel
theorem dX12_chosen_54 : decode cX12_chosen 54 = .ok (.iload 4, 2) := by decide +kernel
theorem dX12_chosen_56 : decode cX12_chosen 56 = .ok (.isub, 1) := by decide +kernel
theorem dX12_chosen_57 : decode cX12_chosen 57 = .ok (.iconst 1, 1) := by decide +kernel
theorem dX12_chosen_58 : decode cX12_chosen 58 = .ok (.iadd, 1) := by decide +kernel
theorem dX12_chosen_59 : decode cX12_chosen 59 = .ok (.i2l, 1) := by decide +kernel
theorem dX12_chosen_60 : decode cX12_chosen 60 = .ok (.lmul, 1) := by decide +kernel
theorem dX12_chosen_61 : decode cX12_chosen 61 = .ok (.iload 4, 2) := by decide +kernel
theorem dX12_chosen_63 : decode cX12_chosen 63 = .ok (.i2l, 1) := by decide +kernel
theorem dX12_chosen_64 : decode cX12_chosen 64 = .ok (.ldiv, 1) := by decide +kernel
theorem dX12_chosen_65 : decode cX12_chosen 65 = .ok (.ladd, 1) := by decide +kernel
theorem dX12_chosen_66 : decode cX12_chosen 66 = .ok (.lstore_n 2, 1) := by decide +kernel
theorem dX12_chosen_67 : decode cX12_chosen 67 = .ok (.iinc 4 1, 3) := by decide +kernel
theorem dX12_chosen_70 : decode cX12_chosen 70 = .ok (.goto (-54), 3) := by decide +kernel
theorem dX12_chosen_73 : decode cX12_chosen 73 = .ok (.lload_n 2, 1) := by decide +kernel
theorem dX12_chosen_74 : decode cX12_chosen 74 = .ok (.lreturn, 1) := by decide +kernel
theorem dX12_chances_0 : decode cX12_chances 0 = .ok (.aload_n 0, 1) := by decide +kernel
theorem dX12_chances_1 : decode cX12_chances 1 = .ok (.getfield 219, 3) := by decide +kernel
theorem dX12_chances_4 : decode cX12_chances 4 = .ok (.aload_n 0, 1) := by decide +kernel
theorem dX12_chances_5 : decode cX12_chances 5 = .ok (.getfield 222, 3) := by decide +kernel
theorem dX12_chances_8 : decode cX12_chances 8 = .ok (.iadd, 1) := by decide +kernel
theorem dX12_chances_9 : decode cX12_chances 9 = .ok (.istore_n 1, 1) := by decide +kernel
theorem dX12_chances_10 : decode cX12_chances 10 = .ok (.aload_n 0, 1) := by decide +kernel
theorem dX12_chances_11 : decode cX12_chances 11 = .ok (.getfield 219, 3) := by decide +kernel
theorem dX12_chances_14 : decode cX12_chances 14 = .ok (.aload_n 0, 1) := by decide +kernel
theorem dX12_chances_15 : decode cX12_chances 15 = .ok (.getfield 216, 3) := by decide +kernel
theorem dX12_chances_18 : decode cX12_chances 18 = .ok (.imul, 1) := by decide +kernel
theorem dX12_chances_19 : decode cX12_chances 19 = .ok (.aload_n 0, 1) := by decide +kernel
theorem dX12_chances_20 : decode cX12_chances 20 = .ok (.getfield 222, 3) := by decide +kernel
theorem dX12_chances_23 : decode cX12_chances 23 = .ok (.aload_n 0, 1) := by decide +kernel
theorem dX12_chances_24 : decode cX12_chances 24 = .ok (.getfield 213, 3) := by decide +kernel
theorem dX12_chances_27 : decode cX12_chances 27 = .ok (.imul, 1) := by decide +kernel
theorem dX12_chances_28 : decode cX12_chances 28 = .ok (.isub, 1) := by decide +kernel
theorem dX12_chances_29 : decode cX12_chances 29 = .ok (.istore_n 2, 1) := by decide +kernel
theorem dX12_chances_30 : decode cX12_chances 30 = .ok (.aload_n 0, 1) := by decide +kernel
theorem dX12_chances_31 : decode cX12_chances 31 = .ok (.lconst 0, 1) := by decide +kernel
theorem dX12_chances_32 : decode cX12_chances 32 = .ok (.putfield 225, 3) := by decide +kernel
theorem dX12_chances_35 : decode cX12_chances 35 = .ok (.aload_n 0, 1) := by decide +kernel
theorem dX12_chances_36 : decode cX12_chances 36 = .ok (.aload_n 0, 1) := by decide +kernel
theorem dX12_chances_37 : decode cX12_chances 37 = .ok (.getfield 213, 3) := by decide +kernel
theorem dX12_chances_40 : decode cX12_chances 40 = .ok (.aload_n 0, 1) := by decide +kernel
theorem dX12_chances_41 : decode cX12_chances 41 = .ok (.getfield 216, 3) := by decide +kernel
theorem dX12_chances_44 : decode cX12_chances 44 = .ok (.iadd, 1) := by decide +kernel
theorem dX12_chances_45 : decode cX12_chances 45 = .ok (.iload_n 1, 1) := by decide +kernel
theorem dX12_chances_46 : decode cX12_chances 46 = .ok (.invokestatic 228, 3) := by decide +kernel
theorem dX12_chances_49 : decode cX12_chances 49 = .ok (.putfield 232, 3) := by decide +kernel
theorem dX12_chances_52 : decode cX12_chances 52 = .ok (.iconst 0, 1) := by decide +kernel
theorem dX12_chances_53 : decode cX12_chances 53 = .ok (.istore_n 3, 1) := by decide +kernel
theorem dX12_chances_54 : decode cX12_chances 54 = .ok (.iload_n 3, 1) := by decide +kernel
theorem dX12_chances_55 : decode cX12_chances 55 = .ok (.iload_n 1, 1) := by decide +kernel
theorem dX12_chances_56 : decode cX12_chances 56 = .ok (.if_icmp .gt 92, 3) := by decide +kernel
theorem dX12_chances_59 : decode cX12_chances 59 = .ok (.iload_n 3, 1) := by decide +kernel
theorem dX12_chances_60 : decode cX12_chances 60 = .ok (.aload_n 0, 1) := by decide +kernel
theorem dX12_chances_61 : decode cX12_chances 61 = .ok (.getfield 216, 3) := by decide +kernel
theorem dX12_chances_64 : decode cX12_chances 64 = .ok (.imul, 1) := by decide +kernel
theorem dX12_chances_65 : decode cX12_chances 65 = .ok (.iload_n 1, 1) := by decide +kernel
theorem dX12_chances_66 : decode cX12_chances 66 = .ok (.iload_n 3, 1) := by decide +kernel
theorem dX12_chances_67 : decode cX12_chances 67 = .ok (.isub, 1) := by decide +kernel
theorem dX12_chances_68 : decode cX12_chances 68 = .ok (.aload_n 0, 1) := by decide +kernel
theorem dX12_chances_69 : decode cX12_chances 69 = .ok (.getfield 213, 3) := by decide +kernel
theorem dX12_chances_72 : decode cX12_chances 72 = .ok (.imul, 1) := by decide +kernel
theorem dX12_chances_73 : decode cX12_chances 73 = .ok (.isub, 1) := by decide +kernel
theorem dX12_chances_74 : decode cX12_chances 74 = .ok (.istore 4, 2) := by decide +kernel
theorem dX12_chances_76 : decode cX12_chances 76 = .ok (.iload 4, 2) := by decide +kernel
theorem dX12_chances_78 : decode cX12_chances 78 = .ok (.ifCond .ge 9, 3) := by decide +kernel
theorem dX12_chances_81 : decode cX12_chances 81 = .ok (.iload 4, 2) := by decide +kernel
theorem dX12_chances_83 : decode cX12_chances 83 = .ok (.ineg, 1) := by decide +kernel
theorem dX12_chances_84 : decode cX12_chances 84 = .ok (.goto 5, 3) := by decide +kernel
theorem dX12_chances_87 : decode cX12_chances 87 = .ok (.iload 4, 2) := by decide +kernel
theorem dX12_chances_89 : decode cX12_chances 89 = .ok (.iload_n 2, 1) := by decide +kernel
theorem dX12_chances_90 : decode cX12_chances 90 = .ok (.ifCond .ge 8, 3) := by decide +kernel
theorem dX12_chances_93 : decode cX12_chances 93 = .ok (.iload_n 2, 1) := by decide +kernel
theorem dX12_chances_94 : decode cX12_chances 94 = .ok (.ineg, 1) := by decide +kernel
theorem dX12_chances_95 : decode cX12_chances 95 = .ok (.goto 4, 3) := by decide +kernel
theorem dX12_chances_98 : decode cX12_chances 98 = .ok (.iload_n 2, 1) := by decide +kernel
theorem dX12_chances_99 : decode cX12_chances 99 = .ok (.if_icmp .lt 7, 3) := by decide +kernel
theorem dX12_chances_102 : decode cX12_chances 102 = .ok (.iconst 1, 1) := by decide +kernel
theorem dX12_chances_103 : decode cX12_chances 103 = .ok (.goto 4, 3) := by decide +kernel
theorem dX12_chances_106 : decode cX12_chances 106 = .ok (.iconst 0, 1) := by decide +kernel
theorem dX12_chances_107 : decode cX12_chances 107 = .ok (.istore 5, 2) := by decide +kernel
theorem dX12_chances_109 : decode cX12_chances 109 = .ok (.iload 5, 2) := by decide +kernel
theorem dX12_chances_111 : decode cX12_chances 111 = .ok (.ifCond .eq 31, 3) := by decide +kernel
theorem dX12_chances_114 : decode cX12_chances 114 = .ok (.aload_n 0, 1) := by decide +kernel
theorem dX12_chances_115 : decode cX12_chances 115 = .ok (.dup, 1) := by decide +kernel
theorem dX12_chances_116 : decode cX12_chances 116 = .ok (.getfield 225, 3) := by decide +kernel
theorem dX12_chances_119 : decode cX12_chances 119 = .ok (.aload_n 0, 1) := by decide +kernel
theorem dX12_chances_120 : decode cX12_chances 120 = .ok (.getfield 213, 3) := by decide +kernel
theorem dX12_chances_123 : decode cX12_chances 123 = .ok (.iload_n 3, 1) := by decide +kernel
theorem dX12_chances_124 : decode cX12_chances 124 = .ok (.invokestatic 228, 3) := by decide +kernel
theorem dX12_chances_127 : decode cX12_chances 127 = .ok (.aload_n 0, 1) := by decide +kernel
theorem dX12_chances_128 : decode cX12_chances 128 = .ok (.getfield 216, 3) := by decide +kernel
theorem dX12_chances_131 : decode cX12_chances 131 = .ok (.iload_n 1, 1) := by decide +kernel
theorem dX12_chances_132 : decode cX12_chances 132 = .ok (.iload_n 3, 1) := by decide +kernel
theorem dX12_chances_133 : decode cX12_chances 133 = .ok (.isub, 1) := by decide +kernel
theorem dX12_chances_134 : decode cX12_chances 134 = .ok (.invokestatic 228, 3) := by decide +kernel
theorem dX12_chances_137 : decode cX12_chances 137 = .ok (.lmul, 1) := by decide +kernel
theorem dX12_chances_138 : decode cX12_chances 138 = .ok (.ladd, 1) := by decide +kernel
theorem dX12_chances_139 : decode cX12_chances 139 = .ok (.putfield 225, 3) := by decide +kernel
theorem dX12_chances_142 : decode cX12_chances 142 = .ok (.iinc 3 1, 3) := by decide +kernel
theorem dX12_chances_145 : decode cX12_chances 145 = .ok (.goto (-91), 3) := by decide +kernel
theorem dX12_chances_148 : decode cX12_chances 148 = .ok (.return_, 1) := by decide +kernel
theorem dX12_isAbove_0 : decode cX12_isAbove 0 = .ok (.lload_n 0, 1) := by decide +kernel
theorem dX12_isAbove_1 : decode cX12_isAbove 1 = .ok (.ldc2_w 235, 3) := by decide +kernel
theorem dX12_isAbove_4 : decode cX12_isAbove 4 = .ok (.lrem, 1) := by decide +kernel
theorem dX12_isAbove_5 : decode cX12_isAbove 5 = .ok (.lload_n 2, 1) := by decide +kernel
theorem dX12_isAbove_6 : decode cX12_isAbove 6 = .ok (.lmul, 1) := by decide +kernel
theorem dX12_isAbove_7 : decode cX12_isAbove 7 = .ok (.lstore 8, 2) := by decide +kernel
theorem dX12_isAbove_9 : decode cX12_isAbove 9 = .ok (.lload_n 0, 1) := by decide +kernel
theorem dX12_isAbove_10 : decode cX12_isAbove 10 = .ok (.ldc2_w 235, 3) := by decide +kernel
theorem dX12_isAbove_13 : decode cX12_isAbove 13 = .ok (.ldiv, 1) := by decide +kernel
theorem dX12_isAbove_14 : decode cX12_isAbove 14 = .ok (.lload_n 2, 1) := by decide +kernel
theorem dX12_isAbove_15 : decode cX12_isAbove 15 = .ok (.lmul, 1) := by decide +kernel
theorem dX12_isAbove_16 : decode cX12_isAbove 16 = .ok (.lload 8, 2) := by decide +kernel
theorem dX12_isAbove_18 : decode cX12_isAbove 18 = .ok (.ldc2_w 235, 3) := by decide +kernel
theorem dX12_isAbove_21 : decode cX12_isAbove 21 = .ok (.ldiv, 1) := by decide +kernel
theorem dX12_isAbove_22 : decode cX12_isAbove 22 = .ok (.ladd, 1) := by decide +kernel
theorem dX12_isAbove_23 : decode cX12_isAbove 23 = .ok (.lstore 10, 2) := by decide +kernel
theorem dX12_isAbove_25 : decode cX12_isAbove 25 = .ok (.lload 4, 2) := by decide +kernel
theorem dX12_isAbove_27 : decode cX12_isAbove 27 = .ok (.ldc2_w 235, 3) := by decide +kernel
theorem dX12_isAbove_30 : decode cX12_isAbove 30 = .ok (.lrem, 1) := by decide +kernel
theorem dX12_isAbove_31 : decode cX12_isAbove 31 = .ok (.lload 6, 2) := by decide +kernel
theorem dX12_isAbove_33 : decode cX12_isAbove 33 = .ok (.lmul, 1) := by decide +kernel
theorem dX12_isAbove_34 : decode cX12_isAbove 34 = .ok (.lstore 12, 2) := by decide +kernel
theorem dX12_isAbove_36 : decode cX12_isAbove 36 = .ok (.lload 4, 2) := by decide +kernel
theorem dX12_isAbove_38 : decode cX12_isAbove 38 = .ok (.ldc2_w 235, 3) := by decide +kernel
theorem dX12_isAbove_41 : decode cX12_isAbove 41 = .ok (.ldiv, 1) := by decide +kernel
theorem dX12_isAbove_42 : decode cX12_isAbove 42 = .ok (.lload 6, 2) := by decide +kernel
theorem dX12_isAbove_44 : decode cX12_isAbove 44 = .ok (.lmul, 1) := by decide +kernel
theorem dX12_isAbove_45 : decode cX12_isAbove 45 = .ok (.lload 12, 2) := by decide +kernel
theorem dX12_isAbove_47 : decode cX12_isAbove 47 = .ok (.ldc2_w 235, 3) := by decide +kernel
theorem dX12_isAbove_50 : decode cX12_isAbove 50 = .ok (.ldiv, 1) := by decide +kernel
theorem dX12_isAbove_51 : decode cX12_isAbove 51 = .ok (.ladd, 1) := by decide +kernel
theorem dX12_isAbove_52 : decode cX12_isAbove 52 = .ok (.lstore 14, 2) := by decide +kernel
theorem dX12_isAbove_54 : decode cX12_isAbove 54 = .ok (.lload 10, 2) := by decide +kernel
theorem dX12_isAbove_56 : decode cX12_isAbove 56 = .ok (.lload 14, 2) := by decide +kernel
theorem dX12_isAbove_58 : decode cX12_isAbove 58 = .ok (.lcmp, 1) := by decide +kernel
theorem dX12_isAbove_59 : decode cX12_isAbove 59 = .ok (.ifCond .eq 17, 3) := by decide +kernel
theorem dX12_isAbove_62 : decode cX12_isAbove 62 = .ok (.lload 10, 2) := by decide +kernel
theorem dX12_isAbove_64 : decode cX12_isAbove 64 = .ok (.lload 14, 2) := by decide +kernel
theorem dX12_isAbove_66 : decode cX12_isAbove 66 = .ok (.lcmp, 1) := by decide +kernel
theorem dX12_isAbove_67 : decode cX12_isAbove 67 = .ok (.ifCond .le 7, 3) := by decide +kernel
theorem dX12_isAbove_70 : decode cX12_isAbove 70 = .ok (.iconst 1, 1) := by decide +kernel
theorem dX12_isAbove_71 : decode cX12_isAbove 71 = .ok (.goto 4, 3) := by decide +kernel
theorem dX12_isAbove_74 : decode cX12_isAbove 74 = .ok (.iconst 0, 1) := by decide +kernel
theorem dX12_isAbove_75 : decode cX12_isAbove 75 = .ok (.ireturn, 1) := by decide +kernel
theorem dX12_isAbove_76 : decode cX12_isAbove 76 = .ok (.lload 8, 2) := by decide +kernel
theorem dX12_isAbove_78 : decode cX12_isAbove 78 = .ok (.ldc2_w 235, 3) := by decide +kernel
theorem dX12_isAbove_81 : decode cX12_isAbove 81 = .ok (.lrem, 1) := by decide +kernel
theorem dX12_isAbove_82 : decode cX12_isAbove 82 = .ok (.lload 12, 2) := by decide +kernel
theorem dX12_isAbove_84 : decode cX12_isAbove 84 = .ok (.ldc2_w 235, 3) := by decide +kernel
theorem dX12_isAbove_87 : decode cX12_isAbove 87 = .ok (.lrem, 1) := by decide +kernel
theorem dX12_isAbove_88 : decode cX12_isAbove 88 = .ok (.lcmp, 1) := by decide +kernel
theorem dX12_isAbove_89 : decode cX12_isAbove 89 = .ok (.ifCond .le 7, 3) := by decide +kernel
theorem dX12_isAbove_92 : decode cX12_isAbove 92 = .ok (.iconst 1, 1) := by decide +kernel
theorem dX12_isAbove_93 : decode cX12_isAbove 93 = .ok (.goto 4, 3) := by decide +kernel
theorem dX12_isAbove_96 : decode cX12_isAbove 96 = .ok (.iconst 0, 1) := by decide +kernel
theorem dX12_isAbove_97 : decode cX12_isAbove 97 = .ok (.ireturn, 1) := by decide +kernel
theorem dX12_millionths_0 : decode cX12_millionths 0 = .ok (.aload_n 0, 1) := by decide +kernel
theorem dX12_millionths_1 : decode cX12_millionths 1 = .ok (.getfield 225, 3) := by decide +kernel
theorem dX12_millionths_4 : decode cX12_millionths 4 = .ok (.aload_n 0, 1) := by decide +kernel
theorem dX12_millionths_5 : decode cX12_millionths 5 = .ok (.getfield 232, 3) := by decide +kernel
theorem dX12_millionths_8 : decode cX12_millionths 8 = .ok (.lcmp, 1) := by decide +kernel
theorem dX12_millionths_9 : decode cX12_millionths 9 = .ok (.ifCond .lt 6, 3) := by decide +kernel
theorem dX12_millionths_12 : decode cX12_millionths 12 = .ok (.ldc 237, 2) := by decide +kernel
theorem dX12_millionths_14 : decode cX12_millionths 14 = .ok (.ireturn, 1) := by decide +kernel
theorem dX12_millionths_15 : decode cX12_millionths 15 = .ok (.iconst 0, 1) := by decide +kernel
theorem dX12_millionths_16 : decode cX12_millionths 16 = .ok (.istore_n 1, 1) := by decide +kernel
theorem dX12_millionths_17 : decode cX12_millionths 17 = .ok (.aload_n 0, 1) := by decide +kernel
theorem dX12_millionths_18 : decode cX12_millionths 18 = .ok (.getfield 225, 3) := by decide +kernel
theorem dX12_millionths_21 : decode cX12_millionths 21 = .ok (.lstore_n 2, 1) := by decide +kernel
theorem dX12_millionths_22 : decode cX12_millionths 22 = .ok (.iconst 0, 1) := by decide +kernel
theorem dX12_millionths_23 : decode cX12_millionths 23 = .ok (.istore 4, 2) := by decide +kernel
theorem dX12_millionths_25 : decode cX12_millionths 25 = .ok (.iload 4, 2) := by decide +kernel
theorem dX12_millionths_27 : decode cX12_millionths 27 = .ok (.bipush 6, 2) := by decide +kernel
theorem dX12_millionths_29 : decode cX12_millionths 29 = .ok (.if_icmp .ge 35, 3) := by decide +kernel
theorem dX12_millionths_32 : decode cX12_millionths 32 = .ok (.lload_n 2, 1) := by decide +kernel
theorem dX12_millionths_33 : decode cX12_millionths 33 = .ok (.ldc2_w 238, 3) := by decide +kernel
theorem dX12_millionths_36 : decode cX12_millionths 36 = .ok (.lmul, 1) := by decide +kernel
theorem dX12_millionths_37 : decode cX12_millionths 37 = .ok (.lstore_n 2, 1) := by decide +kernel
theorem dX12_millionths_38 : decode cX12_millionths 38 = .ok (.bipush 10, 2) := by decide +kernel
theorem dX12_millionths_40 : decode cX12_millionths 40 = .ok (.iload_n 1, 1) := by decide +kernel
theorem dX12_millionths_41 : decode cX12_millionths 41 = .ok (.imul, 1) := by decide +kernel
theorem dX12_millionths_42 : decode cX12_millionths 42 = .ok (.lload_n 2, 1) := by decide +kernel
theorem dX12_millionths_43 : decode cX12_millionths 43 = .ok (.aload_n 0, 1) := by decide +kernel
theorem dX12_millionths_44 : decode cX12_millionths 44 = .ok (.getfield 232, 3) := by decide +kernel
theorem dX12_millionths_47 : decode cX12_millionths 47 = .ok (.ldiv, 1) := by decide +kernel
theorem dX12_millionths_48 : decode cX12_millionths 48 = .ok (.l2i, 1) := by decide +kernel
theorem dX12_millionths_49 : decode cX12_millionths 49 = .ok (.iadd, 1) := by decide +kernel
theorem dX12_millionths_50 : decode cX12_millionths 50 = .ok (.istore_n 1, 1) := by decide +kernel
theorem dX12_millionths_51 : decode cX12_millionths 51 = .ok (.lload_n 2, 1) := by decide +kernel
theorem dX12_millionths_52 : decode cX12_millionths 52 = .ok (.aload_n 0, 1) := by decide +kernel
theorem dX12_millionths_53 : decode cX12_millionths 53 = .ok (.getfield 232, 3) := by decide +kernel
theorem dX12_millionths_56 : decode cX12_millionths 56 = .ok (.lrem, 1) := by decide +kernel
theorem dX12_millionths_57 : decode cX12_millionths 57 = .ok (.lstore_n 2, 1) := by decide +kernel
theorem dX12_millionths_58 : decode cX12_millionths 58 = .ok (.iinc 4 1, 3) := by decide +kernel
theorem dX12_millionths_61 : decode cX12_millionths 61 = .ok (.goto (-36), 3) := by decide +kernel
theorem dX12_millionths_64 : decode cX12_millionths 64 = .ok (.iload_n 1, 1) := by decide +kernel
theorem dX12_millionths_65 : decode cX12_millionths 65 = .ok (.ireturn, 1) := by decide +kernel
theorem dX12_look_0 : decode cX12_look 0 = .ok (.iload_n 2, 1) := by decide +kernel
theorem dX12_look_1 : decode cX12_look 1 = .ok (.invokestatic 188, 3) := by decide +kernel
theorem dX12_look_4 : decode cX12_look 4 = .ok (.ifCond .ne 8, 3) := by decide +kernel
theorem dX12_look_7 : decode cX12_look 7 = .ok (.bipush (-3), 2) := by decide +kernel
theorem dX12_look_9 : decode cX12_look 9 = .ok (.goto 9, 3) := by decide +kernel
theorem dX12_look_12 : decode cX12_look 12 = .ok (.aload_n 0, 1) := by decide +kernel
theorem dX12_look_13 : decode cX12_look 13 = .ok (.iload_n 1, 1) := by decide +kernel
theorem dX12_look_14 : decode cX12_look 14 = .ok (.iconst 3, 1) := by decide +kernel
theorem dX12_look_15 : decode cX12_look 15 = .ok (.invokevirtual 119, 3) := by decide +kernel
theorem dX12_look_18 : decode cX12_look 18 = .ok (.istore_n 3, 1) := by decide +kernel
theorem dX12_look_19 : decode cX12_look 19 = .ok (.iload_n 3, 1) := by decide +kernel
theorem dX12_look_20 : decode cX12_look 20 = .ok (.ifCond .ne 42, 3) := by decide +kernel
theorem dX12_look_23 : decode cX12_look 23 = .ok (.aload_n 0, 1) := by decide +kernel
theorem dX12_look_24 : decode cX12_look 24 = .ok (.iload_n 1, 1) := by decide +kernel
theorem dX12_look_25 : decode cX12_look 25 = .ok (.bipush 90, 2) := by decide +kernel
theorem dX12_look_27 : decode cX12_look 27 = .ok (.aload_n 0, 1) := by decide +kernel
theorem dX12_look_28 : decode cX12_look 28 = .ok (.iload_n 1, 1) := by decide +kernel
theorem dX12_look_29 : decode cX12_look 29 = .ok (.bipush 77, 2) := by decide +kernel
theorem dX12_look_31 : decode cX12_look 31 = .ok (.invokevirtual 43, 3) := by decide +kernel
theorem dX12_look_34 : decode cX12_look 34 = .ok (.iadd, 1) := by decide +kernel
theorem dX12_look_35 : decode cX12_look 35 = .ok (.invokevirtual 43, 3) := by decide +kernel
theorem dX12_look_38 : decode cX12_look 38 = .ok (.ifCond .eq 21, 3) := by decide +kernel
theorem dX12_look_41 : decode cX12_look 41 = .ok (.aload_n 0, 1) := by decide +kernel
theorem dX12_look_42 : decode cX12_look 42 = .ok (.iload_n 1, 1) := by decide +kernel
theorem dX12_look_43 : decode cX12_look 43 = .ok (.bipush 90, 2) := by decide +kernel
theorem dX12_look_45 : decode cX12_look 45 = .ok (.aload_n 0, 1) := by decide +kernel
theorem dX12_look_46 : decode cX12_look 46 = .ok (.iload_n 1, 1) := by decide +kernel
theorem dX12_look_47 : decode cX12_look 47 = .ok (.bipush 78, 2) := by decide +kernel
theorem dX12_look_49 : decode cX12_look 49 = .ok (.invokevirtual 43, 3) := by decide +kernel
theorem dX12_look_52 : decode cX12_look 52 = .ok (.iadd, 1) := by decide +kernel
theorem dX12_look_53 : decode cX12_look 53 = .ok (.invokevirtual 43, 3) := by decide +kernel
theorem dX12_look_56 : decode cX12_look 56 = .ok (.ifCond .ne 6, 3) := by decide +kernel
theorem dX12_look_59 : decode cX12_look 59 = .ok (.bipush (-2), 2) := by decide +kernel
theorem dX12_look_61 : decode cX12_look 61 = .ok (.istore_n 3, 1) := by decide +kernel
theorem dX12_look_62 : decode cX12_look 62 = .ok (.iload_n 3, 1) := by decide +kernel
theorem dX12_look_63 : decode cX12_look 63 = .ok (.ifCond .ne 16, 3) := by decide +kernel
theorem dX12_look_66 : decode cX12_look 66 = .ok (.aload_n 0, 1) := by decide +kernel
theorem dX12_look_67 : decode cX12_look 67 = .ok (.iload_n 1, 1) := by decide +kernel
theorem dX12_look_68 : decode cX12_look 68 = .ok (.bipush 82, 2) := by decide +kernel
theorem dX12_look_70 : decode cX12_look 70 = .ok (.invokevirtual 43, 3) := by decide +kernel
theorem dX12_look_73 : decode cX12_look 73 = .ok (.ifCond .le 6, 3) := by decide +kernel
theorem dX12_look_76 : decode cX12_look 76 = .ok (.bipush (-12), 2) := by decide +kernel
theorem dX12_look_78 : decode cX12_look 78 = .ok (.istore_n 3, 1) := by decide +kernel
theorem dX12_look_79 : decode cX12_look 79 = .ok (.iload_n 3, 1) := by decide +kernel
theorem dX12_look_80 : decode cX12_look 80 = .ok (.ifCond .eq 9, 3) := by decide +kernel
theorem dX12_look_83 : decode cX12_look 83 = .ok (.aload_n 0, 1) := by decide +kernel
theorem dX12_look_84 : decode cX12_look 84 = .ok (.iload_n 3, 1) := by decide +kernel
theorem dX12_look_85 : decode cX12_look 85 = .ok (.invokevirtual 72, 3) := by decide +kernel
theorem dX12_look_88 : decode cX12_look 88 = .ok (.ireturn, 1) := by decide +kernel
theorem dX12_look_89 : decode cX12_look 89 = .ok (.aload_n 0, 1) := by decide +kernel
theorem dX12_look_90 : decode cX12_look 90 = .ok (.iload_n 1, 1) := by decide +kernel
theorem dX12_look_91 : decode cX12_look 91 = .ok (.iload_n 2, 1) := by decide +kernel
theorem dX12_look_92 : decode cX12_look 92 = .ok (.invokevirtual 240, 3) := by decide +kernel
theorem dX12_look_95 : decode cX12_look 95 = .ok (.aload_n 0, 1) := by decide +kernel
theorem dX12_look_96 : decode cX12_look 96 = .ok (.getfield 213, 3) := by decide +kernel
theorem dX12_look_99 : decode cX12_look 99 = .ok (.ifCond .eq 10, 3) := by decide +kernel
theorem dX12_look_102 : decode cX12_look 102 = .ok (.aload_n 0, 1) := by decide +kernel
theorem dX12_look_103 : decode cX12_look 103 = .ok (.getfield 216, 3) := by decide +kernel
theorem dX12_look_106 : decode cX12_look 106 = .ok (.ifCond .ne 10, 3) := by decide +kernel
theorem dX12_look_109 : decode cX12_look 109 = .ok (.aload_n 0, 1) := by decide +kernel
theorem dX12_look_110 : decode cX12_look 110 = .ok (.bipush (-8), 2) := by decide +kernel
theorem dX12_look_112 : decode cX12_look 112 = .ok (.invokevirtual 72, 3) := by decide +kernel
theorem dX12_look_115 : decode cX12_look 115 = .ok (.ireturn, 1) := by decide +kernel
theorem dX12_look_116 : decode cX12_look 116 = .ok (.aload_n 0, 1) := by decide +kernel
theorem dX12_look_117 : decode cX12_look 117 = .ok (.getfield 213, 3) := by decide +kernel
theorem dX12_look_120 : decode cX12_look 120 = .ok (.bipush 30, 2) := by decide +kernel
theorem dX12_look_122 : decode cX12_look 122 = .ok (.if_icmp .gt 12, 3) := by decide +kernel
theorem dX12_look_125 : decode cX12_look 125 = .ok (.aload_n 0, 1) := by decide +kernel
theorem dX12_look_126 : decode cX12_look 126 = .ok (.getfield 216, 3) := by decide +kernel
theorem dX12_look_129 : decode cX12_look 129 = .ok (.bipush 30, 2) := by decide +kernel
theorem dX12_look_131 : decode cX12_look 131 = .ok (.if_icmp .le 10, 3) := by decide +kernel
theorem dX12_look_134 : decode cX12_look 134 = .ok (.aload_n 0, 1) := by decide +kernel
theorem dX12_look_135 : decode cX12_look 135 = .ok (.bipush (-13), 2) := by decide +kernel
theorem dX12_look_137 : decode cX12_look 137 = .ok (.invokevirtual 72, 3) := by decide +kernel
theorem dX12_look_140 : decode cX12_look 140 = .ok (.ireturn, 1) := by decide +kernel
theorem dX12_look_141 : decode cX12_look 141 = .ok (.aload_n 0, 1) := by decide +kernel
theorem dX12_look_142 : decode cX12_look 142 = .ok (.invokevirtual 243, 3) := by decide +kernel
theorem dX12_look_145 : decode cX12_look 145 = .ok (.aload_n 0, 1) := by decide +kernel
theorem dX12_look_146 : decode cX12_look 146 = .ok (.iload_n 1, 1) := by decide +kernel
theorem dX12_look_147 : decode cX12_look 147 = .ok (.bipush 81, 2) := by decide +kernel
theorem dX12_look_149 : decode cX12_look 149 = .ok (.aload_n 0, 1) := by decide +kernel
theorem dX12_look_150 : decode cX12_look 150 = .ok (.iload_n 1, 1) := by decide +kernel
theorem dX12_look_151 : decode cX12_look 151 = .ok (.bipush 81, 2) := by decide +kernel
theorem dX12_look_153 : decode cX12_look 153 = .ok (.invokevirtual 43, 3) := by decide +kernel
theorem dX12_look_156 : decode cX12_look 156 = .ok (.iconst 1, 1) := by decide +kernel
theorem dX12_look_157 : decode cX12_look 157 = .ok (.iadd, 1) := by decide +kernel
theorem dX12_look_158 : decode cX12_look 158 = .ok (.invokevirtual 125, 3) := by decide +kernel
theorem dX12_look_161 : decode cX12_look 161 = .ok (.aload_n 0, 1) := by decide +kernel
theorem dX12_look_162 : decode cX12_look 162 = .ok (.iload_n 1, 1) := by decide +kernel
theorem dX12_look_163 : decode cX12_look 163 = .ok (.bipush 83, 2) := by decide +kernel
theorem dX12_look_165 : decode cX12_look 165 = .ok (.aload_n 0, 1) := by decide +kernel
theorem dX12_look_166 : decode cX12_look 166 = .ok (.invokevirtual 246, 3) := by decide +kernel
theorem dX12_look_169 : decode cX12_look 169 = .ok (.invokevirtual 125, 3) := by decide +kernel
theorem dX12_look_172 : decode cX12_look 172 = .ok (.aload_n 0, 1) := by decide +kernel
theorem dX12_look_173 : decode cX12_look 173 = .ok (.iload_n 1, 1) := by decide +kernel
theorem dX12_look_174 : decode cX12_look 174 = .ok (.bipush 84, 2) := by decide +kernel
theorem dX12_look_176 : decode cX12_look 176 = .ok (.aload_n 0, 1) := by decide +kernel
theorem dX12_look_177 : decode cX12_look 177 = .ok (.getfield 213, 3) := by decide +kernel
theorem dX12_look_180 : decode cX12_look 180 = .ok (.invokevirtual 125, 3) := by decide +kernel
theorem dX12_look_183 : decode cX12_look 183 = .ok (.aload_n 0, 1) := by decide +kernel
theorem dX12_look_184 : decode cX12_look 184 = .ok (.iload_n 1, 1) := by decide +kernel
theorem dX12_look_185 : decode cX12_look 185 = .ok (.bipush 85, 2) := by decide +kernel
theorem dX12_look_187 : decode cX12_look 187 = .ok (.aload_n 0, 1) := by decide +kernel
theorem dX12_look_188 : decode cX12_look 188 = .ok (.getfield 216, 3) := by decide +kernel
theorem dX12_look_191 : decode cX12_look 191 = .ok (.invokevirtual 125, 3) := by decide +kernel
theorem dX12_look_194 : decode cX12_look 194 = .ok (.aload_n 0, 1) := by decide +kernel
theorem dX12_look_195 : decode cX12_look 195 = .ok (.iload_n 1, 1) := by decide +kernel
theorem dX12_look_196 : decode cX12_look 196 = .ok (.bipush 86, 2) := by decide +kernel
theorem dX12_look_198 : decode cX12_look 198 = .ok (.aload_n 0, 1) := by decide +kernel
theorem dX12_look_199 : decode cX12_look 199 = .ok (.getfield 219, 3) := by decide +kernel
theorem dX12_look_202 : decode cX12_look 202 = .ok (.invokevirtual 125, 3) := by decide +kernel
theorem dX12_look_205 : decode cX12_look 205 = .ok (.aload_n 0, 1) := by decide +kernel
theorem dX12_look_206 : decode cX12_look 206 = .ok (.iload_n 1, 1) := by decide +kernel
theorem dX12_look_207 : decode cX12_look 207 = .ok (.bipush 87, 2) := by decide +kernel
theorem dX12_look_209 : decode cX12_look 209 = .ok (.aload_n 0, 1) := by decide +kernel
theorem dX12_look_210 : decode cX12_look 210 = .ok (.getfield 222, 3) := by decide +kernel
theorem dX12_look_213 : decode cX12_look 213 = .ok (.invokevirtual 125, 3) := by decide +kernel
theorem dX12_look_216 : decode cX12_look 216 = .ok (.aload_n 0, 1) := by decide +kernel
theorem dX12_look_217 : decode cX12_look 217 = .ok (.getfield 219, 3) := by decide +kernel
theorem dX12_look_220 : decode cX12_look 220 = .ok (.aload_n 0, 1) := by decide +kernel
theorem dX12_look_221 : decode cX12_look 221 = .ok (.getfield 216, 3) := by decide +kernel
theorem dX12_look_224 : decode cX12_look 224 = .ok (.imul, 1) := by decide +kernel
theorem dX12_look_225 : decode cX12_look 225 = .ok (.aload_n 0, 1) := by decide +kernel
theorem dX12_look_226 : decode cX12_look 226 = .ok (.getfield 222, 3) := by decide +kernel
theorem dX12_look_229 : decode cX12_look 229 = .ok (.aload_n 0, 1) := by decide +kernel
theorem dX12_look_230 : decode cX12_look 230 = .ok (.getfield 213, 3) := by decide +kernel
theorem dX12_look_233 : decode cX12_look 233 = .ok (.imul, 1) := by decide +kernel
theorem dX12_look_234 : decode cX12_look 234 = .ok (.isub, 1) := by decide +kernel
theorem dX12_look_235 : decode cX12_look 235 = .ok (.istore 4, 2) := by decide +kernel
theorem dX12_look_237 : decode cX12_look 237 = .ok (.aload_n 0, 1) := by decide +kernel
theorem dX12_look_238 : decode cX12_look 238 = .ok (.getfield 225, 3) := by decide +kernel
theorem dX12_look_241 : decode cX12_look 241 = .ok (.ldc2_w 89, 3) := by decide +kernel
theorem dX12_look_244 : decode cX12_look 244 = .ok (.aload_n 0, 1) := by decide +kernel
theorem dX12_look_245 : decode cX12_look 245 = .ok (.iload_n 1, 1) := by decide +kernel
theorem dX12_look_246 : decode cX12_look 246 = .ok (.bipush 80, 2) := by decide +kernel
theorem dX12_look_248 : decode cX12_look 248 = .ok (.invokevirtual 43, 3) := by decide +kernel
theorem dX12_look_251 : decode cX12_look 251 = .ok (.i2l, 1) := by decide +kernel
theorem dX12_look_252 : decode cX12_look 252 = .ok (.lmul, 1) := by decide +kernel
theorem dX12_look_253 : decode cX12_look 253 = .ok (.aload_n 0, 1) := by decide +kernel
theorem dX12_look_254 : decode cX12_look 254 = .ok (.getfield 232, 3) := by decide +kernel
theorem dX12_look_257 : decode cX12_look 257 = .ok (.aload_n 0, 1) := by decide +kernel
theorem dX12_look_258 : decode cX12_look 258 = .ok (.iload_n 1, 1) := by decide +kernel
theorem dX12_look_259 : decode cX12_look 259 = .ok (.bipush 79, 2) := by decide +kernel
theorem dX12_look_261 : decode cX12_look 261 = .ok (.invokevirtual 43, 3) := by decide +kernel
theorem dX12_look_264 : decode cX12_look 264 = .ok (.i2l, 1) := by decide +kernel
theorem dX12_look_265 : decode cX12_look 265 = .ok (.invokestatic 250, 3) := by decide +kernel
theorem dX12_look_268 : decode cX12_look 268 = .ok (.ifCond .ne 7, 3) := by decide +kernel
theorem dX12_look_271 : decode cX12_look 271 = .ok (.iconst 1, 1) := by decide +kernel
theorem dX12_look_272 : decode cX12_look 272 = .ok (.goto 4, 3) := by decide +kernel
theorem dX12_look_275 : decode cX12_look 275 = .ok (.iconst 0, 1) := by decide +kernel
theorem dX12_look_276 : decode cX12_look 276 = .ok (.istore 5, 2) := by decide +kernel
theorem dX12_look_278 : decode cX12_look 278 = .ok (.iload 5, 2) := by decide +kernel
theorem dX12_look_280 : decode cX12_look 280 = .ok (.ifCond .eq 25, 3) := by decide +kernel
theorem dX12_look_283 : decode cX12_look 283 = .ok (.iload 4, 2) := by decide +kernel
theorem dX12_look_285 : decode cX12_look 285 = .ok (.ifCond .le 7, 3) := by decide +kernel
theorem dX12_look_288 : decode cX12_look 288 = .ok (.iconst 1, 1) := by decide +kernel
theorem dX12_look_289 : decode cX12_look 289 = .ok (.goto 38, 3) := by decide +kernel
theorem dX12_look_292 : decode cX12_look 292 = .ok (.iload 4, 2) := by decide +kernel
theorem dX12_look_294 : decode cX12_look 294 = .ok (.ifCond .ge 7, 3) := by decide +kernel
theorem dX12_look_297 : decode cX12_look 297 = .ok (.iconst 2, 1) := by decide +kernel
theorem dX12_look_298 : decode cX12_look 298 = .ok (.goto 29, 3) := by decide +kernel
theorem dX12_look_301 : decode cX12_look 301 = .ok (.iconst 3, 1) := by decide +kernel
theorem dX12_look_302 : decode cX12_look 302 = .ok (.goto 25, 3) := by decide +kernel
theorem dX12_look_305 : decode cX12_look 305 = .ok (.aload_n 0, 1) := by decide +kernel
theorem dX12_look_306 : decode cX12_look 306 = .ok (.iload_n 1, 1) := by decide +kernel
theorem dX12_look_307 : decode cX12_look 307 = .ok (.bipush 81, 2) := by decide +kernel
theorem dX12_look_309 : decode cX12_look 309 = .ok (.invokevirtual 43, 3) := by decide +kernel
theorem dX12_look_312 : decode cX12_look 312 = .ok (.aload_n 0, 1) := by decide +kernel
theorem dX12_look_313 : decode cX12_look 313 = .ok (.iload_n 1, 1) := by decide +kernel
theorem dX12_look_314 : decode cX12_look 314 = .ok (.bipush 80, 2) := by decide +kernel
theorem dX12_look_316 : decode cX12_look 316 = .ok (.invokevirtual 43, 3) := by decide +kernel
theorem dX12_look_319 : decode cX12_look 319 = .ok (.if_icmp .lt 7, 3) := by decide +kernel
theorem dX12_look_322 : decode cX12_look 322 = .ok (.iconst 3, 1) := by decide +kernel
theorem dX12_look_323 : decode cX12_look 323 = .ok (.goto 4, 3) := by decide +kernel
theorem dX12_look_326 : decode cX12_look 326 = .ok (.iconst 0, 1) := by decide +kernel
theorem dX12_look_327 : decode cX12_look 327 = .ok (.istore 6, 2) := by decide +kernel
theorem dX12_look_329 : decode cX12_look 329 = .ok (.aload_n 0, 1) := by decide +kernel
theorem dX12_look_330 : decode cX12_look 330 = .ok (.iload_n 1, 1) := by decide +kernel
theorem dX12_look_331 : decode cX12_look 331 = .ok (.bipush 82, 2) := by decide +kernel
theorem dX12_look_333 : decode cX12_look 333 = .ok (.iload 6, 2) := by decide +kernel
theorem dX12_look_335 : decode cX12_look 335 = .ok (.invokevirtual 125, 3) := by decide +kernel
theorem dX12_look_338 : decode cX12_look 338 = .ok (.iload 6, 2) := by decide +kernel
theorem dX12_look_340 : decode cX12_look 340 = .ok (.ireturn, 1) := by decide +kernel
theorem dX12_trialTold_0 : decode cX12_trialTold 0 = .ok (.aload_n 0, 1) := by decide +kernel
theorem dX12_trialTold_1 : decode cX12_trialTold 1 = .ok (.iload_n 1, 1) := by decide +kernel
theorem dX12_trialTold_2 : decode cX12_trialTold 2 = .ok (.iconst 3, 1) := by decide +kernel
theorem dX12_trialTold_3 : decode cX12_trialTold 3 = .ok (.invokevirtual 119, 3) := by decide +kernel
theorem dX12_trialTold_6 : decode cX12_trialTold 6 = .ok (.istore_n 3, 1) := by decide +kernel
theorem dX12_trialTold_7 : decode cX12_trialTold 7 = .ok (.iload_n 3, 1) := by decide +kernel
theorem dX12_trialTold_8 : decode cX12_trialTold 8 = .ok (.ifCond .eq 9, 3) := by decide +kernel
theorem dX12_trialTold_11 : decode cX12_trialTold 11 = .ok (.aload_n 0, 1) := by decide +kernel
theorem dX12_trialTold_12 : decode cX12_trialTold 12 = .ok (.iload_n 3, 1) := by decide +kernel
theorem dX12_trialTold_13 : decode cX12_trialTold 13 = .ok (.invokevirtual 72, 3) := by decide +kernel
theorem dX12_trialTold_16 : decode cX12_trialTold 16 = .ok (.ireturn, 1) := by decide +kernel
theorem dX12_trialTold_17 : decode cX12_trialTold 17 = .ok (.iload_n 2, 1) := by decide +kernel
theorem dX12_trialTold_18 : decode cX12_trialTold 18 = .ok (.i2l, 1) := by decide +kernel
theorem dX12_trialTold_19 : decode cX12_trialTold 19 = .ok (.lconst 0, 1) := by decide +kernel
theorem dX12_trialTold_20 : decode cX12_trialTold 20 = .ok (.ldc2_w 254, 3) := by decide +kernel
theorem dX12_trialTold_23 : decode cX12_trialTold 23 = .ok (.invokestatic 62, 3) := by decide +kernel
theorem dX12_trialTold_26 : decode cX12_trialTold 26 = .ok (.ifCond .ne 10, 3) := by decide +kernel
theorem dX12_trialTold_29 : decode cX12_trialTold 29 = .ok (.aload_n 0, 1) := by decide +kernel
theorem dX12_trialTold_30 : decode cX12_trialTold 30 = .ok (.bipush (-12), 2) := by decide +kernel
theorem dX12_trialTold_32 : decode cX12_trialTold 32 = .ok (.invokevirtual 72, 3) := by decide +kernel
theorem dX12_trialTold_35 : decode cX12_trialTold 35 = .ok (.ireturn, 1) := by decide +kernel
theorem dX12_trialTold_36 : decode cX12_trialTold 36 = .ok (.aload_n 0, 1) := by decide +kernel
theorem dX12_trialTold_37 : decode cX12_trialTold 37 = .ok (.iload_n 1, 1) := by decide +kernel
theorem dX12_trialTold_38 : decode cX12_trialTold 38 = .ok (.iload_n 2, 1) := by decide +kernel
theorem dX12_trialTold_39 : decode cX12_trialTold 39 = .ok (.iconst 5, 1) := by decide +kernel
theorem dX12_trialTold_40 : decode cX12_trialTold 40 = .ok (.if_icmp .ge 10, 3) := by decide +kernel
theorem dX12_trialTold_43 : decode cX12_trialTold 43 = .ok (.bipush 83, 2) := by decide +kernel
theorem dX12_trialTold_45 : decode cX12_trialTold 45 = .ok (.iload_n 2, 1) := by decide +kernel
theorem dX12_trialTold_46 : decode cX12_trialTold 46 = .ok (.iadd, 1) := by decide +kernel
theorem dX12_trialTold_47 : decode cX12_trialTold 47 = .ok (.goto 15, 3) := by decide +kernel
theorem dX12_trialTold_50 : decode cX12_trialTold 50 = .ok (.iload_n 2, 1) := by decide +kernel
theorem dX12_trialTold_51 : decode cX12_trialTold 51 = .ok (.iconst 5, 1) := by decide +kernel
theorem dX12_trialTold_52 : decode cX12_trialTold 52 = .ok (.if_icmp .ne 8, 3) := by decide +kernel
theorem dX12_trialTold_55 : decode cX12_trialTold 55 = .ok (.bipush 81, 2) := by decide +kernel
theorem dX12_trialTold_57 : decode cX12_trialTold 57 = .ok (.goto 5, 3) := by decide +kernel
theorem dX12_trialTold_60 : decode cX12_trialTold 60 = .ok (.bipush 82, 2) := by decide +kernel
theorem dX12_trialTold_62 : decode cX12_trialTold 62 = .ok (.invokevirtual 43, 3) := by decide +kernel
theorem dX12_trialTold_65 : decode cX12_trialTold 65 = .ok (.ireturn, 1) := by decide +kernel
theorem dX12_whyAmong_0 : decode cX12_whyAmong 0 = .ok (.iload_n 2, 1) := by decide +kernel
theorem dX12_whyAmong_1 : decode cX12_whyAmong 1 = .ok (.ifCond .ge 6, 3) := by decide +kernel
theorem dX12_whyAmong_4 : decode cX12_whyAmong 4 = .ok (.bipush (-4), 2) := by decide +kernel
theorem dX12_whyAmong_6 : decode cX12_whyAmong 6 = .ok (.ireturn, 1) := by decide +kernel
theorem dX12_whyAmong_7 : decode cX12_whyAmong 7 = .ok (.iload_n 2, 1) := by decide +kernel
theorem dX12_whyAmong_8 : decode cX12_whyAmong 8 = .ok (.i2l, 1) := by decide +kernel
theorem dX12_whyAmong_9 : decode cX12_whyAmong 9 = .ok (.lconst 1, 1) := by decide +kernel
theorem dX12_whyAmong_10 : decode cX12_whyAmong 10 = .ok (.ldc2_w 256, 3) := by decide +kernel
theorem dX12_whyAmong_13 : decode cX12_whyAmong 13 = .ok (.invokestatic 62, 3) := by decide +kernel
theorem dX12_whyAmong_16 : decode cX12_whyAmong 16 = .ok (.ifCond .eq 11, 3) := by decide +kernel
theorem dX12_whyAmong_19 : decode cX12_whyAmong 19 = .ok (.iload_n 1, 1) := by decide +kernel
theorem dX12_whyAmong_20 : decode cX12_whyAmong 20 = .ok (.iload_n 2, 1) := by decide +kernel
theorem dX12_whyAmong_21 : decode cX12_whyAmong 21 = .ok (.iadd, 1) := by decide +kernel
theorem dX12_whyAmong_22 : decode cX12_whyAmong 22 = .ok (.ldc 237, 2) := by decide +kernel
theorem dX12_whyAmong_24 : decode cX12_whyAmong 24 = .ok (.if_icmp .le 8, 3) := by decide +kernel
theorem dX12_whyAmong_27 : decode cX12_whyAmong 27 = .ok (.bipush (-12), 2) := by decide +kernel
theorem dX12_whyAmong_29 : decode cX12_whyAmong 29 = .ok (.goto 4, 3) := by decide +kernel
theorem dX12_whyAmong_32 : decode cX12_whyAmong 32 = .ok (.iconst 0, 1) := by decide +kernel
theorem dX12_whyAmong_33 : decode cX12_whyAmong 33 = .ok (.ireturn, 1) := by decide +kernel
theorem dX12_isNumber_0 : decode cX12_isNumber 0 = .ok (.iload_n 0, 1) := by decide +kernel
theorem dX12_isNumber_1 : decode cX12_isNumber 1 = .ok (.ifCond .lt 14, 3) := by decide +kernel
theorem dX12_isNumber_4 : decode cX12_isNumber 4 = .ok (.iload_n 0, 1) := by decide +kernel
theorem dX12_isNumber_5 : decode cX12_isNumber 5 = .ok (.ldc_w 258, 3) := by decide +kernel
theorem dX12_isNumber_8 : decode cX12_isNumber 8 = .ok (.if_icmp .gt 7, 3) := by decide +kernel
theorem dX12_isNumber_11 : decode cX12_isNumber 11 = .ok (.iconst 1, 1) := by decide +kernel
theorem dX12_isNumber_12 : decode cX12_isNumber 12 = .ok (.goto 4, 3) := by decide +kernel
theorem dX12_isNumber_15 : decode cX12_isNumber 15 = .ok (.iconst 0, 1) := by decide +kernel
theorem dX12_isNumber_16 : decode cX12_isNumber 16 = .ok (.ireturn, 1) := by decide +kernel
theorem dX12_among_0 : decode cX12_among 0 = .ok (.iload_n 2, 1) := by decide +kernel
theorem dX12_among_1 : decode cX12_among 1 = .ok (.i2l, 1) := by decide +kernel
theorem dX12_among_2 : decode cX12_among 2 = .ok (.lconst 0, 1) := by decide +kernel
theorem dX12_among_3 : decode cX12_among 3 = .ok (.ldc2_w 70, 3) := by decide +kernel
theorem dX12_among_6 : decode cX12_among 6 = .ok (.invokestatic 62, 3) := by decide +kernel
theorem dX12_among_9 : decode cX12_among 9 = .ok (.ifCond .eq 10, 3) := by decide +kernel
theorem dX12_among_12 : decode cX12_among 12 = .ok (.iload_n 3, 1) := by decide +kernel
theorem dX12_among_13 : decode cX12_among 13 = .ok (.invokestatic 259, 3) := by decide +kernel
theorem dX12_among_16 : decode cX12_among 16 = .ok (.ifCond .ne 8, 3) := by decide +kernel
theorem dX12_among_19 : decode cX12_among 19 = .ok (.bipush (-3), 2) := by decide +kernel
theorem dX12_among_21 : decode cX12_among 21 = .ok (.goto 9, 3) := by decide +kernel
theorem dX12_among_24 : decode cX12_among 24 = .ok (.aload_n 0, 1) := by decide +kernel
theorem dX12_among_25 : decode cX12_among 25 = .ok (.iload_n 1, 1) := by decide +kernel
theorem dX12_among_26 : decode cX12_among 26 = .ok (.iconst 0, 1) := by decide +kernel
theorem dX12_among_27 : decode cX12_among 27 = .ok (.invokevirtual 119, 3) := by decide +kernel
theorem dX12_among_30 : decode cX12_among 30 = .ok (.istore 5, 2) := by decide +kernel
theorem dX12_among_32 : decode cX12_among 32 = .ok (.iload 5, 2) := by decide +kernel
theorem dX12_among_34 : decode cX12_among 34 = .ok (.ifCond .ne 12, 3) := by decide +kernel
theorem dX12_among_37 : decode cX12_among 37 = .ok (.aload_n 0, 1) := by decide +kernel
theorem dX12_among_38 : decode cX12_among 38 = .ok (.iload_n 3, 1) := by decide +kernel
theorem dX12_among_39 : decode cX12_among 39 = .ok (.iload 4, 2) := by decide +kernel
theorem dX12_among_41 : decode cX12_among 41 = .ok (.invokevirtual 262, 3) := by decide +kernel
theorem dX12_among_44 : decode cX12_among 44 = .ok (.istore 5, 2) := by decide +kernel
theorem dX12_among_46 : decode cX12_among 46 = .ok (.iload 5, 2) := by decide +kernel
theorem dX12_among_48 : decode cX12_among 48 = .ok (.ifCond .eq 10, 3) := by decide +kernel
theorem dX12_among_51 : decode cX12_among 51 = .ok (.aload_n 0, 1) := by decide +kernel
theorem dX12_among_52 : decode cX12_among 52 = .ok (.iload 5, 2) := by decide +kernel
theorem dX12_among_54 : decode cX12_among 54 = .ok (.invokevirtual 72, 3) := by decide +kernel
theorem dX12_among_57 : decode cX12_among 57 = .ok (.ireturn, 1) := by decide +kernel
theorem dX12_among_58 : decode cX12_among 58 = .ok (.aload_n 0, 1) := by decide +kernel
theorem dX12_among_59 : decode cX12_among 59 = .ok (.getfield 76, 3) := by decide +kernel
theorem dX12_among_62 : decode cX12_among 62 = .ok (.istore 6, 2) := by decide +kernel
theorem dX12_among_64 : decode cX12_among 64 = .ok (.iconst 0, 1) := by decide +kernel
theorem dX12_among_65 : decode cX12_among 65 = .ok (.istore 7, 2) := by decide +kernel
theorem dX12_among_67 : decode cX12_among 67 = .ok (.aload_n 0, 1) := by decide +kernel
theorem dX12_among_68 : decode cX12_among 68 = .ok (.iload_n 3, 1) := by decide +kernel
theorem dX12_among_69 : decode cX12_among 69 = .ok (.putfield 76, 3) := by decide +kernel
theorem dX12_among_72 : decode cX12_among 72 = .ok (.aload_n 0, 1) := by decide +kernel
theorem dX12_among_73 : decode cX12_among 73 = .ok (.getfield 76, 3) := by decide +kernel
theorem dX12_among_76 : decode cX12_among 76 = .ok (.iload_n 3, 1) := by decide +kernel
theorem dX12_among_77 : decode cX12_among 77 = .ok (.iload 4, 2) := by decide +kernel
theorem dX12_among_79 : decode cX12_among 79 = .ok (.iadd, 1) := by decide +kernel
theorem dX12_among_80 : decode cX12_among 80 = .ok (.if_icmp .ge 40, 3) := by decide +kernel
theorem dX12_among_83 : decode cX12_among 83 = .ok (.aload_n 0, 1) := by decide +kernel
theorem dX12_among_84 : decode cX12_among 84 = .ok (.invokevirtual 122, 3) := by decide +kernel
theorem dX12_among_87 : decode cX12_among 87 = .ok (.iload 7, 2) := by decide +kernel
theorem dX12_among_89 : decode cX12_among 89 = .ok (.aload_n 0, 1) := by decide +kernel
theorem dX12_among_90 : decode cX12_among 90 = .ok (.getfield 30, 3) := by decide +kernel
theorem dX12_among_93 : decode cX12_among 93 = .ok (.iload_n 1, 1) := by decide +kernel
theorem dX12_among_94 : decode cX12_among 94 = .ok (.iaload, 1) := by decide +kernel
theorem dX12_among_95 : decode cX12_among 95 = .ok (.iload_n 2, 1) := by decide +kernel
theorem dX12_among_96 : decode cX12_among 96 = .ok (.if_icmp .ne 7, 3) := by decide +kernel
theorem dX12_among_99 : decode cX12_among 99 = .ok (.iconst 1, 1) := by decide +kernel
theorem dX12_among_100 : decode cX12_among 100 = .ok (.goto 4, 3) := by decide +kernel
theorem dX12_among_103 : decode cX12_among 103 = .ok (.iconst 0, 1) := by decide +kernel
theorem dX12_among_104 : decode cX12_among 104 = .ok (.iadd, 1) := by decide +kernel
theorem dX12_among_105 : decode cX12_among 105 = .ok (.istore 7, 2) := by decide +kernel
theorem dX12_among_107 : decode cX12_among 107 = .ok (.aload_n 0, 1) := by decide +kernel
theorem dX12_among_108 : decode cX12_among 108 = .ok (.dup, 1) := by decide +kernel
theorem dX12_among_109 : decode cX12_among 109 = .ok (.getfield 76, 3) := by decide +kernel
theorem dX12_among_112 : decode cX12_among 112 = .ok (.iconst 1, 1) := by decide +kernel
theorem dX12_among_113 : decode cX12_among 113 = .ok (.iadd, 1) := by decide +kernel
theorem dX12_among_114 : decode cX12_among 114 = .ok (.putfield 76, 3) := by decide +kernel
theorem dX12_among_117 : decode cX12_among 117 = .ok (.goto (-45), 3) := by decide +kernel
theorem dX12_among_120 : decode cX12_among 120 = .ok (.aload_n 0, 1) := by decide +kernel
theorem dX12_among_121 : decode cX12_among 121 = .ok (.iload 6, 2) := by decide +kernel
theorem dX12_among_123 : decode cX12_among 123 = .ok (.putfield 76, 3) := by decide +kernel
theorem dX12_among_126 : decode cX12_among 126 = .ok (.iload 7, 2) := by decide +kernel
theorem dX12_among_128 : decode cX12_among 128 = .ok (.ireturn, 1) := by decide +kernel
theorem dX12_both_0 : decode cX12_both 0 = .ok (.iload_n 3, 1) := by decide +kernel
theorem dX12_both_1 : decode cX12_both 1 = .ok (.invokestatic 259, 3) := by decide +kernel
theorem dX12_both_4 : decode cX12_both 4 = .ok (.ifCond .ne 8, 3) := by decide +kernel
theorem dX12_both_7 : decode cX12_both 7 = .ok (.bipush (-3), 2) := by decide +kernel
theorem dX12_both_9 : decode cX12_both 9 = .ok (.goto 10, 3) := by decide +kernel
theorem dX12_both_12 : decode cX12_both 12 = .ok (.aload_n 0, 1) := by decide +kernel
theorem dX12_both_13 : decode cX12_both 13 = .ok (.iload_n 1, 1) := by decide +kernel
theorem dX12_both_14 : decode cX12_both 14 = .ok (.iload_n 2, 1) := by decide +kernel
theorem dX12_both_15 : decode cX12_both 15 = .ok (.iconst 0, 1) := by decide +kernel
theorem dX12_both_16 : decode cX12_both 16 = .ok (.invokevirtual 163, 3) := by decide +kernel
theorem dX12_both_19 : decode cX12_both 19 = .ok (.istore 5, 2) := by decide +kernel
theorem dX12_both_21 : decode cX12_both 21 = .ok (.iload 5, 2) := by decide +kernel
theorem dX12_both_23 : decode cX12_both 23 = .ok (.ifCond .ne 12, 3) := by decide +kernel
theorem dX12_both_26 : decode cX12_both 26 = .ok (.aload_n 0, 1) := by decide +kernel
theorem dX12_both_27 : decode cX12_both 27 = .ok (.iload_n 3, 1) := by decide +kernel
theorem dX12_both_28 : decode cX12_both 28 = .ok (.iload 4, 2) := by decide +kernel
theorem dX12_both_30 : decode cX12_both 30 = .ok (.invokevirtual 262, 3) := by decide +kernel
theorem dX12_both_33 : decode cX12_both 33 = .ok (.istore 5, 2) := by decide +kernel
theorem dX12_both_35 : decode cX12_both 35 = .ok (.iload 5, 2) := by decide +kernel
theorem dX12_both_37 : decode cX12_both 37 = .ok (.ifCond .eq 10, 3) := by decide +kernel
theorem dX12_both_40 : decode cX12_both 40 = .ok (.aload_n 0, 1) := by decide +kernel
theorem dX12_both_41 : decode cX12_both 41 = .ok (.iload 5, 2) := by decide +kernel
theorem dX12_both_43 : decode cX12_both 43 = .ok (.invokevirtual 72, 3) := by decide +kernel
theorem dX12_both_46 : decode cX12_both 46 = .ok (.ireturn, 1) := by decide +kernel
theorem dX12_both_47 : decode cX12_both 47 = .ok (.aload_n 0, 1) := by decide +kernel
theorem dX12_both_48 : decode cX12_both 48 = .ok (.getfield 76, 3) := by decide +kernel
theorem dX12_both_51 : decode cX12_both 51 = .ok (.istore 6, 2) := by decide +kernel
theorem dX12_both_53 : decode cX12_both 53 = .ok (.iconst 0, 1) := by decide +kernel
theorem dX12_both_54 : decode cX12_both 54 = .ok (.istore 7, 2) := by decide +kernel
theorem dX12_both_56 : decode cX12_both 56 = .ok (.aload_n 0, 1) := by decide +kernel
theorem dX12_both_57 : decode cX12_both 57 = .ok (.iload_n 3, 1) := by decide +kernel
theorem dX12_both_58 : decode cX12_both 58 = .ok (.putfield 76, 3) := by decide +kernel
theorem dX12_both_61 : decode cX12_both 61 = .ok (.aload_n 0, 1) := by decide +kernel
theorem dX12_both_62 : decode cX12_both 62 = .ok (.getfield 76, 3) := by decide +kernel
theorem dX12_both_65 : decode cX12_both 65 = .ok (.iload_n 3, 1) := by decide +kernel
theorem dX12_both_66 : decode cX12_both 66 = .ok (.iload 4, 2) := by decide +kernel
theorem dX12_both_68 : decode cX12_both 68 = .ok (.iadd, 1) := by decide +kernel
theorem dX12_both_69 : decode cX12_both 69 = .ok (.if_icmp .ge 50, 3) := by decide +kernel
theorem dX12_both_72 : decode cX12_both 72 = .ok (.aload_n 0, 1) := by decide +kernel
theorem dX12_both_73 : decode cX12_both 73 = .ok (.invokevirtual 122, 3) := by decide +kernel
theorem dX12_both_76 : decode cX12_both 76 = .ok (.iload 7, 2) := by decide +kernel
theorem dX12_both_78 : decode cX12_both 78 = .ok (.aload_n 0, 1) := by decide +kernel
theorem dX12_both_79 : decode cX12_both 79 = .ok (.getfield 30, 3) := by decide +kernel
theorem dX12_both_82 : decode cX12_both 82 = .ok (.iload_n 1, 1) := by decide +kernel
theorem dX12_both_83 : decode cX12_both 83 = .ok (.iaload, 1) := by decide +kernel
theorem dX12_both_84 : decode cX12_both 84 = .ok (.iconst 1, 1) := by decide +kernel
theorem dX12_both_85 : decode cX12_both 85 = .ok (.if_icmp .ne 17, 3) := by decide +kernel
theorem dX12_both_88 : decode cX12_both 88 = .ok (.aload_n 0, 1) := by decide +kernel
theorem dX12_both_89 : decode cX12_both 89 = .ok (.getfield 30, 3) := by decide +kernel
theorem dX12_both_92 : decode cX12_both 92 = .ok (.iload_n 2, 1) := by decide +kernel
theorem dX12_both_93 : decode cX12_both 93 = .ok (.iaload, 1) := by decide +kernel
theorem dX12_both_94 : decode cX12_both 94 = .ok (.iconst 1, 1) := by decide +kernel
theorem dX12_both_95 : decode cX12_both 95 = .ok (.if_icmp .ne 7, 3) := by decide +kernel
theorem dX12_both_98 : decode cX12_both 98 = .ok (.iconst 1, 1) := by decide +kernel
theorem dX12_both_99 : decode cX12_both 99 = .ok (.goto 4, 3) := by decide +kernel
theorem dX12_both_102 : decode cX12_both 102 = .ok (.iconst 0, 1) := by decide +kernel
theorem dX12_both_103 : decode cX12_both 103 = .ok (.iadd, 1) := by decide +kernel
theorem dX12_both_104 : decode cX12_both 104 = .ok (.istore 7, 2) := by decide +kernel
theorem dX12_both_106 : decode cX12_both 106 = .ok (.aload_n 0, 1) := by decide +kernel
theorem dX12_both_107 : decode cX12_both 107 = .ok (.dup, 1) := by decide +kernel
theorem dX12_both_108 : decode cX12_both 108 = .ok (.getfield 76, 3) := by decide +kernel
theorem dX12_both_111 : decode cX12_both 111 = .ok (.iconst 1, 1) := by decide +kernel
theorem dX12_both_112 : decode cX12_both 112 = .ok (.iadd, 1) := by decide +kernel
theorem dX12_both_113 : decode cX12_both 113 = .ok (.putfield 76, 3) := by decide +kernel
theorem dX12_both_116 : decode cX12_both 116 = .ok (.goto (-55), 3) := by decide +kernel
theorem dX12_both_119 : decode cX12_both 119 = .ok (.aload_n 0, 1) := by decide +kernel
theorem dX12_both_120 : decode cX12_both 120 = .ok (.iload 6, 2) := by decide +kernel
theorem dX12_both_122 : decode cX12_both 122 = .ok (.putfield 76, 3) := by decide +kernel
theorem dX12_both_125 : decode cX12_both 125 = .ok (.iload 7, 2) := by decide +kernel
theorem dX12_both_127 : decode cX12_both 127 = .ok (.ireturn, 1) := by decide +kernel
theorem dX12_moves_0 : decode cX12_moves 0 = .ok (.iload_n 3, 1) := by decide +kernel
theorem dX12_moves_1 : decode cX12_moves 1 = .ok (.invokestatic 259, 3) := by decide +kernel
theorem dX12_moves_4 : decode cX12_moves 4 = .ok (.ifCond .ne 8, 3) := by decide +kernel
theorem dX12_moves_7 : decode cX12_moves 7 = .ok (.bipush (-3), 2) := by decide +kernel
theorem dX12_moves_9 : decode cX12_moves 9 = .ok (.goto 9, 3) := by decide +kernel
theorem dX12_moves_12 : decode cX12_moves 12 = .ok (.aload_n 0, 1) := by decide +kernel
theorem dX12_moves_13 : decode cX12_moves 13 = .ok (.iload_n 1, 1) := by decide +kernel
theorem dX12_moves_14 : decode cX12_moves 14 = .ok (.iconst 0, 1) := by decide +kernel
theorem dX12_moves_15 : decode cX12_moves 15 = .ok (.invokevirtual 119, 3) := by decide +kernel
theorem dX12_moves_18 : decode cX12_moves 18 = .ok (.istore 5, 2) := by decide +kernel
theorem dX12_moves_20 : decode cX12_moves 20 = .ok (.iload 5, 2) := by decide +kernel
theorem dX12_moves_22 : decode cX12_moves 22 = .ok (.ifCond .ne 12, 3) := by decide +kernel
theorem dX12_moves_25 : decode cX12_moves 25 = .ok (.aload_n 0, 1) := by decide +kernel
theorem dX12_moves_26 : decode cX12_moves 26 = .ok (.iload_n 3, 1) := by decide +kernel
theorem dX12_moves_27 : decode cX12_moves 27 = .ok (.iload 4, 2) := by decide +kernel
theorem dX12_moves_29 : decode cX12_moves 29 = .ok (.invokevirtual 262, 3) := by decide +kernel
theorem dX12_moves_32 : decode cX12_moves 32 = .ok (.istore 5, 2) := by decide +kernel
theorem dX12_moves_34 : decode cX12_moves 34 = .ok (.iload 5, 2) := by decide +kernel
theorem dX12_moves_36 : decode cX12_moves 36 = .ok (.ifCond .ne 51, 3) := by decide +kernel
theorem dX12_moves_39 : decode cX12_moves 39 = .ok (.iload_n 2, 1) := by decide +kernel
theorem dX12_moves_40 : decode cX12_moves 40 = .ok (.i2l, 1) := by decide +kernel
theorem dX12_moves_41 : decode cX12_moves 41 = .ok (.lconst 0, 1) := by decide +kernel
theorem dX12_moves_42 : decode cX12_moves 42 = .ok (.ldc2_w 89, 3) := by decide +kernel
theorem dX12_moves_45 : decode cX12_moves 45 = .ok (.invokestatic 62, 3) := by decide +kernel
theorem dX12_moves_48 : decode cX12_moves 48 = .ok (.ifCond .eq 35, 3) := by decide +kernel
theorem dX12_moves_51 : decode cX12_moves 51 = .ok (.aload_n 0, 1) := by decide +kernel
theorem dX12_moves_52 : decode cX12_moves 52 = .ok (.iload_n 1, 1) := by decide +kernel
theorem dX12_moves_53 : decode cX12_moves 53 = .ok (.bipush 29, 2) := by decide +kernel
theorem dX12_moves_55 : decode cX12_moves 55 = .ok (.invokevirtual 43, 3) := by decide +kernel
theorem dX12_moves_58 : decode cX12_moves 58 = .ok (.iload_n 2, 1) := by decide +kernel
theorem dX12_moves_59 : decode cX12_moves 59 = .ok (.iadd, 1) := by decide +kernel
theorem dX12_moves_60 : decode cX12_moves 60 = .ok (.sipush 10000, 3) := by decide +kernel
theorem dX12_moves_63 : decode cX12_moves 63 = .ok (.if_icmp .gt 20, 3) := by decide +kernel
theorem dX12_moves_66 : decode cX12_moves 66 = .ok (.aload_n 0, 1) := by decide +kernel
theorem dX12_moves_67 : decode cX12_moves 67 = .ok (.iload_n 1, 1) := by decide +kernel
theorem dX12_moves_68 : decode cX12_moves 68 = .ok (.iconst 1, 1) := by decide +kernel
theorem dX12_moves_69 : decode cX12_moves 69 = .ok (.aload_n 0, 1) := by decide +kernel
theorem dX12_moves_70 : decode cX12_moves 70 = .ok (.iload_n 1, 1) := by decide +kernel
theorem dX12_moves_71 : decode cX12_moves 71 = .ok (.bipush 29, 2) := by decide +kernel
theorem dX12_moves_73 : decode cX12_moves 73 = .ok (.invokevirtual 43, 3) := by decide +kernel
theorem dX12_moves_76 : decode cX12_moves 76 = .ok (.iload_n 2, 1) := by decide +kernel
theorem dX12_moves_77 : decode cX12_moves 77 = .ok (.invokevirtual 139, 3) := by decide +kernel
theorem dX12_moves_80 : decode cX12_moves 80 = .ok (.ifCond .eq 7, 3) := by decide +kernel
theorem dX12_moves_83 : decode cX12_moves 83 = .ok (.bipush (-12), 2) := by decide +kernel
theorem dX12_moves_85 : decode cX12_moves 85 = .ok (.istore 5, 2) := by decide +kernel
theorem dX12_moves_87 : decode cX12_moves 87 = .ok (.iload 5, 2) := by decide +kernel
theorem dX12_moves_89 : decode cX12_moves 89 = .ok (.ifCond .eq 10, 3) := by decide +kernel
theorem dX12_moves_92 : decode cX12_moves 92 = .ok (.aload_n 0, 1) := by decide +kernel
theorem dX12_moves_93 : decode cX12_moves 93 = .ok (.iload 5, 2) := by decide +kernel
theorem dX12_moves_95 : decode cX12_moves 95 = .ok (.invokevirtual 72, 3) := by decide +kernel
theorem dX12_moves_98 : decode cX12_moves 98 = .ok (.ireturn, 1) := by decide +kernel
theorem dX12_moves_99 : decode cX12_moves 99 = .ok (.aload_n 0, 1) := by decide +kernel
theorem dX12_moves_100 : decode cX12_moves 100 = .ok (.getfield 76, 3) := by decide +kernel
theorem dX12_moves_103 : decode cX12_moves 103 = .ok (.istore 6, 2) := by decide +kernel
theorem dX12_moves_105 : decode cX12_moves 105 = .ok (.aload_n 0, 1) := by decide +kernel
theorem dX12_moves_106 : decode cX12_moves 106 = .ok (.iload_n 1, 1) := by decide +kernel
theorem dX12_moves_107 : decode cX12_moves 107 = .ok (.bipush 37, 2) := by decide +kernel
theorem dX12_moves_109 : decode cX12_moves 109 = .ok (.invokevirtual 43, 3) := by decide +kernel
theorem dX12_moves_112 : decode cX12_moves 112 = .ok (.istore 7, 2) := by decide +kernel
theorem dX12_moves_114 : decode cX12_moves 114 = .ok (.iconst 0, 1) := by decide +kernel
theorem dX12_moves_115 : decode cX12_moves 115 = .ok (.istore 8, 2) := by decide +kernel
theorem dX12_moves_117 : decode cX12_moves 117 = .ok (.aload_n 0, 1) := by decide +kernel
theorem dX12_moves_118 : decode cX12_moves 118 = .ok (.iload_n 3, 1) := by decide +kernel
theorem dX12_moves_119 : decode cX12_moves 119 = .ok (.putfield 76, 3) := by decide +kernel
theorem dX12_moves_122 : decode cX12_moves 122 = .ok (.aload_n 0, 1) := by decide +kernel
theorem dX12_moves_123 : decode cX12_moves 123 = .ok (.getfield 76, 3) := by decide +kernel
theorem dX12_moves_126 : decode cX12_moves 126 = .ok (.iload_n 3, 1) := by decide +kernel
theorem dX12_moves_127 : decode cX12_moves 127 = .ok (.iload 4, 2) := by decide +kernel
theorem dX12_moves_129 : decode cX12_moves 129 = .ok (.iadd, 1) := by decide +kernel
theorem dX12_moves_130 : decode cX12_moves 130 = .ok (.if_icmp .ge 70, 3) := by decide +kernel
theorem dX12_moves_133 : decode cX12_moves 133 = .ok (.aload_n 0, 1) := by decide +kernel
theorem dX12_moves_134 : decode cX12_moves 134 = .ok (.invokevirtual 122, 3) := by decide +kernel
theorem dX12_moves_137 : decode cX12_moves 137 = .ok (.aload_n 0, 1) := by decide +kernel
theorem dX12_moves_138 : decode cX12_moves 138 = .ok (.getfield 30, 3) := by decide +kernel
theorem dX12_moves_141 : decode cX12_moves 141 = .ok (.iload_n 1, 1) := by decide +kernel
theorem dX12_moves_142 : decode cX12_moves 142 = .ok (.iaload, 1) := by decide +kernel
theorem dX12_moves_143 : decode cX12_moves 143 = .ok (.istore 9, 2) := by decide +kernel
theorem dX12_moves_145 : decode cX12_moves 145 = .ok (.aload_n 0, 1) := by decide +kernel
theorem dX12_moves_146 : decode cX12_moves 146 = .ok (.iload_n 1, 1) := by decide +kernel
theorem dX12_moves_147 : decode cX12_moves 147 = .ok (.bipush 37, 2) := by decide +kernel
theorem dX12_moves_149 : decode cX12_moves 149 = .ok (.iload_n 2, 1) := by decide +kernel
theorem dX12_moves_150 : decode cX12_moves 150 = .ok (.invokevirtual 125, 3) := by decide +kernel
theorem dX12_moves_153 : decode cX12_moves 153 = .ok (.aload_n 0, 1) := by decide +kernel
theorem dX12_moves_154 : decode cX12_moves 154 = .ok (.invokevirtual 122, 3) := by decide +kernel
theorem dX12_moves_157 : decode cX12_moves 157 = .ok (.aload_n 0, 1) := by decide +kernel
theorem dX12_moves_158 : decode cX12_moves 158 = .ok (.iload_n 1, 1) := by decide +kernel
theorem dX12_moves_159 : decode cX12_moves 159 = .ok (.bipush 37, 2) := by decide +kernel
theorem dX12_moves_161 : decode cX12_moves 161 = .ok (.iload 7, 2) := by decide +kernel
theorem dX12_moves_163 : decode cX12_moves 163 = .ok (.invokevirtual 125, 3) := by decide +kernel
theorem dX12_moves_166 : decode cX12_moves 166 = .ok (.iload 8, 2) := by decide +kernel
theorem dX12_moves_168 : decode cX12_moves 168 = .ok (.aload_n 0, 1) := by decide +kernel
theorem dX12_moves_169 : decode cX12_moves 169 = .ok (.getfield 30, 3) := by decide +kernel
theorem dX12_moves_172 : decode cX12_moves 172 = .ok (.iload_n 1, 1) := by decide +kernel
theorem dX12_moves_173 : decode cX12_moves 173 = .ok (.iaload, 1) := by decide +kernel
theorem dX12_moves_174 : decode cX12_moves 174 = .ok (.iload 9, 2) := by decide +kernel
theorem dX12_moves_176 : decode cX12_moves 176 = .ok (.if_icmp .eq 7, 3) := by decide +kernel
theorem dX12_moves_179 : decode cX12_moves 179 = .ok (.iconst 1, 1) := by decide +kernel
theorem dX12_moves_180 : decode cX12_moves 180 = .ok (.goto 4, 3) := by decide +kernel
theorem dX12_moves_183 : decode cX12_moves 183 = .ok (.iconst 0, 1) := by decide +kernel
theorem dX12_moves_184 : decode cX12_moves 184 = .ok (.iadd, 1) := by decide +kernel
theorem dX12_moves_185 : decode cX12_moves 185 = .ok (.istore 8, 2) := by decide +kernel
theorem dX12_moves_187 : decode cX12_moves 187 = .ok (.aload_n 0, 1) := by decide +kernel
theorem dX12_moves_188 : decode cX12_moves 188 = .ok (.dup, 1) := by decide +kernel
theorem dX12_moves_189 : decode cX12_moves 189 = .ok (.getfield 76, 3) := by decide +kernel
theorem dX12_moves_192 : decode cX12_moves 192 = .ok (.iconst 1, 1) := by decide +kernel
theorem dX12_moves_193 : decode cX12_moves 193 = .ok (.iadd, 1) := by decide +kernel
theorem dX12_moves_194 : decode cX12_moves 194 = .ok (.putfield 76, 3) := by decide +kernel
theorem dX12_moves_197 : decode cX12_moves 197 = .ok (.goto (-75), 3) := by decide +kernel
theorem dX12_moves_200 : decode cX12_moves 200 = .ok (.aload_n 0, 1) := by decide +kernel
theorem dX12_moves_201 : decode cX12_moves 201 = .ok (.iload 6, 2) := by decide +kernel
theorem dX12_moves_203 : decode cX12_moves 203 = .ok (.putfield 76, 3) := by decide +kernel
theorem dX12_moves_206 : decode cX12_moves 206 = .ok (.iload 8, 2) := by decide +kernel
theorem dX12_moves_208 : decode cX12_moves 208 = .ok (.ireturn, 1) := by decide +kernel
theorem dX12_switches_0 : decode cX12_switches 0 = .ok (.iconst 0, 1) := by decide +kernel
theorem dX12_switches_1 : decode cX12_switches 1 = .ok (.istore_n 1, 1) := by decide +kernel
theorem dX12_switches_2 : decode cX12_switches 2 = .ok (.iconst 0, 1) := by decide +kernel
theorem dX12_switches_3 : decode cX12_switches 3 = .ok (.istore_n 2, 1) := by decide +kernel
theorem dX12_switches_4 : decode cX12_switches 4 = .ok (.iload_n 2, 1) := by decide +kernel
theorem dX12_switches_5 : decode cX12_switches 5 = .ok (.bipush 16, 2) := by decide +kernel
theorem dX12_switches_7 : decode cX12_switches 7 = .ok (.if_icmp .ge 25, 3) := by decide +kernel
theorem dX12_switches_10 : decode cX12_switches 10 = .ok (.iload_n 1, 1) := by decide +kernel
theorem dX12_switches_11 : decode cX12_switches 11 = .ok (.aload_n 0, 1) := by decide +kernel
theorem dX12_switches_12 : decode cX12_switches 12 = .ok (.iload_n 2, 1) := by decide +kernel
theorem dX12_switches_13 : decode cX12_switches 13 = .ok (.invokevirtual 51, 3) := by decide +kernel
theorem dX12_switches_16 : decode cX12_switches 16 = .ok (.ifCond .eq 7, 3) := by decide +kernel
theorem dX12_switches_19 : decode cX12_switches 19 = .ok (.iconst 1, 1) := by decide +kernel
theorem dX12_switches_20 : decode cX12_switches 20 = .ok (.goto 4, 3) := by decide +kernel
theorem dX12_switches_23 : decode cX12_switches 23 = .ok (.iconst 0, 1) := by decide +kernel
theorem dX12_switches_24 : decode cX12_switches 24 = .ok (.iadd, 1) := by decide +kernel
theorem dX12_switches_25 : decode cX12_switches 25 = .ok (.istore_n 1, 1) := by decide +kernel
theorem dX12_switches_26 : decode cX12_switches 26 = .ok (.iinc 2 1, 3) := by decide +kernel
theorem dX12_switches_29 : decode cX12_switches 29 = .ok (.goto (-25), 3) := by decide +kernel
theorem dX12_switches_32 : decode cX12_switches 32 = .ok (.iload_n 1, 1) := by decide +kernel
theorem dX12_switches_33 : decode cX12_switches 33 = .ok (.ireturn, 1) := by decide +kernel
theorem dX12_image_0 : decode cX12_image 0 = .ok (.iconst 0, 1) := by decide +kernel
theorem dX12_image_1 : decode cX12_image 1 = .ok (.istore_n 1, 1) := by decide +kernel
theorem dX12_image_2 : decode cX12_image 2 = .ok (.iload_n 1, 1) := by decide +kernel
theorem dX12_image_3 : decode cX12_image 3 = .ok (.ldc 7, 2) := by decide +kernel
theorem dX12_image_5 : decode cX12_image 5 = .ok (.if_icmp .ge 21, 3) := by decide +kernel
theorem dX12_image_8 : decode cX12_image 8 = .ok (.aload_n 0, 1) := by decide +kernel
theorem dX12_image_9 : decode cX12_image 9 = .ok (.getfield 14, 3) := by decide +kernel
theorem dX12_image_12 : decode cX12_image 12 = .ok (.iload_n 1, 1) := by decide +kernel
theorem dX12_image_13 : decode cX12_image 13 = .ok (.aload_n 0, 1) := by decide +kernel
theorem dX12_image_14 : decode cX12_image 14 = .ok (.getfield 8, 3) := by decide +kernel
theorem dX12_image_17 : decode cX12_image 17 = .ok (.iload_n 1, 1) := by decide +kernel
theorem dX12_image_18 : decode cX12_image 18 = .ok (.iaload, 1) := by decide +kernel
theorem dX12_image_19 : decode cX12_image 19 = .ok (.iastore, 1) := by decide +kernel
theorem dX12_image_20 : decode cX12_image 20 = .ok (.iinc 1 1, 3) := by decide +kernel
theorem dX12_image_23 : decode cX12_image 23 = .ok (.goto (-21), 3) := by decide +kernel
theorem dX12_image_26 : decode cX12_image 26 = .ok (.iconst 0, 1) := by decide +kernel
theorem dX12_image_27 : decode cX12_image 27 = .ok (.istore_n 1, 1) := by decide +kernel
theorem dX12_image_28 : decode cX12_image 28 = .ok (.iload_n 1, 1) := by decide +kernel
theorem dX12_image_29 : decode cX12_image 29 = .ok (.bipush 16, 2) := by decide +kernel
theorem dX12_image_31 : decode cX12_image 31 = .ok (.if_icmp .ge 21, 3) := by decide +kernel
theorem dX12_image_34 : decode cX12_image 34 = .ok (.aload_n 0, 1) := by decide +kernel
theorem dX12_image_35 : decode cX12_image 35 = .ok (.getfield 21, 3) := by decide +kernel
theorem dX12_image_38 : decode cX12_image 38 = .ok (.iload_n 1, 1) := by decide +kernel
theorem dX12_image_39 : decode cX12_image 39 = .ok (.aload_n 0, 1) := by decide +kernel
theorem dX12_image_40 : decode cX12_image 40 = .ok (.getfield 17, 3) := by decide +kernel
theorem dX12_image_43 : decode cX12_image 43 = .ok (.iload_n 1, 1) := by decide +kernel
theorem dX12_image_44 : decode cX12_image 44 = .ok (.laload, 1) := by decide +kernel
theorem dX12_image_45 : decode cX12_image 45 = .ok (.lastore, 1) := by decide +kernel
theorem dX12_image_46 : decode cX12_image 46 = .ok (.iinc 1 1, 3) := by decide +kernel
theorem dX12_image_49 : decode cX12_image 49 = .ok (.goto (-21), 3) := by decide +kernel
theorem dX12_image_52 : decode cX12_image 52 = .ok (.aload_n 0, 1) := by decide +kernel
theorem dX12_image_53 : decode cX12_image 53 = .ok (.iconst 1, 1) := by decide +kernel
theorem dX12_image_54 : decode cX12_image 54 = .ok (.putfield 265, 3) := by decide +kernel
theorem dX12_image_57 : decode cX12_image 57 = .ok (.aload_n 0, 1) := by decide +kernel
theorem dX12_image_58 : decode cX12_image 58 = .ok (.invokevirtual 268, 3) := by decide +kernel
theorem dX12_image_61 : decode cX12_image 61 = .ok (.ireturn, 1) := by decide +kernel
theorem dX12_restore_0 : decode cX12_restore 0 = .ok (.aload_n 0, 1) := by decide +kernel
theorem dX12_restore_1 : decode cX12_restore 1 = .ok (.getfield 265, 3) := by decide +kernel
theorem dX12_restore_4 : decode cX12_restore 4 = .ok (.ifCond .ne 10, 3) := by decide +kernel
theorem dX12_restore_7 : decode cX12_restore 7 = .ok (.aload_n 0, 1) := by decide +kernel
theorem dX12_restore_8 : decode cX12_restore 8 = .ok (.bipush (-2), 2) := by decide +kernel
theorem dX12_restore_10 : decode cX12_restore 10 = .ok (.invokevirtual 72, 3) := by decide +kernel
theorem dX12_restore_13 : decode cX12_restore 13 = .ok (.ireturn, 1) := by decide +kernel
theorem dX12_restore_14 : decode cX12_restore 14 = .ok (.iconst 0, 1) := by decide +kernel
theorem dX12_restore_15 : decode cX12_restore 15 = .ok (.istore_n 1, 1) := by decide +kernel
theorem dX12_restore_16 : decode cX12_restore 16 = .ok (.iload_n 1, 1) := by decide +kernel
theorem dX12_restore_17 : decode cX12_restore 17 = .ok (.ldc 7, 2) := by decide +kernel
theorem dX12_restore_19 : decode cX12_restore 19 = .ok (.if_icmp .ge 21, 3) := by decide +kernel
theorem dX12_restore_22 : decode cX12_restore 22 = .ok (.aload_n 0, 1) := by decide +kernel
theorem dX12_restore_23 : decode cX12_restore 23 = .ok (.getfield 8, 3) := by decide +kernel
theorem dX12_restore_26 : decode cX12_restore 26 = .ok (.iload_n 1, 1) := by decide +kernel
theorem dX12_restore_27 : decode cX12_restore 27 = .ok (.aload_n 0, 1) := by decide +kernel
theorem dX12_restore_28 : decode cX12_restore 28 = .ok (.getfield 14, 3) := by decide +kernel
theorem dX12_restore_31 : decode cX12_restore 31 = .ok (.iload_n 1, 1) := by decide +kernel
theorem dX12_restore_32 : decode cX12_restore 32 = .ok (.iaload, 1) := by decide +kernel
theorem dX12_restore_33 : decode cX12_restore 33 = .ok (.iastore, 1) := by decide +kernel
theorem dX12_restore_34 : decode cX12_restore 34 = .ok (.iinc 1 1, 3) := by decide +kernel
theorem dX12_restore_37 : decode cX12_restore 37 = .ok (.goto (-21), 3) := by decide +kernel
theorem dX12_restore_40 : decode cX12_restore 40 = .ok (.iconst 0, 1) := by decide +kernel
theorem dX12_restore_41 : decode cX12_restore 41 = .ok (.istore_n 1, 1) := by decide +kernel
theorem dX12_restore_42 : decode cX12_restore 42 = .ok (.iload_n 1, 1) := by decide +kernel
theorem dX12_restore_43 : decode cX12_restore 43 = .ok (.bipush 16, 2) := by decide +kernel
theorem dX12_restore_45 : decode cX12_restore 45 = .ok (.if_icmp .ge 21, 3) := by decide +kernel
theorem dX12_restore_48 : decode cX12_restore 48 = .ok (.aload_n 0, 1) := by decide +kernel
theorem dX12_restore_49 : decode cX12_restore 49 = .ok (.getfield 17, 3) := by decide +kernel
theorem dX12_restore_52 : decode cX12_restore 52 = .ok (.iload_n 1, 1) := by decide +kernel
theorem dX12_restore_53 : decode cX12_restore 53 = .ok (.aload_n 0, 1) := by decide +kernel
theorem dX12_restore_54 : decode cX12_restore 54 = .ok (.getfield 21, 3) := by decide +kernel
theorem dX12_restore_57 : decode cX12_restore 57 = .ok (.iload_n 1, 1) := by decide +kernel
theorem dX12_restore_58 : decode cX12_restore 58 = .ok (.laload, 1) := by decide +kernel
theorem dX12_restore_59 : decode cX12_restore 59 = .ok (.lastore, 1) := by decide +kernel
theorem dX12_restore_60 : decode cX12_restore 60 = .ok (.iinc 1 1, 3) := by decide +kernel
theorem dX12_restore_63 : decode cX12_restore 63 = .ok (.goto (-21), 3) := by decide +kernel
theorem dX12_restore_66 : decode cX12_restore 66 = .ok (.aload_n 0, 1) := by decide +kernel
theorem dX12_restore_67 : decode cX12_restore 67 = .ok (.invokevirtual 268, 3) := by decide +kernel
theorem dX12_restore_70 : decode cX12_restore 70 = .ok (.ireturn, 1) := by decide +kernel
theorem dX12_status_0 : decode cX12_status 0 = .ok (.iload_n 1, 1) := by decide +kernel
theorem dX12_status_1 : decode cX12_status 1 = .ok (.i2l, 1) := by decide +kernel
theorem dX12_status_2 : decode cX12_status 2 = .ok (.ldc2_w 271, 3) := by decide +kernel
theorem dX12_status_5 : decode cX12_status 5 = .ok (.ldc2_w 273, 3) := by decide +kernel
theorem dX12_status_8 : decode cX12_status 8 = .ok (.invokestatic 62, 3) := by decide +kernel
theorem dX12_status_11 : decode cX12_status 11 = .ok (.ifCond .eq 13, 3) := by decide +kernel
theorem dX12_status_14 : decode cX12_status 14 = .ok (.aload_n 0, 1) := by decide +kernel
theorem dX12_status_15 : decode cX12_status 15 = .ok (.getfield 24, 3) := by decide +kernel
theorem dX12_status_18 : decode cX12_status 18 = .ok (.iload_n 1, 1) := by decide +kernel
theorem dX12_status_19 : decode cX12_status 19 = .ok (.ineg, 1) := by decide +kernel
theorem dX12_status_20 : decode cX12_status 20 = .ok (.iaload, 1) := by decide +kernel
theorem dX12_status_21 : decode cX12_status 21 = .ok (.goto 9, 3) := by decide +kernel
theorem dX12_status_24 : decode cX12_status 24 = .ok (.aload_n 0, 1) := by decide +kernel
theorem dX12_status_25 : decode cX12_status 25 = .ok (.bipush (-12), 2) := by decide +kernel
theorem dX12_status_27 : decode cX12_status 27 = .ok (.invokevirtual 72, 3) := by decide +kernel
theorem dX12_status_30 : decode cX12_status 30 = .ok (.ireturn, 1) := by decide +kernel
theorem dJ9_abs_0f7a4_0 : decode cJ9_abs_0f7a4 0 = .ok (.iload_n 0, 1) := by decide +kernel
theorem dJ9_abs_0f7a4_1 : decode cJ9_abs_0f7a4 1 = .ok (.ifCond .ge 8, 3) := by decide +kernel
theorem dJ9_abs_0f7a4_4 : decode cJ9_abs_0f7a4 4 = .ok (.iload_n 0, 1) := by decide +kernel
theorem dJ9_abs_0f7a4_5 : decode cJ9_abs_0f7a4 5 = .ok (.ineg, 1) := by decide +kernel
theorem dJ9_abs_0f7a4_6 : decode cJ9_abs_0f7a4 6 = .ok (.goto 4, 3) := by decide +kernel
theorem dJ9_abs_0f7a4_9 : decode cJ9_abs_0f7a4 9 = .ok (.iload_n 0, 1) := by decide +kernel
theorem dJ9_abs_0f7a4_10 : decode cJ9_abs_0f7a4 10 = .ok (.ireturn, 1) := by decide +kernel
theorem dJ9_max_7cf53_0 : decode cJ9_max_7cf53 0 = .ok (.iload_n 0, 1) := by decide +kernel
theorem dJ9_max_7cf53_1 : decode cJ9_max_7cf53 1 = .ok (.iload_n 1, 1) := by decide +kernel
theorem dJ9_max_7cf53_2 : decode cJ9_max_7cf53 2 = .ok (.if_icmp .lt 7, 3) := by decide +kernel
theorem dJ9_max_7cf53_5 : decode cJ9_max_7cf53 5 = .ok (.iload_n 0, 1) := by decide +kernel
theorem dJ9_max_7cf53_6 : decode cJ9_max_7cf53 6 = .ok (.goto 4, 3) := by decide +kernel
theorem dJ9_max_7cf53_9 : decode cJ9_max_7cf53 9 = .ok (.iload_n 1, 1) := by decide +kernel
theorem dJ9_max_7cf53_10 : decode cJ9_max_7cf53 10 = .ok (.ireturn, 1) := by decide +kernel
theorem dJ9_min_7cf53_0 : decode cJ9_min_7cf53 0 = .ok (.iload_n 0, 1) := by decide +kernel
theorem dJ9_min_7cf53_1 : decode cJ9_min_7cf53 1 = .ok (.iload_n 1, 1) := by decide +kernel
theorem dJ9_min_7cf53_2 : decode cJ9_min_7cf53 2 = .ok (.if_icmp .gt 7, 3) := by decide +kernel
theorem dJ9_min_7cf53_5 : decode cJ9_min_7cf53 5 = .ok (.iload_n 0, 1) := by decide +kernel
theorem dJ9_min_7cf53_6 : decode cJ9_min_7cf53 6 = .ok (.goto 4, 3) := by decide +kernel
theorem dJ9_min_7cf53_9 : decode cJ9_min_7cf53 9 = .ok (.iload_n 1, 1) := by decide +kernel
theorem dJ9_min_7cf53_10 : decode cJ9_min_7cf53 10 = .ok (.ireturn, 1) := by decide +kernel
theorem dJ7_fill_53178_0 : decode cJ7_fill_53178 0 = .ok (.iconst 0, 1) := by decide +kernel
theorem dJ7_fill_53178_1 : decode cJ7_fill_53178 1 = .ok (.istore_n 2, 1) := by decide +kernel
theorem dJ7_fill_53178_2 : decode cJ7_fill_53178 2 = .ok (.aload_n 0, 1) := by decide +kernel
theorem dJ7_fill_53178_3 : decode cJ7_fill_53178 3 = .ok (.arraylength, 1) := by decide +kernel
theorem dJ7_fill_53178_4 : decode cJ7_fill_53178 4 = .ok (.istore_n 3, 1) := by decide +kernel
theorem dJ7_fill_53178_5 : decode cJ7_fill_53178 5 = .ok (.iload_n 2, 1) := by decide +kernel
theorem dJ7_fill_53178_6 : decode cJ7_fill_53178 6 = .ok (.iload_n 3, 1) := by decide +kernel
theorem dJ7_fill_53178_7 : decode cJ7_fill_53178 7 = .ok (.if_icmp .ge 13, 3) := by decide +kernel
theorem dJ7_fill_53178_10 : decode cJ7_fill_53178 10 = .ok (.aload_n 0, 1) := by decide +kernel
theorem dJ7_fill_53178_11 : decode cJ7_fill_53178 11 = .ok (.iload_n 2, 1) := by decide +kernel
theorem dJ7_fill_53178_12 : decode cJ7_fill_53178 12 = .ok (.iload_n 1, 1) := by decide +kernel
theorem dJ7_fill_53178_13 : decode cJ7_fill_53178 13 = .ok (.iastore, 1) := by decide +kernel
theorem dJ7_fill_53178_14 : decode cJ7_fill_53178 14 = .ok (.iinc 2 1, 3) := by decide +kernel
theorem dJ7_fill_53178_17 : decode cJ7_fill_53178 17 = .ok (.goto (-12), 3) := by decide +kernel
theorem dJ7_fill_53178_20 : decode cJ7_fill_53178 20 = .ok (.return_, 1) := by decide +kernel
