theorem dX11_refuseAtEither_22 : decode cX11_refuseAtEither 22 = .ok (.invokevirtual 46, 3) := by decide +kernel
theorem dX11_refuseAtEither_25 : decode cX11_refuseAtEither 25 = .ok (.ireturn, 1) := by decide +kernel
theorem dX11_hangFault_0 : decode cX11_hangFault 0 = .ok (.aload_n 0, 1) := by decide +kernel
theorem dX11_hangFault_1 : decode cX11_hangFault 1 = .ok (.getfield 10, 3) := by decide +kernel
theorem dX11_hangFault_4 : decode cX11_hangFault 4 = .ok (.iload_n 1, 1) := by decide +kernel
theorem dX11_hangFault_5 : decode cX11_hangFault 5 = .ok (.bipush 24, 2) := by decide +kernel
theorem dX11_hangFault_7 : decode cX11_hangFault 7 = .ok (.invokevirtual 363, 3) := by decide +kernel
theorem dX11_hangFault_10 : decode cX11_hangFault 10 = .ok (.istore_n 3, 1) := by decide +kernel
theorem dX11_hangFault_11 : decode cX11_hangFault 11 = .ok (.iload_n 2, 1) := by decide +kernel
theorem dX11_hangFault_12 : decode cX11_hangFault 12 = .ok (.iconst (-1), 1) := by decide +kernel
theorem dX11_hangFault_13 : decode cX11_hangFault 13 = .ok (.if_icmp .ne 7, 3) := by decide +kernel
theorem dX11_hangFault_16 : decode cX11_hangFault 16 = .ok (.iconst 0, 1) := by decide +kernel
theorem dX11_hangFault_17 : decode cX11_hangFault 17 = .ok (.goto 13, 3) := by decide +kernel
theorem dX11_hangFault_20 : decode cX11_hangFault 20 = .ok (.aload_n 0, 1) := by decide +kernel
theorem dX11_hangFault_21 : decode cX11_hangFault 21 = .ok (.getfield 10, 3) := by decide +kernel
theorem dX11_hangFault_24 : decode cX11_hangFault 24 = .ok (.iload_n 2, 1) := by decide +kernel
theorem dX11_hangFault_25 : decode cX11_hangFault 25 = .ok (.bipush 31, 2) := by decide +kernel
theorem dX11_hangFault_27 : decode cX11_hangFault 27 = .ok (.invokevirtual 363, 3) := by decide +kernel
theorem dX11_hangFault_30 : decode cX11_hangFault 30 = .ok (.istore 4, 2) := by decide +kernel
theorem dX11_hangFault_32 : decode cX11_hangFault 32 = .ok (.iload_n 3, 1) := by decide +kernel
theorem dX11_hangFault_33 : decode cX11_hangFault 33 = .ok (.iload 4, 2) := by decide +kernel
theorem dX11_hangFault_35 : decode cX11_hangFault 35 = .ok (.invokestatic 366, 3) := by decide +kernel
theorem dX11_hangFault_38 : decode cX11_hangFault 38 = .ok (.ireturn, 1) := by decide +kernel
theorem dX11_firstFault_0 : decode cX11_firstFault 0 = .ok (.iload_n 0, 1) := by decide +kernel
theorem dX11_firstFault_1 : decode cX11_firstFault 1 = .ok (.bipush (-3), 2) := by decide +kernel
theorem dX11_firstFault_3 : decode cX11_firstFault 3 = .ok (.if_icmp .eq 9, 3) := by decide +kernel
theorem dX11_firstFault_6 : decode cX11_firstFault 6 = .ok (.iload_n 1, 1) := by decide +kernel
theorem dX11_firstFault_7 : decode cX11_firstFault 7 = .ok (.bipush (-3), 2) := by decide +kernel
theorem dX11_firstFault_9 : decode cX11_firstFault 9 = .ok (.if_icmp .ne 6, 3) := by decide +kernel
theorem dX11_firstFault_12 : decode cX11_firstFault 12 = .ok (.bipush (-3), 2) := by decide +kernel
theorem dX11_firstFault_14 : decode cX11_firstFault 14 = .ok (.ireturn, 1) := by decide +kernel
theorem dX11_firstFault_15 : decode cX11_firstFault 15 = .ok (.iload_n 0, 1) := by decide +kernel
theorem dX11_firstFault_16 : decode cX11_firstFault 16 = .ok (.bipush (-2), 2) := by decide +kernel
theorem dX11_firstFault_18 : decode cX11_firstFault 18 = .ok (.if_icmp .eq 9, 3) := by decide +kernel
theorem dX11_firstFault_21 : decode cX11_firstFault 21 = .ok (.iload_n 1, 1) := by decide +kernel
theorem dX11_firstFault_22 : decode cX11_firstFault 22 = .ok (.bipush (-2), 2) := by decide +kernel
theorem dX11_firstFault_24 : decode cX11_firstFault 24 = .ok (.if_icmp .ne 6, 3) := by decide +kernel
theorem dX11_firstFault_27 : decode cX11_firstFault 27 = .ok (.bipush (-2), 2) := by decide +kernel
theorem dX11_firstFault_29 : decode cX11_firstFault 29 = .ok (.ireturn, 1) := by decide +kernel
theorem dX11_firstFault_30 : decode cX11_firstFault 30 = .ok (.iload_n 0, 1) := by decide +kernel
theorem dX11_firstFault_31 : decode cX11_firstFault 31 = .ok (.ifCond .eq 7, 3) := by decide +kernel
theorem dX11_firstFault_34 : decode cX11_firstFault 34 = .ok (.iload_n 0, 1) := by decide +kernel
theorem dX11_firstFault_35 : decode cX11_firstFault 35 = .ok (.goto 4, 3) := by decide +kernel
theorem dX11_firstFault_38 : decode cX11_firstFault 38 = .ok (.iload_n 1, 1) := by decide +kernel
theorem dX11_firstFault_39 : decode cX11_firstFault 39 = .ok (.ireturn, 1) := by decide +kernel
theorem dX11_crowdFault_0 : decode cX11_crowdFault 0 = .ok (.iload_n 1, 1) := by decide +kernel
theorem dX11_crowdFault_1 : decode cX11_crowdFault 1 = .ok (.ifCond .ge 6, 3) := by decide +kernel
theorem dX11_crowdFault_4 : decode cX11_crowdFault 4 = .ok (.bipush (-4), 2) := by decide +kernel
theorem dX11_crowdFault_6 : decode cX11_crowdFault 6 = .ok (.ireturn, 1) := by decide +kernel
theorem dX11_crowdFault_7 : decode cX11_crowdFault 7 = .ok (.iload_n 1, 1) := by decide +kernel
theorem dX11_crowdFault_8 : decode cX11_crowdFault 8 = .ok (.iconst 1, 1) := by decide +kernel
theorem dX11_crowdFault_9 : decode cX11_crowdFault 9 = .ok (.if_icmp .lt 24, 3) := by decide +kernel
theorem dX11_crowdFault_12 : decode cX11_crowdFault 12 = .ok (.iload_n 1, 1) := by decide +kernel
theorem dX11_crowdFault_13 : decode cX11_crowdFault 13 = .ok (.sipush 2000, 3) := by decide +kernel
theorem dX11_crowdFault_16 : decode cX11_crowdFault 16 = .ok (.if_icmp .gt 17, 3) := by decide +kernel
theorem dX11_crowdFault_19 : decode cX11_crowdFault 19 = .ok (.iload_n 0, 1) := by decide +kernel
theorem dX11_crowdFault_20 : decode cX11_crowdFault 20 = .ok (.iload_n 1, 1) := by decide +kernel
theorem dX11_crowdFault_21 : decode cX11_crowdFault 21 = .ok (.iadd, 1) := by decide +kernel
theorem dX11_crowdFault_22 : decode cX11_crowdFault 22 = .ok (.iconst 1, 1) := by decide +kernel
theorem dX11_crowdFault_23 : decode cX11_crowdFault 23 = .ok (.isub, 1) := by decide +kernel
theorem dX11_crowdFault_24 : decode cX11_crowdFault 24 = .ok (.ldc 41, 2) := by decide +kernel
theorem dX11_crowdFault_26 : decode cX11_crowdFault 26 = .ok (.if_icmp .gt 7, 3) := by decide +kernel
theorem dX11_crowdFault_29 : decode cX11_crowdFault 29 = .ok (.iconst 1, 1) := by decide +kernel
theorem dX11_crowdFault_30 : decode cX11_crowdFault 30 = .ok (.goto 4, 3) := by decide +kernel
theorem dX11_crowdFault_33 : decode cX11_crowdFault 33 = .ok (.iconst 0, 1) := by decide +kernel
theorem dX11_crowdFault_34 : decode cX11_crowdFault 34 = .ok (.istore_n 2, 1) := by decide +kernel
theorem dX11_crowdFault_35 : decode cX11_crowdFault 35 = .ok (.iload_n 2, 1) := by decide +kernel
theorem dX11_crowdFault_36 : decode cX11_crowdFault 36 = .ok (.ifCond .eq 7, 3) := by decide +kernel
theorem dX11_crowdFault_39 : decode cX11_crowdFault 39 = .ok (.iconst 0, 1) := by decide +kernel
theorem dX11_crowdFault_40 : decode cX11_crowdFault 40 = .ok (.goto 5, 3) := by decide +kernel
theorem dX11_crowdFault_43 : decode cX11_crowdFault 43 = .ok (.bipush (-12), 2) := by decide +kernel
theorem dX11_crowdFault_45 : decode cX11_crowdFault 45 = .ok (.ireturn, 1) := by decide +kernel
theorem dX12_init_0 : decode cX12_init 0 = .ok (.aload_n 0, 1) := by decide +kernel
theorem dX12_init_1 : decode cX12_init 1 = .ok (.invokespecial 1, 3) := by decide +kernel
theorem dX12_init_4 : decode cX12_init 4 = .ok (.aload_n 0, 1) := by decide +kernel
theorem dX12_init_5 : decode cX12_init 5 = .ok (.ldc 7, 2) := by decide +kernel
theorem dX12_init_7 : decode cX12_init 7 = .ok (.newarray .int, 2) := by decide +kernel
theorem dX12_init_9 : decode cX12_init 9 = .ok (.putfield 8, 3) := by decide +kernel
theorem dX12_init_12 : decode cX12_init 12 = .ok (.aload_n 0, 1) := by decide +kernel
theorem dX12_init_13 : decode cX12_init 13 = .ok (.ldc 7, 2) := by decide +kernel
theorem dX12_init_15 : decode cX12_init 15 = .ok (.newarray .int, 2) := by decide +kernel
theorem dX12_init_17 : decode cX12_init 17 = .ok (.putfield 14, 3) := by decide +kernel
theorem dX12_init_20 : decode cX12_init 20 = .ok (.aload_n 0, 1) := by decide +kernel
theorem dX12_init_21 : decode cX12_init 21 = .ok (.bipush 16, 2) := by decide +kernel
theorem dX12_init_23 : decode cX12_init 23 = .ok (.newarray .long, 2) := by decide +kernel
theorem dX12_init_25 : decode cX12_init 25 = .ok (.putfield 17, 3) := by decide +kernel
theorem dX12_init_28 : decode cX12_init 28 = .ok (.aload_n 0, 1) := by decide +kernel
theorem dX12_init_29 : decode cX12_init 29 = .ok (.bipush 16, 2) := by decide +kernel
theorem dX12_init_31 : decode cX12_init 31 = .ok (.newarray .long, 2) := by decide +kernel
theorem dX12_init_33 : decode cX12_init 33 = .ok (.putfield 21, 3) := by decide +kernel
theorem dX12_init_36 : decode cX12_init 36 = .ok (.aload_n 0, 1) := by decide +kernel
theorem dX12_init_37 : decode cX12_init 37 = .ok (.bipush 14, 2) := by decide +kernel
theorem dX12_init_39 : decode cX12_init 39 = .ok (.newarray .int, 2) := by decide +kernel
theorem dX12_init_41 : decode cX12_init 41 = .ok (.putfield 24, 3) := by decide +kernel
theorem dX12_init_44 : decode cX12_init 44 = .ok (.aload_n 0, 1) := by decide +kernel
theorem dX12_init_45 : decode cX12_init 45 = .ok (.bipush 16, 2) := by decide +kernel
theorem dX12_init_47 : decode cX12_init 47 = .ok (.newarray .int, 2) := by decide +kernel
theorem dX12_init_49 : decode cX12_init 49 = .ok (.putfield 27, 3) := by decide +kernel
theorem dX12_init_52 : decode cX12_init 52 = .ok (.aload_n 0, 1) := by decide +kernel
theorem dX12_init_53 : decode cX12_init 53 = .ok (.bipush 16, 2) := by decide +kernel
theorem dX12_init_55 : decode cX12_init 55 = .ok (.newarray .int, 2) := by decide +kernel
theorem dX12_init_57 : decode cX12_init 57 = .ok (.putfield 30, 3) := by decide +kernel
theorem dX12_init_60 : decode cX12_init 60 = .ok (.aload_n 0, 1) := by decide +kernel
theorem dX12_init_61 : decode cX12_init 61 = .ok (.bipush 16, 2) := by decide +kernel
theorem dX12_init_63 : decode cX12_init 63 = .ok (.newarray .boolean, 2) := by decide +kernel
theorem dX12_init_65 : decode cX12_init 65 = .ok (.putfield 33, 3) := by decide +kernel
theorem dX12_init_68 : decode cX12_init 68 = .ok (.aload_n 0, 1) := by decide +kernel
theorem dX12_init_69 : decode cX12_init 69 = .ok (.bipush 16, 2) := by decide +kernel
theorem dX12_init_71 : decode cX12_init 71 = .ok (.newarray .int, 2) := by decide +kernel
theorem dX12_init_73 : decode cX12_init 73 = .ok (.putfield 37, 3) := by decide +kernel
theorem dX12_init_76 : decode cX12_init 76 = .ok (.aload_n 0, 1) := by decide +kernel
theorem dX12_init_77 : decode cX12_init 77 = .ok (.bipush 20, 2) := by decide +kernel
theorem dX12_init_79 : decode cX12_init 79 = .ok (.newarray .int, 2) := by decide +kernel
theorem dX12_init_81 : decode cX12_init 81 = .ok (.putfield 40, 3) := by decide +kernel
theorem dX12_init_84 : decode cX12_init 84 = .ok (.return_, 1) := by decide +kernel
theorem dX12_isIn_0 : decode cX12_isIn 0 = .ok (.lload_n 0, 1) := by decide +kernel
theorem dX12_isIn_1 : decode cX12_isIn 1 = .ok (.lload_n 2, 1) := by decide +kernel
theorem dX12_isIn_2 : decode cX12_isIn 2 = .ok (.lcmp, 1) := by decide +kernel
theorem dX12_isIn_3 : decode cX12_isIn 3 = .ok (.ifCond .lt 14, 3) := by decide +kernel
theorem dX12_isIn_6 : decode cX12_isIn 6 = .ok (.lload_n 0, 1) := by decide +kernel
theorem dX12_isIn_7 : decode cX12_isIn 7 = .ok (.lload 4, 2) := by decide +kernel
theorem dX12_isIn_9 : decode cX12_isIn 9 = .ok (.lcmp, 1) := by decide +kernel
theorem dX12_isIn_10 : decode cX12_isIn 10 = .ok (.ifCond .gt 7, 3) := by decide +kernel
theorem dX12_isIn_13 : decode cX12_isIn 13 = .ok (.iconst 1, 1) := by decide +kernel
theorem dX12_isIn_14 : decode cX12_isIn 14 = .ok (.goto 4, 3) := by decide +kernel
theorem dX12_isIn_17 : decode cX12_isIn 17 = .ok (.iconst 0, 1) := by decide +kernel
theorem dX12_isIn_18 : decode cX12_isIn 18 = .ok (.ireturn, 1) := by decide +kernel
theorem dX12_no_0 : decode cX12_no 0 = .ok (.aload_n 0, 1) := by decide +kernel
theorem dX12_no_1 : decode cX12_no 1 = .ok (.getfield 24, 3) := by decide +kernel
theorem dX12_no_4 : decode cX12_no 4 = .ok (.iload_n 1, 1) := by decide +kernel
theorem dX12_no_5 : decode cX12_no 5 = .ok (.ineg, 1) := by decide +kernel
theorem dX12_no_6 : decode cX12_no 6 = .ok (.dup2, 1) := by decide +kernel
theorem dX12_no_7 : decode cX12_no 7 = .ok (.iaload, 1) := by decide +kernel
theorem dX12_no_8 : decode cX12_no 8 = .ok (.iconst 1, 1) := by decide +kernel
theorem dX12_no_9 : decode cX12_no 9 = .ok (.iadd, 1) := by decide +kernel
theorem dX12_no_10 : decode cX12_no 10 = .ok (.iastore, 1) := by decide +kernel
theorem dX12_no_11 : decode cX12_no 11 = .ok (.iload_n 1, 1) := by decide +kernel
theorem dX12_no_12 : decode cX12_no 12 = .ok (.ireturn, 1) := by decide +kernel
theorem dX12_of_0 : decode cX12_of 0 = .ok (.aload_n 0, 1) := by decide +kernel
theorem dX12_of_1 : decode cX12_of 1 = .ok (.getfield 8, 3) := by decide +kernel
theorem dX12_of_4 : decode cX12_of 4 = .ok (.sipush 3940, 3) := by decide +kernel
theorem dX12_of_7 : decode cX12_of 7 = .ok (.iload_n 1, 1) := by decide +kernel
theorem dX12_of_8 : decode cX12_of 8 = .ok (.imul, 1) := by decide +kernel
theorem dX12_of_9 : decode cX12_of 9 = .ok (.iload_n 2, 1) := by decide +kernel
theorem dX12_of_10 : decode cX12_of 10 = .ok (.iadd, 1) := by decide +kernel
theorem dX12_of_11 : decode cX12_of 11 = .ok (.iaload, 1) := by decide +kernel
theorem dX12_of_12 : decode cX12_of 12 = .ok (.ireturn, 1) := by decide +kernel
theorem dX12_to_0 : decode cX12_to 0 = .ok (.aload_n 0, 1) := by decide +kernel
theorem dX12_to_1 : decode cX12_to 1 = .ok (.getfield 8, 3) := by decide +kernel
theorem dX12_to_4 : decode cX12_to 4 = .ok (.sipush 3940, 3) := by decide +kernel
theorem dX12_to_7 : decode cX12_to 7 = .ok (.iload_n 1, 1) := by decide +kernel
theorem dX12_to_8 : decode cX12_to 8 = .ok (.imul, 1) := by decide +kernel
theorem dX12_to_9 : decode cX12_to 9 = .ok (.iload_n 2, 1) := by decide +kernel
theorem dX12_to_10 : decode cX12_to 10 = .ok (.iadd, 1) := by decide +kernel
theorem dX12_to_11 : decode cX12_to 11 = .ok (.iload_n 3, 1) := by decide +kernel
theorem dX12_to_12 : decode cX12_to 12 = .ok (.iastore, 1) := by decide +kernel
theorem dX12_to_13 : decode cX12_to 13 = .ok (.return_, 1) := by decide +kernel
theorem dX12_isPlace_0 : decode cX12_isPlace 0 = .ok (.iload_n 0, 1) := by decide +kernel
theorem dX12_isPlace_1 : decode cX12_isPlace 1 = .ok (.ifCond .lt 13, 3) := by decide +kernel
theorem dX12_isPlace_4 : decode cX12_isPlace 4 = .ok (.iload_n 0, 1) := by decide +kernel
theorem dX12_isPlace_5 : decode cX12_isPlace 5 = .ok (.bipush 16, 2) := by decide +kernel
theorem dX12_isPlace_7 : decode cX12_isPlace 7 = .ok (.if_icmp .ge 7, 3) := by decide +kernel
theorem dX12_isPlace_10 : decode cX12_isPlace 10 = .ok (.iconst 1, 1) := by decide +kernel
theorem dX12_isPlace_11 : decode cX12_isPlace 11 = .ok (.goto 4, 3) := by decide +kernel
theorem dX12_isPlace_14 : decode cX12_isPlace 14 = .ok (.iconst 0, 1) := by decide +kernel
theorem dX12_isPlace_15 : decode cX12_isPlace 15 = .ok (.ireturn, 1) := by decide +kernel
theorem dX12_isSwitch_0 : decode cX12_isSwitch 0 = .ok (.aload_n 0, 1) := by decide +kernel
theorem dX12_isSwitch_1 : decode cX12_isSwitch 1 = .ok (.iload_n 1, 1) := by decide +kernel
theorem dX12_isSwitch_2 : decode cX12_isSwitch 2 = .ok (.iconst 0, 1) := by decide +kernel
theorem dX12_isSwitch_3 : decode cX12_isSwitch 3 = .ok (.invokevirtual 43, 3) := by decide +kernel
theorem dX12_isSwitch_6 : decode cX12_isSwitch 6 = .ok (.iconst 1, 1) := by decide +kernel
theorem dX12_isSwitch_7 : decode cX12_isSwitch 7 = .ok (.if_icmp .lt 17, 3) := by decide +kernel
theorem dX12_isSwitch_10 : decode cX12_isSwitch 10 = .ok (.aload_n 0, 1) := by decide +kernel
theorem dX12_isSwitch_11 : decode cX12_isSwitch 11 = .ok (.iload_n 1, 1) := by decide +kernel
theorem dX12_isSwitch_12 : decode cX12_isSwitch 12 = .ok (.iconst 0, 1) := by decide +kernel
theorem dX12_isSwitch_13 : decode cX12_isSwitch 13 = .ok (.invokevirtual 43, 3) := by decide +kernel
theorem dX12_isSwitch_16 : decode cX12_isSwitch 16 = .ok (.iconst 5, 1) := by decide +kernel
theorem dX12_isSwitch_17 : decode cX12_isSwitch 17 = .ok (.if_icmp .gt 7, 3) := by decide +kernel
theorem dX12_isSwitch_20 : decode cX12_isSwitch 20 = .ok (.iconst 1, 1) := by decide +kernel
theorem dX12_isSwitch_21 : decode cX12_isSwitch 21 = .ok (.goto 4, 3) := by decide +kernel
theorem dX12_isSwitch_24 : decode cX12_isSwitch 24 = .ok (.iconst 0, 1) := by decide +kernel
theorem dX12_isSwitch_25 : decode cX12_isSwitch 25 = .ok (.ireturn, 1) := by decide +kernel
theorem dX12_isStepped_0 : decode cX12_isStepped 0 = .ok (.aload_n 0, 1) := by decide +kernel
theorem dX12_isStepped_1 : decode cX12_isStepped 1 = .ok (.iload_n 1, 1) := by decide +kernel
theorem dX12_isStepped_2 : decode cX12_isStepped 2 = .ok (.iconst 0, 1) := by decide +kernel
theorem dX12_isStepped_3 : decode cX12_isStepped 3 = .ok (.invokevirtual 43, 3) := by decide +kernel
theorem dX12_isStepped_6 : decode cX12_isStepped 6 = .ok (.iconst 2, 1) := by decide +kernel
theorem dX12_isStepped_7 : decode cX12_isStepped 7 = .ok (.if_icmp .eq 13, 3) := by decide +kernel
theorem dX12_isStepped_10 : decode cX12_isStepped 10 = .ok (.aload_n 0, 1) := by decide +kernel
theorem dX12_isStepped_11 : decode cX12_isStepped 11 = .ok (.iload_n 1, 1) := by decide +kernel
theorem dX12_isStepped_12 : decode cX12_isStepped 12 = .ok (.iconst 0, 1) := by decide +kernel
theorem dX12_isStepped_13 : decode cX12_isStepped 13 = .ok (.invokevirtual 43, 3) := by decide +kernel
theorem dX12_isStepped_16 : decode cX12_isStepped 16 = .ok (.iconst 3, 1) := by decide +kernel
theorem dX12_isStepped_17 : decode cX12_isStepped 17 = .ok (.if_icmp .ne 7, 3) := by decide +kernel
theorem dX12_isStepped_20 : decode cX12_isStepped 20 = .ok (.iconst 1, 1) := by decide +kernel
theorem dX12_isStepped_21 : decode cX12_isStepped 21 = .ok (.goto 4, 3) := by decide +kernel
theorem dX12_isStepped_24 : decode cX12_isStepped 24 = .ok (.iconst 0, 1) := by decide +kernel
theorem dX12_isStepped_25 : decode cX12_isStepped 25 = .ok (.ireturn, 1) := by decide +kernel
theorem dX12_hangs_0 : decode cX12_hangs 0 = .ok (.aload_n 0, 1) := by decide +kernel
theorem dX12_hangs_1 : decode cX12_hangs 1 = .ok (.iload_n 1, 1) := by decide +kernel
theorem dX12_hangs_2 : decode cX12_hangs 2 = .ok (.iconst 0, 1) := by decide +kernel
theorem dX12_hangs_3 : decode cX12_hangs 3 = .ok (.invokevirtual 43, 3) := by decide +kernel
theorem dX12_hangs_6 : decode cX12_hangs 6 = .ok (.iconst 4, 1) := by decide +kernel
theorem dX12_hangs_7 : decode cX12_hangs 7 = .ok (.if_icmp .eq 13, 3) := by decide +kernel
theorem dX12_hangs_10 : decode cX12_hangs 10 = .ok (.aload_n 0, 1) := by decide +kernel
theorem dX12_hangs_11 : decode cX12_hangs 11 = .ok (.iload_n 1, 1) := by decide +kernel
theorem dX12_hangs_12 : decode cX12_hangs 12 = .ok (.iconst 0, 1) := by decide +kernel
theorem dX12_hangs_13 : decode cX12_hangs 13 = .ok (.invokevirtual 43, 3) := by decide +kernel
theorem dX12_hangs_16 : decode cX12_hangs 16 = .ok (.iconst 5, 1) := by decide +kernel
theorem dX12_hangs_17 : decode cX12_hangs 17 = .ok (.if_icmp .ne 7, 3) := by decide +kernel
theorem dX12_hangs_20 : decode cX12_hangs 20 = .ok (.iconst 1, 1) := by decide +kernel
theorem dX12_hangs_21 : decode cX12_hangs 21 = .ok (.goto 4, 3) := by decide +kernel
theorem dX12_hangs_24 : decode cX12_hangs 24 = .ok (.iconst 0, 1) := by decide +kernel
theorem dX12_hangs_25 : decode cX12_hangs 25 = .ok (.ireturn, 1) := by decide +kernel
theorem dX12_why_0 : decode cX12_why 0 = .ok (.iload_n 1, 1) := by decide +kernel
theorem dX12_why_1 : decode cX12_why 1 = .ok (.invokestatic 47, 3) := by decide +kernel
theorem dX12_why_4 : decode cX12_why 4 = .ok (.ifCond .ne 6, 3) := by decide +kernel
theorem dX12_why_7 : decode cX12_why 7 = .ok (.bipush (-3), 2) := by decide +kernel
theorem dX12_why_9 : decode cX12_why 9 = .ok (.ireturn, 1) := by decide +kernel
theorem dX12_why_10 : decode cX12_why 10 = .ok (.aload_n 0, 1) := by decide +kernel
theorem dX12_why_11 : decode cX12_why 11 = .ok (.iload_n 1, 1) := by decide +kernel
theorem dX12_why_12 : decode cX12_why 12 = .ok (.iconst 0, 1) := by decide +kernel
theorem dX12_why_13 : decode cX12_why 13 = .ok (.invokevirtual 43, 3) := by decide +kernel
theorem dX12_why_16 : decode cX12_why 16 = .ok (.ifCond .ne 6, 3) := by decide +kernel
theorem dX12_why_19 : decode cX12_why 19 = .ok (.bipush (-2), 2) := by decide +kernel
theorem dX12_why_21 : decode cX12_why 21 = .ok (.ireturn, 1) := by decide +kernel
theorem dX12_why_22 : decode cX12_why 22 = .ok (.iload_n 2, 1) := by decide +kernel
theorem dX12_why_23 : decode cX12_why 23 = .ok (.ifCond .ne 11, 3) := by decide +kernel
theorem dX12_why_26 : decode cX12_why 26 = .ok (.aload_n 0, 1) := by decide +kernel
theorem dX12_why_27 : decode cX12_why 27 = .ok (.iload_n 1, 1) := by decide +kernel
theorem dX12_why_28 : decode cX12_why 28 = .ok (.invokevirtual 51, 3) := by decide +kernel
theorem dX12_why_31 : decode cX12_why 31 = .ok (.goto 53, 3) := by decide +kernel
theorem dX12_why_34 : decode cX12_why 34 = .ok (.iload_n 2, 1) := by decide +kernel
theorem dX12_why_35 : decode cX12_why 35 = .ok (.iconst 1, 1) := by decide +kernel
theorem dX12_why_36 : decode cX12_why 36 = .ok (.if_icmp .ne 11, 3) := by decide +kernel
theorem dX12_why_39 : decode cX12_why 39 = .ok (.aload_n 0, 1) := by decide +kernel
theorem dX12_why_40 : decode cX12_why 40 = .ok (.iload_n 1, 1) := by decide +kernel
theorem dX12_why_41 : decode cX12_why 41 = .ok (.invokevirtual 54, 3) := by decide +kernel
theorem dX12_why_44 : decode cX12_why 44 = .ok (.goto 40, 3) := by decide +kernel
theorem dX12_why_47 : decode cX12_why 47 = .ok (.iload_n 2, 1) := by decide +kernel
theorem dX12_why_48 : decode cX12_why 48 = .ok (.iconst 2, 1) := by decide +kernel
theorem dX12_why_49 : decode cX12_why 49 = .ok (.if_icmp .ne 11, 3) := by decide +kernel
theorem dX12_why_52 : decode cX12_why 52 = .ok (.aload_n 0, 1) := by decide +kernel
theorem dX12_why_53 : decode cX12_why 53 = .ok (.iload_n 1, 1) := by decide +kernel
theorem dX12_why_54 : decode cX12_why 54 = .ok (.invokevirtual 57, 3) := by decide +kernel
theorem dX12_why_57 : decode cX12_why 57 = .ok (.goto 27, 3) := by decide +kernel
theorem dX12_why_60 : decode cX12_why 60 = .ok (.aload_n 0, 1) := by decide +kernel
theorem dX12_why_61 : decode cX12_why 61 = .ok (.iload_n 1, 1) := by decide +kernel
theorem dX12_why_62 : decode cX12_why 62 = .ok (.iconst 0, 1) := by decide +kernel
theorem dX12_why_63 : decode cX12_why 63 = .ok (.invokevirtual 43, 3) := by decide +kernel
theorem dX12_why_66 : decode cX12_why 66 = .ok (.iload_n 2, 1) := by decide +kernel
theorem dX12_why_67 : decode cX12_why 67 = .ok (.iconst 3, 1) := by decide +kernel
theorem dX12_why_68 : decode cX12_why 68 = .ok (.if_icmp .ne 7, 3) := by decide +kernel
theorem dX12_why_71 : decode cX12_why 71 = .ok (.iconst 3, 1) := by decide +kernel
theorem dX12_why_72 : decode cX12_why 72 = .ok (.goto 4, 3) := by decide +kernel
theorem dX12_why_75 : decode cX12_why 75 = .ok (.iconst 5, 1) := by decide +kernel
theorem dX12_why_76 : decode cX12_why 76 = .ok (.if_icmp .ne 7, 3) := by decide +kernel
theorem dX12_why_79 : decode cX12_why 79 = .ok (.iconst 1, 1) := by decide +kernel
theorem dX12_why_80 : decode cX12_why 80 = .ok (.goto 4, 3) := by decide +kernel
theorem dX12_why_83 : decode cX12_why 83 = .ok (.iconst 0, 1) := by decide +kernel
theorem dX12_why_84 : decode cX12_why 84 = .ok (.istore_n 3, 1) := by decide +kernel
theorem dX12_why_85 : decode cX12_why 85 = .ok (.iload_n 3, 1) := by decide +kernel
theorem dX12_why_86 : decode cX12_why 86 = .ok (.ifCond .eq 7, 3) := by decide +kernel
theorem dX12_why_89 : decode cX12_why 89 = .ok (.iconst 0, 1) := by decide +kernel
theorem dX12_why_90 : decode cX12_why 90 = .ok (.goto 5, 3) := by decide +kernel
theorem dX12_why_93 : decode cX12_why 93 = .ok (.bipush (-5), 2) := by decide +kernel
theorem dX12_why_95 : decode cX12_why 95 = .ok (.ireturn, 1) := by decide +kernel
theorem dX12_caller_0 : decode cX12_caller 0 = .ok (.iload_n 1, 1) := by decide +kernel
theorem dX12_caller_1 : decode cX12_caller 1 = .ok (.i2l, 1) := by decide +kernel
theorem dX12_caller_2 : decode cX12_caller 2 = .ok (.lconst 0, 1) := by decide +kernel
theorem dX12_caller_3 : decode cX12_caller 3 = .ok (.ldc2_w 60, 3) := by decide +kernel
theorem dX12_caller_6 : decode cX12_caller 6 = .ok (.invokestatic 62, 3) := by decide +kernel
theorem dX12_caller_9 : decode cX12_caller 9 = .ok (.ifCond .eq 40, 3) := by decide +kernel
theorem dX12_caller_12 : decode cX12_caller 12 = .ok (.iload_n 2, 1) := by decide +kernel
theorem dX12_caller_13 : decode cX12_caller 13 = .ok (.i2l, 1) := by decide +kernel
theorem dX12_caller_14 : decode cX12_caller 14 = .ok (.lconst 0, 1) := by decide +kernel
theorem dX12_caller_15 : decode cX12_caller 15 = .ok (.ldc2_w 66, 3) := by decide +kernel
theorem dX12_caller_18 : decode cX12_caller 18 = .ok (.invokestatic 62, 3) := by decide +kernel
theorem dX12_caller_21 : decode cX12_caller 21 = .ok (.ifCond .eq 28, 3) := by decide +kernel
theorem dX12_caller_24 : decode cX12_caller 24 = .ok (.iload_n 3, 1) := by decide +kernel
theorem dX12_caller_25 : decode cX12_caller 25 = .ok (.i2l, 1) := by decide +kernel
theorem dX12_caller_26 : decode cX12_caller 26 = .ok (.lconst 0, 1) := by decide +kernel
theorem dX12_caller_27 : decode cX12_caller 27 = .ok (.ldc2_w 68, 3) := by decide +kernel
theorem dX12_caller_30 : decode cX12_caller 30 = .ok (.invokestatic 62, 3) := by decide +kernel
theorem dX12_caller_33 : decode cX12_caller 33 = .ok (.ifCond .eq 16, 3) := by decide +kernel
theorem dX12_caller_36 : decode cX12_caller 36 = .ok (.iload 4, 2) := by decide +kernel
theorem dX12_caller_38 : decode cX12_caller 38 = .ok (.i2l, 1) := by decide +kernel
theorem dX12_caller_39 : decode cX12_caller 39 = .ok (.lconst 0, 1) := by decide +kernel
theorem dX12_caller_40 : decode cX12_caller 40 = .ok (.ldc2_w 70, 3) := by decide +kernel
theorem dX12_caller_43 : decode cX12_caller 43 = .ok (.invokestatic 62, 3) := by decide +kernel
theorem dX12_caller_46 : decode cX12_caller 46 = .ok (.ifCond .ne 10, 3) := by decide +kernel
theorem dX12_caller_49 : decode cX12_caller 49 = .ok (.aload_n 0, 1) := by decide +kernel
theorem dX12_caller_50 : decode cX12_caller 50 = .ok (.bipush (-3), 2) := by decide +kernel
theorem dX12_caller_52 : decode cX12_caller 52 = .ok (.invokevirtual 72, 3) := by decide +kernel
theorem dX12_caller_55 : decode cX12_caller 55 = .ok (.ireturn, 1) := by decide +kernel
theorem dX12_caller_56 : decode cX12_caller 56 = .ok (.aload_n 0, 1) := by decide +kernel
theorem dX12_caller_57 : decode cX12_caller 57 = .ok (.iload_n 1, 1) := by decide +kernel
theorem dX12_caller_58 : decode cX12_caller 58 = .ok (.putfield 76, 3) := by decide +kernel
theorem dX12_caller_61 : decode cX12_caller 61 = .ok (.aload_n 0, 1) := by decide +kernel
theorem dX12_caller_62 : decode cX12_caller 62 = .ok (.iload_n 2, 1) := by decide +kernel
theorem dX12_caller_63 : decode cX12_caller 63 = .ok (.putfield 80, 3) := by decide +kernel
theorem dX12_caller_66 : decode cX12_caller 66 = .ok (.aload_n 0, 1) := by decide +kernel
theorem dX12_caller_67 : decode cX12_caller 67 = .ok (.iload_n 3, 1) := by decide +kernel
theorem dX12_caller_68 : decode cX12_caller 68 = .ok (.putfield 83, 3) := by decide +kernel
theorem dX12_caller_71 : decode cX12_caller 71 = .ok (.aload_n 0, 1) := by decide +kernel
theorem dX12_caller_72 : decode cX12_caller 72 = .ok (.iload 4, 2) := by decide +kernel
theorem dX12_caller_74 : decode cX12_caller 74 = .ok (.putfield 86, 3) := by decide +kernel
theorem dX12_caller_77 : decode cX12_caller 77 = .ok (.iconst 1, 1) := by decide +kernel
theorem dX12_caller_78 : decode cX12_caller 78 = .ok (.ireturn, 1) := by decide +kernel
theorem dX12_seatOf_0 : decode cX12_seatOf 0 = .ok (.aload_n 0, 1) := by decide +kernel
theorem dX12_seatOf_1 : decode cX12_seatOf 1 = .ok (.iload_n 1, 1) := by decide +kernel
theorem dX12_seatOf_2 : decode cX12_seatOf 2 = .ok (.iconst 1, 1) := by decide +kernel
theorem dX12_seatOf_3 : decode cX12_seatOf 3 = .ok (.invokevirtual 43, 3) := by decide +kernel
theorem dX12_seatOf_6 : decode cX12_seatOf 6 = .ok (.i2l, 1) := by decide +kernel
theorem dX12_seatOf_7 : decode cX12_seatOf 7 = .ok (.aload_n 0, 1) := by decide +kernel
theorem dX12_seatOf_8 : decode cX12_seatOf 8 = .ok (.getfield 76, 3) := by decide +kernel
theorem dX12_seatOf_11 : decode cX12_seatOf 11 = .ok (.i2l, 1) := by decide +kernel
theorem dX12_seatOf_12 : decode cX12_seatOf 12 = .ok (.lmul, 1) := by decide +kernel
theorem dX12_seatOf_13 : decode cX12_seatOf 13 = .ok (.aload_n 0, 1) := by decide +kernel
theorem dX12_seatOf_14 : decode cX12_seatOf 14 = .ok (.iload_n 1, 1) := by decide +kernel
theorem dX12_seatOf_15 : decode cX12_seatOf 15 = .ok (.iconst 2, 1) := by decide +kernel
theorem dX12_seatOf_16 : decode cX12_seatOf 16 = .ok (.invokevirtual 43, 3) := by decide +kernel
theorem dX12_seatOf_19 : decode cX12_seatOf 19 = .ok (.i2l, 1) := by decide +kernel
theorem dX12_seatOf_20 : decode cX12_seatOf 20 = .ok (.ladd, 1) := by decide +kernel
theorem dX12_seatOf_21 : decode cX12_seatOf 21 = .ok (.ldc2_w 89, 3) := by decide +kernel
theorem dX12_seatOf_24 : decode cX12_seatOf 24 = .ok (.lrem, 1) := by decide +kernel
theorem dX12_seatOf_25 : decode cX12_seatOf 25 = .ok (.l2i, 1) := by decide +kernel
theorem dX12_seatOf_26 : decode cX12_seatOf 26 = .ok (.ireturn, 1) := by decide +kernel
theorem dX12_ruleOf_0 : decode cX12_ruleOf 0 = .ok (.iconst 0, 1) := by decide +kernel
theorem dX12_ruleOf_1 : decode cX12_ruleOf 1 = .ok (.istore_n 2, 1) := by decide +kernel
theorem dX12_ruleOf_2 : decode cX12_ruleOf 2 = .ok (.iload_n 2, 1) := by decide +kernel
theorem dX12_ruleOf_3 : decode cX12_ruleOf 3 = .ok (.aload_n 0, 1) := by decide +kernel
theorem dX12_ruleOf_4 : decode cX12_ruleOf 4 = .ok (.iload_n 1, 1) := by decide +kernel
theorem dX12_ruleOf_5 : decode cX12_ruleOf 5 = .ok (.iconst 3, 1) := by decide +kernel
theorem dX12_ruleOf_6 : decode cX12_ruleOf 6 = .ok (.invokevirtual 43, 3) := by decide +kernel
theorem dX12_ruleOf_9 : decode cX12_ruleOf 9 = .ok (.if_icmp .ge 84, 3) := by decide +kernel
theorem dX12_ruleOf_12 : decode cX12_ruleOf 12 = .ok (.iconst 4, 1) := by decide +kernel
theorem dX12_ruleOf_13 : decode cX12_ruleOf 13 = .ok (.iconst 4, 1) := by decide +kernel
theorem dX12_ruleOf_14 : decode cX12_ruleOf 14 = .ok (.iload_n 2, 1) := by decide +kernel
theorem dX12_ruleOf_15 : decode cX12_ruleOf 15 = .ok (.imul, 1) := by decide +kernel
theorem dX12_ruleOf_16 : decode cX12_ruleOf 16 = .ok (.iadd, 1) := by decide +kernel
theorem dX12_ruleOf_17 : decode cX12_ruleOf 17 = .ok (.istore_n 3, 1) := by decide +kernel
theorem dX12_ruleOf_18 : decode cX12_ruleOf 18 = .ok (.aload_n 0, 1) := by decide +kernel
theorem dX12_ruleOf_19 : decode cX12_ruleOf 19 = .ok (.iload_n 1, 1) := by decide +kernel
theorem dX12_ruleOf_20 : decode cX12_ruleOf 20 = .ok (.iload_n 3, 1) := by decide +kernel
theorem dX12_ruleOf_21 : decode cX12_ruleOf 21 = .ok (.invokevirtual 43, 3) := by decide +kernel
theorem dX12_ruleOf_24 : decode cX12_ruleOf 24 = .ok (.ifCond .ne 10, 3) := by decide +kernel
theorem dX12_ruleOf_27 : decode cX12_ruleOf 27 = .ok (.aload_n 0, 1) := by decide +kernel
theorem dX12_ruleOf_28 : decode cX12_ruleOf 28 = .ok (.getfield 80, 3) := by decide +kernel
theorem dX12_ruleOf_31 : decode cX12_ruleOf 31 = .ok (.goto 24, 3) := by decide +kernel
theorem dX12_ruleOf_34 : decode cX12_ruleOf 34 = .ok (.aload_n 0, 1) := by decide +kernel
theorem dX12_ruleOf_35 : decode cX12_ruleOf 35 = .ok (.iload_n 1, 1) := by decide +kernel
theorem dX12_ruleOf_36 : decode cX12_ruleOf 36 = .ok (.iload_n 3, 1) := by decide +kernel
theorem dX12_ruleOf_37 : decode cX12_ruleOf 37 = .ok (.invokevirtual 43, 3) := by decide +kernel
theorem dX12_ruleOf_40 : decode cX12_ruleOf 40 = .ok (.iconst 1, 1) := by decide +kernel
theorem dX12_ruleOf_41 : decode cX12_ruleOf 41 = .ok (.if_icmp .ne 10, 3) := by decide +kernel
theorem dX12_ruleOf_44 : decode cX12_ruleOf 44 = .ok (.aload_n 0, 1) := by decide +kernel
theorem dX12_ruleOf_45 : decode cX12_ruleOf 45 = .ok (.getfield 83, 3) := by decide +kernel
theorem dX12_ruleOf_48 : decode cX12_ruleOf 48 = .ok (.goto 7, 3) := by decide +kernel
theorem dX12_ruleOf_51 : decode cX12_ruleOf 51 = .ok (.aload_n 0, 1) := by decide +kernel
theorem dX12_ruleOf_52 : decode cX12_ruleOf 52 = .ok (.getfield 86, 3) := by decide +kernel
theorem dX12_ruleOf_55 : decode cX12_ruleOf 55 = .ok (.istore 4, 2) := by decide +kernel
theorem dX12_ruleOf_57 : decode cX12_ruleOf 57 = .ok (.iload 4, 2) := by decide +kernel
theorem dX12_ruleOf_59 : decode cX12_ruleOf 59 = .ok (.aload_n 0, 1) := by decide +kernel
theorem dX12_ruleOf_60 : decode cX12_ruleOf 60 = .ok (.iload_n 1, 1) := by decide +kernel
theorem dX12_ruleOf_61 : decode cX12_ruleOf 61 = .ok (.iload_n 3, 1) := by decide +kernel
theorem dX12_ruleOf_62 : decode cX12_ruleOf 62 = .ok (.iconst 1, 1) := by decide +kernel
theorem dX12_ruleOf_63 : decode cX12_ruleOf 63 = .ok (.iadd, 1) := by decide +kernel
theorem dX12_ruleOf_64 : decode cX12_ruleOf 64 = .ok (.invokevirtual 43, 3) := by decide +kernel
theorem dX12_ruleOf_67 : decode cX12_ruleOf 67 = .ok (.if_icmp .lt 20, 3) := by decide +kernel
theorem dX12_ruleOf_70 : decode cX12_ruleOf 70 = .ok (.iload 4, 2) := by decide +kernel
theorem dX12_ruleOf_72 : decode cX12_ruleOf 72 = .ok (.aload_n 0, 1) := by decide +kernel
theorem dX12_ruleOf_73 : decode cX12_ruleOf 73 = .ok (.iload_n 1, 1) := by decide +kernel
theorem dX12_ruleOf_74 : decode cX12_ruleOf 74 = .ok (.iload_n 3, 1) := by decide +kernel
theorem dX12_ruleOf_75 : decode cX12_ruleOf 75 = .ok (.iconst 2, 1) := by decide +kernel
theorem dX12_ruleOf_76 : decode cX12_ruleOf 76 = .ok (.iadd, 1) := by decide +kernel
theorem dX12_ruleOf_77 : decode cX12_ruleOf 77 = .ok (.invokevirtual 43, 3) := by decide +kernel
theorem dX12_ruleOf_80 : decode cX12_ruleOf 80 = .ok (.if_icmp .gt 7, 3) := by decide +kernel
theorem dX12_ruleOf_83 : decode cX12_ruleOf 83 = .ok (.iload_n 2, 1) := by decide +kernel
theorem dX12_ruleOf_84 : decode cX12_ruleOf 84 = .ok (.iconst 1, 1) := by decide +kernel
theorem dX12_ruleOf_85 : decode cX12_ruleOf 85 = .ok (.iadd, 1) := by decide +kernel
theorem dX12_ruleOf_86 : decode cX12_ruleOf 86 = .ok (.ireturn, 1) := by decide +kernel
theorem dX12_ruleOf_87 : decode cX12_ruleOf 87 = .ok (.iinc 2 1, 3) := by decide +kernel
theorem dX12_ruleOf_90 : decode cX12_ruleOf 90 = .ok (.goto (-88), 3) := by decide +kernel
theorem dX12_ruleOf_93 : decode cX12_ruleOf 93 = .ok (.iconst 0, 1) := by decide +kernel
theorem dX12_ruleOf_94 : decode cX12_ruleOf 94 = .ok (.ireturn, 1) := by decide +kernel
theorem dX12_wayOfSeat_0 : decode cX12_wayOfSeat 0 = .ok (.aload_n 0, 1) := by decide +kernel
theorem dX12_wayOfSeat_1 : decode cX12_wayOfSeat 1 = .ok (.iload_n 1, 1) := by decide +kernel
theorem dX12_wayOfSeat_2 : decode cX12_wayOfSeat 2 = .ok (.invokevirtual 91, 3) := by decide +kernel
theorem dX12_wayOfSeat_5 : decode cX12_wayOfSeat 5 = .ok (.istore_n 2, 1) := by decide +kernel
theorem dX12_wayOfSeat_6 : decode cX12_wayOfSeat 6 = .ok (.iconst 1, 1) := by decide +kernel
theorem dX12_wayOfSeat_7 : decode cX12_wayOfSeat 7 = .ok (.istore_n 3, 1) := by decide +kernel
theorem dX12_wayOfSeat_8 : decode cX12_wayOfSeat 8 = .ok (.iload_n 3, 1) := by decide +kernel
theorem dX12_wayOfSeat_9 : decode cX12_wayOfSeat 9 = .ok (.bipush 8, 2) := by decide +kernel
theorem dX12_wayOfSeat_11 : decode cX12_wayOfSeat 11 = .ok (.if_icmp .ge 47, 3) := by decide +kernel
theorem dX12_wayOfSeat_14 : decode cX12_wayOfSeat 14 = .ok (.iload_n 2, 1) := by decide +kernel
theorem dX12_wayOfSeat_15 : decode cX12_wayOfSeat 15 = .ok (.aload_n 0, 1) := by decide +kernel
theorem dX12_wayOfSeat_16 : decode cX12_wayOfSeat 16 = .ok (.iload_n 1, 1) := by decide +kernel
theorem dX12_wayOfSeat_17 : decode cX12_wayOfSeat 17 = .ok (.bipush 28, 2) := by decide +kernel
theorem dX12_wayOfSeat_19 : decode cX12_wayOfSeat 19 = .ok (.iload_n 3, 1) := by decide +kernel
theorem dX12_wayOfSeat_20 : decode cX12_wayOfSeat 20 = .ok (.iadd, 1) := by decide +kernel
theorem dX12_wayOfSeat_21 : decode cX12_wayOfSeat 21 = .ok (.invokevirtual 43, 3) := by decide +kernel
theorem dX12_wayOfSeat_24 : decode cX12_wayOfSeat 24 = .ok (.if_icmp .lt 28, 3) := by decide +kernel
theorem dX12_wayOfSeat_27 : decode cX12_wayOfSeat 27 = .ok (.iload_n 2, 1) := by decide +kernel
theorem dX12_wayOfSeat_28 : decode cX12_wayOfSeat 28 = .ok (.aload_n 0, 1) := by decide +kernel
theorem dX12_wayOfSeat_29 : decode cX12_wayOfSeat 29 = .ok (.iload_n 1, 1) := by decide +kernel
theorem dX12_wayOfSeat_30 : decode cX12_wayOfSeat 30 = .ok (.bipush 28, 2) := by decide +kernel
theorem dX12_wayOfSeat_32 : decode cX12_wayOfSeat 32 = .ok (.iload_n 3, 1) := by decide +kernel
theorem dX12_wayOfSeat_33 : decode cX12_wayOfSeat 33 = .ok (.iadd, 1) := by decide +kernel
theorem dX12_wayOfSeat_34 : decode cX12_wayOfSeat 34 = .ok (.invokevirtual 43, 3) := by decide +kernel
theorem dX12_wayOfSeat_37 : decode cX12_wayOfSeat 37 = .ok (.aload_n 0, 1) := by decide +kernel
theorem dX12_wayOfSeat_38 : decode cX12_wayOfSeat 38 = .ok (.iload_n 1, 1) := by decide +kernel
theorem dX12_wayOfSeat_39 : decode cX12_wayOfSeat 39 = .ok (.bipush 36, 2) := by decide +kernel
theorem dX12_wayOfSeat_41 : decode cX12_wayOfSeat 41 = .ok (.iload_n 3, 1) := by decide +kernel
theorem dX12_wayOfSeat_42 : decode cX12_wayOfSeat 42 = .ok (.iadd, 1) := by decide +kernel
theorem dX12_wayOfSeat_43 : decode cX12_wayOfSeat 43 = .ok (.invokevirtual 43, 3) := by decide +kernel
theorem dX12_wayOfSeat_46 : decode cX12_wayOfSeat 46 = .ok (.iadd, 1) := by decide +kernel
theorem dX12_wayOfSeat_47 : decode cX12_wayOfSeat 47 = .ok (.if_icmp .ge 5, 3) := by decide +kernel
theorem dX12_wayOfSeat_50 : decode cX12_wayOfSeat 50 = .ok (.iload_n 3, 1) := by decide +kernel
theorem dX12_wayOfSeat_51 : decode cX12_wayOfSeat 51 = .ok (.ireturn, 1) := by decide +kernel
theorem dX12_wayOfSeat_52 : decode cX12_wayOfSeat 52 = .ok (.iinc 3 1, 3) := by decide +kernel
theorem dX12_wayOfSeat_55 : decode cX12_wayOfSeat 55 = .ok (.goto (-47), 3) := by decide +kernel
theorem dX12_wayOfSeat_58 : decode cX12_wayOfSeat 58 = .ok (.iconst 0, 1) := by decide +kernel
theorem dX12_wayOfSeat_59 : decode cX12_wayOfSeat 59 = .ok (.ireturn, 1) := by decide +kernel
theorem dX12_ownWay_0 : decode cX12_ownWay 0 = .ok (.aload_n 0, 1) := by decide +kernel
theorem dX12_ownWay_1 : decode cX12_ownWay 1 = .ok (.iload_n 1, 1) := by decide +kernel
theorem dX12_ownWay_2 : decode cX12_ownWay 2 = .ok (.invokevirtual 94, 3) := by decide +kernel
theorem dX12_ownWay_5 : decode cX12_ownWay 5 = .ok (.istore_n 2, 1) := by decide +kernel
theorem dX12_ownWay_6 : decode cX12_ownWay 6 = .ok (.iload_n 2, 1) := by decide +kernel
theorem dX12_ownWay_7 : decode cX12_ownWay 7 = .ok (.ifCond .le 20, 3) := by decide +kernel
theorem dX12_ownWay_10 : decode cX12_ownWay 10 = .ok (.aload_n 0, 1) := by decide +kernel
theorem dX12_ownWay_11 : decode cX12_ownWay 11 = .ok (.iload_n 1, 1) := by decide +kernel
theorem dX12_ownWay_12 : decode cX12_ownWay 12 = .ok (.iconst 4, 1) := by decide +kernel
theorem dX12_ownWay_13 : decode cX12_ownWay 13 = .ok (.iconst 4, 1) := by decide +kernel
theorem dX12_ownWay_14 : decode cX12_ownWay 14 = .ok (.iload_n 2, 1) := by decide +kernel
theorem dX12_ownWay_15 : decode cX12_ownWay 15 = .ok (.iconst 1, 1) := by decide +kernel
theorem dX12_ownWay_16 : decode cX12_ownWay 16 = .ok (.isub, 1) := by decide +kernel
theorem dX12_ownWay_17 : decode cX12_ownWay 17 = .ok (.imul, 1) := by decide +kernel
theorem dX12_ownWay_18 : decode cX12_ownWay 18 = .ok (.iadd, 1) := by decide +kernel
theorem dX12_ownWay_19 : decode cX12_ownWay 19 = .ok (.iconst 3, 1) := by decide +kernel
theorem dX12_ownWay_20 : decode cX12_ownWay 20 = .ok (.iadd, 1) := by decide +kernel
theorem dX12_ownWay_21 : decode cX12_ownWay 21 = .ok (.invokevirtual 43, 3) := by decide +kernel
theorem dX12_ownWay_24 : decode cX12_ownWay 24 = .ok (.goto 8, 3) := by decide +kernel
theorem dX12_ownWay_27 : decode cX12_ownWay 27 = .ok (.aload_n 0, 1) := by decide +kernel
theorem dX12_ownWay_28 : decode cX12_ownWay 28 = .ok (.iload_n 1, 1) := by decide +kernel
theorem dX12_ownWay_29 : decode cX12_ownWay 29 = .ok (.invokevirtual 97, 3) := by decide +kernel
theorem dX12_ownWay_32 : decode cX12_ownWay 32 = .ok (.ireturn, 1) := by decide +kernel
theorem dX12_hangsOn_0 : decode cX12_hangsOn 0 = .ok (.aload_n 0, 1) := by decide +kernel
theorem dX12_hangsOn_1 : decode cX12_hangsOn 1 = .ok (.iload_n 1, 1) := by decide +kernel
theorem dX12_hangsOn_2 : decode cX12_hangsOn 2 = .ok (.invokevirtual 57, 3) := by decide +kernel
theorem dX12_hangsOn_5 : decode cX12_hangsOn 5 = .ok (.ifCond .eq 13, 3) := by decide +kernel
theorem dX12_hangsOn_8 : decode cX12_hangsOn 8 = .ok (.aload_n 0, 1) := by decide +kernel
theorem dX12_hangsOn_9 : decode cX12_hangsOn 9 = .ok (.iload_n 1, 1) := by decide +kernel
theorem dX12_hangsOn_10 : decode cX12_hangsOn 10 = .ok (.bipush 44, 2) := by decide +kernel
theorem dX12_hangsOn_12 : decode cX12_hangsOn 12 = .ok (.invokevirtual 43, 3) := by decide +kernel
theorem dX12_hangsOn_15 : decode cX12_hangsOn 15 = .ok (.goto 4, 3) := by decide +kernel
theorem dX12_hangsOn_18 : decode cX12_hangsOn 18 = .ok (.iconst (-1), 1) := by decide +kernel
theorem dX12_hangsOn_19 : decode cX12_hangsOn 19 = .ok (.istore_n 2, 1) := by decide +kernel
theorem dX12_hangsOn_20 : decode cX12_hangsOn 20 = .ok (.iload_n 2, 1) := by decide +kernel
theorem dX12_hangsOn_21 : decode cX12_hangsOn 21 = .ok (.ifCond .lt 15, 3) := by decide +kernel
theorem dX12_hangsOn_24 : decode cX12_hangsOn 24 = .ok (.aload_n 0, 1) := by decide +kernel
theorem dX12_hangsOn_25 : decode cX12_hangsOn 25 = .ok (.iload_n 2, 1) := by decide +kernel
theorem dX12_hangsOn_26 : decode cX12_hangsOn 26 = .ok (.invokevirtual 51, 3) := by decide +kernel
theorem dX12_hangsOn_29 : decode cX12_hangsOn 29 = .ok (.ifCond .eq 7, 3) := by decide +kernel
theorem dX12_hangsOn_32 : decode cX12_hangsOn 32 = .ok (.iload_n 2, 1) := by decide +kernel
theorem dX12_hangsOn_33 : decode cX12_hangsOn 33 = .ok (.goto 4, 3) := by decide +kernel
theorem dX12_hangsOn_36 : decode cX12_hangsOn 36 = .ok (.iconst (-1), 1) := by decide +kernel
theorem dX12_hangsOn_37 : decode cX12_hangsOn 37 = .ok (.ireturn, 1) := by decide +kernel
theorem dX12_stops_0 : decode cX12_stops 0 = .ok (.aload_n 0, 1) := by decide +kernel
theorem dX12_stops_1 : decode cX12_stops 1 = .ok (.iload_n 1, 1) := by decide +kernel
theorem dX12_stops_2 : decode cX12_stops 2 = .ok (.iconst 0, 1) := by decide +kernel
theorem dX12_stops_3 : decode cX12_stops 3 = .ok (.invokevirtual 43, 3) := by decide +kernel
theorem dX12_stops_6 : decode cX12_stops 6 = .ok (.iconst 5, 1) := by decide +kernel
theorem dX12_stops_7 : decode cX12_stops 7 = .ok (.if_icmp .ne 33, 3) := by decide +kernel
theorem dX12_stops_10 : decode cX12_stops 10 = .ok (.aload_n 0, 1) := by decide +kernel
theorem dX12_stops_11 : decode cX12_stops 11 = .ok (.iload_n 1, 1) := by decide +kernel
theorem dX12_stops_12 : decode cX12_stops 12 = .ok (.bipush 47, 2) := by decide +kernel
theorem dX12_stops_14 : decode cX12_stops 14 = .ok (.invokevirtual 43, 3) := by decide +kernel
theorem dX12_stops_17 : decode cX12_stops 17 = .ok (.iconst 1, 1) := by decide +kernel
theorem dX12_stops_18 : decode cX12_stops 18 = .ok (.if_icmp .ne 22, 3) := by decide +kernel
theorem dX12_stops_21 : decode cX12_stops 21 = .ok (.aload_n 0, 1) := by decide +kernel
theorem dX12_stops_22 : decode cX12_stops 22 = .ok (.iload_n 1, 1) := by decide +kernel
theorem dX12_stops_23 : decode cX12_stops 23 = .ok (.bipush 46, 2) := by decide +kernel
theorem dX12_stops_25 : decode cX12_stops 25 = .ok (.invokevirtual 43, 3) := by decide +kernel
theorem dX12_stops_28 : decode cX12_stops 28 = .ok (.iload_n 2, 1) := by decide +kernel
theorem dX12_stops_29 : decode cX12_stops 29 = .ok (.ishr, 1) := by decide +kernel
theorem dX12_stops_30 : decode cX12_stops 30 = .ok (.iconst 1, 1) := by decide +kernel
theorem dX12_stops_31 : decode cX12_stops 31 = .ok (.iand, 1) := by decide +kernel
theorem dX12_stops_32 : decode cX12_stops 32 = .ok (.iconst 1, 1) := by decide +kernel
theorem dX12_stops_33 : decode cX12_stops 33 = .ok (.if_icmp .ne 7, 3) := by decide +kernel
theorem dX12_stops_36 : decode cX12_stops 36 = .ok (.iconst 1, 1) := by decide +kernel
theorem dX12_stops_37 : decode cX12_stops 37 = .ok (.goto 4, 3) := by decide +kernel
theorem dX12_stops_40 : decode cX12_stops 40 = .ok (.iconst 0, 1) := by decide +kernel
theorem dX12_stops_41 : decode cX12_stops 41 = .ok (.ireturn, 1) := by decide +kernel
theorem dX12_isReady_0 : decode cX12_isReady 0 = .ok (.aload_n 0, 1) := by decide +kernel
theorem dX12_isReady_1 : decode cX12_isReady 1 = .ok (.iload_n 1, 1) := by decide +kernel
theorem dX12_isReady_2 : decode cX12_isReady 2 = .ok (.invokevirtual 100, 3) := by decide +kernel
theorem dX12_isReady_5 : decode cX12_isReady 5 = .ok (.istore_n 2, 1) := by decide +kernel
theorem dX12_isReady_6 : decode cX12_isReady 6 = .ok (.iload_n 2, 1) := by decide +kernel
theorem dX12_isReady_7 : decode cX12_isReady 7 = .ok (.ifCond .lt 12, 3) := by decide +kernel
theorem dX12_isReady_10 : decode cX12_isReady 10 = .ok (.aload_n 0, 1) := by decide +kernel
theorem dX12_isReady_11 : decode cX12_isReady 11 = .ok (.getfield 33, 3) := by decide +kernel
theorem dX12_isReady_14 : decode cX12_isReady 14 = .ok (.iload_n 2, 1) := by decide +kernel
theorem dX12_isReady_15 : decode cX12_isReady 15 = .ok (.baload, 1) := by decide +kernel
theorem dX12_isReady_16 : decode cX12_isReady 16 = .ok (.ifCond .eq 7, 3) := by decide +kernel
theorem dX12_isReady_19 : decode cX12_isReady 19 = .ok (.iconst 1, 1) := by decide +kernel
theorem dX12_isReady_20 : decode cX12_isReady 20 = .ok (.goto 4, 3) := by decide +kernel
theorem dX12_isReady_23 : decode cX12_isReady 23 = .ok (.iconst 0, 1) := by decide +kernel
theorem dX12_isReady_24 : decode cX12_isReady 24 = .ok (.istore_n 3, 1) := by decide +kernel
theorem dX12_isReady_25 : decode cX12_isReady 25 = .ok (.iconst 0, 1) := by decide +kernel
theorem dX12_isReady_26 : decode cX12_isReady 26 = .ok (.istore 4, 2) := by decide +kernel
theorem dX12_isReady_28 : decode cX12_isReady 28 = .ok (.iload 4, 2) := by decide +kernel
theorem dX12_isReady_30 : decode cX12_isReady 30 = .ok (.bipush 16, 2) := by decide +kernel
theorem dX12_isReady_32 : decode cX12_isReady 32 = .ok (.if_icmp .ge 56, 3) := by decide +kernel
theorem dX12_isReady_35 : decode cX12_isReady 35 = .ok (.aload_n 0, 1) := by decide +kernel
theorem dX12_isReady_36 : decode cX12_isReady 36 = .ok (.iload 4, 2) := by decide +kernel
theorem dX12_isReady_38 : decode cX12_isReady 38 = .ok (.iload_n 1, 1) := by decide +kernel
theorem dX12_isReady_39 : decode cX12_isReady 39 = .ok (.invokevirtual 103, 3) := by decide +kernel
theorem dX12_isReady_42 : decode cX12_isReady 42 = .ok (.ifCond .eq 12, 3) := by decide +kernel
theorem dX12_isReady_45 : decode cX12_isReady 45 = .ok (.aload_n 0, 1) := by decide +kernel
theorem dX12_isReady_46 : decode cX12_isReady 46 = .ok (.iload 4, 2) := by decide +kernel
theorem dX12_isReady_48 : decode cX12_isReady 48 = .ok (.invokevirtual 100, 3) := by decide +kernel
theorem dX12_isReady_51 : decode cX12_isReady 51 = .ok (.goto 4, 3) := by decide +kernel
theorem dX12_isReady_54 : decode cX12_isReady 54 = .ok (.iconst (-1), 1) := by decide +kernel
theorem dX12_isReady_55 : decode cX12_isReady 55 = .ok (.istore 5, 2) := by decide +kernel
theorem dX12_isReady_57 : decode cX12_isReady 57 = .ok (.iload_n 3, 1) := by decide +kernel
theorem dX12_isReady_58 : decode cX12_isReady 58 = .ok (.ifCond .eq 22, 3) := by decide +kernel
theorem dX12_isReady_61 : decode cX12_isReady 61 = .ok (.iload 5, 2) := by decide +kernel
theorem dX12_isReady_63 : decode cX12_isReady 63 = .ok (.ifCond .lt 13, 3) := by decide +kernel
theorem dX12_isReady_66 : decode cX12_isReady 66 = .ok (.aload_n 0, 1) := by decide +kernel
theorem dX12_isReady_67 : decode cX12_isReady 67 = .ok (.getfield 33, 3) := by decide +kernel
theorem dX12_isReady_70 : decode cX12_isReady 70 = .ok (.iload 5, 2) := by decide +kernel
theorem dX12_isReady_72 : decode cX12_isReady 72 = .ok (.baload, 1) := by decide +kernel
theorem dX12_isReady_73 : decode cX12_isReady 73 = .ok (.ifCond .eq 7, 3) := by decide +kernel
theorem dX12_isReady_76 : decode cX12_isReady 76 = .ok (.iconst 1, 1) := by decide +kernel
theorem dX12_isReady_77 : decode cX12_isReady 77 = .ok (.goto 4, 3) := by decide +kernel
theorem dX12_isReady_80 : decode cX12_isReady 80 = .ok (.iconst 0, 1) := by decide +kernel
theorem dX12_isReady_81 : decode cX12_isReady 81 = .ok (.istore_n 3, 1) := by decide +kernel
theorem dX12_isReady_82 : decode cX12_isReady 82 = .ok (.iinc 4 1, 3) := by decide +kernel
theorem dX12_isReady_85 : decode cX12_isReady 85 = .ok (.goto (-57), 3) := by decide +kernel
theorem dX12_isReady_88 : decode cX12_isReady 88 = .ok (.iload_n 3, 1) := by decide +kernel
theorem dX12_isReady_89 : decode cX12_isReady 89 = .ok (.ireturn, 1) := by decide +kernel
theorem dX12_stoppedBy_0 : decode cX12_stoppedBy 0 = .ok (.iconst 0, 1) := by decide +kernel
theorem dX12_stoppedBy_1 : decode cX12_stoppedBy 1 = .ok (.istore_n 2, 1) := by decide +kernel
theorem dX12_stoppedBy_2 : decode cX12_stoppedBy 2 = .ok (.iload_n 2, 1) := by decide +kernel
theorem dX12_stoppedBy_3 : decode cX12_stoppedBy 3 = .ok (.bipush 16, 2) := by decide +kernel
theorem dX12_stoppedBy_5 : decode cX12_stoppedBy 5 = .ok (.if_icmp .ge 46, 3) := by decide +kernel
theorem dX12_stoppedBy_8 : decode cX12_stoppedBy 8 = .ok (.aload_n 0, 1) := by decide +kernel
theorem dX12_stoppedBy_9 : decode cX12_stoppedBy 9 = .ok (.iload_n 2, 1) := by decide +kernel
theorem dX12_stoppedBy_10 : decode cX12_stoppedBy 10 = .ok (.invokevirtual 100, 3) := by decide +kernel
theorem dX12_stoppedBy_13 : decode cX12_stoppedBy 13 = .ok (.istore_n 3, 1) := by decide +kernel
theorem dX12_stoppedBy_14 : decode cX12_stoppedBy 14 = .ok (.aload_n 0, 1) := by decide +kernel
theorem dX12_stoppedBy_15 : decode cX12_stoppedBy 15 = .ok (.iload_n 2, 1) := by decide +kernel
theorem dX12_stoppedBy_16 : decode cX12_stoppedBy 16 = .ok (.iload_n 1, 1) := by decide +kernel
theorem dX12_stoppedBy_17 : decode cX12_stoppedBy 17 = .ok (.invokevirtual 103, 3) := by decide +kernel
theorem dX12_stoppedBy_20 : decode cX12_stoppedBy 20 = .ok (.ifCond .eq 25, 3) := by decide +kernel
theorem dX12_stoppedBy_23 : decode cX12_stoppedBy 23 = .ok (.iload_n 3, 1) := by decide +kernel
theorem dX12_stoppedBy_24 : decode cX12_stoppedBy 24 = .ok (.ifCond .lt 19, 3) := by decide +kernel
theorem dX12_stoppedBy_27 : decode cX12_stoppedBy 27 = .ok (.aload_n 0, 1) := by decide +kernel
theorem dX12_stoppedBy_28 : decode cX12_stoppedBy 28 = .ok (.getfield 30, 3) := by decide +kernel
theorem dX12_stoppedBy_31 : decode cX12_stoppedBy 31 = .ok (.iload_n 3, 1) := by decide +kernel
theorem dX12_stoppedBy_32 : decode cX12_stoppedBy 32 = .ok (.iaload, 1) := by decide +kernel
theorem dX12_stoppedBy_33 : decode cX12_stoppedBy 33 = .ok (.aload_n 0, 1) := by decide +kernel
theorem dX12_stoppedBy_34 : decode cX12_stoppedBy 34 = .ok (.iload_n 2, 1) := by decide +kernel
theorem dX12_stoppedBy_35 : decode cX12_stoppedBy 35 = .ok (.bipush 45, 2) := by decide +kernel
theorem dX12_stoppedBy_37 : decode cX12_stoppedBy 37 = .ok (.invokevirtual 43, 3) := by decide +kernel
theorem dX12_stoppedBy_40 : decode cX12_stoppedBy 40 = .ok (.if_icmp .ne 5, 3) := by decide +kernel
theorem dX12_stoppedBy_43 : decode cX12_stoppedBy 43 = .ok (.iload_n 2, 1) := by decide +kernel
theorem dX12_stoppedBy_44 : decode cX12_stoppedBy 44 = .ok (.ireturn, 1) := by decide +kernel
theorem dX12_stoppedBy_45 : decode cX12_stoppedBy 45 = .ok (.iinc 2 1, 3) := by decide +kernel
theorem dX12_stoppedBy_48 : decode cX12_stoppedBy 48 = .ok (.goto (-46), 3) := by decide +kernel
theorem dX12_stoppedBy_51 : decode cX12_stoppedBy 51 = .ok (.iconst (-1), 1) := by decide +kernel
theorem dX12_stoppedBy_52 : decode cX12_stoppedBy 52 = .ok (.ireturn, 1) := by decide +kernel
theorem dX12_isOther_0 : decode cX12_isOther 0 = .ok (.aload_n 0, 1) := by decide +kernel
theorem dX12_isOther_1 : decode cX12_isOther 1 = .ok (.iload_n 1, 1) := by decide +kernel
theorem dX12_isOther_2 : decode cX12_isOther 2 = .ok (.invokevirtual 100, 3) := by decide +kernel
theorem dX12_isOther_5 : decode cX12_isOther 5 = .ok (.istore_n 2, 1) := by decide +kernel
theorem dX12_isOther_6 : decode cX12_isOther 6 = .ok (.iload_n 2, 1) := by decide +kernel
theorem dX12_isOther_7 : decode cX12_isOther 7 = .ok (.ifCond .lt 23, 3) := by decide +kernel
theorem dX12_isOther_10 : decode cX12_isOther 10 = .ok (.aload_n 0, 1) := by decide +kernel
theorem dX12_isOther_11 : decode cX12_isOther 11 = .ok (.getfield 30, 3) := by decide +kernel
theorem dX12_isOther_14 : decode cX12_isOther 14 = .ok (.iload_n 2, 1) := by decide +kernel
theorem dX12_isOther_15 : decode cX12_isOther 15 = .ok (.iaload, 1) := by decide +kernel
theorem dX12_isOther_16 : decode cX12_isOther 16 = .ok (.aload_n 0, 1) := by decide +kernel
theorem dX12_isOther_17 : decode cX12_isOther 17 = .ok (.iload_n 1, 1) := by decide +kernel
theorem dX12_isOther_18 : decode cX12_isOther 18 = .ok (.bipush 45, 2) := by decide +kernel
theorem dX12_isOther_20 : decode cX12_isOther 20 = .ok (.invokevirtual 43, 3) := by decide +kernel
theorem dX12_isOther_23 : decode cX12_isOther 23 = .ok (.if_icmp .eq 7, 3) := by decide +kernel
theorem dX12_isOther_26 : decode cX12_isOther 26 = .ok (.iconst 1, 1) := by decide +kernel
theorem dX12_isOther_27 : decode cX12_isOther 27 = .ok (.goto 4, 3) := by decide +kernel
theorem dX12_isOther_30 : decode cX12_isOther 30 = .ok (.iconst 0, 1) := by decide +kernel
theorem dX12_isOther_31 : decode cX12_isOther 31 = .ok (.ireturn, 1) := by decide +kernel
theorem dX12_findWays_0 : decode cX12_findWays 0 = .ok (.iconst 0, 1) := by decide +kernel
theorem dX12_findWays_1 : decode cX12_findWays 1 = .ok (.istore_n 1, 1) := by decide +kernel
theorem dX12_findWays_2 : decode cX12_findWays 2 = .ok (.iload_n 1, 1) := by decide +kernel
theorem dX12_findWays_3 : decode cX12_findWays 3 = .ok (.bipush 16, 2) := by decide +kernel
theorem dX12_findWays_5 : decode cX12_findWays 5 = .ok (.if_icmp .ge 28, 3) := by decide +kernel
theorem dX12_findWays_8 : decode cX12_findWays 8 = .ok (.aload_n 0, 1) := by decide +kernel
theorem dX12_findWays_9 : decode cX12_findWays 9 = .ok (.getfield 33, 3) := by decide +kernel
theorem dX12_findWays_12 : decode cX12_findWays 12 = .ok (.iload_n 1, 1) := by decide +kernel
theorem dX12_findWays_13 : decode cX12_findWays 13 = .ok (.aload_n 0, 1) := by decide +kernel
theorem dX12_findWays_14 : decode cX12_findWays 14 = .ok (.iload_n 1, 1) := by decide +kernel
theorem dX12_findWays_15 : decode cX12_findWays 15 = .ok (.invokevirtual 51, 3) := by decide +kernel
theorem dX12_findWays_18 : decode cX12_findWays 18 = .ok (.ifCond .ne 7, 3) := by decide +kernel
theorem dX12_findWays_21 : decode cX12_findWays 21 = .ok (.iconst 1, 1) := by decide +kernel
theorem dX12_findWays_22 : decode cX12_findWays 22 = .ok (.goto 4, 3) := by decide +kernel
theorem dX12_findWays_25 : decode cX12_findWays 25 = .ok (.iconst 0, 1) := by decide +kernel
theorem dX12_findWays_26 : decode cX12_findWays 26 = .ok (.bastore, 1) := by decide +kernel
theorem dX12_findWays_27 : decode cX12_findWays 27 = .ok (.iinc 1 1, 3) := by decide +kernel
theorem dX12_findWays_30 : decode cX12_findWays 30 = .ok (.goto (-28), 3) := by decide +kernel
theorem dX12_findWays_33 : decode cX12_findWays 33 = .ok (.iconst 0, 1) := by decide +kernel
theorem dX12_findWays_34 : decode cX12_findWays 34 = .ok (.istore_n 1, 1) := by decide +kernel
theorem dX12_findWays_35 : decode cX12_findWays 35 = .ok (.iload_n 1, 1) := by decide +kernel
theorem dX12_findWays_36 : decode cX12_findWays 36 = .ok (.bipush 16, 2) := by decide +kernel
theorem dX12_findWays_38 : decode cX12_findWays 38 = .ok (.if_icmp .ge 81, 3) := by decide +kernel
theorem dX12_findWays_41 : decode cX12_findWays 41 = .ok (.iconst 0, 1) := by decide +kernel
theorem dX12_findWays_42 : decode cX12_findWays 42 = .ok (.istore_n 2, 1) := by decide +kernel
theorem dX12_findWays_43 : decode cX12_findWays 43 = .ok (.iload_n 2, 1) := by decide +kernel
theorem dX12_findWays_44 : decode cX12_findWays 44 = .ok (.bipush 16, 2) := by decide +kernel
theorem dX12_findWays_46 : decode cX12_findWays 46 = .ok (.if_icmp .ge 67, 3) := by decide +kernel
theorem dX12_findWays_49 : decode cX12_findWays 49 = .ok (.aload_n 0, 1) := by decide +kernel
theorem dX12_findWays_50 : decode cX12_findWays 50 = .ok (.getfield 33, 3) := by decide +kernel
theorem dX12_findWays_53 : decode cX12_findWays 53 = .ok (.iload_n 2, 1) := by decide +kernel
theorem dX12_findWays_54 : decode cX12_findWays 54 = .ok (.baload, 1) := by decide +kernel
theorem dX12_findWays_55 : decode cX12_findWays 55 = .ok (.ifCond .ne 52, 3) := by decide +kernel
theorem dX12_findWays_58 : decode cX12_findWays 58 = .ok (.aload_n 0, 1) := by decide +kernel
theorem dX12_findWays_59 : decode cX12_findWays 59 = .ok (.iload_n 2, 1) := by decide +kernel
theorem dX12_findWays_60 : decode cX12_findWays 60 = .ok (.invokevirtual 107, 3) := by decide +kernel
theorem dX12_findWays_63 : decode cX12_findWays 63 = .ok (.ifCond .ne 6, 3) := by decide +kernel
theorem dX12_findWays_66 : decode cX12_findWays 66 = .ok (.goto 41, 3) := by decide +kernel
theorem dX12_findWays_69 : decode cX12_findWays 69 = .ok (.aload_n 0, 1) := by decide +kernel
theorem dX12_findWays_70 : decode cX12_findWays 70 = .ok (.getfield 30, 3) := by decide +kernel
theorem dX12_findWays_73 : decode cX12_findWays 73 = .ok (.iload_n 2, 1) := by decide +kernel
theorem dX12_findWays_74 : decode cX12_findWays 74 = .ok (.aload_n 0, 1) := by decide +kernel
theorem dX12_findWays_75 : decode cX12_findWays 75 = .ok (.iload_n 2, 1) := by decide +kernel
theorem dX12_findWays_76 : decode cX12_findWays 76 = .ok (.invokevirtual 110, 3) := by decide +kernel
theorem dX12_findWays_79 : decode cX12_findWays 79 = .ok (.ifCond .ge 11, 3) := by decide +kernel
theorem dX12_findWays_82 : decode cX12_findWays 82 = .ok (.aload_n 0, 1) := by decide +kernel
theorem dX12_findWays_83 : decode cX12_findWays 83 = .ok (.iload_n 2, 1) := by decide +kernel
theorem dX12_findWays_84 : decode cX12_findWays 84 = .ok (.invokevirtual 113, 3) := by decide +kernel
theorem dX12_findWays_87 : decode cX12_findWays 87 = .ok (.ifCond .eq 7, 3) := by decide +kernel
theorem dX12_findWays_90 : decode cX12_findWays 90 = .ok (.iconst 0, 1) := by decide +kernel
theorem dX12_findWays_91 : decode cX12_findWays 91 = .ok (.goto 8, 3) := by decide +kernel
theorem dX12_findWays_94 : decode cX12_findWays 94 = .ok (.aload_n 0, 1) := by decide +kernel
theorem dX12_findWays_95 : decode cX12_findWays 95 = .ok (.iload_n 2, 1) := by decide +kernel
theorem dX12_findWays_96 : decode cX12_findWays 96 = .ok (.invokevirtual 116, 3) := by decide +kernel
theorem dX12_findWays_99 : decode cX12_findWays 99 = .ok (.iastore, 1) := by decide +kernel
theorem dX12_findWays_100 : decode cX12_findWays 100 = .ok (.aload_n 0, 1) := by decide +kernel
theorem dX12_findWays_101 : decode cX12_findWays 101 = .ok (.getfield 33, 3) := by decide +kernel
theorem dX12_findWays_104 : decode cX12_findWays 104 = .ok (.iload_n 2, 1) := by decide +kernel
theorem dX12_findWays_105 : decode cX12_findWays 105 = .ok (.iconst 1, 1) := by decide +kernel
theorem dX12_findWays_106 : decode cX12_findWays 106 = .ok (.bastore, 1) := by decide +kernel
theorem dX12_findWays_107 : decode cX12_findWays 107 = .ok (.iinc 2 1, 3) := by decide +kernel
theorem dX12_findWays_110 : decode cX12_findWays 110 = .ok (.goto (-67), 3) := by decide +kernel
theorem dX12_findWays_113 : decode cX12_findWays 113 = .ok (.iinc 1 1, 3) := by decide +kernel
theorem dX12_findWays_116 : decode cX12_findWays 116 = .ok (.goto (-81), 3) := by decide +kernel
theorem dX12_findWays_119 : decode cX12_findWays 119 = .ok (.return_, 1) := by decide +kernel
theorem dX12_seat_0 : decode cX12_seat 0 = .ok (.aload_n 0, 1) := by decide +kernel
theorem dX12_seat_1 : decode cX12_seat 1 = .ok (.iload_n 1, 1) := by decide +kernel
theorem dX12_seat_2 : decode cX12_seat 2 = .ok (.iconst 0, 1) := by decide +kernel
theorem dX12_seat_3 : decode cX12_seat 3 = .ok (.invokevirtual 119, 3) := by decide +kernel
theorem dX12_seat_6 : decode cX12_seat 6 = .ok (.istore_n 2, 1) := by decide +kernel
theorem dX12_seat_7 : decode cX12_seat 7 = .ok (.iload_n 2, 1) := by decide +kernel
theorem dX12_seat_8 : decode cX12_seat 8 = .ok (.ifCond .eq 11, 3) := by decide +kernel
theorem dX12_seat_11 : decode cX12_seat 11 = .ok (.aload_n 0, 1) := by decide +kernel
theorem dX12_seat_12 : decode cX12_seat 12 = .ok (.iload_n 2, 1) := by decide +kernel
theorem dX12_seat_13 : decode cX12_seat 13 = .ok (.invokevirtual 72, 3) := by decide +kernel
theorem dX12_seat_16 : decode cX12_seat 16 = .ok (.goto 8, 3) := by decide +kernel
theorem dX12_seat_19 : decode cX12_seat 19 = .ok (.aload_n 0, 1) := by decide +kernel
theorem dX12_seat_20 : decode cX12_seat 20 = .ok (.iload_n 1, 1) := by decide +kernel
theorem dX12_seat_21 : decode cX12_seat 21 = .ok (.invokevirtual 91, 3) := by decide +kernel
theorem dX12_seat_24 : decode cX12_seat 24 = .ok (.ireturn, 1) := by decide +kernel
theorem dX12_way_0 : decode cX12_way 0 = .ok (.aload_n 0, 1) := by decide +kernel
theorem dX12_way_1 : decode cX12_way 1 = .ok (.iload_n 1, 1) := by decide +kernel
theorem dX12_way_2 : decode cX12_way 2 = .ok (.iconst 0, 1) := by decide +kernel
theorem dX12_way_3 : decode cX12_way 3 = .ok (.invokevirtual 119, 3) := by decide +kernel
theorem dX12_way_6 : decode cX12_way 6 = .ok (.istore_n 2, 1) := by decide +kernel
theorem dX12_way_7 : decode cX12_way 7 = .ok (.iload_n 2, 1) := by decide +kernel
theorem dX12_way_8 : decode cX12_way 8 = .ok (.ifCond .eq 9, 3) := by decide +kernel
theorem dX12_way_11 : decode cX12_way 11 = .ok (.aload_n 0, 1) := by decide +kernel
theorem dX12_way_12 : decode cX12_way 12 = .ok (.iload_n 2, 1) := by decide +kernel
theorem dX12_way_13 : decode cX12_way 13 = .ok (.invokevirtual 72, 3) := by decide +kernel
theorem dX12_way_16 : decode cX12_way 16 = .ok (.ireturn, 1) := by decide +kernel
theorem dX12_way_17 : decode cX12_way 17 = .ok (.aload_n 0, 1) := by decide +kernel
theorem dX12_way_18 : decode cX12_way 18 = .ok (.invokevirtual 122, 3) := by decide +kernel
theorem dX12_way_21 : decode cX12_way 21 = .ok (.aload_n 0, 1) := by decide +kernel
theorem dX12_way_22 : decode cX12_way 22 = .ok (.getfield 30, 3) := by decide +kernel
theorem dX12_way_25 : decode cX12_way 25 = .ok (.iload_n 1, 1) := by decide +kernel
theorem dX12_way_26 : decode cX12_way 26 = .ok (.iaload, 1) := by decide +kernel
theorem dX12_way_27 : decode cX12_way 27 = .ok (.ireturn, 1) := by decide +kernel
theorem dX12_why__0 : decode cX12_why_ 0 = .ok (.aload_n 0, 1) := by decide +kernel
theorem dX12_why__1 : decode cX12_why_ 1 = .ok (.iload_n 1, 1) := by decide +kernel
theorem dX12_why__2 : decode cX12_why_ 2 = .ok (.iconst 0, 1) := by decide +kernel
theorem dX12_why__3 : decode cX12_why_ 3 = .ok (.invokevirtual 119, 3) := by decide +kernel
theorem dX12_why__6 : decode cX12_why_ 6 = .ok (.istore_n 2, 1) := by decide +kernel
theorem dX12_why__7 : decode cX12_why_ 7 = .ok (.iload_n 2, 1) := by decide +kernel
theorem dX12_why__8 : decode cX12_why_ 8 = .ok (.ifCond .eq 9, 3) := by decide +kernel
theorem dX12_why__11 : decode cX12_why_ 11 = .ok (.aload_n 0, 1) := by decide +kernel
theorem dX12_why__12 : decode cX12_why_ 12 = .ok (.iload_n 2, 1) := by decide +kernel
theorem dX12_why__13 : decode cX12_why_ 13 = .ok (.invokevirtual 72, 3) := by decide +kernel
theorem dX12_why__16 : decode cX12_why_ 16 = .ok (.ireturn, 1) := by decide +kernel
theorem dX12_why__17 : decode cX12_why_ 17 = .ok (.aload_n 0, 1) := by decide +kernel
theorem dX12_why__18 : decode cX12_why_ 18 = .ok (.invokevirtual 122, 3) := by decide +kernel
theorem dX12_why__21 : decode cX12_why_ 21 = .ok (.aload_n 0, 1) := by decide +kernel
theorem dX12_why__22 : decode cX12_why_ 22 = .ok (.iload_n 1, 1) := by decide +kernel
theorem dX12_why__23 : decode cX12_why_ 23 = .ok (.invokevirtual 110, 3) := by decide +kernel
theorem dX12_why__26 : decode cX12_why_ 26 = .ok (.istore_n 3, 1) := by decide +kernel
theorem dX12_why__27 : decode cX12_why_ 27 = .ok (.iload_n 3, 1) := by decide +kernel
theorem dX12_why__28 : decode cX12_why_ 28 = .ok (.ifCond .lt 10, 3) := by decide +kernel
theorem dX12_why__31 : decode cX12_why_ 31 = .ok (.bipush 8, 2) := by decide +kernel
theorem dX12_why__33 : decode cX12_why_ 33 = .ok (.iload_n 3, 1) := by decide +kernel
theorem dX12_why__34 : decode cX12_why_ 34 = .ok (.iadd, 1) := by decide +kernel
theorem dX12_why__35 : decode cX12_why_ 35 = .ok (.goto 21, 3) := by decide +kernel
theorem dX12_why__38 : decode cX12_why_ 38 = .ok (.aload_n 0, 1) := by decide +kernel
theorem dX12_why__39 : decode cX12_why_ 39 = .ok (.iload_n 1, 1) := by decide +kernel
theorem dX12_why__40 : decode cX12_why_ 40 = .ok (.invokevirtual 113, 3) := by decide +kernel
theorem dX12_why__43 : decode cX12_why_ 43 = .ok (.ifCond .eq 8, 3) := by decide +kernel
theorem dX12_why__46 : decode cX12_why_ 46 = .ok (.bipush 7, 2) := by decide +kernel
theorem dX12_why__48 : decode cX12_why_ 48 = .ok (.goto 8, 3) := by decide +kernel
theorem dX12_why__51 : decode cX12_why_ 51 = .ok (.aload_n 0, 1) := by decide +kernel
theorem dX12_why__52 : decode cX12_why_ 52 = .ok (.iload_n 1, 1) := by decide +kernel
theorem dX12_why__53 : decode cX12_why_ 53 = .ok (.invokevirtual 94, 3) := by decide +kernel
theorem dX12_why__56 : decode cX12_why_ 56 = .ok (.ireturn, 1) := by decide +kernel
theorem dX12_clears_0 : decode cX12_clears 0 = .ok (.iconst 0, 1) := by decide +kernel
theorem dX12_clears_1 : decode cX12_clears 1 = .ok (.istore_n 2, 1) := by decide +kernel
theorem dX12_clears_2 : decode cX12_clears 2 = .ok (.iload_n 2, 1) := by decide +kernel
theorem dX12_clears_3 : decode cX12_clears 3 = .ok (.sipush 3940, 3) := by decide +kernel
theorem dX12_clears_6 : decode cX12_clears 6 = .ok (.if_icmp .ge 16, 3) := by decide +kernel
theorem dX12_clears_9 : decode cX12_clears 9 = .ok (.aload_n 0, 1) := by decide +kernel
theorem dX12_clears_10 : decode cX12_clears 10 = .ok (.iload_n 1, 1) := by decide +kernel
theorem dX12_clears_11 : decode cX12_clears 11 = .ok (.iload_n 2, 1) := by decide +kernel
theorem dX12_clears_12 : decode cX12_clears 12 = .ok (.iconst 0, 1) := by decide +kernel
theorem dX12_clears_13 : decode cX12_clears 13 = .ok (.invokevirtual 125, 3) := by decide +kernel
theorem dX12_clears_16 : decode cX12_clears 16 = .ok (.iinc 2 1, 3) := by decide +kernel
theorem dX12_clears_19 : decode cX12_clears 19 = .ok (.goto (-17), 3) := by decide +kernel
theorem dX12_clears_22 : decode cX12_clears 22 = .ok (.aload_n 0, 1) := by decide +kernel
theorem dX12_clears_23 : decode cX12_clears 23 = .ok (.iload_n 1, 1) := by decide +kernel
theorem dX12_clears_24 : decode cX12_clears 24 = .ok (.bipush 44, 2) := by decide +kernel
theorem dX12_clears_26 : decode cX12_clears 26 = .ok (.iconst (-1), 1) := by decide +kernel
theorem dX12_clears_27 : decode cX12_clears 27 = .ok (.invokevirtual 125, 3) := by decide +kernel
theorem dX12_clears_30 : decode cX12_clears 30 = .ok (.aload_n 0, 1) := by decide +kernel
theorem dX12_clears_31 : decode cX12_clears 31 = .ok (.iload_n 1, 1) := by decide +kernel
theorem dX12_clears_32 : decode cX12_clears 32 = .ok (.bipush 69, 2) := by decide +kernel
theorem dX12_clears_34 : decode cX12_clears 34 = .ok (.iconst (-1), 1) := by decide +kernel
theorem dX12_clears_35 : decode cX12_clears 35 = .ok (.invokevirtual 125, 3) := by decide +kernel
theorem dX12_clears_38 : decode cX12_clears 38 = .ok (.aload_n 0, 1) := by decide +kernel
theorem dX12_clears_39 : decode cX12_clears 39 = .ok (.iload_n 1, 1) := by decide +kernel
theorem dX12_clears_40 : decode cX12_clears 40 = .ok (.bipush 70, 2) := by decide +kernel
theorem dX12_clears_42 : decode cX12_clears 42 = .ok (.iconst 1, 1) := by decide +kernel
theorem dX12_clears_43 : decode cX12_clears 43 = .ok (.invokevirtual 125, 3) := by decide +kernel
theorem dX12_clears_46 : decode cX12_clears 46 = .ok (.aload_n 0, 1) := by decide +kernel
theorem dX12_clears_47 : decode cX12_clears 47 = .ok (.iload_n 1, 1) := by decide +kernel
theorem dX12_clears_48 : decode cX12_clears 48 = .ok (.bipush 72, 2) := by decide +kernel
theorem dX12_clears_50 : decode cX12_clears 50 = .ok (.sipush 10000, 3) := by decide +kernel
theorem dX12_clears_53 : decode cX12_clears 53 = .ok (.invokevirtual 125, 3) := by decide +kernel
theorem dX12_clears_56 : decode cX12_clears 56 = .ok (.aload_n 0, 1) := by decide +kernel
theorem dX12_clears_57 : decode cX12_clears 57 = .ok (.iload_n 1, 1) := by decide +kernel
theorem dX12_clears_58 : decode cX12_clears 58 = .ok (.bipush 78, 2) := by decide +kernel
theorem dX12_clears_60 : decode cX12_clears 60 = .ok (.iconst 1, 1) := by decide +kernel
theorem dX12_clears_61 : decode cX12_clears 61 = .ok (.invokevirtual 125, 3) := by decide +kernel
theorem dX12_clears_64 : decode cX12_clears 64 = .ok (.aload_n 0, 1) := by decide +kernel
theorem dX12_clears_65 : decode cX12_clears 65 = .ok (.iload_n 1, 1) := by decide +kernel
theorem dX12_clears_66 : decode cX12_clears 66 = .ok (.bipush 79, 2) := by decide +kernel
theorem dX12_clears_68 : decode cX12_clears 68 = .ok (.sipush 500, 3) := by decide +kernel
theorem dX12_clears_71 : decode cX12_clears 71 = .ok (.invokevirtual 125, 3) := by decide +kernel
theorem dX12_clears_74 : decode cX12_clears 74 = .ok (.aload_n 0, 1) := by decide +kernel
theorem dX12_clears_75 : decode cX12_clears 75 = .ok (.iload_n 1, 1) := by decide +kernel
theorem dX12_clears_76 : decode cX12_clears 76 = .ok (.bipush 80, 2) := by decide +kernel
theorem dX12_clears_78 : decode cX12_clears 78 = .ok (.iconst 1, 1) := by decide +kernel
theorem dX12_clears_79 : decode cX12_clears 79 = .ok (.invokevirtual 125, 3) := by decide +kernel
theorem dX12_clears_82 : decode cX12_clears 82 = .ok (.iconst 0, 1) := by decide +kernel
theorem dX12_clears_83 : decode cX12_clears 83 = .ok (.istore_n 2, 1) := by decide +kernel
theorem dX12_clears_84 : decode cX12_clears 84 = .ok (.iload_n 2, 1) := by decide +kernel
theorem dX12_clears_85 : decode cX12_clears 85 = .ok (.iconst 4, 1) := by decide +kernel
theorem dX12_clears_86 : decode cX12_clears 86 = .ok (.if_icmp .ge 19, 3) := by decide +kernel
theorem dX12_clears_89 : decode cX12_clears 89 = .ok (.aload_n 0, 1) := by decide +kernel
theorem dX12_clears_90 : decode cX12_clears 90 = .ok (.iload_n 1, 1) := by decide +kernel
theorem dX12_clears_91 : decode cX12_clears 91 = .ok (.bipush 90, 2) := by decide +kernel
theorem dX12_clears_93 : decode cX12_clears 93 = .ok (.iload_n 2, 1) := by decide +kernel
theorem dX12_clears_94 : decode cX12_clears 94 = .ok (.iadd, 1) := by decide +kernel
theorem dX12_clears_95 : decode cX12_clears 95 = .ok (.iconst 1, 1) := by decide +kernel
theorem dX12_clears_96 : decode cX12_clears 96 = .ok (.invokevirtual 125, 3) := by decide +kernel
theorem dX12_clears_99 : decode cX12_clears 99 = .ok (.iinc 2 1, 3) := by decide +kernel
theorem dX12_clears_102 : decode cX12_clears 102 = .ok (.goto (-18), 3) := by decide +kernel
theorem dX12_clears_105 : decode cX12_clears 105 = .ok (.return_, 1) := by decide +kernel
theorem dX12_make_0 : decode cX12_make 0 = .ok (.iload_n 1, 1) := by decide +kernel
theorem dX12_make_1 : decode cX12_make 1 = .ok (.invokestatic 47, 3) := by decide +kernel
theorem dX12_make_4 : decode cX12_make 4 = .ok (.ifCond .ne 10, 3) := by decide +kernel
theorem dX12_make_7 : decode cX12_make 7 = .ok (.aload_n 0, 1) := by decide +kernel
theorem dX12_make_8 : decode cX12_make 8 = .ok (.bipush (-3), 2) := by decide +kernel
theorem dX12_make_10 : decode cX12_make 10 = .ok (.invokevirtual 72, 3) := by decide +kernel
theorem dX12_make_13 : decode cX12_make 13 = .ok (.ireturn, 1) := by decide +kernel
theorem dX12_make_14 : decode cX12_make 14 = .ok (.iload_n 2, 1) := by decide +kernel
theorem dX12_make_15 : decode cX12_make 15 = .ok (.i2l, 1) := by decide +kernel
theorem dX12_make_16 : decode cX12_make 16 = .ok (.lconst 0, 1) := by decide +kernel
theorem dX12_make_17 : decode cX12_make 17 = .ok (.ldc2_w 129, 3) := by decide +kernel
theorem dX12_make_20 : decode cX12_make 20 = .ok (.invokestatic 62, 3) := by decide +kernel
theorem dX12_make_23 : decode cX12_make 23 = .ok (.ifCond .eq 40, 3) := by decide +kernel
theorem dX12_make_26 : decode cX12_make 26 = .ok (.iload_n 3, 1) := by decide +kernel
theorem dX12_make_27 : decode cX12_make 27 = .ok (.i2l, 1) := by decide +kernel
theorem dX12_make_28 : decode cX12_make 28 = .ok (.lconst 1, 1) := by decide +kernel
theorem dX12_make_29 : decode cX12_make 29 = .ok (.ldc2_w 131, 3) := by decide +kernel
theorem dX12_make_32 : decode cX12_make 32 = .ok (.invokestatic 62, 3) := by decide +kernel
theorem dX12_make_35 : decode cX12_make 35 = .ok (.ifCond .eq 28, 3) := by decide +kernel
theorem dX12_make_38 : decode cX12_make 38 = .ok (.iload_n 3, 1) := by decide +kernel
theorem dX12_make_39 : decode cX12_make 39 = .ok (.iconst 2, 1) := by decide +kernel
theorem dX12_make_40 : decode cX12_make 40 = .ok (.irem, 1) := by decide +kernel
theorem dX12_make_41 : decode cX12_make 41 = .ok (.ifCond .eq 22, 3) := by decide +kernel
theorem dX12_make_44 : decode cX12_make 44 = .ok (.iload_n 3, 1) := by decide +kernel
theorem dX12_make_45 : decode cX12_make 45 = .ok (.iconst 5, 1) := by decide +kernel
theorem dX12_make_46 : decode cX12_make 46 = .ok (.irem, 1) := by decide +kernel
theorem dX12_make_47 : decode cX12_make 47 = .ok (.ifCond .eq 16, 3) := by decide +kernel
theorem dX12_make_50 : decode cX12_make 50 = .ok (.iload 4, 2) := by decide +kernel
theorem dX12_make_52 : decode cX12_make 52 = .ok (.i2l, 1) := by decide +kernel
theorem dX12_make_53 : decode cX12_make 53 = .ok (.lconst 0, 1) := by decide +kernel
theorem dX12_make_54 : decode cX12_make 54 = .ok (.ldc2_w 131, 3) := by decide +kernel
theorem dX12_make_57 : decode cX12_make 57 = .ok (.invokestatic 62, 3) := by decide +kernel
theorem dX12_make_60 : decode cX12_make 60 = .ok (.ifCond .ne 10, 3) := by decide +kernel
theorem dX12_make_63 : decode cX12_make 63 = .ok (.aload_n 0, 1) := by decide +kernel
theorem dX12_make_64 : decode cX12_make 64 = .ok (.bipush (-12), 2) := by decide +kernel
theorem dX12_make_66 : decode cX12_make 66 = .ok (.invokevirtual 72, 3) := by decide +kernel
theorem dX12_make_69 : decode cX12_make 69 = .ok (.ireturn, 1) := by decide +kernel
theorem dX12_make_70 : decode cX12_make 70 = .ok (.aload_n 0, 1) := by decide +kernel
theorem dX12_make_71 : decode cX12_make 71 = .ok (.iload_n 1, 1) := by decide +kernel
theorem dX12_make_72 : decode cX12_make 72 = .ok (.invokevirtual 133, 3) := by decide +kernel
theorem dX12_make_75 : decode cX12_make 75 = .ok (.aload_n 0, 1) := by decide +kernel
theorem dX12_make_76 : decode cX12_make 76 = .ok (.iload_n 1, 1) := by decide +kernel
theorem dX12_make_77 : decode cX12_make 77 = .ok (.iconst 0, 1) := by decide +kernel
theorem dX12_make_78 : decode cX12_make 78 = .ok (.iload_n 2, 1) := by decide +kernel
theorem dX12_make_79 : decode cX12_make 79 = .ok (.iconst 1, 1) := by decide +kernel
theorem dX12_make_80 : decode cX12_make 80 = .ok (.iadd, 1) := by decide +kernel
theorem dX12_make_81 : decode cX12_make 81 = .ok (.invokevirtual 125, 3) := by decide +kernel
theorem dX12_make_84 : decode cX12_make 84 = .ok (.aload_n 0, 1) := by decide +kernel
theorem dX12_make_85 : decode cX12_make 85 = .ok (.iload_n 1, 1) := by decide +kernel
theorem dX12_make_86 : decode cX12_make 86 = .ok (.iconst 1, 1) := by decide +kernel
theorem dX12_make_87 : decode cX12_make 87 = .ok (.iload_n 3, 1) := by decide +kernel
theorem dX12_make_88 : decode cX12_make 88 = .ok (.invokevirtual 125, 3) := by decide +kernel
theorem dX12_make_91 : decode cX12_make 91 = .ok (.aload_n 0, 1) := by decide +kernel
theorem dX12_make_92 : decode cX12_make 92 = .ok (.iload_n 1, 1) := by decide +kernel
theorem dX12_make_93 : decode cX12_make 93 = .ok (.iconst 2, 1) := by decide +kernel
theorem dX12_make_94 : decode cX12_make 94 = .ok (.iload 4, 2) := by decide +kernel
theorem dX12_make_96 : decode cX12_make 96 = .ok (.invokevirtual 125, 3) := by decide +kernel
theorem dX12_make_99 : decode cX12_make 99 = .ok (.iconst 1, 1) := by decide +kernel
theorem dX12_make_100 : decode cX12_make 100 = .ok (.ireturn, 1) := by decide +kernel
theorem dX12_note_0 : decode cX12_note 0 = .ok (.iload_n 1, 1) := by decide +kernel
theorem dX12_note_1 : decode cX12_note 1 = .ok (.invokestatic 47, 3) := by decide +kernel
theorem dX12_note_4 : decode cX12_note 4 = .ok (.ifCond .ne 10, 3) := by decide +kernel
theorem dX12_note_7 : decode cX12_note 7 = .ok (.aload_n 0, 1) := by decide +kernel
theorem dX12_note_8 : decode cX12_note 8 = .ok (.bipush (-3), 2) := by decide +kernel
theorem dX12_note_10 : decode cX12_note 10 = .ok (.invokevirtual 72, 3) := by decide +kernel
theorem dX12_note_13 : decode cX12_note 13 = .ok (.ireturn, 1) := by decide +kernel
theorem dX12_note_14 : decode cX12_note 14 = .ok (.aload_n 0, 1) := by decide +kernel
theorem dX12_note_15 : decode cX12_note 15 = .ok (.iload_n 1, 1) := by decide +kernel
theorem dX12_note_16 : decode cX12_note 16 = .ok (.invokevirtual 133, 3) := by decide +kernel
theorem dX12_note_19 : decode cX12_note 19 = .ok (.aload_n 0, 1) := by decide +kernel
theorem dX12_note_20 : decode cX12_note 20 = .ok (.iload_n 1, 1) := by decide +kernel
theorem dX12_note_21 : decode cX12_note 21 = .ok (.iconst 0, 1) := by decide +kernel
theorem dX12_note_22 : decode cX12_note 22 = .ok (.bipush 6, 2) := by decide +kernel
theorem dX12_note_24 : decode cX12_note 24 = .ok (.invokevirtual 125, 3) := by decide +kernel
theorem dX12_note_27 : decode cX12_note 27 = .ok (.aload_n 0, 1) := by decide +kernel
theorem dX12_note_28 : decode cX12_note 28 = .ok (.getfield 17, 3) := by decide +kernel
theorem dX12_note_31 : decode cX12_note 31 = .ok (.iload_n 1, 1) := by decide +kernel
theorem dX12_note_32 : decode cX12_note 32 = .ok (.lload_n 2, 1) := by decide +kernel
theorem dX12_note_33 : decode cX12_note 33 = .ok (.lastore, 1) := by decide +kernel
theorem dX12_note_34 : decode cX12_note 34 = .ok (.iconst 1, 1) := by decide +kernel
theorem dX12_note_35 : decode cX12_note 35 = .ok (.ireturn, 1) := by decide +kernel
theorem dX12_empty_0 : decode cX12_empty 0 = .ok (.iload_n 1, 1) := by decide +kernel
theorem dX12_empty_1 : decode cX12_empty 1 = .ok (.invokestatic 47, 3) := by decide +kernel
theorem dX12_empty_4 : decode cX12_empty 4 = .ok (.ifCond .ne 10, 3) := by decide +kernel
theorem dX12_empty_7 : decode cX12_empty 7 = .ok (.aload_n 0, 1) := by decide +kernel
theorem dX12_empty_8 : decode cX12_empty 8 = .ok (.bipush (-3), 2) := by decide +kernel
theorem dX12_empty_10 : decode cX12_empty 10 = .ok (.invokevirtual 72, 3) := by decide +kernel
theorem dX12_empty_13 : decode cX12_empty 13 = .ok (.ireturn, 1) := by decide +kernel
theorem dX12_empty_14 : decode cX12_empty 14 = .ok (.aload_n 0, 1) := by decide +kernel
theorem dX12_empty_15 : decode cX12_empty 15 = .ok (.iload_n 1, 1) := by decide +kernel
theorem dX12_empty_16 : decode cX12_empty 16 = .ok (.iconst 0, 1) := by decide +kernel
theorem dX12_empty_17 : decode cX12_empty 17 = .ok (.invokevirtual 43, 3) := by decide +kernel
theorem dX12_empty_20 : decode cX12_empty 20 = .ok (.ifCond .le 7, 3) := by decide +kernel
theorem dX12_empty_23 : decode cX12_empty 23 = .ok (.iconst 1, 1) := by decide +kernel
theorem dX12_empty_24 : decode cX12_empty 24 = .ok (.goto 4, 3) := by decide +kernel
theorem dX12_empty_27 : decode cX12_empty 27 = .ok (.iconst 0, 1) := by decide +kernel
theorem dX12_empty_28 : decode cX12_empty 28 = .ok (.istore_n 2, 1) := by decide +kernel
theorem dX12_empty_29 : decode cX12_empty 29 = .ok (.aload_n 0, 1) := by decide +kernel
theorem dX12_empty_30 : decode cX12_empty 30 = .ok (.iload_n 1, 1) := by decide +kernel
theorem dX12_empty_31 : decode cX12_empty 31 = .ok (.invokevirtual 133, 3) := by decide +kernel
theorem dX12_empty_34 : decode cX12_empty 34 = .ok (.iload_n 2, 1) := by decide +kernel
theorem dX12_empty_35 : decode cX12_empty 35 = .ok (.ireturn, 1) := by decide +kernel
theorem dX12_holds_0 : decode cX12_holds 0 = .ok (.iload_n 1, 1) := by decide +kernel
theorem dX12_holds_1 : decode cX12_holds 1 = .ok (.invokestatic 47, 3) := by decide +kernel
theorem dX12_holds_4 : decode cX12_holds 4 = .ok (.ifCond .eq 14, 3) := by decide +kernel
theorem dX12_holds_7 : decode cX12_holds 7 = .ok (.aload_n 0, 1) := by decide +kernel
theorem dX12_holds_8 : decode cX12_holds 8 = .ok (.iload_n 1, 1) := by decide +kernel
theorem dX12_holds_9 : decode cX12_holds 9 = .ok (.iconst 0, 1) := by decide +kernel
theorem dX12_holds_10 : decode cX12_holds 10 = .ok (.invokevirtual 43, 3) := by decide +kernel
theorem dX12_holds_13 : decode cX12_holds 13 = .ok (.iconst 1, 1) := by decide +kernel
theorem dX12_holds_14 : decode cX12_holds 14 = .ok (.isub, 1) := by decide +kernel
theorem dX12_holds_15 : decode cX12_holds 15 = .ok (.goto 9, 3) := by decide +kernel
theorem dX12_holds_18 : decode cX12_holds 18 = .ok (.aload_n 0, 1) := by decide +kernel
theorem dX12_holds_19 : decode cX12_holds 19 = .ok (.bipush (-3), 2) := by decide +kernel
theorem dX12_holds_21 : decode cX12_holds 21 = .ok (.invokevirtual 72, 3) := by decide +kernel
theorem dX12_holds_24 : decode cX12_holds 24 = .ok (.ireturn, 1) := by decide +kernel
theorem dX12_read_0 : decode cX12_read 0 = .ok (.iload_n 1, 1) := by decide +kernel
theorem dX12_read_1 : decode cX12_read 1 = .ok (.invokestatic 47, 3) := by decide +kernel
theorem dX12_read_4 : decode cX12_read 4 = .ok (.ifCond .ne 8, 3) := by decide +kernel
theorem dX12_read_7 : decode cX12_read 7 = .ok (.bipush (-3), 2) := by decide +kernel
theorem dX12_read_9 : decode cX12_read 9 = .ok (.goto 34, 3) := by decide +kernel
theorem dX12_read_12 : decode cX12_read 12 = .ok (.aload_n 0, 1) := by decide +kernel
theorem dX12_read_13 : decode cX12_read 13 = .ok (.iload_n 1, 1) := by decide +kernel
theorem dX12_read_14 : decode cX12_read 14 = .ok (.iconst 0, 1) := by decide +kernel
theorem dX12_read_15 : decode cX12_read 15 = .ok (.invokevirtual 43, 3) := by decide +kernel
theorem dX12_read_18 : decode cX12_read 18 = .ok (.ifCond .ne 8, 3) := by decide +kernel
theorem dX12_read_21 : decode cX12_read 21 = .ok (.bipush (-2), 2) := by decide +kernel
theorem dX12_read_23 : decode cX12_read 23 = .ok (.goto 20, 3) := by decide +kernel
theorem dX12_read_26 : decode cX12_read 26 = .ok (.aload_n 0, 1) := by decide +kernel
theorem dX12_read_27 : decode cX12_read 27 = .ok (.iload_n 1, 1) := by decide +kernel
theorem dX12_read_28 : decode cX12_read 28 = .ok (.iconst 0, 1) := by decide +kernel
theorem dX12_read_29 : decode cX12_read 29 = .ok (.invokevirtual 43, 3) := by decide +kernel
theorem dX12_read_32 : decode cX12_read 32 = .ok (.bipush 6, 2) := by decide +kernel
theorem dX12_read_34 : decode cX12_read 34 = .ok (.if_icmp .eq 8, 3) := by decide +kernel
theorem dX12_read_37 : decode cX12_read 37 = .ok (.bipush (-5), 2) := by decide +kernel
theorem dX12_read_39 : decode cX12_read 39 = .ok (.goto 4, 3) := by decide +kernel
theorem dX12_read_42 : decode cX12_read 42 = .ok (.iconst 0, 1) := by decide +kernel
theorem dX12_read_43 : decode cX12_read 43 = .ok (.istore_n 2, 1) := by decide +kernel
theorem dX12_read_44 : decode cX12_read 44 = .ok (.iload_n 2, 1) := by decide +kernel
theorem dX12_read_45 : decode cX12_read 45 = .ok (.ifCond .ne 10, 3) := by decide +kernel
theorem dX12_read_48 : decode cX12_read 48 = .ok (.aload_n 0, 1) := by decide +kernel
theorem dX12_read_49 : decode cX12_read 49 = .ok (.getfield 17, 3) := by decide +kernel
theorem dX12_read_52 : decode cX12_read 52 = .ok (.iload_n 1, 1) := by decide +kernel
theorem dX12_read_53 : decode cX12_read 53 = .ok (.laload, 1) := by decide +kernel
theorem dX12_read_54 : decode cX12_read 54 = .ok (.lreturn, 1) := by decide +kernel
theorem dX12_read_55 : decode cX12_read 55 = .ok (.aload_n 0, 1) := by decide +kernel
theorem dX12_read_56 : decode cX12_read 56 = .ok (.iload_n 2, 1) := by decide +kernel
theorem dX12_read_57 : decode cX12_read 57 = .ok (.invokevirtual 72, 3) := by decide +kernel
theorem dX12_read_60 : decode cX12_read 60 = .ok (.istore_n 3, 1) := by decide +kernel
theorem dX12_read_61 : decode cX12_read 61 = .ok (.lconst 0, 1) := by decide +kernel
theorem dX12_read_62 : decode cX12_read 62 = .ok (.lreturn, 1) := by decide +kernel
theorem dX12_rule_0 : decode cX12_rule 0 = .ok (.iload_n 2, 1) := by decide +kernel
theorem dX12_rule_1 : decode cX12_rule 1 = .ok (.i2l, 1) := by decide +kernel
theorem dX12_rule_2 : decode cX12_rule 2 = .ok (.lconst 0, 1) := by decide +kernel
theorem dX12_rule_3 : decode cX12_rule 3 = .ok (.ldc2_w 137, 3) := by decide +kernel
theorem dX12_rule_6 : decode cX12_rule 6 = .ok (.invokestatic 62, 3) := by decide +kernel
theorem dX12_rule_9 : decode cX12_rule 9 = .ok (.ifCond .eq 16, 3) := by decide +kernel
theorem dX12_rule_12 : decode cX12_rule 12 = .ok (.iload 5, 2) := by decide +kernel
theorem dX12_rule_14 : decode cX12_rule 14 = .ok (.i2l, 1) := by decide +kernel
theorem dX12_rule_15 : decode cX12_rule 15 = .ok (.lconst 0, 1) := by decide +kernel
theorem dX12_rule_16 : decode cX12_rule 16 = .ok (.ldc2_w 70, 3) := by decide +kernel
theorem dX12_rule_19 : decode cX12_rule 19 = .ok (.invokestatic 62, 3) := by decide +kernel
theorem dX12_rule_22 : decode cX12_rule 22 = .ok (.ifCond .ne 8, 3) := by decide +kernel
theorem dX12_rule_25 : decode cX12_rule 25 = .ok (.bipush (-3), 2) := by decide +kernel
theorem dX12_rule_27 : decode cX12_rule 27 = .ok (.goto 9, 3) := by decide +kernel
theorem dX12_rule_30 : decode cX12_rule 30 = .ok (.aload_n 0, 1) := by decide +kernel
theorem dX12_rule_31 : decode cX12_rule 31 = .ok (.iload_n 1, 1) := by decide +kernel
theorem dX12_rule_32 : decode cX12_rule 32 = .ok (.iconst 0, 1) := by decide +kernel
theorem dX12_rule_33 : decode cX12_rule 33 = .ok (.invokevirtual 119, 3) := by decide +kernel
theorem dX12_rule_36 : decode cX12_rule 36 = .ok (.istore 6, 2) := by decide +kernel
theorem dX12_rule_38 : decode cX12_rule 38 = .ok (.iload 6, 2) := by decide +kernel
theorem dX12_rule_40 : decode cX12_rule 40 = .ok (.ifCond .eq 10, 3) := by decide +kernel
theorem dX12_rule_43 : decode cX12_rule 43 = .ok (.aload_n 0, 1) := by decide +kernel
theorem dX12_rule_44 : decode cX12_rule 44 = .ok (.iload 6, 2) := by decide +kernel
theorem dX12_rule_46 : decode cX12_rule 46 = .ok (.invokevirtual 72, 3) := by decide +kernel
theorem dX12_rule_49 : decode cX12_rule 49 = .ok (.ireturn, 1) := by decide +kernel
theorem dX12_rule_50 : decode cX12_rule 50 = .ok (.aload_n 0, 1) := by decide +kernel
theorem dX12_rule_51 : decode cX12_rule 51 = .ok (.iload_n 1, 1) := by decide +kernel
theorem dX12_rule_52 : decode cX12_rule 52 = .ok (.iconst 3, 1) := by decide +kernel
theorem dX12_rule_53 : decode cX12_rule 53 = .ok (.invokevirtual 43, 3) := by decide +kernel
theorem dX12_rule_56 : decode cX12_rule 56 = .ok (.istore 7, 2) := by decide +kernel
theorem dX12_rule_58 : decode cX12_rule 58 = .ok (.iload 7, 2) := by decide +kernel
theorem dX12_rule_60 : decode cX12_rule 60 = .ok (.bipush 6, 2) := by decide +kernel
theorem dX12_rule_62 : decode cX12_rule 62 = .ok (.if_icmp .ne 10, 3) := by decide +kernel
theorem dX12_rule_65 : decode cX12_rule 65 = .ok (.aload_n 0, 1) := by decide +kernel
theorem dX12_rule_66 : decode cX12_rule 66 = .ok (.bipush (-13), 2) := by decide +kernel
theorem dX12_rule_68 : decode cX12_rule 68 = .ok (.invokevirtual 72, 3) := by decide +kernel
theorem dX12_rule_71 : decode cX12_rule 71 = .ok (.ireturn, 1) := by decide +kernel
theorem dX12_rule_72 : decode cX12_rule 72 = .ok (.iconst 4, 1) := by decide +kernel
theorem dX12_rule_73 : decode cX12_rule 73 = .ok (.iconst 4, 1) := by decide +kernel
theorem dX12_rule_74 : decode cX12_rule 74 = .ok (.iload 7, 2) := by decide +kernel
theorem dX12_rule_76 : decode cX12_rule 76 = .ok (.imul, 1) := by decide +kernel
theorem dX12_rule_77 : decode cX12_rule 77 = .ok (.iadd, 1) := by decide +kernel
theorem dX12_rule_78 : decode cX12_rule 78 = .ok (.istore 8, 2) := by decide +kernel
theorem dX12_rule_80 : decode cX12_rule 80 = .ok (.aload_n 0, 1) := by decide +kernel
theorem dX12_rule_81 : decode cX12_rule 81 = .ok (.iload_n 1, 1) := by decide +kernel
theorem dX12_rule_82 : decode cX12_rule 82 = .ok (.iload 8, 2) := by decide +kernel
theorem dX12_rule_84 : decode cX12_rule 84 = .ok (.iload_n 2, 1) := by decide +kernel
theorem dX12_rule_85 : decode cX12_rule 85 = .ok (.invokevirtual 125, 3) := by decide +kernel
theorem dX12_rule_88 : decode cX12_rule 88 = .ok (.aload_n 0, 1) := by decide +kernel
theorem dX12_rule_89 : decode cX12_rule 89 = .ok (.iload_n 1, 1) := by decide +kernel
theorem dX12_rule_90 : decode cX12_rule 90 = .ok (.iload 8, 2) := by decide +kernel
theorem dX12_rule_92 : decode cX12_rule 92 = .ok (.iconst 1, 1) := by decide +kernel
theorem dX12_rule_93 : decode cX12_rule 93 = .ok (.iadd, 1) := by decide +kernel
theorem dX12_rule_94 : decode cX12_rule 94 = .ok (.iload_n 3, 1) := by decide +kernel
theorem dX12_rule_95 : decode cX12_rule 95 = .ok (.invokevirtual 125, 3) := by decide +kernel
theorem dX12_rule_98 : decode cX12_rule 98 = .ok (.aload_n 0, 1) := by decide +kernel
theorem dX12_rule_99 : decode cX12_rule 99 = .ok (.iload_n 1, 1) := by decide +kernel
theorem dX12_rule_100 : decode cX12_rule 100 = .ok (.iload 8, 2) := by decide +kernel
theorem dX12_rule_102 : decode cX12_rule 102 = .ok (.iconst 2, 1) := by decide +kernel
theorem dX12_rule_103 : decode cX12_rule 103 = .ok (.iadd, 1) := by decide +kernel
theorem dX12_rule_104 : decode cX12_rule 104 = .ok (.iload 4, 2) := by decide +kernel
theorem dX12_rule_106 : decode cX12_rule 106 = .ok (.invokevirtual 125, 3) := by decide +kernel
theorem dX12_rule_109 : decode cX12_rule 109 = .ok (.aload_n 0, 1) := by decide +kernel
theorem dX12_rule_110 : decode cX12_rule 110 = .ok (.iload_n 1, 1) := by decide +kernel
theorem dX12_rule_111 : decode cX12_rule 111 = .ok (.iload 8, 2) := by decide +kernel
theorem dX12_rule_113 : decode cX12_rule 113 = .ok (.iconst 3, 1) := by decide +kernel
theorem dX12_rule_114 : decode cX12_rule 114 = .ok (.iadd, 1) := by decide +kernel
theorem dX12_rule_115 : decode cX12_rule 115 = .ok (.iload 5, 2) := by decide +kernel
theorem dX12_rule_117 : decode cX12_rule 117 = .ok (.invokevirtual 125, 3) := by decide +kernel
theorem dX12_rule_120 : decode cX12_rule 120 = .ok (.aload_n 0, 1) := by decide +kernel
theorem dX12_rule_121 : decode cX12_rule 121 = .ok (.iload_n 1, 1) := by decide +kernel
theorem dX12_rule_122 : decode cX12_rule 122 = .ok (.iconst 3, 1) := by decide +kernel
theorem dX12_rule_123 : decode cX12_rule 123 = .ok (.iload 7, 2) := by decide +kernel
theorem dX12_rule_125 : decode cX12_rule 125 = .ok (.iconst 1, 1) := by decide +kernel
theorem dX12_rule_126 : decode cX12_rule 126 = .ok (.iadd, 1) := by decide +kernel
theorem dX12_rule_127 : decode cX12_rule 127 = .ok (.invokevirtual 125, 3) := by decide +kernel
theorem dX12_rule_130 : decode cX12_rule 130 = .ok (.iload 7, 2) := by decide +kernel
theorem dX12_rule_132 : decode cX12_rule 132 = .ok (.iconst 1, 1) := by decide +kernel
theorem dX12_rule_133 : decode cX12_rule 133 = .ok (.iadd, 1) := by decide +kernel
theorem dX12_rule_134 : decode cX12_rule 134 = .ok (.ireturn, 1) := by decide +kernel
theorem dX12_unrule_0 : decode cX12_unrule 0 = .ok (.aload_n 0, 1) := by decide +kernel
theorem dX12_unrule_1 : decode cX12_unrule 1 = .ok (.iload_n 1, 1) := by decide +kernel
theorem dX12_unrule_2 : decode cX12_unrule 2 = .ok (.iconst 0, 1) := by decide +kernel
theorem dX12_unrule_3 : decode cX12_unrule 3 = .ok (.invokevirtual 119, 3) := by decide +kernel
theorem dX12_unrule_6 : decode cX12_unrule 6 = .ok (.istore_n 2, 1) := by decide +kernel
theorem dX12_unrule_7 : decode cX12_unrule 7 = .ok (.iload_n 2, 1) := by decide +kernel
theorem dX12_unrule_8 : decode cX12_unrule 8 = .ok (.ifCond .eq 9, 3) := by decide +kernel
theorem dX12_unrule_11 : decode cX12_unrule 11 = .ok (.aload_n 0, 1) := by decide +kernel
theorem dX12_unrule_12 : decode cX12_unrule 12 = .ok (.iload_n 2, 1) := by decide +kernel
theorem dX12_unrule_13 : decode cX12_unrule 13 = .ok (.invokevirtual 72, 3) := by decide +kernel
theorem dX12_unrule_16 : decode cX12_unrule 16 = .ok (.ireturn, 1) := by decide +kernel
theorem dX12_unrule_17 : decode cX12_unrule 17 = .ok (.aload_n 0, 1) := by decide +kernel
theorem dX12_unrule_18 : decode cX12_unrule 18 = .ok (.iload_n 1, 1) := by decide +kernel
theorem dX12_unrule_19 : decode cX12_unrule 19 = .ok (.iconst 3, 1) := by decide +kernel
theorem dX12_unrule_20 : decode cX12_unrule 20 = .ok (.invokevirtual 43, 3) := by decide +kernel
theorem dX12_unrule_23 : decode cX12_unrule 23 = .ok (.ifCond .ne 10, 3) := by decide +kernel
theorem dX12_unrule_26 : decode cX12_unrule 26 = .ok (.aload_n 0, 1) := by decide +kernel
theorem dX12_unrule_27 : decode cX12_unrule 27 = .ok (.bipush (-2), 2) := by decide +kernel
theorem dX12_unrule_29 : decode cX12_unrule 29 = .ok (.invokevirtual 72, 3) := by decide +kernel
theorem dX12_unrule_32 : decode cX12_unrule 32 = .ok (.ireturn, 1) := by decide +kernel
theorem dX12_unrule_33 : decode cX12_unrule 33 = .ok (.aload_n 0, 1) := by decide +kernel
theorem dX12_unrule_34 : decode cX12_unrule 34 = .ok (.iload_n 1, 1) := by decide +kernel
theorem dX12_unrule_35 : decode cX12_unrule 35 = .ok (.iconst 3, 1) := by decide +kernel
theorem dX12_unrule_36 : decode cX12_unrule 36 = .ok (.aload_n 0, 1) := by decide +kernel
theorem dX12_unrule_37 : decode cX12_unrule 37 = .ok (.iload_n 1, 1) := by decide +kernel
theorem dX12_unrule_38 : decode cX12_unrule 38 = .ok (.iconst 3, 1) := by decide +kernel
theorem dX12_unrule_39 : decode cX12_unrule 39 = .ok (.invokevirtual 43, 3) := by decide +kernel
theorem dX12_unrule_42 : decode cX12_unrule 42 = .ok (.iconst 1, 1) := by decide +kernel
theorem dX12_unrule_43 : decode cX12_unrule 43 = .ok (.isub, 1) := by decide +kernel
theorem dX12_unrule_44 : decode cX12_unrule 44 = .ok (.invokevirtual 125, 3) := by decide +kernel
theorem dX12_unrule_47 : decode cX12_unrule 47 = .ok (.aload_n 0, 1) := by decide +kernel
theorem dX12_unrule_48 : decode cX12_unrule 48 = .ok (.iload_n 1, 1) := by decide +kernel
theorem dX12_unrule_49 : decode cX12_unrule 49 = .ok (.iconst 3, 1) := by decide +kernel
theorem dX12_unrule_50 : decode cX12_unrule 50 = .ok (.invokevirtual 43, 3) := by decide +kernel
theorem dX12_unrule_53 : decode cX12_unrule 53 = .ok (.ireturn, 1) := by decide +kernel
theorem dX12_goesOver_0 : decode cX12_goesOver 0 = .ok (.iconst 1, 1) := by decide +kernel
theorem dX12_goesOver_1 : decode cX12_goesOver 1 = .ok (.istore 5, 2) := by decide +kernel
theorem dX12_goesOver_3 : decode cX12_goesOver 3 = .ok (.iload 5, 2) := by decide +kernel
theorem dX12_goesOver_5 : decode cX12_goesOver 5 = .ok (.bipush 8, 2) := by decide +kernel
theorem dX12_goesOver_7 : decode cX12_goesOver 7 = .ok (.if_icmp .ge 73, 3) := by decide +kernel
theorem dX12_goesOver_10 : decode cX12_goesOver 10 = .ok (.aload_n 0, 1) := by decide +kernel
theorem dX12_goesOver_11 : decode cX12_goesOver 11 = .ok (.iload_n 1, 1) := by decide +kernel
theorem dX12_goesOver_12 : decode cX12_goesOver 12 = .ok (.bipush 28, 2) := by decide +kernel
theorem dX12_goesOver_14 : decode cX12_goesOver 14 = .ok (.iload 5, 2) := by decide +kernel
theorem dX12_goesOver_16 : decode cX12_goesOver 16 = .ok (.iadd, 1) := by decide +kernel
theorem dX12_goesOver_17 : decode cX12_goesOver 17 = .ok (.invokevirtual 43, 3) := by decide +kernel
theorem dX12_goesOver_20 : decode cX12_goesOver 20 = .ok (.istore 6, 2) := by decide +kernel
theorem dX12_goesOver_22 : decode cX12_goesOver 22 = .ok (.iload 5, 2) := by decide +kernel
theorem dX12_goesOver_24 : decode cX12_goesOver 24 = .ok (.iload_n 2, 1) := by decide +kernel
theorem dX12_goesOver_25 : decode cX12_goesOver 25 = .ok (.if_icmp .eq 49, 3) := by decide +kernel
theorem dX12_goesOver_28 : decode cX12_goesOver 28 = .ok (.iload 4, 2) := by decide +kernel
theorem dX12_goesOver_30 : decode cX12_goesOver 30 = .ok (.ifCond .le 44, 3) := by decide +kernel
theorem dX12_goesOver_33 : decode cX12_goesOver 33 = .ok (.aload_n 0, 1) := by decide +kernel
theorem dX12_goesOver_34 : decode cX12_goesOver 34 = .ok (.iload_n 1, 1) := by decide +kernel
theorem dX12_goesOver_35 : decode cX12_goesOver 35 = .ok (.bipush 36, 2) := by decide +kernel
theorem dX12_goesOver_37 : decode cX12_goesOver 37 = .ok (.iload 5, 2) := by decide +kernel
theorem dX12_goesOver_39 : decode cX12_goesOver 39 = .ok (.iadd, 1) := by decide +kernel
theorem dX12_goesOver_40 : decode cX12_goesOver 40 = .ok (.invokevirtual 43, 3) := by decide +kernel
theorem dX12_goesOver_43 : decode cX12_goesOver 43 = .ok (.ifCond .le 31, 3) := by decide +kernel
theorem dX12_goesOver_46 : decode cX12_goesOver 46 = .ok (.iload_n 3, 1) := by decide +kernel
theorem dX12_goesOver_47 : decode cX12_goesOver 47 = .ok (.iload 6, 2) := by decide +kernel
theorem dX12_goesOver_49 : decode cX12_goesOver 49 = .ok (.aload_n 0, 1) := by decide +kernel
theorem dX12_goesOver_50 : decode cX12_goesOver 50 = .ok (.iload_n 1, 1) := by decide +kernel
theorem dX12_goesOver_51 : decode cX12_goesOver 51 = .ok (.bipush 36, 2) := by decide +kernel
theorem dX12_goesOver_53 : decode cX12_goesOver 53 = .ok (.iload 5, 2) := by decide +kernel
theorem dX12_goesOver_55 : decode cX12_goesOver 55 = .ok (.iadd, 1) := by decide +kernel
theorem dX12_goesOver_56 : decode cX12_goesOver 56 = .ok (.invokevirtual 43, 3) := by decide +kernel
theorem dX12_goesOver_59 : decode cX12_goesOver 59 = .ok (.iadd, 1) := by decide +kernel
theorem dX12_goesOver_60 : decode cX12_goesOver 60 = .ok (.if_icmp .ge 14, 3) := by decide +kernel
theorem dX12_goesOver_63 : decode cX12_goesOver 63 = .ok (.iload 6, 2) := by decide +kernel
theorem dX12_goesOver_65 : decode cX12_goesOver 65 = .ok (.iload_n 3, 1) := by decide +kernel
theorem dX12_goesOver_66 : decode cX12_goesOver 66 = .ok (.iload 4, 2) := by decide +kernel
theorem dX12_goesOver_68 : decode cX12_goesOver 68 = .ok (.iadd, 1) := by decide +kernel
theorem dX12_goesOver_69 : decode cX12_goesOver 69 = .ok (.if_icmp .ge 5, 3) := by decide +kernel
theorem dX12_goesOver_72 : decode cX12_goesOver 72 = .ok (.iconst 1, 1) := by decide +kernel
theorem dX12_goesOver_73 : decode cX12_goesOver 73 = .ok (.ireturn, 1) := by decide +kernel
theorem dX12_goesOver_74 : decode cX12_goesOver 74 = .ok (.iinc 5 1, 3) := by decide +kernel
theorem dX12_goesOver_77 : decode cX12_goesOver 77 = .ok (.goto (-74), 3) := by decide +kernel
theorem dX12_goesOver_80 : decode cX12_goesOver 80 = .ok (.iconst 0, 1) := by decide +kernel
theorem dX12_goesOver_81 : decode cX12_goesOver 81 = .ok (.ireturn, 1) := by decide +kernel
theorem dX12_share_0 : decode cX12_share 0 = .ok (.iload_n 2, 1) := by decide +kernel
theorem dX12_share_1 : decode cX12_share 1 = .ok (.i2l, 1) := by decide +kernel
theorem dX12_share_2 : decode cX12_share 2 = .ok (.lconst 1, 1) := by decide +kernel
theorem dX12_share_3 : decode cX12_share 3 = .ok (.ldc2_w 70, 3) := by decide +kernel
theorem dX12_share_6 : decode cX12_share 6 = .ok (.invokestatic 62, 3) := by decide +kernel
theorem dX12_share_9 : decode cX12_share 9 = .ok (.ifCond .ne 8, 3) := by decide +kernel
theorem dX12_share_12 : decode cX12_share 12 = .ok (.bipush (-3), 2) := by decide +kernel
theorem dX12_share_14 : decode cX12_share 14 = .ok (.goto 9, 3) := by decide +kernel
theorem dX12_share_17 : decode cX12_share 17 = .ok (.aload_n 0, 1) := by decide +kernel
theorem dX12_share_18 : decode cX12_share 18 = .ok (.iload_n 1, 1) := by decide +kernel
theorem dX12_share_19 : decode cX12_share 19 = .ok (.iconst 0, 1) := by decide +kernel
theorem dX12_share_20 : decode cX12_share 20 = .ok (.invokevirtual 119, 3) := by decide +kernel
theorem dX12_share_23 : decode cX12_share 23 = .ok (.istore 5, 2) := by decide +kernel
theorem dX12_share_25 : decode cX12_share 25 = .ok (.iload 5, 2) := by decide +kernel
theorem dX12_share_27 : decode cX12_share 27 = .ok (.ifCond .eq 10, 3) := by decide +kernel
theorem dX12_share_30 : decode cX12_share 30 = .ok (.aload_n 0, 1) := by decide +kernel
theorem dX12_share_31 : decode cX12_share 31 = .ok (.iload 5, 2) := by decide +kernel
theorem dX12_share_33 : decode cX12_share 33 = .ok (.invokevirtual 72, 3) := by decide +kernel
theorem dX12_share_36 : decode cX12_share 36 = .ok (.ireturn, 1) := by decide +kernel
theorem dX12_share_37 : decode cX12_share 37 = .ok (.iload 4, 2) := by decide +kernel
theorem dX12_share_39 : decode cX12_share 39 = .ok (.ifCond .ge 10, 3) := by decide +kernel
theorem dX12_share_42 : decode cX12_share 42 = .ok (.aload_n 0, 1) := by decide +kernel
theorem dX12_share_43 : decode cX12_share 43 = .ok (.bipush (-4), 2) := by decide +kernel
theorem dX12_share_45 : decode cX12_share 45 = .ok (.invokevirtual 72, 3) := by decide +kernel
theorem dX12_share_48 : decode cX12_share 48 = .ok (.ireturn, 1) := by decide +kernel
theorem dX12_share_49 : decode cX12_share 49 = .ok (.iload_n 3, 1) := by decide +kernel
theorem dX12_share_50 : decode cX12_share 50 = .ok (.i2l, 1) := by decide +kernel
theorem dX12_share_51 : decode cX12_share 51 = .ok (.lconst 0, 1) := by decide +kernel
theorem dX12_share_52 : decode cX12_share 52 = .ok (.ldc2_w 131, 3) := by decide +kernel
theorem dX12_share_55 : decode cX12_share 55 = .ok (.invokestatic 62, 3) := by decide +kernel
theorem dX12_share_58 : decode cX12_share 58 = .ok (.ifCond .eq 43, 3) := by decide +kernel
theorem dX12_share_61 : decode cX12_share 61 = .ok (.iload_n 3, 1) := by decide +kernel
theorem dX12_share_62 : decode cX12_share 62 = .ok (.i2l, 1) := by decide +kernel
theorem dX12_share_63 : decode cX12_share 63 = .ok (.iload 4, 2) := by decide +kernel
theorem dX12_share_65 : decode cX12_share 65 = .ok (.i2l, 1) := by decide +kernel
theorem dX12_share_66 : decode cX12_share 66 = .ok (.ladd, 1) := by decide +kernel
theorem dX12_share_67 : decode cX12_share 67 = .ok (.ldc2_w 89, 3) := by decide +kernel
theorem dX12_share_70 : decode cX12_share 70 = .ok (.lcmp, 1) := by decide +kernel
theorem dX12_share_71 : decode cX12_share 71 = .ok (.ifCond .gt 30, 3) := by decide +kernel
theorem dX12_share_74 : decode cX12_share 74 = .ok (.aload_n 0, 1) := by decide +kernel
theorem dX12_share_75 : decode cX12_share 75 = .ok (.iload_n 1, 1) := by decide +kernel
theorem dX12_share_76 : decode cX12_share 76 = .ok (.iload_n 2, 1) := by decide +kernel
theorem dX12_share_77 : decode cX12_share 77 = .ok (.iload_n 3, 1) := by decide +kernel
theorem dX12_share_78 : decode cX12_share 78 = .ok (.iload 4, 2) := by decide +kernel
theorem dX12_share_80 : decode cX12_share 80 = .ok (.invokevirtual 139, 3) := by decide +kernel
theorem dX12_share_83 : decode cX12_share 83 = .ok (.ifCond .ne 18, 3) := by decide +kernel
theorem dX12_share_86 : decode cX12_share 86 = .ok (.iload_n 2, 1) := by decide +kernel
theorem dX12_share_87 : decode cX12_share 87 = .ok (.iconst 1, 1) := by decide +kernel
theorem dX12_share_88 : decode cX12_share 88 = .ok (.if_icmp .ne 20, 3) := by decide +kernel
theorem dX12_share_91 : decode cX12_share 91 = .ok (.aload_n 0, 1) := by decide +kernel
theorem dX12_share_92 : decode cX12_share 92 = .ok (.iload_n 1, 1) := by decide +kernel
theorem dX12_share_93 : decode cX12_share 93 = .ok (.bipush 69, 2) := by decide +kernel
theorem dX12_share_95 : decode cX12_share 95 = .ok (.invokevirtual 43, 3) := by decide +kernel
theorem dX12_share_98 : decode cX12_share 98 = .ok (.ifCond .lt 10, 3) := by decide +kernel
theorem dX12_share_101 : decode cX12_share 101 = .ok (.aload_n 0, 1) := by decide +kernel
theorem dX12_share_102 : decode cX12_share 102 = .ok (.bipush (-12), 2) := by decide +kernel
theorem dX12_share_104 : decode cX12_share 104 = .ok (.invokevirtual 72, 3) := by decide +kernel
theorem dX12_share_107 : decode cX12_share 107 = .ok (.ireturn, 1) := by decide +kernel
theorem dX12_share_108 : decode cX12_share 108 = .ok (.aload_n 0, 1) := by decide +kernel
theorem dX12_share_109 : decode cX12_share 109 = .ok (.iload_n 1, 1) := by decide +kernel
theorem dX12_share_110 : decode cX12_share 110 = .ok (.bipush 36, 2) := by decide +kernel
theorem dX12_share_112 : decode cX12_share 112 = .ok (.iload_n 2, 1) := by decide +kernel
theorem dX12_share_113 : decode cX12_share 113 = .ok (.iadd, 1) := by decide +kernel
theorem dX12_share_114 : decode cX12_share 114 = .ok (.invokevirtual 43, 3) := by decide +kernel
theorem dX12_share_117 : decode cX12_share 117 = .ok (.istore 6, 2) := by decide +kernel
theorem dX12_share_119 : decode cX12_share 119 = .ok (.aload_n 0, 1) := by decide +kernel
theorem dX12_share_120 : decode cX12_share 120 = .ok (.iload_n 1, 1) := by decide +kernel
theorem dX12_share_121 : decode cX12_share 121 = .ok (.bipush 28, 2) := by decide +kernel
theorem dX12_share_123 : decode cX12_share 123 = .ok (.iload_n 2, 1) := by decide +kernel
theorem dX12_share_124 : decode cX12_share 124 = .ok (.iadd, 1) := by decide +kernel
theorem dX12_share_125 : decode cX12_share 125 = .ok (.iload_n 3, 1) := by decide +kernel
theorem dX12_share_126 : decode cX12_share 126 = .ok (.invokevirtual 125, 3) := by decide +kernel
theorem dX12_share_129 : decode cX12_share 129 = .ok (.aload_n 0, 1) := by decide +kernel
theorem dX12_share_130 : decode cX12_share 130 = .ok (.iload_n 1, 1) := by decide +kernel
theorem dX12_share_131 : decode cX12_share 131 = .ok (.bipush 36, 2) := by decide +kernel
theorem dX12_share_133 : decode cX12_share 133 = .ok (.iload_n 2, 1) := by decide +kernel
theorem dX12_share_134 : decode cX12_share 134 = .ok (.iadd, 1) := by decide +kernel
theorem dX12_share_135 : decode cX12_share 135 = .ok (.iload 4, 2) := by decide +kernel
theorem dX12_share_137 : decode cX12_share 137 = .ok (.invokevirtual 125, 3) := by decide +kernel
theorem dX12_share_140 : decode cX12_share 140 = .ok (.iload 6, 2) := by decide +kernel
theorem dX12_share_142 : decode cX12_share 142 = .ok (.ireturn, 1) := by decide +kernel
theorem dX12_shares_0 : decode cX12_shares 0 = .ok (.iload_n 2, 1) := by decide +kernel
theorem dX12_shares_1 : decode cX12_shares 1 = .ok (.i2l, 1) := by decide +kernel
theorem dX12_shares_2 : decode cX12_shares 2 = .ok (.lconst 1, 1) := by decide +kernel
theorem dX12_shares_3 : decode cX12_shares 3 = .ok (.ldc2_w 70, 3) := by decide +kernel
theorem dX12_shares_6 : decode cX12_shares 6 = .ok (.invokestatic 62, 3) := by decide +kernel
theorem dX12_shares_9 : decode cX12_shares 9 = .ok (.ifCond .ne 8, 3) := by decide +kernel
theorem dX12_shares_12 : decode cX12_shares 12 = .ok (.bipush (-3), 2) := by decide +kernel
theorem dX12_shares_14 : decode cX12_shares 14 = .ok (.goto 9, 3) := by decide +kernel
theorem dX12_shares_17 : decode cX12_shares 17 = .ok (.aload_n 0, 1) := by decide +kernel
theorem dX12_shares_18 : decode cX12_shares 18 = .ok (.iload_n 1, 1) := by decide +kernel
theorem dX12_shares_19 : decode cX12_shares 19 = .ok (.iconst 0, 1) := by decide +kernel
theorem dX12_shares_20 : decode cX12_shares 20 = .ok (.invokevirtual 119, 3) := by decide +kernel
theorem dX12_shares_23 : decode cX12_shares 23 = .ok (.istore 4, 2) := by decide +kernel
theorem dX12_shares_25 : decode cX12_shares 25 = .ok (.iload 4, 2) := by decide +kernel
theorem dX12_shares_27 : decode cX12_shares 27 = .ok (.ifCond .eq 10, 3) := by decide +kernel
theorem dX12_shares_30 : decode cX12_shares 30 = .ok (.aload_n 0, 1) := by decide +kernel
theorem dX12_shares_31 : decode cX12_shares 31 = .ok (.iload 4, 2) := by decide +kernel
theorem dX12_shares_33 : decode cX12_shares 33 = .ok (.invokevirtual 72, 3) := by decide +kernel
theorem dX12_shares_36 : decode cX12_shares 36 = .ok (.ireturn, 1) := by decide +kernel
theorem dX12_shares_37 : decode cX12_shares 37 = .ok (.iload_n 3, 1) := by decide +kernel
theorem dX12_shares_38 : decode cX12_shares 38 = .ok (.i2l, 1) := by decide +kernel
theorem dX12_shares_39 : decode cX12_shares 39 = .ok (.lconst 0, 1) := by decide +kernel
theorem dX12_shares_40 : decode cX12_shares 40 = .ok (.lconst 1, 1) := by decide +kernel
theorem dX12_shares_41 : decode cX12_shares 41 = .ok (.invokestatic 62, 3) := by decide +kernel
theorem dX12_shares_44 : decode cX12_shares 44 = .ok (.ifCond .eq 24, 3) := by decide +kernel
theorem dX12_shares_47 : decode cX12_shares 47 = .ok (.aload_n 0, 1) := by decide +kernel
theorem dX12_shares_48 : decode cX12_shares 48 = .ok (.iload_n 1, 1) := by decide +kernel
theorem dX12_shares_49 : decode cX12_shares 49 = .ok (.iload_n 3, 1) := by decide +kernel
theorem dX12_shares_50 : decode cX12_shares 50 = .ok (.ifCond .ne 8, 3) := by decide +kernel
theorem dX12_shares_53 : decode cX12_shares 53 = .ok (.bipush 28, 2) := by decide +kernel
theorem dX12_shares_55 : decode cX12_shares 55 = .ok (.goto 5, 3) := by decide +kernel
theorem dX12_shares_58 : decode cX12_shares 58 = .ok (.bipush 36, 2) := by decide +kernel
theorem dX12_shares_60 : decode cX12_shares 60 = .ok (.iload_n 2, 1) := by decide +kernel
theorem dX12_shares_61 : decode cX12_shares 61 = .ok (.iadd, 1) := by decide +kernel
theorem dX12_shares_62 : decode cX12_shares 62 = .ok (.invokevirtual 43, 3) := by decide +kernel
theorem dX12_shares_65 : decode cX12_shares 65 = .ok (.goto 9, 3) := by decide +kernel
theorem dX12_shares_68 : decode cX12_shares 68 = .ok (.aload_n 0, 1) := by decide +kernel
theorem dX12_shares_69 : decode cX12_shares 69 = .ok (.bipush (-12), 2) := by decide +kernel
theorem dX12_shares_71 : decode cX12_shares 71 = .ok (.invokevirtual 72, 3) := by decide +kernel
theorem dX12_shares_74 : decode cX12_shares 74 = .ok (.ireturn, 1) := by decide +kernel
theorem dX12_asks_0 : decode cX12_asks 0 = .ok (.aload_n 0, 1) := by decide +kernel
theorem dX12_asks_1 : decode cX12_asks 1 = .ok (.iload_n 1, 1) := by decide +kernel
theorem dX12_asks_2 : decode cX12_asks 2 = .ok (.invokevirtual 57, 3) := by decide +kernel
theorem dX12_asks_5 : decode cX12_asks 5 = .ok (.ifCond .eq 18, 3) := by decide +kernel
theorem dX12_asks_8 : decode cX12_asks 8 = .ok (.aload_n 0, 1) := by decide +kernel
theorem dX12_asks_9 : decode cX12_asks 9 = .ok (.iload_n 1, 1) := by decide +kernel
theorem dX12_asks_10 : decode cX12_asks 10 = .ok (.bipush 44, 2) := by decide +kernel
theorem dX12_asks_12 : decode cX12_asks 12 = .ok (.invokevirtual 43, 3) := by decide +kernel
theorem dX12_asks_15 : decode cX12_asks 15 = .ok (.iload_n 2, 1) := by decide +kernel
theorem dX12_asks_16 : decode cX12_asks 16 = .ok (.if_icmp .ne 7, 3) := by decide +kernel
theorem dX12_asks_19 : decode cX12_asks 19 = .ok (.iconst 1, 1) := by decide +kernel
theorem dX12_asks_20 : decode cX12_asks 20 = .ok (.goto 4, 3) := by decide +kernel
theorem dX12_asks_23 : decode cX12_asks 23 = .ok (.iconst 0, 1) := by decide +kernel
theorem dX12_asks_24 : decode cX12_asks 24 = .ok (.istore_n 3, 1) := by decide +kernel
theorem dX12_asks_25 : decode cX12_asks 25 = .ok (.iconst 0, 1) := by decide +kernel
theorem dX12_asks_26 : decode cX12_asks 26 = .ok (.istore 4, 2) := by decide +kernel
theorem dX12_asks_28 : decode cX12_asks 28 = .ok (.iload 4, 2) := by decide +kernel
theorem dX12_asks_30 : decode cX12_asks 30 = .ok (.bipush 16, 2) := by decide +kernel
theorem dX12_asks_32 : decode cX12_asks 32 = .ok (.if_icmp .ge 58, 3) := by decide +kernel
theorem dX12_asks_35 : decode cX12_asks 35 = .ok (.iload_n 3, 1) := by decide +kernel
theorem dX12_asks_36 : decode cX12_asks 36 = .ok (.ifCond .ne 42, 3) := by decide +kernel
theorem dX12_asks_39 : decode cX12_asks 39 = .ok (.aload_n 0, 1) := by decide +kernel
theorem dX12_asks_40 : decode cX12_asks 40 = .ok (.iload 4, 2) := by decide +kernel
theorem dX12_asks_42 : decode cX12_asks 42 = .ok (.iconst 0, 1) := by decide +kernel
theorem dX12_asks_43 : decode cX12_asks 43 = .ok (.invokevirtual 43, 3) := by decide +kernel
theorem dX12_asks_46 : decode cX12_asks 46 = .ok (.iconst 5, 1) := by decide +kernel
theorem dX12_asks_47 : decode cX12_asks 47 = .ok (.if_icmp .ne 35, 3) := by decide +kernel
theorem dX12_asks_50 : decode cX12_asks 50 = .ok (.aload_n 0, 1) := by decide +kernel
theorem dX12_asks_51 : decode cX12_asks 51 = .ok (.iload 4, 2) := by decide +kernel
theorem dX12_asks_53 : decode cX12_asks 53 = .ok (.bipush 46, 2) := by decide +kernel
theorem dX12_asks_55 : decode cX12_asks 55 = .ok (.invokevirtual 43, 3) := by decide +kernel
theorem dX12_asks_58 : decode cX12_asks 58 = .ok (.iload_n 1, 1) := by decide +kernel
theorem dX12_asks_59 : decode cX12_asks 59 = .ok (.ishr, 1) := by decide +kernel
theorem dX12_asks_60 : decode cX12_asks 60 = .ok (.iconst 1, 1) := by decide +kernel
theorem dX12_asks_61 : decode cX12_asks 61 = .ok (.iand, 1) := by decide +kernel
theorem dX12_asks_62 : decode cX12_asks 62 = .ok (.iconst 1, 1) := by decide +kernel
theorem dX12_asks_63 : decode cX12_asks 63 = .ok (.if_icmp .ne 19, 3) := by decide +kernel
theorem dX12_asks_66 : decode cX12_asks 66 = .ok (.aload_n 0, 1) := by decide +kernel
theorem dX12_asks_67 : decode cX12_asks 67 = .ok (.iload 4, 2) := by decide +kernel
theorem dX12_asks_69 : decode cX12_asks 69 = .ok (.bipush 44, 2) := by decide +kernel
theorem dX12_asks_71 : decode cX12_asks 71 = .ok (.invokevirtual 43, 3) := by decide +kernel
theorem dX12_asks_74 : decode cX12_asks 74 = .ok (.iload_n 2, 1) := by decide +kernel
theorem dX12_asks_75 : decode cX12_asks 75 = .ok (.if_icmp .ne 7, 3) := by decide +kernel
theorem dX12_asks_78 : decode cX12_asks 78 = .ok (.iconst 1, 1) := by decide +kernel
theorem dX12_asks_79 : decode cX12_asks 79 = .ok (.goto 4, 3) := by decide +kernel
theorem dX12_asks_82 : decode cX12_asks 82 = .ok (.iconst 0, 1) := by decide +kernel
theorem dX12_asks_83 : decode cX12_asks 83 = .ok (.istore_n 3, 1) := by decide +kernel
theorem dX12_asks_84 : decode cX12_asks 84 = .ok (.iinc 4 1, 3) := by decide +kernel
theorem dX12_asks_87 : decode cX12_asks 87 = .ok (.goto (-59), 3) := by decide +kernel
theorem dX12_asks_90 : decode cX12_asks 90 = .ok (.iload_n 3, 1) := by decide +kernel
theorem dX12_asks_91 : decode cX12_asks 91 = .ok (.ireturn, 1) := by decide +kernel
theorem dX12_findFar_0 : decode cX12_findFar 0 = .ok (.iconst 0, 1) := by decide +kernel
theorem dX12_findFar_1 : decode cX12_findFar 1 = .ok (.istore_n 2, 1) := by decide +kernel
theorem dX12_findFar_2 : decode cX12_findFar 2 = .ok (.iload_n 2, 1) := by decide +kernel
theorem dX12_findFar_3 : decode cX12_findFar 3 = .ok (.bipush 16, 2) := by decide +kernel
theorem dX12_findFar_5 : decode cX12_findFar 5 = .ok (.if_icmp .ge 30, 3) := by decide +kernel
theorem dX12_findFar_8 : decode cX12_findFar 8 = .ok (.aload_n 0, 1) := by decide +kernel
theorem dX12_findFar_9 : decode cX12_findFar 9 = .ok (.getfield 37, 3) := by decide +kernel
theorem dX12_findFar_12 : decode cX12_findFar 12 = .ok (.iload_n 2, 1) := by decide +kernel
theorem dX12_findFar_13 : decode cX12_findFar 13 = .ok (.aload_n 0, 1) := by decide +kernel
theorem dX12_findFar_14 : decode cX12_findFar 14 = .ok (.iload_n 2, 1) := by decide +kernel
theorem dX12_findFar_15 : decode cX12_findFar 15 = .ok (.iload_n 1, 1) := by decide +kernel
theorem dX12_findFar_16 : decode cX12_findFar 16 = .ok (.invokevirtual 143, 3) := by decide +kernel
theorem dX12_findFar_19 : decode cX12_findFar 19 = .ok (.ifCond .eq 7, 3) := by decide +kernel
theorem dX12_findFar_22 : decode cX12_findFar 22 = .ok (.iconst 1, 1) := by decide +kernel
theorem dX12_findFar_23 : decode cX12_findFar 23 = .ok (.goto 5, 3) := by decide +kernel
theorem dX12_findFar_26 : decode cX12_findFar 26 = .ok (.bipush 100, 2) := by decide +kernel
theorem dX12_findFar_28 : decode cX12_findFar 28 = .ok (.iastore, 1) := by decide +kernel
theorem dX12_findFar_29 : decode cX12_findFar 29 = .ok (.iinc 2 1, 3) := by decide +kernel
theorem dX12_findFar_32 : decode cX12_findFar 32 = .ok (.goto (-30), 3) := by decide +kernel
theorem dX12_findFar_35 : decode cX12_findFar 35 = .ok (.iconst 0, 1) := by decide +kernel
theorem dX12_findFar_36 : decode cX12_findFar 36 = .ok (.istore_n 2, 1) := by decide +kernel
theorem dX12_findFar_37 : decode cX12_findFar 37 = .ok (.iload_n 2, 1) := by decide +kernel
theorem dX12_findFar_38 : decode cX12_findFar 38 = .ok (.bipush 16, 2) := by decide +kernel
theorem dX12_findFar_40 : decode cX12_findFar 40 = .ok (.if_icmp .ge 82, 3) := by decide +kernel
theorem dX12_findFar_43 : decode cX12_findFar 43 = .ok (.iconst 0, 1) := by decide +kernel
theorem dX12_findFar_44 : decode cX12_findFar 44 = .ok (.istore_n 3, 1) := by decide +kernel
theorem dX12_findFar_45 : decode cX12_findFar 45 = .ok (.iload_n 3, 1) := by decide +kernel
theorem dX12_findFar_46 : decode cX12_findFar 46 = .ok (.bipush 16, 2) := by decide +kernel
theorem dX12_findFar_48 : decode cX12_findFar 48 = .ok (.if_icmp .ge 68, 3) := by decide +kernel
theorem dX12_findFar_51 : decode cX12_findFar 51 = .ok (.iconst 0, 1) := by decide +kernel
theorem dX12_findFar_52 : decode cX12_findFar 52 = .ok (.istore 4, 2) := by decide +kernel
theorem dX12_findFar_54 : decode cX12_findFar 54 = .ok (.iload 4, 2) := by decide +kernel
theorem dX12_findFar_56 : decode cX12_findFar 56 = .ok (.bipush 16, 2) := by decide +kernel
theorem dX12_findFar_58 : decode cX12_findFar 58 = .ok (.if_icmp .ge 52, 3) := by decide +kernel
theorem dX12_findFar_61 : decode cX12_findFar 61 = .ok (.aload_n 0, 1) := by decide +kernel
theorem dX12_findFar_62 : decode cX12_findFar 62 = .ok (.getfield 37, 3) := by decide +kernel
theorem dX12_findFar_65 : decode cX12_findFar 65 = .ok (.iload 4, 2) := by decide +kernel
theorem dX12_findFar_67 : decode cX12_findFar 67 = .ok (.iaload, 1) := by decide +kernel
theorem dX12_findFar_68 : decode cX12_findFar 68 = .ok (.iconst 1, 1) := by decide +kernel
theorem dX12_findFar_69 : decode cX12_findFar 69 = .ok (.iadd, 1) := by decide +kernel
theorem dX12_findFar_70 : decode cX12_findFar 70 = .ok (.aload_n 0, 1) := by decide +kernel
theorem dX12_findFar_71 : decode cX12_findFar 71 = .ok (.getfield 37, 3) := by decide +kernel
theorem dX12_findFar_74 : decode cX12_findFar 74 = .ok (.iload_n 3, 1) := by decide +kernel
theorem dX12_findFar_75 : decode cX12_findFar 75 = .ok (.iaload, 1) := by decide +kernel
theorem dX12_findFar_76 : decode cX12_findFar 76 = .ok (.if_icmp .ge 28, 3) := by decide +kernel
theorem dX12_findFar_79 : decode cX12_findFar 79 = .ok (.aload_n 0, 1) := by decide +kernel
theorem dX12_findFar_80 : decode cX12_findFar 80 = .ok (.iload_n 3, 1) := by decide +kernel
theorem dX12_findFar_81 : decode cX12_findFar 81 = .ok (.iload 4, 2) := by decide +kernel
theorem dX12_findFar_83 : decode cX12_findFar 83 = .ok (.invokevirtual 143, 3) := by decide +kernel
theorem dX12_findFar_86 : decode cX12_findFar 86 = .ok (.ifCond .eq 18, 3) := by decide +kernel
theorem dX12_findFar_89 : decode cX12_findFar 89 = .ok (.aload_n 0, 1) := by decide +kernel
theorem dX12_findFar_90 : decode cX12_findFar 90 = .ok (.getfield 37, 3) := by decide +kernel
theorem dX12_findFar_93 : decode cX12_findFar 93 = .ok (.iload_n 3, 1) := by decide +kernel
theorem dX12_findFar_94 : decode cX12_findFar 94 = .ok (.aload_n 0, 1) := by decide +kernel
theorem dX12_findFar_95 : decode cX12_findFar 95 = .ok (.getfield 37, 3) := by decide +kernel
theorem dX12_findFar_98 : decode cX12_findFar 98 = .ok (.iload 4, 2) := by decide +kernel
theorem dX12_findFar_100 : decode cX12_findFar 100 = .ok (.iaload, 1) := by decide +kernel
theorem dX12_findFar_101 : decode cX12_findFar 101 = .ok (.iconst 1, 1) := by decide +kernel
theorem dX12_findFar_102 : decode cX12_findFar 102 = .ok (.iadd, 1) := by decide +kernel
theorem dX12_findFar_103 : decode cX12_findFar 103 = .ok (.iastore, 1) := by decide +kernel
theorem dX12_findFar_104 : decode cX12_findFar 104 = .ok (.iinc 4 1, 3) := by decide +kernel
theorem dX12_findFar_107 : decode cX12_findFar 107 = .ok (.goto (-53), 3) := by decide +kernel
theorem dX12_findFar_110 : decode cX12_findFar 110 = .ok (.iinc 3 1, 3) := by decide +kernel
theorem dX12_findFar_113 : decode cX12_findFar 113 = .ok (.goto (-68), 3) := by decide +kernel
theorem dX12_findFar_116 : decode cX12_findFar 116 = .ok (.iinc 2 1, 3) := by decide +kernel
theorem dX12_findFar_119 : decode cX12_findFar 119 = .ok (.goto (-82), 3) := by decide +kernel
theorem dX12_findFar_122 : decode cX12_findFar 122 = .ok (.return_, 1) := by decide +kernel
theorem dX12_isRing_0 : decode cX12_isRing 0 = .ok (.iconst 0, 1) := by decide +kernel
theorem dX12_isRing_1 : decode cX12_isRing 1 = .ok (.istore_n 1, 1) := by decide +kernel
theorem dX12_isRing_2 : decode cX12_isRing 2 = .ok (.iload_n 1, 1) := by decide +kernel
theorem dX12_isRing_3 : decode cX12_isRing 3 = .ok (.bipush 16, 2) := by decide +kernel
theorem dX12_isRing_5 : decode cX12_isRing 5 = .ok (.if_icmp .ge 89, 3) := by decide +kernel
theorem dX12_isRing_8 : decode cX12_isRing 8 = .ok (.aload_n 0, 1) := by decide +kernel
theorem dX12_isRing_9 : decode cX12_isRing 9 = .ok (.iload_n 1, 1) := by decide +kernel
theorem dX12_isRing_10 : decode cX12_isRing 10 = .ok (.invokevirtual 146, 3) := by decide +kernel
theorem dX12_isRing_13 : decode cX12_isRing 13 = .ok (.aload_n 0, 1) := by decide +kernel
theorem dX12_isRing_14 : decode cX12_isRing 14 = .ok (.getfield 37, 3) := by decide +kernel
theorem dX12_isRing_17 : decode cX12_isRing 17 = .ok (.iload_n 1, 1) := by decide +kernel
theorem dX12_isRing_18 : decode cX12_isRing 18 = .ok (.iaload, 1) := by decide +kernel
theorem dX12_isRing_19 : decode cX12_isRing 19 = .ok (.bipush 16, 2) := by decide +kernel
theorem dX12_isRing_21 : decode cX12_isRing 21 = .ok (.if_icmp .le 6, 3) := by decide +kernel
theorem dX12_isRing_24 : decode cX12_isRing 24 = .ok (.goto 64, 3) := by decide +kernel
theorem dX12_isRing_27 : decode cX12_isRing 27 = .ok (.aload_n 0, 1) := by decide +kernel
theorem dX12_isRing_28 : decode cX12_isRing 28 = .ok (.iconst 0, 1) := by decide +kernel
theorem dX12_isRing_29 : decode cX12_isRing 29 = .ok (.putfield 149, 3) := by decide +kernel
theorem dX12_isRing_32 : decode cX12_isRing 32 = .ok (.iload_n 1, 1) := by decide +kernel
theorem dX12_isRing_33 : decode cX12_isRing 33 = .ok (.istore_n 2, 1) := by decide +kernel
theorem dX12_isRing_34 : decode cX12_isRing 34 = .ok (.aload_n 0, 1) := by decide +kernel
theorem dX12_isRing_35 : decode cX12_isRing 35 = .ok (.getfield 37, 3) := by decide +kernel
theorem dX12_isRing_38 : decode cX12_isRing 38 = .ok (.iload_n 1, 1) := by decide +kernel
theorem dX12_isRing_39 : decode cX12_isRing 39 = .ok (.iaload, 1) := by decide +kernel
theorem dX12_isRing_40 : decode cX12_isRing 40 = .ok (.istore_n 3, 1) := by decide +kernel
theorem dX12_isRing_41 : decode cX12_isRing 41 = .ok (.iload_n 3, 1) := by decide +kernel
theorem dX12_isRing_42 : decode cX12_isRing 42 = .ok (.ifCond .le 44, 3) := by decide +kernel
theorem dX12_isRing_45 : decode cX12_isRing 45 = .ok (.aload_n 0, 1) := by decide +kernel
theorem dX12_isRing_46 : decode cX12_isRing 46 = .ok (.getfield 27, 3) := by decide +kernel
theorem dX12_isRing_49 : decode cX12_isRing 49 = .ok (.aload_n 0, 1) := by decide +kernel
theorem dX12_isRing_50 : decode cX12_isRing 50 = .ok (.getfield 149, 3) := by decide +kernel
theorem dX12_isRing_53 : decode cX12_isRing 53 = .ok (.iload_n 2, 1) := by decide +kernel
theorem dX12_isRing_54 : decode cX12_isRing 54 = .ok (.iastore, 1) := by decide +kernel
theorem dX12_isRing_55 : decode cX12_isRing 55 = .ok (.aload_n 0, 1) := by decide +kernel
theorem dX12_isRing_56 : decode cX12_isRing 56 = .ok (.dup, 1) := by decide +kernel
theorem dX12_isRing_57 : decode cX12_isRing 57 = .ok (.getfield 149, 3) := by decide +kernel
theorem dX12_isRing_60 : decode cX12_isRing 60 = .ok (.iconst 1, 1) := by decide +kernel
theorem dX12_isRing_61 : decode cX12_isRing 61 = .ok (.iadd, 1) := by decide +kernel
theorem dX12_isRing_62 : decode cX12_isRing 62 = .ok (.putfield 149, 3) := by decide +kernel
theorem dX12_isRing_65 : decode cX12_isRing 65 = .ok (.iinc 3 (-1), 3) := by decide +kernel
theorem dX12_isRing_68 : decode cX12_isRing 68 = .ok (.iload_n 3, 1) := by decide +kernel
theorem dX12_isRing_69 : decode cX12_isRing 69 = .ok (.ifCond .ne 7, 3) := by decide +kernel
theorem dX12_isRing_72 : decode cX12_isRing 72 = .ok (.iload_n 1, 1) := by decide +kernel
theorem dX12_isRing_73 : decode cX12_isRing 73 = .ok (.goto 9, 3) := by decide +kernel
theorem dX12_isRing_76 : decode cX12_isRing 76 = .ok (.aload_n 0, 1) := by decide +kernel
theorem dX12_isRing_77 : decode cX12_isRing 77 = .ok (.iload_n 2, 1) := by decide +kernel
theorem dX12_isRing_78 : decode cX12_isRing 78 = .ok (.iload_n 3, 1) := by decide +kernel
theorem dX12_isRing_79 : decode cX12_isRing 79 = .ok (.invokevirtual 152, 3) := by decide +kernel
theorem dX12_isRing_82 : decode cX12_isRing 82 = .ok (.istore_n 2, 1) := by decide +kernel
theorem dX12_isRing_83 : decode cX12_isRing 83 = .ok (.goto (-42), 3) := by decide +kernel
theorem dX12_isRing_86 : decode cX12_isRing 86 = .ok (.iconst 1, 1) := by decide +kernel
theorem dX12_isRing_87 : decode cX12_isRing 87 = .ok (.ireturn, 1) := by decide +kernel
theorem dX12_isRing_88 : decode cX12_isRing 88 = .ok (.iinc 1 1, 3) := by decide +kernel
theorem dX12_isRing_91 : decode cX12_isRing 91 = .ok (.goto (-89), 3) := by decide +kernel
theorem dX12_isRing_94 : decode cX12_isRing 94 = .ok (.iconst 0, 1) := by decide +kernel
theorem dX12_isRing_95 : decode cX12_isRing 95 = .ok (.ireturn, 1) := by decide +kernel
theorem dX12_nextOn_0 : decode cX12_nextOn 0 = .ok (.iconst 0, 1) := by decide +kernel
theorem dX12_nextOn_1 : decode cX12_nextOn 1 = .ok (.istore_n 3, 1) := by decide +kernel
theorem dX12_nextOn_2 : decode cX12_nextOn 2 = .ok (.iload_n 3, 1) := by decide +kernel
theorem dX12_nextOn_3 : decode cX12_nextOn 3 = .ok (.bipush 16, 2) := by decide +kernel
theorem dX12_nextOn_5 : decode cX12_nextOn 5 = .ok (.if_icmp .ge 30, 3) := by decide +kernel
theorem dX12_nextOn_8 : decode cX12_nextOn 8 = .ok (.aload_n 0, 1) := by decide +kernel
theorem dX12_nextOn_9 : decode cX12_nextOn 9 = .ok (.getfield 37, 3) := by decide +kernel
theorem dX12_nextOn_12 : decode cX12_nextOn 12 = .ok (.iload_n 3, 1) := by decide +kernel
theorem dX12_nextOn_13 : decode cX12_nextOn 13 = .ok (.iaload, 1) := by decide +kernel
theorem dX12_nextOn_14 : decode cX12_nextOn 14 = .ok (.iload_n 2, 1) := by decide +kernel
theorem dX12_nextOn_15 : decode cX12_nextOn 15 = .ok (.if_icmp .ne 14, 3) := by decide +kernel
theorem dX12_nextOn_18 : decode cX12_nextOn 18 = .ok (.aload_n 0, 1) := by decide +kernel
theorem dX12_nextOn_19 : decode cX12_nextOn 19 = .ok (.iload_n 1, 1) := by decide +kernel
theorem dX12_nextOn_20 : decode cX12_nextOn 20 = .ok (.iload_n 3, 1) := by decide +kernel
theorem dX12_nextOn_21 : decode cX12_nextOn 21 = .ok (.invokevirtual 143, 3) := by decide +kernel
theorem dX12_nextOn_24 : decode cX12_nextOn 24 = .ok (.ifCond .eq 5, 3) := by decide +kernel
theorem dX12_nextOn_27 : decode cX12_nextOn 27 = .ok (.iload_n 3, 1) := by decide +kernel
theorem dX12_nextOn_28 : decode cX12_nextOn 28 = .ok (.ireturn, 1) := by decide +kernel
theorem dX12_nextOn_29 : decode cX12_nextOn 29 = .ok (.iinc 3 1, 3) := by decide +kernel
theorem dX12_nextOn_32 : decode cX12_nextOn 32 = .ok (.goto (-30), 3) := by decide +kernel
theorem dX12_nextOn_35 : decode cX12_nextOn 35 = .ok (.iconst (-1), 1) := by decide +kernel
theorem dX12_nextOn_36 : decode cX12_nextOn 36 = .ok (.ireturn, 1) := by decide +kernel
theorem dX12_hang_0 : decode cX12_hang 0 = .ok (.iload_n 1, 1) := by decide +kernel
theorem dX12_hang_1 : decode cX12_hang 1 = .ok (.invokestatic 47, 3) := by decide +kernel
theorem dX12_hang_4 : decode cX12_hang 4 = .ok (.ifCond .eq 27, 3) := by decide +kernel
theorem dX12_hang_7 : decode cX12_hang 7 = .ok (.iload_n 2, 1) := by decide +kernel
theorem dX12_hang_8 : decode cX12_hang 8 = .ok (.iconst (-1), 1) := by decide +kernel
theorem dX12_hang_9 : decode cX12_hang 9 = .ok (.if_icmp .eq 29, 3) := by decide +kernel
theorem dX12_hang_12 : decode cX12_hang 12 = .ok (.iload_n 2, 1) := by decide +kernel
theorem dX12_hang_13 : decode cX12_hang 13 = .ok (.invokestatic 47, 3) := by decide +kernel
theorem dX12_hang_16 : decode cX12_hang 16 = .ok (.ifCond .eq 15, 3) := by decide +kernel
theorem dX12_hang_19 : decode cX12_hang 19 = .ok (.iload_n 3, 1) := by decide +kernel
theorem dX12_hang_20 : decode cX12_hang 20 = .ok (.i2l, 1) := by decide +kernel
theorem dX12_hang_21 : decode cX12_hang 21 = .ok (.lconst 0, 1) := by decide +kernel
theorem dX12_hang_22 : decode cX12_hang 22 = .ok (.ldc2_w 70, 3) := by decide +kernel
theorem dX12_hang_25 : decode cX12_hang 25 = .ok (.invokestatic 62, 3) := by decide +kernel
theorem dX12_hang_28 : decode cX12_hang 28 = .ok (.ifCond .ne 10, 3) := by decide +kernel
theorem dX12_hang_31 : decode cX12_hang 31 = .ok (.aload_n 0, 1) := by decide +kernel
theorem dX12_hang_32 : decode cX12_hang 32 = .ok (.bipush (-3), 2) := by decide +kernel
theorem dX12_hang_34 : decode cX12_hang 34 = .ok (.invokevirtual 72, 3) := by decide +kernel
theorem dX12_hang_37 : decode cX12_hang 37 = .ok (.ireturn, 1) := by decide +kernel
theorem dX12_hang_38 : decode cX12_hang 38 = .ok (.aload_n 0, 1) := by decide +kernel
theorem dX12_hang_39 : decode cX12_hang 39 = .ok (.iload_n 1, 1) := by decide +kernel
theorem dX12_hang_40 : decode cX12_hang 40 = .ok (.iconst 0, 1) := by decide +kernel
theorem dX12_hang_41 : decode cX12_hang 41 = .ok (.invokevirtual 43, 3) := by decide +kernel
theorem dX12_hang_44 : decode cX12_hang 44 = .ok (.ifCond .eq 16, 3) := by decide +kernel
theorem dX12_hang_47 : decode cX12_hang 47 = .ok (.iload_n 2, 1) := by decide +kernel
theorem dX12_hang_48 : decode cX12_hang 48 = .ok (.ifCond .lt 19, 3) := by decide +kernel
theorem dX12_hang_51 : decode cX12_hang 51 = .ok (.aload_n 0, 1) := by decide +kernel
theorem dX12_hang_52 : decode cX12_hang 52 = .ok (.iload_n 2, 1) := by decide +kernel
theorem dX12_hang_53 : decode cX12_hang 53 = .ok (.iconst 0, 1) := by decide +kernel
theorem dX12_hang_54 : decode cX12_hang 54 = .ok (.invokevirtual 43, 3) := by decide +kernel
theorem dX12_hang_57 : decode cX12_hang 57 = .ok (.ifCond .ne 10, 3) := by decide +kernel
theorem dX12_hang_60 : decode cX12_hang 60 = .ok (.aload_n 0, 1) := by decide +kernel
theorem dX12_hang_61 : decode cX12_hang 61 = .ok (.bipush (-2), 2) := by decide +kernel
theorem dX12_hang_63 : decode cX12_hang 63 = .ok (.invokevirtual 72, 3) := by decide +kernel
theorem dX12_hang_66 : decode cX12_hang 66 = .ok (.ireturn, 1) := by decide +kernel
theorem dX12_hang_67 : decode cX12_hang 67 = .ok (.aload_n 0, 1) := by decide +kernel
theorem dX12_hang_68 : decode cX12_hang 68 = .ok (.iload_n 1, 1) := by decide +kernel
theorem dX12_hang_69 : decode cX12_hang 69 = .ok (.invokevirtual 57, 3) := by decide +kernel
theorem dX12_hang_72 : decode cX12_hang 72 = .ok (.ifCond .eq 18, 3) := by decide +kernel
theorem dX12_hang_75 : decode cX12_hang 75 = .ok (.iload_n 2, 1) := by decide +kernel
theorem dX12_hang_76 : decode cX12_hang 76 = .ok (.ifCond .lt 21, 3) := by decide +kernel
theorem dX12_hang_79 : decode cX12_hang 79 = .ok (.aload_n 0, 1) := by decide +kernel
theorem dX12_hang_80 : decode cX12_hang 80 = .ok (.iload_n 2, 1) := by decide +kernel
theorem dX12_hang_81 : decode cX12_hang 81 = .ok (.iconst 0, 1) := by decide +kernel
theorem dX12_hang_82 : decode cX12_hang 82 = .ok (.invokevirtual 43, 3) := by decide +kernel
theorem dX12_hang_85 : decode cX12_hang 85 = .ok (.bipush 6, 2) := by decide +kernel
theorem dX12_hang_87 : decode cX12_hang 87 = .ok (.if_icmp .ne 10, 3) := by decide +kernel
theorem dX12_hang_90 : decode cX12_hang 90 = .ok (.aload_n 0, 1) := by decide +kernel
theorem dX12_hang_91 : decode cX12_hang 91 = .ok (.bipush (-5), 2) := by decide +kernel
theorem dX12_hang_93 : decode cX12_hang 93 = .ok (.invokevirtual 72, 3) := by decide +kernel
theorem dX12_hang_96 : decode cX12_hang 96 = .ok (.ireturn, 1) := by decide +kernel
theorem dX12_hang_97 : decode cX12_hang 97 = .ok (.aload_n 0, 1) := by decide +kernel
theorem dX12_hang_98 : decode cX12_hang 98 = .ok (.iload_n 1, 1) := by decide +kernel
theorem dX12_hang_99 : decode cX12_hang 99 = .ok (.bipush 44, 2) := by decide +kernel
theorem dX12_hang_101 : decode cX12_hang 101 = .ok (.invokevirtual 43, 3) := by decide +kernel
theorem dX12_hang_104 : decode cX12_hang 104 = .ok (.istore 4, 2) := by decide +kernel
theorem dX12_hang_106 : decode cX12_hang 106 = .ok (.aload_n 0, 1) := by decide +kernel
theorem dX12_hang_107 : decode cX12_hang 107 = .ok (.iload_n 1, 1) := by decide +kernel
theorem dX12_hang_108 : decode cX12_hang 108 = .ok (.bipush 44, 2) := by decide +kernel
theorem dX12_hang_110 : decode cX12_hang 110 = .ok (.iload_n 2, 1) := by decide +kernel
theorem dX12_hang_111 : decode cX12_hang 111 = .ok (.invokevirtual 125, 3) := by decide +kernel
theorem dX12_hang_114 : decode cX12_hang 114 = .ok (.aload_n 0, 1) := by decide +kernel
theorem dX12_hang_115 : decode cX12_hang 115 = .ok (.invokevirtual 155, 3) := by decide +kernel
theorem dX12_hang_118 : decode cX12_hang 118 = .ok (.ifCond .eq 19, 3) := by decide +kernel
theorem dX12_hang_121 : decode cX12_hang 121 = .ok (.aload_n 0, 1) := by decide +kernel
theorem dX12_hang_122 : decode cX12_hang 122 = .ok (.iload_n 1, 1) := by decide +kernel
theorem dX12_hang_123 : decode cX12_hang 123 = .ok (.bipush 44, 2) := by decide +kernel
theorem dX12_hang_125 : decode cX12_hang 125 = .ok (.iload 4, 2) := by decide +kernel
theorem dX12_hang_127 : decode cX12_hang 127 = .ok (.invokevirtual 125, 3) := by decide +kernel
theorem dX12_hang_130 : decode cX12_hang 130 = .ok (.aload_n 0, 1) := by decide +kernel
theorem dX12_hang_131 : decode cX12_hang 131 = .ok (.bipush (-7), 2) := by decide +kernel
theorem dX12_hang_133 : decode cX12_hang 133 = .ok (.invokevirtual 72, 3) := by decide +kernel
theorem dX12_hang_136 : decode cX12_hang 136 = .ok (.ireturn, 1) := by decide +kernel
theorem dX12_hang_137 : decode cX12_hang 137 = .ok (.aload_n 0, 1) := by decide +kernel
theorem dX12_hang_138 : decode cX12_hang 138 = .ok (.iload_n 1, 1) := by decide +kernel
theorem dX12_hang_139 : decode cX12_hang 139 = .ok (.bipush 45, 2) := by decide +kernel
theorem dX12_hang_141 : decode cX12_hang 141 = .ok (.iload_n 3, 1) := by decide +kernel
theorem dX12_hang_142 : decode cX12_hang 142 = .ok (.invokevirtual 125, 3) := by decide +kernel
theorem dX12_hang_145 : decode cX12_hang 145 = .ok (.iconst 1, 1) := by decide +kernel
theorem dX12_hang_146 : decode cX12_hang 146 = .ok (.ireturn, 1) := by decide +kernel
theorem dX12_stop_0 : decode cX12_stop 0 = .ok (.aload_n 0, 1) := by decide +kernel
theorem dX12_stop_1 : decode cX12_stop 1 = .ok (.iload_n 1, 1) := by decide +kernel
theorem dX12_stop_2 : decode cX12_stop 2 = .ok (.iconst 4, 1) := by decide +kernel
theorem dX12_stop_3 : decode cX12_stop 3 = .ok (.invokevirtual 119, 3) := by decide +kernel
theorem dX12_stop_6 : decode cX12_stop 6 = .ok (.istore 4, 2) := by decide +kernel
theorem dX12_stop_8 : decode cX12_stop 8 = .ok (.iload 4, 2) := by decide +kernel
theorem dX12_stop_10 : decode cX12_stop 10 = .ok (.ifCond .eq 10, 3) := by decide +kernel
theorem dX12_stop_13 : decode cX12_stop 13 = .ok (.aload_n 0, 1) := by decide +kernel
theorem dX12_stop_14 : decode cX12_stop 14 = .ok (.iload 4, 2) := by decide +kernel
theorem dX12_stop_16 : decode cX12_stop 16 = .ok (.invokevirtual 72, 3) := by decide +kernel
theorem dX12_stop_19 : decode cX12_stop 19 = .ok (.ireturn, 1) := by decide +kernel
theorem dX12_stop_20 : decode cX12_stop 20 = .ok (.iload_n 2, 1) := by decide +kernel
theorem dX12_stop_21 : decode cX12_stop 21 = .ok (.i2l, 1) := by decide +kernel
theorem dX12_stop_22 : decode cX12_stop 22 = .ok (.lconst 0, 1) := by decide +kernel
theorem dX12_stop_23 : decode cX12_stop 23 = .ok (.ldc2_w 159, 3) := by decide +kernel
theorem dX12_stop_26 : decode cX12_stop 26 = .ok (.invokestatic 62, 3) := by decide +kernel
theorem dX12_stop_29 : decode cX12_stop 29 = .ok (.ifCond .eq 12, 3) := by decide +kernel
theorem dX12_stop_32 : decode cX12_stop 32 = .ok (.iload_n 2, 1) := by decide +kernel
theorem dX12_stop_33 : decode cX12_stop 33 = .ok (.iload_n 1, 1) := by decide +kernel
theorem dX12_stop_34 : decode cX12_stop 34 = .ok (.ishr, 1) := by decide +kernel
theorem dX12_stop_35 : decode cX12_stop 35 = .ok (.iconst 1, 1) := by decide +kernel
theorem dX12_stop_36 : decode cX12_stop 36 = .ok (.iand, 1) := by decide +kernel
theorem dX12_stop_37 : decode cX12_stop 37 = .ok (.iconst 1, 1) := by decide +kernel
theorem dX12_stop_38 : decode cX12_stop 38 = .ok (.if_icmp .ne 10, 3) := by decide +kernel
theorem dX12_stop_41 : decode cX12_stop 41 = .ok (.aload_n 0, 1) := by decide +kernel
theorem dX12_stop_42 : decode cX12_stop 42 = .ok (.bipush (-12), 2) := by decide +kernel
theorem dX12_stop_44 : decode cX12_stop 44 = .ok (.invokevirtual 72, 3) := by decide +kernel
theorem dX12_stop_47 : decode cX12_stop 47 = .ok (.ireturn, 1) := by decide +kernel
theorem dX12_stop_48 : decode cX12_stop 48 = .ok (.aload_n 0, 1) := by decide +kernel
theorem dX12_stop_49 : decode cX12_stop 49 = .ok (.iload_n 1, 1) := by decide +kernel
theorem dX12_stop_50 : decode cX12_stop 50 = .ok (.bipush 46, 2) := by decide +kernel
theorem dX12_stop_52 : decode cX12_stop 52 = .ok (.invokevirtual 43, 3) := by decide +kernel
theorem dX12_stop_55 : decode cX12_stop 55 = .ok (.istore 5, 2) := by decide +kernel
theorem dX12_stop_57 : decode cX12_stop 57 = .ok (.aload_n 0, 1) := by decide +kernel
theorem dX12_stop_58 : decode cX12_stop 58 = .ok (.iload_n 1, 1) := by decide +kernel
theorem dX12_stop_59 : decode cX12_stop 59 = .ok (.bipush 46, 2) := by decide +kernel
theorem dX12_stop_61 : decode cX12_stop 61 = .ok (.iload_n 2, 1) := by decide +kernel
theorem dX12_stop_62 : decode cX12_stop 62 = .ok (.invokevirtual 125, 3) := by decide +kernel
theorem dX12_stop_65 : decode cX12_stop 65 = .ok (.aload_n 0, 1) := by decide +kernel
theorem dX12_stop_66 : decode cX12_stop 66 = .ok (.invokevirtual 155, 3) := by decide +kernel
theorem dX12_stop_69 : decode cX12_stop 69 = .ok (.ifCond .eq 19, 3) := by decide +kernel
theorem dX12_stop_72 : decode cX12_stop 72 = .ok (.aload_n 0, 1) := by decide +kernel
theorem dX12_stop_73 : decode cX12_stop 73 = .ok (.iload_n 1, 1) := by decide +kernel
theorem dX12_stop_74 : decode cX12_stop 74 = .ok (.bipush 46, 2) := by decide +kernel
theorem dX12_stop_76 : decode cX12_stop 76 = .ok (.iload 5, 2) := by decide +kernel
theorem dX12_stop_78 : decode cX12_stop 78 = .ok (.invokevirtual 125, 3) := by decide +kernel
theorem dX12_stop_81 : decode cX12_stop 81 = .ok (.aload_n 0, 1) := by decide +kernel
theorem dX12_stop_82 : decode cX12_stop 82 = .ok (.bipush (-7), 2) := by decide +kernel
theorem dX12_stop_84 : decode cX12_stop 84 = .ok (.invokevirtual 72, 3) := by decide +kernel
theorem dX12_stop_87 : decode cX12_stop 87 = .ok (.ireturn, 1) := by decide +kernel
theorem dX12_stop_88 : decode cX12_stop 88 = .ok (.aload_n 0, 1) := by decide +kernel
theorem dX12_stop_89 : decode cX12_stop 89 = .ok (.iload_n 1, 1) := by decide +kernel
theorem dX12_stop_90 : decode cX12_stop 90 = .ok (.bipush 47, 2) := by decide +kernel
theorem dX12_stop_92 : decode cX12_stop 92 = .ok (.iload_n 3, 1) := by decide +kernel
theorem dX12_stop_93 : decode cX12_stop 93 = .ok (.ifCond .eq 7, 3) := by decide +kernel
theorem dX12_stop_96 : decode cX12_stop 96 = .ok (.iconst 1, 1) := by decide +kernel
theorem dX12_stop_97 : decode cX12_stop 97 = .ok (.goto 4, 3) := by decide +kernel
theorem dX12_stop_100 : decode cX12_stop 100 = .ok (.iconst 0, 1) := by decide +kernel
theorem dX12_stop_101 : decode cX12_stop 101 = .ok (.invokevirtual 125, 3) := by decide +kernel
theorem dX12_stop_104 : decode cX12_stop 104 = .ok (.iconst 1, 1) := by decide +kernel
theorem dX12_stop_105 : decode cX12_stop 105 = .ok (.ireturn, 1) := by decide +kernel
theorem dX12_ring_0 : decode cX12_ring 0 = .ok (.iload_n 1, 1) := by decide +kernel
theorem dX12_ring_1 : decode cX12_ring 1 = .ok (.i2l, 1) := by decide +kernel
theorem dX12_ring_2 : decode cX12_ring 2 = .ok (.lconst 0, 1) := by decide +kernel
theorem dX12_ring_3 : decode cX12_ring 3 = .ok (.aload_n 0, 1) := by decide +kernel
theorem dX12_ring_4 : decode cX12_ring 4 = .ok (.getfield 149, 3) := by decide +kernel
theorem dX12_ring_7 : decode cX12_ring 7 = .ok (.iconst 1, 1) := by decide +kernel
theorem dX12_ring_8 : decode cX12_ring 8 = .ok (.isub, 1) := by decide +kernel
theorem dX12_ring_9 : decode cX12_ring 9 = .ok (.i2l, 1) := by decide +kernel
theorem dX12_ring_10 : decode cX12_ring 10 = .ok (.invokestatic 62, 3) := by decide +kernel
theorem dX12_ring_13 : decode cX12_ring 13 = .ok (.ifCond .eq 12, 3) := by decide +kernel
theorem dX12_ring_16 : decode cX12_ring 16 = .ok (.aload_n 0, 1) := by decide +kernel
theorem dX12_ring_17 : decode cX12_ring 17 = .ok (.getfield 27, 3) := by decide +kernel
theorem dX12_ring_20 : decode cX12_ring 20 = .ok (.iload_n 1, 1) := by decide +kernel
theorem dX12_ring_21 : decode cX12_ring 21 = .ok (.iaload, 1) := by decide +kernel
theorem dX12_ring_22 : decode cX12_ring 22 = .ok (.goto 9, 3) := by decide +kernel
theorem dX12_ring_25 : decode cX12_ring 25 = .ok (.aload_n 0, 1) := by decide +kernel
theorem dX12_ring_26 : decode cX12_ring 26 = .ok (.bipush (-3), 2) := by decide +kernel
theorem dX12_ring_28 : decode cX12_ring 28 = .ok (.invokevirtual 72, 3) := by decide +kernel
theorem dX12_ring_31 : decode cX12_ring 31 = .ok (.ireturn, 1) := by decide +kernel
theorem dX12_row_0 : decode cX12_row 0 = .ok (.aload_n 0, 1) := by decide +kernel
theorem dX12_row_1 : decode cX12_row 1 = .ok (.iload_n 1, 1) := by decide +kernel
theorem dX12_row_2 : decode cX12_row 2 = .ok (.iconst 1, 1) := by decide +kernel
theorem dX12_row_3 : decode cX12_row 3 = .ok (.invokevirtual 119, 3) := by decide +kernel
theorem dX12_row_6 : decode cX12_row 6 = .ok (.istore_n 3, 1) := by decide +kernel
theorem dX12_row_7 : decode cX12_row 7 = .ok (.iload_n 3, 1) := by decide +kernel
theorem dX12_row_8 : decode cX12_row 8 = .ok (.ifCond .eq 9, 3) := by decide +kernel
theorem dX12_row_11 : decode cX12_row 11 = .ok (.aload_n 0, 1) := by decide +kernel
theorem dX12_row_12 : decode cX12_row 12 = .ok (.iload_n 3, 1) := by decide +kernel
theorem dX12_row_13 : decode cX12_row 13 = .ok (.invokevirtual 72, 3) := by decide +kernel
theorem dX12_row_16 : decode cX12_row 16 = .ok (.ireturn, 1) := by decide +kernel
theorem dX12_row_17 : decode cX12_row 17 = .ok (.iload_n 2, 1) := by decide +kernel
theorem dX12_row_18 : decode cX12_row 18 = .ok (.ifCond .ge 10, 3) := by decide +kernel
theorem dX12_row_21 : decode cX12_row 21 = .ok (.aload_n 0, 1) := by decide +kernel
theorem dX12_row_22 : decode cX12_row 22 = .ok (.bipush (-4), 2) := by decide +kernel
theorem dX12_row_24 : decode cX12_row 24 = .ok (.invokevirtual 72, 3) := by decide +kernel
theorem dX12_row_27 : decode cX12_row 27 = .ok (.ireturn, 1) := by decide +kernel
theorem dX12_row_28 : decode cX12_row 28 = .ok (.iload_n 2, 1) := by decide +kernel
theorem dX12_row_29 : decode cX12_row 29 = .ok (.i2l, 1) := by decide +kernel
theorem dX12_row_30 : decode cX12_row 30 = .ok (.lconst 1, 1) := by decide +kernel
theorem dX12_row_31 : decode cX12_row 31 = .ok (.ldc2_w 161, 3) := by decide +kernel
theorem dX12_row_34 : decode cX12_row 34 = .ok (.invokestatic 62, 3) := by decide +kernel
theorem dX12_row_37 : decode cX12_row 37 = .ok (.ifCond .eq 13, 3) := by decide +kernel
theorem dX12_row_40 : decode cX12_row 40 = .ok (.aload_n 0, 1) := by decide +kernel
theorem dX12_row_41 : decode cX12_row 41 = .ok (.iload_n 1, 1) := by decide +kernel
theorem dX12_row_42 : decode cX12_row 42 = .ok (.bipush 69, 2) := by decide +kernel
theorem dX12_row_44 : decode cX12_row 44 = .ok (.invokevirtual 43, 3) := by decide +kernel
theorem dX12_row_47 : decode cX12_row 47 = .ok (.ifCond .lt 10, 3) := by decide +kernel
theorem dX12_row_50 : decode cX12_row 50 = .ok (.aload_n 0, 1) := by decide +kernel
theorem dX12_row_51 : decode cX12_row 51 = .ok (.bipush (-12), 2) := by decide +kernel
theorem dX12_row_53 : decode cX12_row 53 = .ok (.invokevirtual 72, 3) := by decide +kernel
theorem dX12_row_56 : decode cX12_row 56 = .ok (.ireturn, 1) := by decide +kernel
theorem dX12_row_57 : decode cX12_row 57 = .ok (.aload_n 0, 1) := by decide +kernel
theorem dX12_row_58 : decode cX12_row 58 = .ok (.iload_n 1, 1) := by decide +kernel
theorem dX12_row_59 : decode cX12_row 59 = .ok (.bipush 48, 2) := by decide +kernel
theorem dX12_row_61 : decode cX12_row 61 = .ok (.iload_n 2, 1) := by decide +kernel
theorem dX12_row_62 : decode cX12_row 62 = .ok (.invokevirtual 125, 3) := by decide +kernel
theorem dX12_row_65 : decode cX12_row 65 = .ok (.iconst 0, 1) := by decide +kernel
theorem dX12_row_66 : decode cX12_row 66 = .ok (.istore 4, 2) := by decide +kernel
theorem dX12_row_68 : decode cX12_row 68 = .ok (.iload 4, 2) := by decide +kernel
theorem dX12_row_70 : decode cX12_row 70 = .ok (.iload_n 2, 1) := by decide +kernel
theorem dX12_row_71 : decode cX12_row 71 = .ok (.if_icmp .ge 20, 3) := by decide +kernel
theorem dX12_row_74 : decode cX12_row 74 = .ok (.aload_n 0, 1) := by decide +kernel
theorem dX12_row_75 : decode cX12_row 75 = .ok (.iload_n 1, 1) := by decide +kernel
theorem dX12_row_76 : decode cX12_row 76 = .ok (.bipush 49, 2) := by decide +kernel
theorem dX12_row_78 : decode cX12_row 78 = .ok (.iload 4, 2) := by decide +kernel
theorem dX12_row_80 : decode cX12_row 80 = .ok (.iadd, 1) := by decide +kernel
theorem dX12_row_81 : decode cX12_row 81 = .ok (.iconst 0, 1) := by decide +kernel
theorem dX12_row_82 : decode cX12_row 82 = .ok (.invokevirtual 125, 3) := by decide +kernel
theorem dX12_row_85 : decode cX12_row 85 = .ok (.iinc 4 1, 3) := by decide +kernel
theorem dX12_row_88 : decode cX12_row 88 = .ok (.goto (-20), 3) := by decide +kernel
theorem dX12_row_91 : decode cX12_row 91 = .ok (.iconst 1, 1) := by decide +kernel
theorem dX12_row_92 : decode cX12_row 92 = .ok (.ireturn, 1) := by decide +kernel
theorem dX12_tear_0 : decode cX12_tear 0 = .ok (.aload_n 0, 1) := by decide +kernel
theorem dX12_tear_1 : decode cX12_tear 1 = .ok (.iload_n 1, 1) := by decide +kernel
theorem dX12_tear_2 : decode cX12_tear 2 = .ok (.iconst 1, 1) := by decide +kernel
theorem dX12_tear_3 : decode cX12_tear 3 = .ok (.invokevirtual 119, 3) := by decide +kernel
theorem dX12_tear_6 : decode cX12_tear 6 = .ok (.istore_n 2, 1) := by decide +kernel
theorem dX12_tear_7 : decode cX12_tear 7 = .ok (.iload_n 2, 1) := by decide +kernel
theorem dX12_tear_8 : decode cX12_tear 8 = .ok (.ifCond .eq 9, 3) := by decide +kernel
theorem dX12_tear_11 : decode cX12_tear 11 = .ok (.aload_n 0, 1) := by decide +kernel
theorem dX12_tear_12 : decode cX12_tear 12 = .ok (.iload_n 2, 1) := by decide +kernel
theorem dX12_tear_13 : decode cX12_tear 13 = .ok (.invokevirtual 72, 3) := by decide +kernel
theorem dX12_tear_16 : decode cX12_tear 16 = .ok (.ireturn, 1) := by decide +kernel
theorem dX12_tear_17 : decode cX12_tear 17 = .ok (.aload_n 0, 1) := by decide +kernel
theorem dX12_tear_18 : decode cX12_tear 18 = .ok (.iload_n 1, 1) := by decide +kernel
theorem dX12_tear_19 : decode cX12_tear 19 = .ok (.bipush 48, 2) := by decide +kernel
theorem dX12_tear_21 : decode cX12_tear 21 = .ok (.invokevirtual 43, 3) := by decide +kernel
theorem dX12_tear_24 : decode cX12_tear 24 = .ok (.ifCond .le 7, 3) := by decide +kernel
theorem dX12_tear_27 : decode cX12_tear 27 = .ok (.iconst 1, 1) := by decide +kernel
theorem dX12_tear_28 : decode cX12_tear 28 = .ok (.goto 4, 3) := by decide +kernel
theorem dX12_tear_31 : decode cX12_tear 31 = .ok (.iconst 0, 1) := by decide +kernel
theorem dX12_tear_32 : decode cX12_tear 32 = .ok (.istore_n 3, 1) := by decide +kernel
theorem dX12_tear_33 : decode cX12_tear 33 = .ok (.aload_n 0, 1) := by decide +kernel
theorem dX12_tear_34 : decode cX12_tear 34 = .ok (.iload_n 1, 1) := by decide +kernel
theorem dX12_tear_35 : decode cX12_tear 35 = .ok (.bipush 48, 2) := by decide +kernel
theorem dX12_tear_37 : decode cX12_tear 37 = .ok (.iconst 0, 1) := by decide +kernel
theorem dX12_tear_38 : decode cX12_tear 38 = .ok (.invokevirtual 125, 3) := by decide +kernel
theorem dX12_tear_41 : decode cX12_tear 41 = .ok (.iload_n 3, 1) := by decide +kernel
theorem dX12_tear_42 : decode cX12_tear 42 = .ok (.ireturn, 1) := by decide +kernel
theorem dX12_step_0 : decode cX12_step 0 = .ok (.aload_n 0, 1) := by decide +kernel
theorem dX12_step_1 : decode cX12_step 1 = .ok (.iload_n 1, 1) := by decide +kernel
theorem dX12_step_2 : decode cX12_step 2 = .ok (.iconst 1, 1) := by decide +kernel
theorem dX12_step_3 : decode cX12_step 3 = .ok (.invokevirtual 119, 3) := by decide +kernel
theorem dX12_step_6 : decode cX12_step 6 = .ok (.istore 4, 2) := by decide +kernel
theorem dX12_step_8 : decode cX12_step 8 = .ok (.iload 4, 2) := by decide +kernel
theorem dX12_step_10 : decode cX12_step 10 = .ok (.ifCond .ne 17, 3) := by decide +kernel
theorem dX12_step_13 : decode cX12_step 13 = .ok (.aload_n 0, 1) := by decide +kernel
theorem dX12_step_14 : decode cX12_step 14 = .ok (.iload_n 1, 1) := by decide +kernel
theorem dX12_step_15 : decode cX12_step 15 = .ok (.bipush 48, 2) := by decide +kernel
theorem dX12_step_17 : decode cX12_step 17 = .ok (.invokevirtual 43, 3) := by decide +kernel
theorem dX12_step_20 : decode cX12_step 20 = .ok (.ifCond .ne 7, 3) := by decide +kernel
theorem dX12_step_23 : decode cX12_step 23 = .ok (.bipush (-2), 2) := by decide +kernel
theorem dX12_step_25 : decode cX12_step 25 = .ok (.istore 4, 2) := by decide +kernel
theorem dX12_step_27 : decode cX12_step 27 = .ok (.iload 4, 2) := by decide +kernel
theorem dX12_step_29 : decode cX12_step 29 = .ok (.ifCond .ne 26, 3) := by decide +kernel
theorem dX12_step_32 : decode cX12_step 32 = .ok (.iload_n 2, 1) := by decide +kernel
theorem dX12_step_33 : decode cX12_step 33 = .ok (.i2l, 1) := by decide +kernel
theorem dX12_step_34 : decode cX12_step 34 = .ok (.lconst 0, 1) := by decide +kernel
theorem dX12_step_35 : decode cX12_step 35 = .ok (.aload_n 0, 1) := by decide +kernel
theorem dX12_step_36 : decode cX12_step 36 = .ok (.iload_n 1, 1) := by decide +kernel
theorem dX12_step_37 : decode cX12_step 37 = .ok (.bipush 48, 2) := by decide +kernel
theorem dX12_step_39 : decode cX12_step 39 = .ok (.invokevirtual 43, 3) := by decide +kernel
theorem dX12_step_42 : decode cX12_step 42 = .ok (.iconst 1, 1) := by decide +kernel
theorem dX12_step_43 : decode cX12_step 43 = .ok (.isub, 1) := by decide +kernel
theorem dX12_step_44 : decode cX12_step 44 = .ok (.i2l, 1) := by decide +kernel
theorem dX12_step_45 : decode cX12_step 45 = .ok (.invokestatic 62, 3) := by decide +kernel
theorem dX12_step_48 : decode cX12_step 48 = .ok (.ifCond .ne 7, 3) := by decide +kernel
theorem dX12_step_51 : decode cX12_step 51 = .ok (.bipush (-3), 2) := by decide +kernel
theorem dX12_step_53 : decode cX12_step 53 = .ok (.istore 4, 2) := by decide +kernel
theorem dX12_step_55 : decode cX12_step 55 = .ok (.iload 4, 2) := by decide +kernel
theorem dX12_step_57 : decode cX12_step 57 = .ok (.ifCond .eq 10, 3) := by decide +kernel
theorem dX12_step_60 : decode cX12_step 60 = .ok (.aload_n 0, 1) := by decide +kernel
theorem dX12_step_61 : decode cX12_step 61 = .ok (.iload 4, 2) := by decide +kernel
theorem dX12_step_63 : decode cX12_step 63 = .ok (.invokevirtual 72, 3) := by decide +kernel
theorem dX12_step_66 : decode cX12_step 66 = .ok (.ireturn, 1) := by decide +kernel
theorem dX12_step_67 : decode cX12_step 67 = .ok (.iload_n 3, 1) := by decide +kernel
theorem dX12_step_68 : decode cX12_step 68 = .ok (.i2l, 1) := by decide +kernel
theorem dX12_step_69 : decode cX12_step 69 = .ok (.lconst 0, 1) := by decide +kernel
theorem dX12_step_70 : decode cX12_step 70 = .ok (.ldc2_w 89, 3) := by decide +kernel
theorem dX12_step_73 : decode cX12_step 73 = .ok (.invokestatic 62, 3) := by decide +kernel
theorem dX12_step_76 : decode cX12_step 76 = .ok (.ifCond .eq 14, 3) := by decide +kernel
theorem dX12_step_79 : decode cX12_step 79 = .ok (.aload_n 0, 1) := by decide +kernel
theorem dX12_step_80 : decode cX12_step 80 = .ok (.iload_n 1, 1) := by decide +kernel
theorem dX12_step_81 : decode cX12_step 81 = .ok (.bipush 69, 2) := by decide +kernel
theorem dX12_step_83 : decode cX12_step 83 = .ok (.invokevirtual 43, 3) := by decide +kernel
theorem dX12_step_86 : decode cX12_step 86 = .ok (.iload_n 2, 1) := by decide +kernel
theorem dX12_step_87 : decode cX12_step 87 = .ok (.if_icmp .lt 10, 3) := by decide +kernel
theorem dX12_step_90 : decode cX12_step 90 = .ok (.aload_n 0, 1) := by decide +kernel
theorem dX12_step_91 : decode cX12_step 91 = .ok (.bipush (-12), 2) := by decide +kernel
theorem dX12_step_93 : decode cX12_step 93 = .ok (.invokevirtual 72, 3) := by decide +kernel
theorem dX12_step_96 : decode cX12_step 96 = .ok (.ireturn, 1) := by decide +kernel
theorem dX12_step_97 : decode cX12_step 97 = .ok (.aload_n 0, 1) := by decide +kernel
theorem dX12_step_98 : decode cX12_step 98 = .ok (.iload_n 1, 1) := by decide +kernel
theorem dX12_step_99 : decode cX12_step 99 = .ok (.bipush 49, 2) := by decide +kernel
theorem dX12_step_101 : decode cX12_step 101 = .ok (.iload_n 2, 1) := by decide +kernel
theorem dX12_step_102 : decode cX12_step 102 = .ok (.iadd, 1) := by decide +kernel
theorem dX12_step_103 : decode cX12_step 103 = .ok (.invokevirtual 43, 3) := by decide +kernel
theorem dX12_step_106 : decode cX12_step 106 = .ok (.istore 5, 2) := by decide +kernel
theorem dX12_step_108 : decode cX12_step 108 = .ok (.aload_n 0, 1) := by decide +kernel
theorem dX12_step_109 : decode cX12_step 109 = .ok (.iload_n 1, 1) := by decide +kernel
theorem dX12_step_110 : decode cX12_step 110 = .ok (.bipush 49, 2) := by decide +kernel
theorem dX12_step_112 : decode cX12_step 112 = .ok (.iload_n 2, 1) := by decide +kernel
theorem dX12_step_113 : decode cX12_step 113 = .ok (.iadd, 1) := by decide +kernel
theorem dX12_step_114 : decode cX12_step 114 = .ok (.iload_n 3, 1) := by decide +kernel
theorem dX12_step_115 : decode cX12_step 115 = .ok (.invokevirtual 125, 3) := by decide +kernel
theorem dX12_step_118 : decode cX12_step 118 = .ok (.iload 5, 2) := by decide +kernel
theorem dX12_step_120 : decode cX12_step 120 = .ok (.ireturn, 1) := by decide +kernel
theorem dX12_whyTwo_0 : decode cX12_whyTwo 0 = .ok (.iload_n 1, 1) := by decide +kernel
theorem dX12_whyTwo_1 : decode cX12_whyTwo 1 = .ok (.invokestatic 47, 3) := by decide +kernel
theorem dX12_whyTwo_4 : decode cX12_whyTwo 4 = .ok (.ifCond .eq 10, 3) := by decide +kernel
theorem dX12_whyTwo_7 : decode cX12_whyTwo 7 = .ok (.iload_n 2, 1) := by decide +kernel
theorem dX12_whyTwo_8 : decode cX12_whyTwo 8 = .ok (.invokestatic 47, 3) := by decide +kernel
theorem dX12_whyTwo_11 : decode cX12_whyTwo 11 = .ok (.ifCond .ne 6, 3) := by decide +kernel
theorem dX12_whyTwo_14 : decode cX12_whyTwo 14 = .ok (.bipush (-3), 2) := by decide +kernel
theorem dX12_whyTwo_16 : decode cX12_whyTwo 16 = .ok (.ireturn, 1) := by decide +kernel
theorem dX12_whyTwo_17 : decode cX12_whyTwo 17 = .ok (.aload_n 0, 1) := by decide +kernel
theorem dX12_whyTwo_18 : decode cX12_whyTwo 18 = .ok (.iload_n 1, 1) := by decide +kernel
theorem dX12_whyTwo_19 : decode cX12_whyTwo 19 = .ok (.iconst 0, 1) := by decide +kernel
theorem dX12_whyTwo_20 : decode cX12_whyTwo 20 = .ok (.invokevirtual 43, 3) := by decide +kernel
theorem dX12_whyTwo_23 : decode cX12_whyTwo 23 = .ok (.ifCond .eq 12, 3) := by decide +kernel
theorem dX12_whyTwo_26 : decode cX12_whyTwo 26 = .ok (.aload_n 0, 1) := by decide +kernel
theorem dX12_whyTwo_27 : decode cX12_whyTwo 27 = .ok (.iload_n 2, 1) := by decide +kernel
theorem dX12_whyTwo_28 : decode cX12_whyTwo 28 = .ok (.iconst 0, 1) := by decide +kernel
theorem dX12_whyTwo_29 : decode cX12_whyTwo 29 = .ok (.invokevirtual 43, 3) := by decide +kernel
theorem dX12_whyTwo_32 : decode cX12_whyTwo 32 = .ok (.ifCond .ne 6, 3) := by decide +kernel
theorem dX12_whyTwo_35 : decode cX12_whyTwo 35 = .ok (.bipush (-2), 2) := by decide +kernel
theorem dX12_whyTwo_37 : decode cX12_whyTwo 37 = .ok (.ireturn, 1) := by decide +kernel
theorem dX12_whyTwo_38 : decode cX12_whyTwo 38 = .ok (.aload_n 0, 1) := by decide +kernel
theorem dX12_whyTwo_39 : decode cX12_whyTwo 39 = .ok (.iload_n 1, 1) := by decide +kernel
theorem dX12_whyTwo_40 : decode cX12_whyTwo 40 = .ok (.iload_n 3, 1) := by decide +kernel
theorem dX12_whyTwo_41 : decode cX12_whyTwo 41 = .ok (.invokevirtual 119, 3) := by decide +kernel
theorem dX12_whyTwo_44 : decode cX12_whyTwo 44 = .ok (.istore 4, 2) := by decide +kernel
theorem dX12_whyTwo_46 : decode cX12_whyTwo 46 = .ok (.iload 4, 2) := by decide +kernel
theorem dX12_whyTwo_48 : decode cX12_whyTwo 48 = .ok (.ifCond .eq 8, 3) := by decide +kernel
theorem dX12_whyTwo_51 : decode cX12_whyTwo 51 = .ok (.iload 4, 2) := by decide +kernel
theorem dX12_whyTwo_53 : decode cX12_whyTwo 53 = .ok (.goto 9, 3) := by decide +kernel
theorem dX12_whyTwo_56 : decode cX12_whyTwo 56 = .ok (.aload_n 0, 1) := by decide +kernel
theorem dX12_whyTwo_57 : decode cX12_whyTwo 57 = .ok (.iload_n 2, 1) := by decide +kernel
theorem dX12_whyTwo_58 : decode cX12_whyTwo 58 = .ok (.iload_n 3, 1) := by decide +kernel
theorem dX12_whyTwo_59 : decode cX12_whyTwo 59 = .ok (.invokevirtual 119, 3) := by decide +kernel
theorem dX12_whyTwo_62 : decode cX12_whyTwo 62 = .ok (.ireturn, 1) := by decide +kernel
theorem dX12_copy_0 : decode cX12_copy 0 = .ok (.aload_n 0, 1) := by decide +kernel
theorem dX12_copy_1 : decode cX12_copy 1 = .ok (.iload_n 1, 1) := by decide +kernel
theorem dX12_copy_2 : decode cX12_copy 2 = .ok (.iload_n 3, 1) := by decide +kernel
theorem dX12_copy_3 : decode cX12_copy 3 = .ok (.iconst 1, 1) := by decide +kernel
theorem dX12_copy_4 : decode cX12_copy 4 = .ok (.invokevirtual 163, 3) := by decide +kernel
theorem dX12_copy_7 : decode cX12_copy 7 = .ok (.istore 6, 2) := by decide +kernel
theorem dX12_copy_9 : decode cX12_copy 9 = .ok (.iload 6, 2) := by decide +kernel
theorem dX12_copy_11 : decode cX12_copy 11 = .ok (.ifCond .ne 27, 3) := by decide +kernel
theorem dX12_copy_14 : decode cX12_copy 14 = .ok (.aload_n 0, 1) := by decide +kernel
theorem dX12_copy_15 : decode cX12_copy 15 = .ok (.iload_n 1, 1) := by decide +kernel
theorem dX12_copy_16 : decode cX12_copy 16 = .ok (.bipush 48, 2) := by decide +kernel
theorem dX12_copy_18 : decode cX12_copy 18 = .ok (.invokevirtual 43, 3) := by decide +kernel
theorem dX12_copy_21 : decode cX12_copy 21 = .ok (.ifCond .eq 13, 3) := by decide +kernel
theorem dX12_copy_24 : decode cX12_copy 24 = .ok (.aload_n 0, 1) := by decide +kernel
theorem dX12_copy_25 : decode cX12_copy 25 = .ok (.iload_n 3, 1) := by decide +kernel
theorem dX12_copy_26 : decode cX12_copy 26 = .ok (.bipush 48, 2) := by decide +kernel
theorem dX12_copy_28 : decode cX12_copy 28 = .ok (.invokevirtual 43, 3) := by decide +kernel
theorem dX12_copy_31 : decode cX12_copy 31 = .ok (.ifCond .ne 7, 3) := by decide +kernel
theorem dX12_copy_34 : decode cX12_copy 34 = .ok (.bipush (-2), 2) := by decide +kernel
theorem dX12_copy_36 : decode cX12_copy 36 = .ok (.istore 6, 2) := by decide +kernel
theorem dX12_copy_38 : decode cX12_copy 38 = .ok (.iload 6, 2) := by decide +kernel
theorem dX12_copy_40 : decode cX12_copy 40 = .ok (.ifCond .ne 17, 3) := by decide +kernel
theorem dX12_copy_43 : decode cX12_copy 43 = .ok (.aload_n 0, 1) := by decide +kernel
theorem dX12_copy_44 : decode cX12_copy 44 = .ok (.iload_n 3, 1) := by decide +kernel
theorem dX12_copy_45 : decode cX12_copy 45 = .ok (.bipush 69, 2) := by decide +kernel
theorem dX12_copy_47 : decode cX12_copy 47 = .ok (.invokevirtual 43, 3) := by decide +kernel
theorem dX12_copy_50 : decode cX12_copy 50 = .ok (.ifCond .lt 7, 3) := by decide +kernel
theorem dX12_copy_53 : decode cX12_copy 53 = .ok (.bipush (-12), 2) := by decide +kernel
theorem dX12_copy_55 : decode cX12_copy 55 = .ok (.istore 6, 2) := by decide +kernel
theorem dX12_copy_57 : decode cX12_copy 57 = .ok (.iload 6, 2) := by decide +kernel
theorem dX12_copy_59 : decode cX12_copy 59 = .ok (.ifCond .eq 10, 3) := by decide +kernel
theorem dX12_copy_62 : decode cX12_copy 62 = .ok (.aload_n 0, 1) := by decide +kernel
theorem dX12_copy_63 : decode cX12_copy 63 = .ok (.iload 6, 2) := by decide +kernel
theorem dX12_copy_65 : decode cX12_copy 65 = .ok (.invokevirtual 72, 3) := by decide +kernel
theorem dX12_copy_68 : decode cX12_copy 68 = .ok (.ireturn, 1) := by decide +kernel
theorem dX12_copy_69 : decode cX12_copy 69 = .ok (.iload 5, 2) := by decide +kernel
theorem dX12_copy_71 : decode cX12_copy 71 = .ok (.ifCond .lt 49, 3) := by decide +kernel
theorem dX12_copy_74 : decode cX12_copy 74 = .ok (.iload_n 2, 1) := by decide +kernel
theorem dX12_copy_75 : decode cX12_copy 75 = .ok (.ifCond .lt 45, 3) := by decide +kernel
theorem dX12_copy_78 : decode cX12_copy 78 = .ok (.iload 4, 2) := by decide +kernel
theorem dX12_copy_80 : decode cX12_copy 80 = .ok (.ifCond .lt 40, 3) := by decide +kernel
theorem dX12_copy_83 : decode cX12_copy 83 = .ok (.iload_n 2, 1) := by decide +kernel
theorem dX12_copy_84 : decode cX12_copy 84 = .ok (.i2l, 1) := by decide +kernel
theorem dX12_copy_85 : decode cX12_copy 85 = .ok (.iload 5, 2) := by decide +kernel
theorem dX12_copy_87 : decode cX12_copy 87 = .ok (.i2l, 1) := by decide +kernel
theorem dX12_copy_88 : decode cX12_copy 88 = .ok (.ladd, 1) := by decide +kernel
theorem dX12_copy_89 : decode cX12_copy 89 = .ok (.aload_n 0, 1) := by decide +kernel
theorem dX12_copy_90 : decode cX12_copy 90 = .ok (.iload_n 1, 1) := by decide +kernel
theorem dX12_copy_91 : decode cX12_copy 91 = .ok (.bipush 48, 2) := by decide +kernel
theorem dX12_copy_93 : decode cX12_copy 93 = .ok (.invokevirtual 43, 3) := by decide +kernel
theorem dX12_copy_96 : decode cX12_copy 96 = .ok (.i2l, 1) := by decide +kernel
theorem dX12_copy_97 : decode cX12_copy 97 = .ok (.lcmp, 1) := by decide +kernel
theorem dX12_copy_98 : decode cX12_copy 98 = .ok (.ifCond .gt 22, 3) := by decide +kernel
theorem dX12_copy_101 : decode cX12_copy 101 = .ok (.iload 4, 2) := by decide +kernel
theorem dX12_copy_103 : decode cX12_copy 103 = .ok (.i2l, 1) := by decide +kernel
theorem dX12_copy_104 : decode cX12_copy 104 = .ok (.iload 5, 2) := by decide +kernel
theorem dX12_copy_106 : decode cX12_copy 106 = .ok (.i2l, 1) := by decide +kernel
theorem dX12_copy_107 : decode cX12_copy 107 = .ok (.ladd, 1) := by decide +kernel
theorem dX12_copy_108 : decode cX12_copy 108 = .ok (.aload_n 0, 1) := by decide +kernel
theorem dX12_copy_109 : decode cX12_copy 109 = .ok (.iload_n 3, 1) := by decide +kernel
theorem dX12_copy_110 : decode cX12_copy 110 = .ok (.bipush 48, 2) := by decide +kernel
theorem dX12_copy_112 : decode cX12_copy 112 = .ok (.invokevirtual 43, 3) := by decide +kernel
theorem dX12_copy_115 : decode cX12_copy 115 = .ok (.i2l, 1) := by decide +kernel
theorem dX12_copy_116 : decode cX12_copy 116 = .ok (.lcmp, 1) := by decide +kernel
theorem dX12_copy_117 : decode cX12_copy 117 = .ok (.ifCond .le 10, 3) := by decide +kernel
theorem dX12_copy_120 : decode cX12_copy 120 = .ok (.aload_n 0, 1) := by decide +kernel
theorem dX12_copy_121 : decode cX12_copy 121 = .ok (.bipush (-6), 2) := by decide +kernel
theorem dX12_copy_123 : decode cX12_copy 123 = .ok (.invokevirtual 72, 3) := by decide +kernel
theorem dX12_copy_126 : decode cX12_copy 126 = .ok (.ireturn, 1) := by decide +kernel
theorem dX12_copy_127 : decode cX12_copy 127 = .ok (.iconst 0, 1) := by decide +kernel
theorem dX12_copy_128 : decode cX12_copy 128 = .ok (.istore 7, 2) := by decide +kernel
theorem dX12_copy_130 : decode cX12_copy 130 = .ok (.iload 7, 2) := by decide +kernel
theorem dX12_copy_132 : decode cX12_copy 132 = .ok (.iload 5, 2) := by decide +kernel
theorem dX12_copy_134 : decode cX12_copy 134 = .ok (.if_icmp .ge 28, 3) := by decide +kernel
theorem dX12_copy_137 : decode cX12_copy 137 = .ok (.aload_n 0, 1) := by decide +kernel
theorem dX12_copy_138 : decode cX12_copy 138 = .ok (.getfield 40, 3) := by decide +kernel
theorem dX12_copy_141 : decode cX12_copy 141 = .ok (.iload 7, 2) := by decide +kernel
theorem dX12_copy_143 : decode cX12_copy 143 = .ok (.aload_n 0, 1) := by decide +kernel
theorem dX12_copy_144 : decode cX12_copy 144 = .ok (.iload_n 1, 1) := by decide +kernel
theorem dX12_copy_145 : decode cX12_copy 145 = .ok (.bipush 49, 2) := by decide +kernel
theorem dX12_copy_147 : decode cX12_copy 147 = .ok (.iload_n 2, 1) := by decide +kernel
theorem dX12_copy_148 : decode cX12_copy 148 = .ok (.iadd, 1) := by decide +kernel
theorem dX12_copy_149 : decode cX12_copy 149 = .ok (.iload 7, 2) := by decide +kernel
theorem dX12_copy_151 : decode cX12_copy 151 = .ok (.iadd, 1) := by decide +kernel
theorem dX12_copy_152 : decode cX12_copy 152 = .ok (.invokevirtual 43, 3) := by decide +kernel
theorem dX12_copy_155 : decode cX12_copy 155 = .ok (.iastore, 1) := by decide +kernel
theorem dX12_copy_156 : decode cX12_copy 156 = .ok (.iinc 7 1, 3) := by decide +kernel
theorem dX12_copy_159 : decode cX12_copy 159 = .ok (.goto (-29), 3) := by decide +kernel
theorem dX12_copy_162 : decode cX12_copy 162 = .ok (.iconst 0, 1) := by decide +kernel
theorem dX12_copy_163 : decode cX12_copy 163 = .ok (.istore 7, 2) := by decide +kernel
theorem dX12_copy_165 : decode cX12_copy 165 = .ok (.iload 7, 2) := by decide +kernel
theorem dX12_copy_167 : decode cX12_copy 167 = .ok (.iload 5, 2) := by decide +kernel
theorem dX12_copy_169 : decode cX12_copy 169 = .ok (.if_icmp .ge 29, 3) := by decide +kernel
theorem dX12_copy_172 : decode cX12_copy 172 = .ok (.aload_n 0, 1) := by decide +kernel
theorem dX12_copy_173 : decode cX12_copy 173 = .ok (.iload_n 3, 1) := by decide +kernel
theorem dX12_copy_174 : decode cX12_copy 174 = .ok (.bipush 49, 2) := by decide +kernel
theorem dX12_copy_176 : decode cX12_copy 176 = .ok (.iload 4, 2) := by decide +kernel
theorem dX12_copy_178 : decode cX12_copy 178 = .ok (.iadd, 1) := by decide +kernel
theorem dX12_copy_179 : decode cX12_copy 179 = .ok (.iload 7, 2) := by decide +kernel
theorem dX12_copy_181 : decode cX12_copy 181 = .ok (.iadd, 1) := by decide +kernel
theorem dX12_copy_182 : decode cX12_copy 182 = .ok (.aload_n 0, 1) := by decide +kernel
theorem dX12_copy_183 : decode cX12_copy 183 = .ok (.getfield 40, 3) := by decide +kernel
theorem dX12_copy_186 : decode cX12_copy 186 = .ok (.iload 7, 2) := by decide +kernel
theorem dX12_copy_188 : decode cX12_copy 188 = .ok (.iaload, 1) := by decide +kernel
theorem dX12_copy_189 : decode cX12_copy 189 = .ok (.invokevirtual 125, 3) := by decide +kernel
theorem dX12_copy_192 : decode cX12_copy 192 = .ok (.iinc 7 1, 3) := by decide +kernel
theorem dX12_copy_195 : decode cX12_copy 195 = .ok (.goto (-30), 3) := by decide +kernel
theorem dX12_copy_198 : decode cX12_copy 198 = .ok (.iload 5, 2) := by decide +kernel
theorem dX12_copy_200 : decode cX12_copy 200 = .ok (.ireturn, 1) := by decide +kernel
theorem dX12_minuteAt_0 : decode cX12_minuteAt 0 = .ok (.bipush 100, 2) := by decide +kernel
theorem dX12_minuteAt_2 : decode cX12_minuteAt 2 = .ok (.iconst 4, 1) := by decide +kernel
theorem dX12_minuteAt_3 : decode cX12_minuteAt 3 = .ok (.sipush 240, 3) := by decide +kernel
theorem dX12_minuteAt_6 : decode cX12_minuteAt 6 = .ok (.iload_n 0, 1) := by decide +kernel
theorem dX12_minuteAt_7 : decode cX12_minuteAt 7 = .ok (.imul, 1) := by decide +kernel
theorem dX12_minuteAt_8 : decode cX12_minuteAt 8 = .ok (.iload_n 1, 1) := by decide +kernel
theorem dX12_minuteAt_9 : decode cX12_minuteAt 9 = .ok (.iadd, 1) := by decide +kernel
theorem dX12_minuteAt_10 : decode cX12_minuteAt 10 = .ok (.imul, 1) := by decide +kernel
theorem dX12_minuteAt_11 : decode cX12_minuteAt 11 = .ok (.iadd, 1) := by decide +kernel
theorem dX12_minuteAt_12 : decode cX12_minuteAt 12 = .ok (.ireturn, 1) := by decide +kernel
theorem dX12_window_0 : decode cX12_window 0 = .ok (.aload_n 0, 1) := by decide +kernel
theorem dX12_window_1 : decode cX12_window 1 = .ok (.aload_n 0, 1) := by decide +kernel
theorem dX12_window_2 : decode cX12_window 2 = .ok (.iload_n 1, 1) := by decide +kernel
theorem dX12_window_3 : decode cX12_window 3 = .ok (.bipush 91, 2) := by decide +kernel
theorem dX12_window_5 : decode cX12_window 5 = .ok (.invokevirtual 43, 3) := by decide +kernel
theorem dX12_window_8 : decode cX12_window 8 = .ok (.iconst 1, 1) := by decide +kernel
theorem dX12_window_9 : decode cX12_window 9 = .ok (.if_icmp .ne 7, 3) := by decide +kernel
theorem dX12_window_12 : decode cX12_window 12 = .ok (.iconst 1, 1) := by decide +kernel
theorem dX12_window_13 : decode cX12_window 13 = .ok (.goto 4, 3) := by decide +kernel
theorem dX12_window_16 : decode cX12_window 16 = .ok (.iconst 0, 1) := by decide +kernel
theorem dX12_window_17 : decode cX12_window 17 = .ok (.putfield 167, 3) := by decide +kernel
theorem dX12_window_20 : decode cX12_window 20 = .ok (.aload_n 0, 1) := by decide +kernel
theorem dX12_window_21 : decode cX12_window 21 = .ok (.lconst 0, 1) := by decide +kernel
theorem dX12_window_22 : decode cX12_window 22 = .ok (.putfield 171, 3) := by decide +kernel
theorem dX12_window_25 : decode cX12_window 25 = .ok (.aload_n 0, 1) := by decide +kernel
theorem dX12_window_26 : decode cX12_window 26 = .ok (.lconst 0, 1) := by decide +kernel
theorem dX12_window_27 : decode cX12_window 27 = .ok (.putfield 175, 3) := by decide +kernel
theorem dX12_window_30 : decode cX12_window 30 = .ok (.iload_n 2, 1) := by decide +kernel
theorem dX12_window_31 : decode cX12_window 31 = .ok (.istore_n 3, 1) := by decide +kernel
theorem dX12_window_32 : decode cX12_window 32 = .ok (.iload_n 3, 1) := by decide +kernel
theorem dX12_window_33 : decode cX12_window 33 = .ok (.ifCond .lt 94, 3) := by decide +kernel
theorem dX12_window_36 : decode cX12_window 36 = .ok (.iload_n 3, 1) := by decide +kernel
theorem dX12_window_37 : decode cX12_window 37 = .ok (.iload_n 2, 1) := by decide +kernel
theorem dX12_window_38 : decode cX12_window 38 = .ok (.aload_n 0, 1) := by decide +kernel
theorem dX12_window_39 : decode cX12_window 39 = .ok (.iload_n 1, 1) := by decide +kernel
theorem dX12_window_40 : decode cX12_window 40 = .ok (.bipush 70, 2) := by decide +kernel
theorem dX12_window_42 : decode cX12_window 42 = .ok (.invokevirtual 43, 3) := by decide +kernel
theorem dX12_window_45 : decode cX12_window 45 = .ok (.isub, 1) := by decide +kernel
theorem dX12_window_46 : decode cX12_window 46 = .ok (.if_icmp .le 81, 3) := by decide +kernel
theorem dX12_window_49 : decode cX12_window 49 = .ok (.iconst 1, 1) := by decide +kernel
theorem dX12_window_50 : decode cX12_window 50 = .ok (.iload_n 3, 1) := by decide +kernel
theorem dX12_window_51 : decode cX12_window 51 = .ok (.invokestatic 178, 3) := by decide +kernel
theorem dX12_window_54 : decode cX12_window 54 = .ok (.istore 4, 2) := by decide +kernel
theorem dX12_window_56 : decode cX12_window 56 = .ok (.aload_n 0, 1) := by decide +kernel
theorem dX12_window_57 : decode cX12_window 57 = .ok (.aload_n 0, 1) := by decide +kernel
theorem dX12_window_58 : decode cX12_window 58 = .ok (.getfield 167, 3) := by decide +kernel
theorem dX12_window_61 : decode cX12_window 61 = .ok (.ifCond .eq 18, 3) := by decide +kernel
theorem dX12_window_64 : decode cX12_window 64 = .ok (.aload_n 0, 1) := by decide +kernel
theorem dX12_window_65 : decode cX12_window 65 = .ok (.iload_n 1, 1) := by decide +kernel
theorem dX12_window_66 : decode cX12_window 66 = .ok (.iload 4, 2) := by decide +kernel
theorem dX12_window_68 : decode cX12_window 68 = .ok (.invokevirtual 43, 3) := by decide +kernel
theorem dX12_window_71 : decode cX12_window 71 = .ok (.iconst 1, 1) := by decide +kernel
theorem dX12_window_72 : decode cX12_window 72 = .ok (.if_icmp .ne 7, 3) := by decide +kernel
theorem dX12_window_75 : decode cX12_window 75 = .ok (.iconst 1, 1) := by decide +kernel
theorem dX12_window_76 : decode cX12_window 76 = .ok (.goto 4, 3) := by decide +kernel
theorem dX12_window_79 : decode cX12_window 79 = .ok (.iconst 0, 1) := by decide +kernel
theorem dX12_window_80 : decode cX12_window 80 = .ok (.putfield 167, 3) := by decide +kernel
theorem dX12_window_83 : decode cX12_window 83 = .ok (.aload_n 0, 1) := by decide +kernel
theorem dX12_window_84 : decode cX12_window 84 = .ok (.dup, 1) := by decide +kernel
theorem dX12_window_85 : decode cX12_window 85 = .ok (.getfield 171, 3) := by decide +kernel
theorem dX12_window_88 : decode cX12_window 88 = .ok (.aload_n 0, 1) := by decide +kernel
theorem dX12_window_89 : decode cX12_window 89 = .ok (.iload_n 1, 1) := by decide +kernel
theorem dX12_window_90 : decode cX12_window 90 = .ok (.iload 4, 2) := by decide +kernel
theorem dX12_window_92 : decode cX12_window 92 = .ok (.iconst 1, 1) := by decide +kernel
theorem dX12_window_93 : decode cX12_window 93 = .ok (.iadd, 1) := by decide +kernel
theorem dX12_window_94 : decode cX12_window 94 = .ok (.invokevirtual 43, 3) := by decide +kernel
theorem dX12_window_97 : decode cX12_window 97 = .ok (.i2l, 1) := by decide +kernel
theorem dX12_window_98 : decode cX12_window 98 = .ok (.ladd, 1) := by decide +kernel
theorem dX12_window_99 : decode cX12_window 99 = .ok (.putfield 171, 3) := by decide +kernel
theorem dX12_window_102 : decode cX12_window 102 = .ok (.aload_n 0, 1) := by decide +kernel
theorem dX12_window_103 : decode cX12_window 103 = .ok (.dup, 1) := by decide +kernel
theorem dX12_window_104 : decode cX12_window 104 = .ok (.getfield 175, 3) := by decide +kernel
theorem dX12_window_107 : decode cX12_window 107 = .ok (.aload_n 0, 1) := by decide +kernel
theorem dX12_window_108 : decode cX12_window 108 = .ok (.iload_n 1, 1) := by decide +kernel
theorem dX12_window_109 : decode cX12_window 109 = .ok (.iload 4, 2) := by decide +kernel
theorem dX12_window_111 : decode cX12_window 111 = .ok (.iconst 2, 1) := by decide +kernel
theorem dX12_window_112 : decode cX12_window 112 = .ok (.iadd, 1) := by decide +kernel
theorem dX12_window_113 : decode cX12_window 113 = .ok (.invokevirtual 43, 3) := by decide +kernel
theorem dX12_window_116 : decode cX12_window 116 = .ok (.i2l, 1) := by decide +kernel
theorem dX12_window_117 : decode cX12_window 117 = .ok (.ladd, 1) := by decide +kernel
theorem dX12_window_118 : decode cX12_window 118 = .ok (.putfield 175, 3) := by decide +kernel
theorem dX12_window_121 : decode cX12_window 121 = .ok (.iinc 3 (-1), 3) := by decide +kernel
theorem dX12_window_124 : decode cX12_window 124 = .ok (.goto (-92), 3) := by decide +kernel
theorem dX12_window_127 : decode cX12_window 127 = .ok (.return_, 1) := by decide +kernel
theorem dX12_isSpent_0 : decode cX12_isSpent 0 = .ok (.aload_n 0, 1) := by decide +kernel
theorem dX12_isSpent_1 : decode cX12_isSpent 1 = .ok (.iload_n 1, 1) := by decide +kernel
theorem dX12_isSpent_2 : decode cX12_isSpent 2 = .ok (.iload_n 2, 1) := by decide +kernel
theorem dX12_isSpent_3 : decode cX12_isSpent 3 = .ok (.invokevirtual 181, 3) := by decide +kernel
theorem dX12_isSpent_6 : decode cX12_isSpent 6 = .ok (.aload_n 0, 1) := by decide +kernel
theorem dX12_isSpent_7 : decode cX12_isSpent 7 = .ok (.getfield 167, 3) := by decide +kernel
theorem dX12_isSpent_10 : decode cX12_isSpent 10 = .ok (.ifCond .eq 57, 3) := by decide +kernel
theorem dX12_isSpent_13 : decode cX12_isSpent 13 = .ok (.aload_n 0, 1) := by decide +kernel
theorem dX12_isSpent_14 : decode cX12_isSpent 14 = .ok (.getfield 171, 3) := by decide +kernel
theorem dX12_isSpent_17 : decode cX12_isSpent 17 = .ok (.aload_n 0, 1) := by decide +kernel
theorem dX12_isSpent_18 : decode cX12_isSpent 18 = .ok (.iload_n 1, 1) := by decide +kernel
theorem dX12_isSpent_19 : decode cX12_isSpent 19 = .ok (.bipush 71, 2) := by decide +kernel
theorem dX12_isSpent_21 : decode cX12_isSpent 21 = .ok (.invokevirtual 43, 3) := by decide +kernel
theorem dX12_isSpent_24 : decode cX12_isSpent 24 = .ok (.i2l, 1) := by decide +kernel
theorem dX12_isSpent_25 : decode cX12_isSpent 25 = .ok (.lcmp, 1) := by decide +kernel
theorem dX12_isSpent_26 : decode cX12_isSpent 26 = .ok (.ifCond .lt 41, 3) := by decide +kernel
theorem dX12_isSpent_29 : decode cX12_isSpent 29 = .ok (.aload_n 0, 1) := by decide +kernel
theorem dX12_isSpent_30 : decode cX12_isSpent 30 = .ok (.getfield 171, 3) := by decide +kernel
theorem dX12_isSpent_33 : decode cX12_isSpent 33 = .ok (.lconst 0, 1) := by decide +kernel
theorem dX12_isSpent_34 : decode cX12_isSpent 34 = .ok (.lcmp, 1) := by decide +kernel
theorem dX12_isSpent_35 : decode cX12_isSpent 35 = .ok (.ifCond .le 32, 3) := by decide +kernel
theorem dX12_isSpent_38 : decode cX12_isSpent 38 = .ok (.aload_n 0, 1) := by decide +kernel
theorem dX12_isSpent_39 : decode cX12_isSpent 39 = .ok (.getfield 175, 3) := by decide +kernel
theorem dX12_isSpent_42 : decode cX12_isSpent 42 = .ok (.ldc2_w 89, 3) := by decide +kernel
theorem dX12_isSpent_45 : decode cX12_isSpent 45 = .ok (.lmul, 1) := by decide +kernel
theorem dX12_isSpent_46 : decode cX12_isSpent 46 = .ok (.aload_n 0, 1) := by decide +kernel
theorem dX12_isSpent_47 : decode cX12_isSpent 47 = .ok (.iload_n 1, 1) := by decide +kernel
theorem dX12_isSpent_48 : decode cX12_isSpent 48 = .ok (.bipush 72, 2) := by decide +kernel
theorem dX12_isSpent_50 : decode cX12_isSpent 50 = .ok (.invokevirtual 43, 3) := by decide +kernel
theorem dX12_isSpent_53 : decode cX12_isSpent 53 = .ok (.i2l, 1) := by decide +kernel
theorem dX12_isSpent_54 : decode cX12_isSpent 54 = .ok (.aload_n 0, 1) := by decide +kernel
theorem dX12_isSpent_55 : decode cX12_isSpent 55 = .ok (.getfield 171, 3) := by decide +kernel
theorem dX12_isSpent_58 : decode cX12_isSpent 58 = .ok (.lmul, 1) := by decide +kernel
theorem dX12_isSpent_59 : decode cX12_isSpent 59 = .ok (.lcmp, 1) := by decide +kernel
theorem dX12_isSpent_60 : decode cX12_isSpent 60 = .ok (.ifCond .le 7, 3) := by decide +kernel
theorem dX12_isSpent_63 : decode cX12_isSpent 63 = .ok (.iconst 1, 1) := by decide +kernel
theorem dX12_isSpent_64 : decode cX12_isSpent 64 = .ok (.goto 4, 3) := by decide +kernel
theorem dX12_isSpent_67 : decode cX12_isSpent 67 = .ok (.iconst 0, 1) := by decide +kernel
theorem dX12_isSpent_68 : decode cX12_isSpent 68 = .ok (.ireturn, 1) := by decide +kernel
theorem dX12_whyNoGrowth_0 : decode cX12_whyNoGrowth 0 = .ok (.aload_n 0, 1) := by decide +kernel
theorem dX12_whyNoGrowth_1 : decode cX12_whyNoGrowth 1 = .ok (.iload_n 1, 1) := by decide +kernel
theorem dX12_whyNoGrowth_2 : decode cX12_whyNoGrowth 2 = .ok (.bipush 69, 2) := by decide +kernel
theorem dX12_whyNoGrowth_4 : decode cX12_whyNoGrowth 4 = .ok (.invokevirtual 43, 3) := by decide +kernel
theorem dX12_whyNoGrowth_7 : decode cX12_whyNoGrowth 7 = .ok (.istore_n 3, 1) := by decide +kernel
theorem dX12_whyNoGrowth_8 : decode cX12_whyNoGrowth 8 = .ok (.aload_n 0, 1) := by decide +kernel
theorem dX12_whyNoGrowth_9 : decode cX12_whyNoGrowth 9 = .ok (.iload_n 1, 1) := by decide +kernel
theorem dX12_whyNoGrowth_10 : decode cX12_whyNoGrowth 10 = .ok (.iload_n 2, 1) := by decide +kernel
theorem dX12_whyNoGrowth_11 : decode cX12_whyNoGrowth 11 = .ok (.invokevirtual 181, 3) := by decide +kernel
theorem dX12_whyNoGrowth_14 : decode cX12_whyNoGrowth 14 = .ok (.iload_n 3, 1) := by decide +kernel
theorem dX12_whyNoGrowth_15 : decode cX12_whyNoGrowth 15 = .ok (.ifCond .lt 13, 3) := by decide +kernel
theorem dX12_whyNoGrowth_18 : decode cX12_whyNoGrowth 18 = .ok (.aload_n 0, 1) := by decide +kernel
theorem dX12_whyNoGrowth_19 : decode cX12_whyNoGrowth 19 = .ok (.getfield 167, 3) := by decide +kernel
