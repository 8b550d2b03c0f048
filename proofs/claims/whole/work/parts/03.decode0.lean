theorem dX0_init_0 : decode cX0_init 0 = .ok (.aload_n 0, 1) := by decide +kernel
theorem dX0_init_1 : decode cX0_init 1 = .ok (.invokespecial 3, 3) := by decide +kernel
theorem dX0_init_4 : decode cX0_init 4 = .ok (.return_, 1) := by decide +kernel
theorem dX0_begin_0 : decode cX0_begin 0 = .ok (.aload_n 0, 1) := by decide +kernel
theorem dX0_begin_1 : decode cX0_begin 1 = .ok (.iconst 1, 1) := by decide +kernel
theorem dX0_begin_2 : decode cX0_begin 2 = .ok (.iconst 0, 1) := by decide +kernel
theorem dX0_begin_3 : decode cX0_begin 3 = .ok (.sipush 10000, 3) := by decide +kernel
theorem dX0_begin_6 : decode cX0_begin 6 = .ok (.iconst 0, 1) := by decide +kernel
theorem dX0_begin_7 : decode cX0_begin 7 = .ok (.invokevirtual 9, 3) := by decide +kernel
theorem dX0_begin_10 : decode cX0_begin 10 = .ok (.aload_n 0, 1) := by decide +kernel
theorem dX0_begin_11 : decode cX0_begin 11 = .ok (.iconst 0, 1) := by decide +kernel
theorem dX0_begin_12 : decode cX0_begin 12 = .ok (.putfield 15, 3) := by decide +kernel
theorem dX0_begin_15 : decode cX0_begin 15 = .ok (.aload_n 0, 1) := by decide +kernel
theorem dX0_begin_16 : decode cX0_begin 16 = .ok (.iconst 0, 1) := by decide +kernel
theorem dX0_begin_17 : decode cX0_begin 17 = .ok (.putfield 19, 3) := by decide +kernel
theorem dX0_begin_20 : decode cX0_begin 20 = .ok (.aload_n 0, 1) := by decide +kernel
theorem dX0_begin_21 : decode cX0_begin 21 = .ok (.iconst 0, 1) := by decide +kernel
theorem dX0_begin_22 : decode cX0_begin 22 = .ok (.putfield 22, 3) := by decide +kernel
theorem dX0_begin_25 : decode cX0_begin 25 = .ok (.return_, 1) := by decide +kernel
theorem dX0_takeFrom_0 : decode cX0_takeFrom 0 = .ok (.aload_n 0, 1) := by decide +kernel
theorem dX0_takeFrom_1 : decode cX0_takeFrom 1 = .ok (.aload_n 1, 1) := by decide +kernel
theorem dX0_takeFrom_2 : decode cX0_takeFrom 2 = .ok (.getfield 25, 3) := by decide +kernel
theorem dX0_takeFrom_5 : decode cX0_takeFrom 5 = .ok (.aload_n 1, 1) := by decide +kernel
theorem dX0_takeFrom_6 : decode cX0_takeFrom 6 = .ok (.getfield 28, 3) := by decide +kernel
theorem dX0_takeFrom_9 : decode cX0_takeFrom 9 = .ok (.aload_n 1, 1) := by decide +kernel
theorem dX0_takeFrom_10 : decode cX0_takeFrom 10 = .ok (.getfield 31, 3) := by decide +kernel
theorem dX0_takeFrom_13 : decode cX0_takeFrom 13 = .ok (.aload_n 1, 1) := by decide +kernel
theorem dX0_takeFrom_14 : decode cX0_takeFrom 14 = .ok (.getfield 34, 3) := by decide +kernel
theorem dX0_takeFrom_17 : decode cX0_takeFrom 17 = .ok (.invokevirtual 9, 3) := by decide +kernel
theorem dX0_takeFrom_20 : decode cX0_takeFrom 20 = .ok (.aload_n 0, 1) := by decide +kernel
theorem dX0_takeFrom_21 : decode cX0_takeFrom 21 = .ok (.aload_n 1, 1) := by decide +kernel
theorem dX0_takeFrom_22 : decode cX0_takeFrom 22 = .ok (.getfield 15, 3) := by decide +kernel
theorem dX0_takeFrom_25 : decode cX0_takeFrom 25 = .ok (.putfield 15, 3) := by decide +kernel
theorem dX0_takeFrom_28 : decode cX0_takeFrom 28 = .ok (.aload_n 0, 1) := by decide +kernel
theorem dX0_takeFrom_29 : decode cX0_takeFrom 29 = .ok (.aload_n 1, 1) := by decide +kernel
theorem dX0_takeFrom_30 : decode cX0_takeFrom 30 = .ok (.getfield 19, 3) := by decide +kernel
theorem dX0_takeFrom_33 : decode cX0_takeFrom 33 = .ok (.putfield 19, 3) := by decide +kernel
theorem dX0_takeFrom_36 : decode cX0_takeFrom 36 = .ok (.aload_n 0, 1) := by decide +kernel
theorem dX0_takeFrom_37 : decode cX0_takeFrom 37 = .ok (.aload_n 1, 1) := by decide +kernel
theorem dX0_takeFrom_38 : decode cX0_takeFrom 38 = .ok (.getfield 22, 3) := by decide +kernel
theorem dX0_takeFrom_41 : decode cX0_takeFrom 41 = .ok (.putfield 22, 3) := by decide +kernel
theorem dX0_takeFrom_44 : decode cX0_takeFrom 44 = .ok (.return_, 1) := by decide +kernel
theorem dX0_set_0 : decode cX0_set 0 = .ok (.aload_n 0, 1) := by decide +kernel
theorem dX0_set_1 : decode cX0_set 1 = .ok (.iload_n 1, 1) := by decide +kernel
theorem dX0_set_2 : decode cX0_set 2 = .ok (.putfield 25, 3) := by decide +kernel
theorem dX0_set_5 : decode cX0_set 5 = .ok (.aload_n 0, 1) := by decide +kernel
theorem dX0_set_6 : decode cX0_set 6 = .ok (.iload_n 2, 1) := by decide +kernel
theorem dX0_set_7 : decode cX0_set 7 = .ok (.putfield 28, 3) := by decide +kernel
theorem dX0_set_10 : decode cX0_set 10 = .ok (.aload_n 0, 1) := by decide +kernel
theorem dX0_set_11 : decode cX0_set 11 = .ok (.iload_n 3, 1) := by decide +kernel
theorem dX0_set_12 : decode cX0_set 12 = .ok (.putfield 31, 3) := by decide +kernel
theorem dX0_set_15 : decode cX0_set 15 = .ok (.aload_n 0, 1) := by decide +kernel
theorem dX0_set_16 : decode cX0_set 16 = .ok (.iload 4, 2) := by decide +kernel
theorem dX0_set_18 : decode cX0_set 18 = .ok (.putfield 34, 3) := by decide +kernel
theorem dX0_set_21 : decode cX0_set 21 = .ok (.return_, 1) := by decide +kernel
theorem dX0_windowStart_0 : decode cX0_windowStart 0 = .ok (.iconst 0, 1) := by decide +kernel
theorem dX0_windowStart_1 : decode cX0_windowStart 1 = .ok (.iload_n 1, 1) := by decide +kernel
theorem dX0_windowStart_2 : decode cX0_windowStart 2 = .ok (.aload_n 0, 1) := by decide +kernel
theorem dX0_windowStart_3 : decode cX0_windowStart 3 = .ok (.getfield 25, 3) := by decide +kernel
theorem dX0_windowStart_6 : decode cX0_windowStart 6 = .ok (.isub, 1) := by decide +kernel
theorem dX0_windowStart_7 : decode cX0_windowStart 7 = .ok (.iconst 1, 1) := by decide +kernel
theorem dX0_windowStart_8 : decode cX0_windowStart 8 = .ok (.iadd, 1) := by decide +kernel
theorem dX0_windowStart_9 : decode cX0_windowStart 9 = .ok (.invokestatic 38, 3) := by decide +kernel
theorem dX0_windowStart_12 : decode cX0_windowStart 12 = .ok (.ireturn, 1) := by decide +kernel
theorem dX0_faultOf_0 : decode cX0_faultOf 0 = .ok (.aload_n 0, 1) := by decide +kernel
theorem dX0_faultOf_1 : decode cX0_faultOf 1 = .ok (.iload_n 2, 1) := by decide +kernel
theorem dX0_faultOf_2 : decode cX0_faultOf 2 = .ok (.invokevirtual 44, 3) := by decide +kernel
theorem dX0_faultOf_5 : decode cX0_faultOf 5 = .ok (.istore_n 3, 1) := by decide +kernel
theorem dX0_faultOf_6 : decode cX0_faultOf 6 = .ok (.aload_n 1, 1) := by decide +kernel
theorem dX0_faultOf_7 : decode cX0_faultOf 7 = .ok (.ifnull 12, 3) := by decide +kernel
theorem dX0_faultOf_10 : decode cX0_faultOf 10 = .ok (.aload_n 1, 1) := by decide +kernel
theorem dX0_faultOf_11 : decode cX0_faultOf 11 = .ok (.iload_n 3, 1) := by decide +kernel
theorem dX0_faultOf_12 : decode cX0_faultOf 12 = .ok (.iload_n 2, 1) := by decide +kernel
theorem dX0_faultOf_13 : decode cX0_faultOf 13 = .ok (.invokevirtual 48, 3) := by decide +kernel
theorem dX0_faultOf_16 : decode cX0_faultOf 16 = .ok (.ifCond .ne 6, 3) := by decide +kernel
theorem dX0_faultOf_19 : decode cX0_faultOf 19 = .ok (.bipush (-8), 2) := by decide +kernel
theorem dX0_faultOf_21 : decode cX0_faultOf 21 = .ok (.ireturn, 1) := by decide +kernel
theorem dX0_faultOf_22 : decode cX0_faultOf 22 = .ok (.aload_n 1, 1) := by decide +kernel
theorem dX0_faultOf_23 : decode cX0_faultOf 23 = .ok (.iload_n 3, 1) := by decide +kernel
theorem dX0_faultOf_24 : decode cX0_faultOf 24 = .ok (.iload_n 2, 1) := by decide +kernel
theorem dX0_faultOf_25 : decode cX0_faultOf 25 = .ok (.invokevirtual 54, 3) := by decide +kernel
theorem dX0_faultOf_28 : decode cX0_faultOf 28 = .ok (.lstore 4, 2) := by decide +kernel
theorem dX0_faultOf_30 : decode cX0_faultOf 30 = .ok (.lload 4, 2) := by decide +kernel
theorem dX0_faultOf_32 : decode cX0_faultOf 32 = .ok (.aload_n 0, 1) := by decide +kernel
theorem dX0_faultOf_33 : decode cX0_faultOf 33 = .ok (.getfield 28, 3) := by decide +kernel
theorem dX0_faultOf_36 : decode cX0_faultOf 36 = .ok (.i2l, 1) := by decide +kernel
theorem dX0_faultOf_37 : decode cX0_faultOf 37 = .ok (.lcmp, 1) := by decide +kernel
theorem dX0_faultOf_38 : decode cX0_faultOf 38 = .ok (.ifCond .ge 6, 3) := by decide +kernel
theorem dX0_faultOf_41 : decode cX0_faultOf 41 = .ok (.bipush (-9), 2) := by decide +kernel
theorem dX0_faultOf_43 : decode cX0_faultOf 43 = .ok (.ireturn, 1) := by decide +kernel
theorem dX0_faultOf_44 : decode cX0_faultOf 44 = .ok (.aload_n 1, 1) := by decide +kernel
theorem dX0_faultOf_45 : decode cX0_faultOf 45 = .ok (.iload_n 3, 1) := by decide +kernel
theorem dX0_faultOf_46 : decode cX0_faultOf 46 = .ok (.iload_n 2, 1) := by decide +kernel
theorem dX0_faultOf_47 : decode cX0_faultOf 47 = .ok (.invokevirtual 58, 3) := by decide +kernel
theorem dX0_faultOf_50 : decode cX0_faultOf 50 = .ok (.lstore 6, 2) := by decide +kernel
theorem dX0_faultOf_52 : decode cX0_faultOf 52 = .ok (.lload 4, 2) := by decide +kernel
theorem dX0_faultOf_54 : decode cX0_faultOf 54 = .ok (.lconst 0, 1) := by decide +kernel
theorem dX0_faultOf_55 : decode cX0_faultOf 55 = .ok (.lcmp, 1) := by decide +kernel
theorem dX0_faultOf_56 : decode cX0_faultOf 56 = .ok (.ifCond .le 26, 3) := by decide +kernel
theorem dX0_faultOf_59 : decode cX0_faultOf 59 = .ok (.lload 6, 2) := by decide +kernel
theorem dX0_faultOf_61 : decode cX0_faultOf 61 = .ok (.ldc2_w 61, 3) := by decide +kernel
theorem dX0_faultOf_64 : decode cX0_faultOf 64 = .ok (.lmul, 1) := by decide +kernel
theorem dX0_faultOf_65 : decode cX0_faultOf 65 = .ok (.aload_n 0, 1) := by decide +kernel
theorem dX0_faultOf_66 : decode cX0_faultOf 66 = .ok (.getfield 31, 3) := by decide +kernel
theorem dX0_faultOf_69 : decode cX0_faultOf 69 = .ok (.i2l, 1) := by decide +kernel
theorem dX0_faultOf_70 : decode cX0_faultOf 70 = .ok (.lload 4, 2) := by decide +kernel
theorem dX0_faultOf_72 : decode cX0_faultOf 72 = .ok (.lmul, 1) := by decide +kernel
theorem dX0_faultOf_73 : decode cX0_faultOf 73 = .ok (.lcmp, 1) := by decide +kernel
theorem dX0_faultOf_74 : decode cX0_faultOf 74 = .ok (.ifCond .le 8, 3) := by decide +kernel
theorem dX0_faultOf_77 : decode cX0_faultOf 77 = .ok (.bipush (-10), 2) := by decide +kernel
theorem dX0_faultOf_79 : decode cX0_faultOf 79 = .ok (.goto 4, 3) := by decide +kernel
theorem dX0_faultOf_82 : decode cX0_faultOf 82 = .ok (.iconst 0, 1) := by decide +kernel
theorem dX0_faultOf_83 : decode cX0_faultOf 83 = .ok (.ireturn, 1) := by decide +kernel
theorem dX0_faultsLeft_0 : decode cX0_faultsLeft 0 = .ok (.aload_n 0, 1) := by decide +kernel
theorem dX0_faultsLeft_1 : decode cX0_faultsLeft 1 = .ok (.iload_n 2, 1) := by decide +kernel
theorem dX0_faultsLeft_2 : decode cX0_faultsLeft 2 = .ok (.invokevirtual 44, 3) := by decide +kernel
theorem dX0_faultsLeft_5 : decode cX0_faultsLeft 5 = .ok (.istore_n 3, 1) := by decide +kernel
theorem dX0_faultsLeft_6 : decode cX0_faultsLeft 6 = .ok (.aload_n 0, 1) := by decide +kernel
theorem dX0_faultsLeft_7 : decode cX0_faultsLeft 7 = .ok (.getfield 31, 3) := by decide +kernel
theorem dX0_faultsLeft_10 : decode cX0_faultsLeft 10 = .ok (.i2l, 1) := by decide +kernel
theorem dX0_faultsLeft_11 : decode cX0_faultsLeft 11 = .ok (.aload_n 1, 1) := by decide +kernel
theorem dX0_faultsLeft_12 : decode cX0_faultsLeft 12 = .ok (.iload_n 3, 1) := by decide +kernel
theorem dX0_faultsLeft_13 : decode cX0_faultsLeft 13 = .ok (.iload_n 2, 1) := by decide +kernel
theorem dX0_faultsLeft_14 : decode cX0_faultsLeft 14 = .ok (.invokevirtual 54, 3) := by decide +kernel
theorem dX0_faultsLeft_17 : decode cX0_faultsLeft 17 = .ok (.lmul, 1) := by decide +kernel
theorem dX0_faultsLeft_18 : decode cX0_faultsLeft 18 = .ok (.ldc2_w 61, 3) := by decide +kernel
theorem dX0_faultsLeft_21 : decode cX0_faultsLeft 21 = .ok (.ldiv, 1) := by decide +kernel
theorem dX0_faultsLeft_22 : decode cX0_faultsLeft 22 = .ok (.lstore 4, 2) := by decide +kernel
theorem dX0_faultsLeft_24 : decode cX0_faultsLeft 24 = .ok (.lload 4, 2) := by decide +kernel
theorem dX0_faultsLeft_26 : decode cX0_faultsLeft 26 = .ok (.aload_n 1, 1) := by decide +kernel
theorem dX0_faultsLeft_27 : decode cX0_faultsLeft 27 = .ok (.iload_n 3, 1) := by decide +kernel
theorem dX0_faultsLeft_28 : decode cX0_faultsLeft 28 = .ok (.iload_n 2, 1) := by decide +kernel
theorem dX0_faultsLeft_29 : decode cX0_faultsLeft 29 = .ok (.invokevirtual 58, 3) := by decide +kernel
theorem dX0_faultsLeft_32 : decode cX0_faultsLeft 32 = .ok (.lsub, 1) := by decide +kernel
theorem dX0_faultsLeft_33 : decode cX0_faultsLeft 33 = .ok (.l2i, 1) := by decide +kernel
theorem dX0_faultsLeft_34 : decode cX0_faultsLeft 34 = .ok (.ireturn, 1) := by decide +kernel
theorem dX0_noteSpent_0 : decode cX0_noteSpent 0 = .ok (.aload_n 0, 1) := by decide +kernel
theorem dX0_noteSpent_1 : decode cX0_noteSpent 1 = .ok (.iload_n 1, 1) := by decide +kernel
theorem dX0_noteSpent_2 : decode cX0_noteSpent 2 = .ok (.aload_n 0, 1) := by decide +kernel
theorem dX0_noteSpent_3 : decode cX0_noteSpent 3 = .ok (.getfield 15, 3) := by decide +kernel
theorem dX0_noteSpent_6 : decode cX0_noteSpent 6 = .ok (.iadd, 1) := by decide +kernel
theorem dX0_noteSpent_7 : decode cX0_noteSpent 7 = .ok (.iconst 1, 1) := by decide +kernel
theorem dX0_noteSpent_8 : decode cX0_noteSpent 8 = .ok (.iadd, 1) := by decide +kernel
theorem dX0_noteSpent_9 : decode cX0_noteSpent 9 = .ok (.putfield 19, 3) := by decide +kernel
theorem dX0_noteSpent_12 : decode cX0_noteSpent 12 = .ok (.aload_n 0, 1) := by decide +kernel
theorem dX0_noteSpent_13 : decode cX0_noteSpent 13 = .ok (.dup, 1) := by decide +kernel
theorem dX0_noteSpent_14 : decode cX0_noteSpent 14 = .ok (.getfield 22, 3) := by decide +kernel
theorem dX0_noteSpent_17 : decode cX0_noteSpent 17 = .ok (.iconst 1, 1) := by decide +kernel
theorem dX0_noteSpent_18 : decode cX0_noteSpent 18 = .ok (.iadd, 1) := by decide +kernel
theorem dX0_noteSpent_19 : decode cX0_noteSpent 19 = .ok (.putfield 22, 3) := by decide +kernel
theorem dX0_noteSpent_22 : decode cX0_noteSpent 22 = .ok (.return_, 1) := by decide +kernel
theorem dX1_init_0 : decode cX1_init 0 = .ok (.aload_n 0, 1) := by decide +kernel
theorem dX1_init_1 : decode cX1_init 1 = .ok (.invokespecial 3, 3) := by decide +kernel
theorem dX1_init_4 : decode cX1_init 4 = .ok (.aload_n 0, 1) := by decide +kernel
theorem dX1_init_5 : decode cX1_init 5 = .ok (.bipush 16, 2) := by decide +kernel
theorem dX1_init_7 : decode cX1_init 7 = .ok (.newarray .int, 2) := by decide +kernel
theorem dX1_init_9 : decode cX1_init 9 = .ok (.putfield 9, 3) := by decide +kernel
theorem dX1_init_12 : decode cX1_init 12 = .ok (.return_, 1) := by decide +kernel
theorem dX1_become_0 : decode cX1_become 0 = .ok (.aload_n 0, 1) := by decide +kernel
theorem dX1_become_1 : decode cX1_become 1 = .ok (.iload_n 1, 1) := by decide +kernel
theorem dX1_become_2 : decode cX1_become 2 = .ok (.putfield 15, 3) := by decide +kernel
theorem dX1_become_5 : decode cX1_become 5 = .ok (.aload_n 0, 1) := by decide +kernel
theorem dX1_become_6 : decode cX1_become 6 = .ok (.iload_n 2, 1) := by decide +kernel
theorem dX1_become_7 : decode cX1_become 7 = .ok (.putfield 19, 3) := by decide +kernel
theorem dX1_become_10 : decode cX1_become 10 = .ok (.aload_n 0, 1) := by decide +kernel
theorem dX1_become_11 : decode cX1_become 11 = .ok (.iload_n 3, 1) := by decide +kernel
theorem dX1_become_12 : decode cX1_become 12 = .ok (.putfield 22, 3) := by decide +kernel
theorem dX1_become_15 : decode cX1_become 15 = .ok (.aload_n 0, 1) := by decide +kernel
theorem dX1_become_16 : decode cX1_become 16 = .ok (.iload 4, 2) := by decide +kernel
theorem dX1_become_18 : decode cX1_become 18 = .ok (.putfield 25, 3) := by decide +kernel
theorem dX1_become_21 : decode cX1_become 21 = .ok (.return_, 1) := by decide +kernel
theorem dX1_markOf_0 : decode cX1_markOf 0 = .ok (.iload_n 1, 1) := by decide +kernel
theorem dX1_markOf_1 : decode cX1_markOf 1 = .ok (.lookupswitch 37 #[(0, 27), (1, 32)], 27) := by decide +kernel
theorem dX1_markOf_28 : decode cX1_markOf 28 = .ok (.aload_n 0, 1) := by decide +kernel
theorem dX1_markOf_29 : decode cX1_markOf 29 = .ok (.getfield 19, 3) := by decide +kernel
theorem dX1_markOf_32 : decode cX1_markOf 32 = .ok (.ireturn, 1) := by decide +kernel
theorem dX1_markOf_33 : decode cX1_markOf 33 = .ok (.aload_n 0, 1) := by decide +kernel
theorem dX1_markOf_34 : decode cX1_markOf 34 = .ok (.getfield 22, 3) := by decide +kernel
theorem dX1_markOf_37 : decode cX1_markOf 37 = .ok (.ireturn, 1) := by decide +kernel
theorem dX1_markOf_38 : decode cX1_markOf 38 = .ok (.aload_n 0, 1) := by decide +kernel
theorem dX1_markOf_39 : decode cX1_markOf 39 = .ok (.getfield 25, 3) := by decide +kernel
theorem dX1_markOf_42 : decode cX1_markOf 42 = .ok (.ireturn, 1) := by decide +kernel
theorem dX1_begin_0 : decode cX1_begin 0 = .ok (.aload_n 0, 1) := by decide +kernel
theorem dX1_begin_1 : decode cX1_begin 1 = .ok (.iconst 0, 1) := by decide +kernel
theorem dX1_begin_2 : decode cX1_begin 2 = .ok (.putfield 28, 3) := by decide +kernel
theorem dX1_begin_5 : decode cX1_begin 5 = .ok (.iconst 0, 1) := by decide +kernel
theorem dX1_begin_6 : decode cX1_begin 6 = .ok (.istore_n 2, 1) := by decide +kernel
theorem dX1_begin_7 : decode cX1_begin 7 = .ok (.iload_n 2, 1) := by decide +kernel
theorem dX1_begin_8 : decode cX1_begin 8 = .ok (.bipush 16, 2) := by decide +kernel
theorem dX1_begin_10 : decode cX1_begin 10 = .ok (.if_icmp .ge 46, 3) := by decide +kernel
theorem dX1_begin_13 : decode cX1_begin 13 = .ok (.aload_n 1, 1) := by decide +kernel
theorem dX1_begin_14 : decode cX1_begin 14 = .ok (.iload_n 2, 1) := by decide +kernel
theorem dX1_begin_15 : decode cX1_begin 15 = .ok (.invokevirtual 31, 3) := by decide +kernel
theorem dX1_begin_18 : decode cX1_begin 18 = .ok (.astore_n 3, 1) := by decide +kernel
theorem dX1_begin_19 : decode cX1_begin 19 = .ok (.aload_n 3, 1) := by decide +kernel
theorem dX1_begin_20 : decode cX1_begin 20 = .ok (.ifnull 30, 3) := by decide +kernel
theorem dX1_begin_23 : decode cX1_begin 23 = .ok (.aload_n 3, 1) := by decide +kernel
theorem dX1_begin_24 : decode cX1_begin 24 = .ok (.getfield 37, 3) := by decide +kernel
theorem dX1_begin_27 : decode cX1_begin 27 = .ok (.iconst 4, 1) := by decide +kernel
theorem dX1_begin_28 : decode cX1_begin 28 = .ok (.if_icmp .ne 22, 3) := by decide +kernel
theorem dX1_begin_31 : decode cX1_begin 31 = .ok (.aload_n 3, 1) := by decide +kernel
theorem dX1_begin_32 : decode cX1_begin 32 = .ok (.getfield 42, 3) := by decide +kernel
theorem dX1_begin_35 : decode cX1_begin 35 = .ok (.ifCond .eq 15, 3) := by decide +kernel
theorem dX1_begin_38 : decode cX1_begin 38 = .ok (.aload_n 0, 1) := by decide +kernel
theorem dX1_begin_39 : decode cX1_begin 39 = .ok (.dup, 1) := by decide +kernel
theorem dX1_begin_40 : decode cX1_begin 40 = .ok (.getfield 28, 3) := by decide +kernel
theorem dX1_begin_43 : decode cX1_begin 43 = .ok (.iconst 1, 1) := by decide +kernel
theorem dX1_begin_44 : decode cX1_begin 44 = .ok (.iload_n 2, 1) := by decide +kernel
theorem dX1_begin_45 : decode cX1_begin 45 = .ok (.ishl, 1) := by decide +kernel
theorem dX1_begin_46 : decode cX1_begin 46 = .ok (.ior, 1) := by decide +kernel
theorem dX1_begin_47 : decode cX1_begin 47 = .ok (.putfield 28, 3) := by decide +kernel
theorem dX1_begin_50 : decode cX1_begin 50 = .ok (.iinc 2 1, 3) := by decide +kernel
theorem dX1_begin_53 : decode cX1_begin 53 = .ok (.goto (-46), 3) := by decide +kernel
theorem dX1_begin_56 : decode cX1_begin 56 = .ok (.return_, 1) := by decide +kernel
theorem dX1_ask_0 : decode cX1_ask 0 = .ok (.aload_n 0, 1) := by decide +kernel
theorem dX1_ask_1 : decode cX1_ask 1 = .ok (.iload_n 1, 1) := by decide +kernel
theorem dX1_ask_2 : decode cX1_ask 2 = .ok (.putfield 46, 3) := by decide +kernel
theorem dX1_ask_5 : decode cX1_ask 5 = .ok (.aload_n 0, 1) := by decide +kernel
theorem dX1_ask_6 : decode cX1_ask 6 = .ok (.iconst 0, 1) := by decide +kernel
theorem dX1_ask_7 : decode cX1_ask 7 = .ok (.putfield 49, 3) := by decide +kernel
theorem dX1_ask_10 : decode cX1_ask 10 = .ok (.return_, 1) := by decide +kernel
theorem dX1_wayAt_0 : decode cX1_wayAt 0 = .ok (.aload_n 1, 1) := by decide +kernel
theorem dX1_wayAt_1 : decode cX1_wayAt 1 = .ok (.iload_n 2, 1) := by decide +kernel
theorem dX1_wayAt_2 : decode cX1_wayAt 2 = .ok (.invokevirtual 31, 3) := by decide +kernel
theorem dX1_wayAt_5 : decode cX1_wayAt 5 = .ok (.astore 4, 2) := by decide +kernel
theorem dX1_wayAt_7 : decode cX1_wayAt 7 = .ok (.aload 4, 2) := by decide +kernel
theorem dX1_wayAt_9 : decode cX1_wayAt 9 = .ok (.ifnull 9, 3) := by decide +kernel
theorem dX1_wayAt_12 : decode cX1_wayAt 12 = .ok (.iload_n 3, 1) := by decide +kernel
theorem dX1_wayAt_13 : decode cX1_wayAt 13 = .ok (.bipush 16, 2) := by decide +kernel
theorem dX1_wayAt_15 : decode cX1_wayAt 15 = .ok (.if_icmp .le 5, 3) := by decide +kernel
theorem dX1_wayAt_18 : decode cX1_wayAt 18 = .ok (.iconst 0, 1) := by decide +kernel
theorem dX1_wayAt_19 : decode cX1_wayAt 19 = .ok (.ireturn, 1) := by decide +kernel
theorem dX1_wayAt_20 : decode cX1_wayAt 20 = .ok (.aload_n 0, 1) := by decide +kernel
theorem dX1_wayAt_21 : decode cX1_wayAt 21 = .ok (.getfield 49, 3) := by decide +kernel
theorem dX1_wayAt_24 : decode cX1_wayAt 24 = .ok (.iload_n 2, 1) := by decide +kernel
theorem dX1_wayAt_25 : decode cX1_wayAt 25 = .ok (.invokestatic 52, 3) := by decide +kernel
theorem dX1_wayAt_28 : decode cX1_wayAt 28 = .ok (.ifCond .ne 34, 3) := by decide +kernel
theorem dX1_wayAt_31 : decode cX1_wayAt 31 = .ok (.aload_n 0, 1) := by decide +kernel
theorem dX1_wayAt_32 : decode cX1_wayAt 32 = .ok (.getfield 9, 3) := by decide +kernel
theorem dX1_wayAt_35 : decode cX1_wayAt 35 = .ok (.iload_n 2, 1) := by decide +kernel
theorem dX1_wayAt_36 : decode cX1_wayAt 36 = .ok (.aload_n 0, 1) := by decide +kernel
theorem dX1_wayAt_37 : decode cX1_wayAt 37 = .ok (.aload 4, 2) := by decide +kernel
theorem dX1_wayAt_39 : decode cX1_wayAt 39 = .ok (.aload_n 0, 1) := by decide +kernel
theorem dX1_wayAt_40 : decode cX1_wayAt 40 = .ok (.aload_n 1, 1) := by decide +kernel
theorem dX1_wayAt_41 : decode cX1_wayAt 41 = .ok (.iload_n 2, 1) := by decide +kernel
theorem dX1_wayAt_42 : decode cX1_wayAt 42 = .ok (.iload_n 3, 1) := by decide +kernel
theorem dX1_wayAt_43 : decode cX1_wayAt 43 = .ok (.invokevirtual 56, 3) := by decide +kernel
theorem dX1_wayAt_46 : decode cX1_wayAt 46 = .ok (.invokevirtual 60, 3) := by decide +kernel
theorem dX1_wayAt_49 : decode cX1_wayAt 49 = .ok (.iastore, 1) := by decide +kernel
theorem dX1_wayAt_50 : decode cX1_wayAt 50 = .ok (.aload_n 0, 1) := by decide +kernel
theorem dX1_wayAt_51 : decode cX1_wayAt 51 = .ok (.dup, 1) := by decide +kernel
theorem dX1_wayAt_52 : decode cX1_wayAt 52 = .ok (.getfield 49, 3) := by decide +kernel
theorem dX1_wayAt_55 : decode cX1_wayAt 55 = .ok (.iconst 1, 1) := by decide +kernel
theorem dX1_wayAt_56 : decode cX1_wayAt 56 = .ok (.iload_n 2, 1) := by decide +kernel
theorem dX1_wayAt_57 : decode cX1_wayAt 57 = .ok (.ishl, 1) := by decide +kernel
theorem dX1_wayAt_58 : decode cX1_wayAt 58 = .ok (.ior, 1) := by decide +kernel
theorem dX1_wayAt_59 : decode cX1_wayAt 59 = .ok (.putfield 49, 3) := by decide +kernel
theorem dX1_wayAt_62 : decode cX1_wayAt 62 = .ok (.aload_n 0, 1) := by decide +kernel
theorem dX1_wayAt_63 : decode cX1_wayAt 63 = .ok (.getfield 9, 3) := by decide +kernel
theorem dX1_wayAt_66 : decode cX1_wayAt 66 = .ok (.iload_n 2, 1) := by decide +kernel
theorem dX1_wayAt_67 : decode cX1_wayAt 67 = .ok (.iaload, 1) := by decide +kernel
theorem dX1_wayAt_68 : decode cX1_wayAt 68 = .ok (.ireturn, 1) := by decide +kernel
theorem dX1_whyAt_0 : decode cX1_whyAt 0 = .ok (.aload_n 1, 1) := by decide +kernel
theorem dX1_whyAt_1 : decode cX1_whyAt 1 = .ok (.iload_n 2, 1) := by decide +kernel
theorem dX1_whyAt_2 : decode cX1_whyAt 2 = .ok (.invokevirtual 31, 3) := by decide +kernel
theorem dX1_whyAt_5 : decode cX1_whyAt 5 = .ok (.astore 4, 2) := by decide +kernel
theorem dX1_whyAt_7 : decode cX1_whyAt 7 = .ok (.aload 4, 2) := by decide +kernel
theorem dX1_whyAt_9 : decode cX1_whyAt 9 = .ok (.ifnonnull 5, 3) := by decide +kernel
theorem dX1_whyAt_12 : decode cX1_whyAt 12 = .ok (.iconst 0, 1) := by decide +kernel
theorem dX1_whyAt_13 : decode cX1_whyAt 13 = .ok (.ireturn, 1) := by decide +kernel
theorem dX1_whyAt_14 : decode cX1_whyAt 14 = .ok (.aload_n 0, 1) := by decide +kernel
theorem dX1_whyAt_15 : decode cX1_whyAt 15 = .ok (.aload_n 1, 1) := by decide +kernel
theorem dX1_whyAt_16 : decode cX1_whyAt 16 = .ok (.iload_n 2, 1) := by decide +kernel
theorem dX1_whyAt_17 : decode cX1_whyAt 17 = .ok (.iload_n 3, 1) := by decide +kernel
theorem dX1_whyAt_18 : decode cX1_whyAt 18 = .ok (.invokevirtual 64, 3) := by decide +kernel
theorem dX1_whyAt_21 : decode cX1_whyAt 21 = .ok (.istore 5, 2) := by decide +kernel
theorem dX1_whyAt_23 : decode cX1_whyAt 23 = .ok (.iload 5, 2) := by decide +kernel
theorem dX1_whyAt_25 : decode cX1_whyAt 25 = .ok (.iconst (-1), 1) := by decide +kernel
theorem dX1_whyAt_26 : decode cX1_whyAt 26 = .ok (.if_icmp .eq 9, 3) := by decide +kernel
theorem dX1_whyAt_29 : decode cX1_whyAt 29 = .ok (.bipush 8, 2) := by decide +kernel
theorem dX1_whyAt_31 : decode cX1_whyAt 31 = .ok (.iload 5, 2) := by decide +kernel
theorem dX1_whyAt_33 : decode cX1_whyAt 33 = .ok (.iadd, 1) := by decide +kernel
theorem dX1_whyAt_34 : decode cX1_whyAt 34 = .ok (.ireturn, 1) := by decide +kernel
theorem dX1_whyAt_35 : decode cX1_whyAt 35 = .ok (.aload_n 0, 1) := by decide +kernel
theorem dX1_whyAt_36 : decode cX1_whyAt 36 = .ok (.aload_n 1, 1) := by decide +kernel
theorem dX1_whyAt_37 : decode cX1_whyAt 37 = .ok (.aload 4, 2) := by decide +kernel
theorem dX1_whyAt_39 : decode cX1_whyAt 39 = .ok (.iload_n 3, 1) := by decide +kernel
theorem dX1_whyAt_40 : decode cX1_whyAt 40 = .ok (.invokevirtual 67, 3) := by decide +kernel
theorem dX1_whyAt_43 : decode cX1_whyAt 43 = .ok (.ifCond .eq 15, 3) := by decide +kernel
theorem dX1_whyAt_46 : decode cX1_whyAt 46 = .ok (.aload 4, 2) := by decide +kernel
theorem dX1_whyAt_48 : decode cX1_whyAt 48 = .ok (.getfield 71, 3) := by decide +kernel
theorem dX1_whyAt_51 : decode cX1_whyAt 51 = .ok (.aload_n 0, 1) := by decide +kernel
theorem dX1_whyAt_52 : decode cX1_whyAt 52 = .ok (.invokevirtual 75, 3) := by decide +kernel
theorem dX1_whyAt_55 : decode cX1_whyAt 55 = .ok (.goto 5, 3) := by decide +kernel
theorem dX1_whyAt_58 : decode cX1_whyAt 58 = .ok (.bipush 7, 2) := by decide +kernel
theorem dX1_whyAt_60 : decode cX1_whyAt 60 = .ok (.ireturn, 1) := by decide +kernel
theorem dX1_wayBy_0 : decode cX1_wayBy 0 = .ok (.iload_n 2, 1) := by decide +kernel
theorem dX1_wayBy_1 : decode cX1_wayBy 1 = .ok (.bipush 7, 2) := by decide +kernel
theorem dX1_wayBy_3 : decode cX1_wayBy 3 = .ok (.if_icmp .lt 5, 3) := by decide +kernel
theorem dX1_wayBy_6 : decode cX1_wayBy 6 = .ok (.iconst 0, 1) := by decide +kernel
theorem dX1_wayBy_7 : decode cX1_wayBy 7 = .ok (.ireturn, 1) := by decide +kernel
theorem dX1_wayBy_8 : decode cX1_wayBy 8 = .ok (.iload_n 2, 1) := by decide +kernel
theorem dX1_wayBy_9 : decode cX1_wayBy 9 = .ok (.ifCond .ne 21, 3) := by decide +kernel
theorem dX1_wayBy_12 : decode cX1_wayBy 12 = .ok (.aload_n 1, 1) := by decide +kernel
theorem dX1_wayBy_13 : decode cX1_wayBy 13 = .ok (.getfield 81, 3) := by decide +kernel
theorem dX1_wayBy_16 : decode cX1_wayBy 16 = .ok (.aload_n 1, 1) := by decide +kernel
theorem dX1_wayBy_17 : decode cX1_wayBy 17 = .ok (.aload_n 0, 1) := by decide +kernel
theorem dX1_wayBy_18 : decode cX1_wayBy 18 = .ok (.getfield 46, 3) := by decide +kernel
theorem dX1_wayBy_21 : decode cX1_wayBy 21 = .ok (.invokevirtual 85, 3) := by decide +kernel
theorem dX1_wayBy_24 : decode cX1_wayBy 24 = .ok (.invokevirtual 89, 3) := by decide +kernel
theorem dX1_wayBy_27 : decode cX1_wayBy 27 = .ok (.goto 11, 3) := by decide +kernel
theorem dX1_wayBy_30 : decode cX1_wayBy 30 = .ok (.aload_n 1, 1) := by decide +kernel
theorem dX1_wayBy_31 : decode cX1_wayBy 31 = .ok (.getfield 71, 3) := by decide +kernel
theorem dX1_wayBy_34 : decode cX1_wayBy 34 = .ok (.iload_n 2, 1) := by decide +kernel
theorem dX1_wayBy_35 : decode cX1_wayBy 35 = .ok (.invokevirtual 94, 3) := by decide +kernel
theorem dX1_wayBy_38 : decode cX1_wayBy 38 = .ok (.ireturn, 1) := by decide +kernel
theorem dX1_stopOf_0 : decode cX1_stopOf 0 = .ok (.aload_n 0, 1) := by decide +kernel
theorem dX1_stopOf_1 : decode cX1_stopOf 1 = .ok (.getfield 28, 3) := by decide +kernel
theorem dX1_stopOf_4 : decode cX1_stopOf 4 = .ok (.ifCond .ne 5, 3) := by decide +kernel
theorem dX1_stopOf_7 : decode cX1_stopOf 7 = .ok (.iconst (-1), 1) := by decide +kernel
theorem dX1_stopOf_8 : decode cX1_stopOf 8 = .ok (.ireturn, 1) := by decide +kernel
theorem dX1_stopOf_9 : decode cX1_stopOf 9 = .ok (.iconst 0, 1) := by decide +kernel
theorem dX1_stopOf_10 : decode cX1_stopOf 10 = .ok (.istore 4, 2) := by decide +kernel
theorem dX1_stopOf_12 : decode cX1_stopOf 12 = .ok (.iload 4, 2) := by decide +kernel
theorem dX1_stopOf_14 : decode cX1_stopOf 14 = .ok (.bipush 16, 2) := by decide +kernel
theorem dX1_stopOf_16 : decode cX1_stopOf 16 = .ok (.if_icmp .ge 61, 3) := by decide +kernel
theorem dX1_stopOf_19 : decode cX1_stopOf 19 = .ok (.aload_n 0, 1) := by decide +kernel
theorem dX1_stopOf_20 : decode cX1_stopOf 20 = .ok (.getfield 28, 3) := by decide +kernel
theorem dX1_stopOf_23 : decode cX1_stopOf 23 = .ok (.iload 4, 2) := by decide +kernel
theorem dX1_stopOf_25 : decode cX1_stopOf 25 = .ok (.invokestatic 52, 3) := by decide +kernel
theorem dX1_stopOf_28 : decode cX1_stopOf 28 = .ok (.ifCond .eq 12, 3) := by decide +kernel
theorem dX1_stopOf_31 : decode cX1_stopOf 31 = .ok (.aload_n 1, 1) := by decide +kernel
theorem dX1_stopOf_32 : decode cX1_stopOf 32 = .ok (.iload 4, 2) := by decide +kernel
theorem dX1_stopOf_34 : decode cX1_stopOf 34 = .ok (.invokevirtual 31, 3) := by decide +kernel
theorem dX1_stopOf_37 : decode cX1_stopOf 37 = .ok (.goto 4, 3) := by decide +kernel
theorem dX1_stopOf_40 : decode cX1_stopOf 40 = .ok (.aconst_null, 1) := by decide +kernel
theorem dX1_stopOf_41 : decode cX1_stopOf 41 = .ok (.astore 5, 2) := by decide +kernel
theorem dX1_stopOf_43 : decode cX1_stopOf 43 = .ok (.aload 5, 2) := by decide +kernel
theorem dX1_stopOf_45 : decode cX1_stopOf 45 = .ok (.ifnull 26, 3) := by decide +kernel
theorem dX1_stopOf_48 : decode cX1_stopOf 48 = .ok (.aload 5, 2) := by decide +kernel
theorem dX1_stopOf_50 : decode cX1_stopOf 50 = .ok (.iload_n 2, 1) := by decide +kernel
theorem dX1_stopOf_51 : decode cX1_stopOf 51 = .ok (.invokevirtual 97, 3) := by decide +kernel
theorem dX1_stopOf_54 : decode cX1_stopOf 54 = .ok (.ifCond .eq 17, 3) := by decide +kernel
theorem dX1_stopOf_57 : decode cX1_stopOf 57 = .ok (.aload_n 0, 1) := by decide +kernel
theorem dX1_stopOf_58 : decode cX1_stopOf 58 = .ok (.aload_n 1, 1) := by decide +kernel
theorem dX1_stopOf_59 : decode cX1_stopOf 59 = .ok (.aload 5, 2) := by decide +kernel
theorem dX1_stopOf_61 : decode cX1_stopOf 61 = .ok (.iload_n 3, 1) := by decide +kernel
theorem dX1_stopOf_62 : decode cX1_stopOf 62 = .ok (.invokevirtual 67, 3) := by decide +kernel
theorem dX1_stopOf_65 : decode cX1_stopOf 65 = .ok (.ifCond .eq 6, 3) := by decide +kernel
theorem dX1_stopOf_68 : decode cX1_stopOf 68 = .ok (.iload 4, 2) := by decide +kernel
theorem dX1_stopOf_70 : decode cX1_stopOf 70 = .ok (.ireturn, 1) := by decide +kernel
theorem dX1_stopOf_71 : decode cX1_stopOf 71 = .ok (.iinc 4 1, 3) := by decide +kernel
theorem dX1_stopOf_74 : decode cX1_stopOf 74 = .ok (.goto (-62), 3) := by decide +kernel
theorem dX1_stopOf_77 : decode cX1_stopOf 77 = .ok (.iconst (-1), 1) := by decide +kernel
theorem dX1_stopOf_78 : decode cX1_stopOf 78 = .ok (.ireturn, 1) := by decide +kernel
theorem dX1_hangHolds_0 : decode cX1_hangHolds 0 = .ok (.aload_n 1, 1) := by decide +kernel
theorem dX1_hangHolds_1 : decode cX1_hangHolds 1 = .ok (.aload_n 2, 1) := by decide +kernel
theorem dX1_hangHolds_2 : decode cX1_hangHolds 2 = .ok (.getfield 101, 3) := by decide +kernel
theorem dX1_hangHolds_5 : decode cX1_hangHolds 5 = .ok (.invokevirtual 31, 3) := by decide +kernel
theorem dX1_hangHolds_8 : decode cX1_hangHolds 8 = .ok (.ifnonnull 5, 3) := by decide +kernel
theorem dX1_hangHolds_11 : decode cX1_hangHolds 11 = .ok (.iconst 1, 1) := by decide +kernel
theorem dX1_hangHolds_12 : decode cX1_hangHolds 12 = .ok (.ireturn, 1) := by decide +kernel
theorem dX1_hangHolds_13 : decode cX1_hangHolds 13 = .ok (.aload_n 0, 1) := by decide +kernel
theorem dX1_hangHolds_14 : decode cX1_hangHolds 14 = .ok (.aload_n 1, 1) := by decide +kernel
theorem dX1_hangHolds_15 : decode cX1_hangHolds 15 = .ok (.aload_n 2, 1) := by decide +kernel
theorem dX1_hangHolds_16 : decode cX1_hangHolds 16 = .ok (.getfield 101, 3) := by decide +kernel
theorem dX1_hangHolds_19 : decode cX1_hangHolds 19 = .ok (.iload_n 3, 1) := by decide +kernel
theorem dX1_hangHolds_20 : decode cX1_hangHolds 20 = .ok (.iconst 1, 1) := by decide +kernel
theorem dX1_hangHolds_21 : decode cX1_hangHolds 21 = .ok (.iadd, 1) := by decide +kernel
theorem dX1_hangHolds_22 : decode cX1_hangHolds 22 = .ok (.invokevirtual 104, 3) := by decide +kernel
theorem dX1_hangHolds_25 : decode cX1_hangHolds 25 = .ok (.aload_n 2, 1) := by decide +kernel
theorem dX1_hangHolds_26 : decode cX1_hangHolds 26 = .ok (.getfield 107, 3) := by decide +kernel
theorem dX1_hangHolds_29 : decode cX1_hangHolds 29 = .ok (.if_icmp .ne 7, 3) := by decide +kernel
theorem dX1_hangHolds_32 : decode cX1_hangHolds 32 = .ok (.iconst 1, 1) := by decide +kernel
theorem dX1_hangHolds_33 : decode cX1_hangHolds 33 = .ok (.goto 4, 3) := by decide +kernel
theorem dX1_hangHolds_36 : decode cX1_hangHolds 36 = .ok (.iconst 0, 1) := by decide +kernel
theorem dX1_hangHolds_37 : decode cX1_hangHolds 37 = .ok (.ireturn, 1) := by decide +kernel
theorem dX2_init_0 : decode cX2_init 0 = .ok (.aload_n 0, 1) := by decide +kernel
theorem dX2_init_1 : decode cX2_init 1 = .ok (.invokespecial 3, 3) := by decide +kernel
theorem dX2_init_4 : decode cX2_init 4 = .ok (.aload_n 0, 1) := by decide +kernel
theorem dX2_init_5 : decode cX2_init 5 = .ok (.sipush 240, 3) := by decide +kernel
theorem dX2_init_8 : decode cX2_init 8 = .ok (.newarray .int, 2) := by decide +kernel
theorem dX2_init_10 : decode cX2_init 10 = .ok (.putfield 9, 3) := by decide +kernel
theorem dX2_init_13 : decode cX2_init 13 = .ok (.aload_n 0, 1) := by decide +kernel
theorem dX2_init_14 : decode cX2_init 14 = .ok (.sipush 240, 3) := by decide +kernel
theorem dX2_init_17 : decode cX2_init 17 = .ok (.newarray .int, 2) := by decide +kernel
theorem dX2_init_19 : decode cX2_init 19 = .ok (.putfield 15, 3) := by decide +kernel
theorem dX2_init_22 : decode cX2_init 22 = .ok (.aload_n 0, 1) := by decide +kernel
theorem dX2_init_23 : decode cX2_init 23 = .ok (.sipush 240, 3) := by decide +kernel
theorem dX2_init_26 : decode cX2_init 26 = .ok (.newarray .int, 2) := by decide +kernel
theorem dX2_init_28 : decode cX2_init 28 = .ok (.putfield 18, 3) := by decide +kernel
theorem dX2_init_31 : decode cX2_init 31 = .ok (.return_, 1) := by decide +kernel
theorem dX2_begin_0 : decode cX2_begin 0 = .ok (.aload_n 0, 1) := by decide +kernel
theorem dX2_begin_1 : decode cX2_begin 1 = .ok (.iload_n 1, 1) := by decide +kernel
theorem dX2_begin_2 : decode cX2_begin 2 = .ok (.putfield 21, 3) := by decide +kernel
theorem dX2_begin_5 : decode cX2_begin 5 = .ok (.aload_n 0, 1) := by decide +kernel
theorem dX2_begin_6 : decode cX2_begin 6 = .ok (.iconst 0, 1) := by decide +kernel
theorem dX2_begin_7 : decode cX2_begin 7 = .ok (.putfield 25, 3) := by decide +kernel
theorem dX2_begin_10 : decode cX2_begin 10 = .ok (.return_, 1) := by decide +kernel
theorem dX2_takeFrom_0 : decode cX2_takeFrom 0 = .ok (.aload_n 0, 1) := by decide +kernel
theorem dX2_takeFrom_1 : decode cX2_takeFrom 1 = .ok (.aload_n 1, 1) := by decide +kernel
theorem dX2_takeFrom_2 : decode cX2_takeFrom 2 = .ok (.getfield 21, 3) := by decide +kernel
theorem dX2_takeFrom_5 : decode cX2_takeFrom 5 = .ok (.putfield 21, 3) := by decide +kernel
theorem dX2_takeFrom_8 : decode cX2_takeFrom 8 = .ok (.aload_n 0, 1) := by decide +kernel
theorem dX2_takeFrom_9 : decode cX2_takeFrom 9 = .ok (.aload_n 1, 1) := by decide +kernel
theorem dX2_takeFrom_10 : decode cX2_takeFrom 10 = .ok (.getfield 25, 3) := by decide +kernel
theorem dX2_takeFrom_13 : decode cX2_takeFrom 13 = .ok (.putfield 25, 3) := by decide +kernel
theorem dX2_takeFrom_16 : decode cX2_takeFrom 16 = .ok (.aload_n 1, 1) := by decide +kernel
theorem dX2_takeFrom_17 : decode cX2_takeFrom 17 = .ok (.getfield 9, 3) := by decide +kernel
theorem dX2_takeFrom_20 : decode cX2_takeFrom 20 = .ok (.iconst 0, 1) := by decide +kernel
theorem dX2_takeFrom_21 : decode cX2_takeFrom 21 = .ok (.aload_n 0, 1) := by decide +kernel
theorem dX2_takeFrom_22 : decode cX2_takeFrom 22 = .ok (.getfield 9, 3) := by decide +kernel
theorem dX2_takeFrom_25 : decode cX2_takeFrom 25 = .ok (.iconst 0, 1) := by decide +kernel
theorem dX2_takeFrom_26 : decode cX2_takeFrom 26 = .ok (.aload_n 0, 1) := by decide +kernel
theorem dX2_takeFrom_27 : decode cX2_takeFrom 27 = .ok (.getfield 25, 3) := by decide +kernel
theorem dX2_takeFrom_30 : decode cX2_takeFrom 30 = .ok (.invokestatic 29, 3) := by decide +kernel
theorem dX2_takeFrom_33 : decode cX2_takeFrom 33 = .ok (.aload_n 1, 1) := by decide +kernel
theorem dX2_takeFrom_34 : decode cX2_takeFrom 34 = .ok (.getfield 15, 3) := by decide +kernel
theorem dX2_takeFrom_37 : decode cX2_takeFrom 37 = .ok (.iconst 0, 1) := by decide +kernel
theorem dX2_takeFrom_38 : decode cX2_takeFrom 38 = .ok (.aload_n 0, 1) := by decide +kernel
theorem dX2_takeFrom_39 : decode cX2_takeFrom 39 = .ok (.getfield 15, 3) := by decide +kernel
theorem dX2_takeFrom_42 : decode cX2_takeFrom 42 = .ok (.iconst 0, 1) := by decide +kernel
theorem dX2_takeFrom_43 : decode cX2_takeFrom 43 = .ok (.aload_n 0, 1) := by decide +kernel
theorem dX2_takeFrom_44 : decode cX2_takeFrom 44 = .ok (.getfield 25, 3) := by decide +kernel
theorem dX2_takeFrom_47 : decode cX2_takeFrom 47 = .ok (.invokestatic 29, 3) := by decide +kernel
theorem dX2_takeFrom_50 : decode cX2_takeFrom 50 = .ok (.aload_n 1, 1) := by decide +kernel
theorem dX2_takeFrom_51 : decode cX2_takeFrom 51 = .ok (.getfield 18, 3) := by decide +kernel
theorem dX2_takeFrom_54 : decode cX2_takeFrom 54 = .ok (.iconst 0, 1) := by decide +kernel
theorem dX2_takeFrom_55 : decode cX2_takeFrom 55 = .ok (.aload_n 0, 1) := by decide +kernel
theorem dX2_takeFrom_56 : decode cX2_takeFrom 56 = .ok (.getfield 18, 3) := by decide +kernel
theorem dX2_takeFrom_59 : decode cX2_takeFrom 59 = .ok (.iconst 0, 1) := by decide +kernel
theorem dX2_takeFrom_60 : decode cX2_takeFrom 60 = .ok (.aload_n 0, 1) := by decide +kernel
theorem dX2_takeFrom_61 : decode cX2_takeFrom 61 = .ok (.getfield 25, 3) := by decide +kernel
theorem dX2_takeFrom_64 : decode cX2_takeFrom 64 = .ok (.invokestatic 29, 3) := by decide +kernel
theorem dX2_takeFrom_67 : decode cX2_takeFrom 67 = .ok (.return_, 1) := by decide +kernel
theorem dX2_isTold_0 : decode cX2_isTold 0 = .ok (.iload_n 1, 1) := by decide +kernel
theorem dX2_isTold_1 : decode cX2_isTold 1 = .ok (.ifCond .lt 25, 3) := by decide +kernel
theorem dX2_isTold_4 : decode cX2_isTold 4 = .ok (.iload_n 1, 1) := by decide +kernel
theorem dX2_isTold_5 : decode cX2_isTold 5 = .ok (.aload_n 0, 1) := by decide +kernel
theorem dX2_isTold_6 : decode cX2_isTold 6 = .ok (.getfield 25, 3) := by decide +kernel
theorem dX2_isTold_9 : decode cX2_isTold 9 = .ok (.if_icmp .ge 17, 3) := by decide +kernel
theorem dX2_isTold_12 : decode cX2_isTold 12 = .ok (.aload_n 0, 1) := by decide +kernel
theorem dX2_isTold_13 : decode cX2_isTold 13 = .ok (.getfield 9, 3) := by decide +kernel
theorem dX2_isTold_16 : decode cX2_isTold 16 = .ok (.iload_n 1, 1) := by decide +kernel
theorem dX2_isTold_17 : decode cX2_isTold 17 = .ok (.iaload, 1) := by decide +kernel
theorem dX2_isTold_18 : decode cX2_isTold 18 = .ok (.iconst (-1), 1) := by decide +kernel
theorem dX2_isTold_19 : decode cX2_isTold 19 = .ok (.if_icmp .eq 7, 3) := by decide +kernel
theorem dX2_isTold_22 : decode cX2_isTold 22 = .ok (.iconst 1, 1) := by decide +kernel
theorem dX2_isTold_23 : decode cX2_isTold 23 = .ok (.goto 4, 3) := by decide +kernel
theorem dX2_isTold_26 : decode cX2_isTold 26 = .ok (.iconst 0, 1) := by decide +kernel
theorem dX2_isTold_27 : decode cX2_isTold 27 = .ok (.ireturn, 1) := by decide +kernel
theorem dX2_areTold_0 : decode cX2_areTold 0 = .ok (.iload_n 1, 1) := by decide +kernel
theorem dX2_areTold_1 : decode cX2_areTold 1 = .ok (.istore_n 3, 1) := by decide +kernel
theorem dX2_areTold_2 : decode cX2_areTold 2 = .ok (.iload_n 3, 1) := by decide +kernel
theorem dX2_areTold_3 : decode cX2_areTold 3 = .ok (.iload_n 2, 1) := by decide +kernel
theorem dX2_areTold_4 : decode cX2_areTold 4 = .ok (.if_icmp .gt 19, 3) := by decide +kernel
theorem dX2_areTold_7 : decode cX2_areTold 7 = .ok (.aload_n 0, 1) := by decide +kernel
theorem dX2_areTold_8 : decode cX2_areTold 8 = .ok (.iload_n 3, 1) := by decide +kernel
theorem dX2_areTold_9 : decode cX2_areTold 9 = .ok (.invokevirtual 35, 3) := by decide +kernel
theorem dX2_areTold_12 : decode cX2_areTold 12 = .ok (.ifCond .ne 5, 3) := by decide +kernel
theorem dX2_areTold_15 : decode cX2_areTold 15 = .ok (.iconst 0, 1) := by decide +kernel
theorem dX2_areTold_16 : decode cX2_areTold 16 = .ok (.ireturn, 1) := by decide +kernel
theorem dX2_areTold_17 : decode cX2_areTold 17 = .ok (.iinc 3 1, 3) := by decide +kernel
theorem dX2_areTold_20 : decode cX2_areTold 20 = .ok (.goto (-18), 3) := by decide +kernel
theorem dX2_areTold_23 : decode cX2_areTold 23 = .ok (.iconst 1, 1) := by decide +kernel
theorem dX2_areTold_24 : decode cX2_areTold 24 = .ok (.ireturn, 1) := by decide +kernel
theorem dX2_tell_0 : decode cX2_tell 0 = .ok (.iload_n 1, 1) := by decide +kernel
theorem dX2_tell_1 : decode cX2_tell 1 = .ok (.sipush 239, 3) := by decide +kernel
theorem dX2_tell_4 : decode cX2_tell 4 = .ok (.invokestatic 39, 3) := by decide +kernel
theorem dX2_tell_7 : decode cX2_tell 7 = .ok (.ifCond .ne 4, 3) := by decide +kernel
theorem dX2_tell_10 : decode cX2_tell 10 = .ok (.return_, 1) := by decide +kernel
theorem dX2_tell_11 : decode cX2_tell 11 = .ok (.aload_n 0, 1) := by decide +kernel
theorem dX2_tell_12 : decode cX2_tell 12 = .ok (.getfield 25, 3) := by decide +kernel
theorem dX2_tell_15 : decode cX2_tell 15 = .ok (.istore 4, 2) := by decide +kernel
theorem dX2_tell_17 : decode cX2_tell 17 = .ok (.iload 4, 2) := by decide +kernel
theorem dX2_tell_19 : decode cX2_tell 19 = .ok (.iload_n 1, 1) := by decide +kernel
theorem dX2_tell_20 : decode cX2_tell 20 = .ok (.if_icmp .ge 17, 3) := by decide +kernel
theorem dX2_tell_23 : decode cX2_tell 23 = .ok (.aload_n 0, 1) := by decide +kernel
theorem dX2_tell_24 : decode cX2_tell 24 = .ok (.getfield 9, 3) := by decide +kernel
theorem dX2_tell_27 : decode cX2_tell 27 = .ok (.iload 4, 2) := by decide +kernel
theorem dX2_tell_29 : decode cX2_tell 29 = .ok (.iconst (-1), 1) := by decide +kernel
theorem dX2_tell_30 : decode cX2_tell 30 = .ok (.iastore, 1) := by decide +kernel
theorem dX2_tell_31 : decode cX2_tell 31 = .ok (.iinc 4 1, 3) := by decide +kernel
theorem dX2_tell_34 : decode cX2_tell 34 = .ok (.goto (-17), 3) := by decide +kernel
theorem dX2_tell_37 : decode cX2_tell 37 = .ok (.aload_n 0, 1) := by decide +kernel
theorem dX2_tell_38 : decode cX2_tell 38 = .ok (.aload_n 0, 1) := by decide +kernel
theorem dX2_tell_39 : decode cX2_tell 39 = .ok (.getfield 25, 3) := by decide +kernel
theorem dX2_tell_42 : decode cX2_tell 42 = .ok (.iload_n 1, 1) := by decide +kernel
theorem dX2_tell_43 : decode cX2_tell 43 = .ok (.iconst 1, 1) := by decide +kernel
theorem dX2_tell_44 : decode cX2_tell 44 = .ok (.iadd, 1) := by decide +kernel
theorem dX2_tell_45 : decode cX2_tell 45 = .ok (.invokestatic 43, 3) := by decide +kernel
theorem dX2_tell_48 : decode cX2_tell 48 = .ok (.putfield 25, 3) := by decide +kernel
theorem dX2_tell_51 : decode cX2_tell 51 = .ok (.aload_n 0, 1) := by decide +kernel
theorem dX2_tell_52 : decode cX2_tell 52 = .ok (.getfield 9, 3) := by decide +kernel
theorem dX2_tell_55 : decode cX2_tell 55 = .ok (.iload_n 1, 1) := by decide +kernel
theorem dX2_tell_56 : decode cX2_tell 56 = .ok (.iload_n 2, 1) := by decide +kernel
theorem dX2_tell_57 : decode cX2_tell 57 = .ok (.iastore, 1) := by decide +kernel
theorem dX2_tell_58 : decode cX2_tell 58 = .ok (.aload_n 0, 1) := by decide +kernel
theorem dX2_tell_59 : decode cX2_tell 59 = .ok (.getfield 15, 3) := by decide +kernel
theorem dX2_tell_62 : decode cX2_tell 62 = .ok (.iload_n 1, 1) := by decide +kernel
theorem dX2_tell_63 : decode cX2_tell 63 = .ok (.iload_n 3, 1) := by decide +kernel
theorem dX2_tell_64 : decode cX2_tell 64 = .ok (.iastore, 1) := by decide +kernel
theorem dX2_tell_65 : decode cX2_tell 65 = .ok (.aload_n 0, 1) := by decide +kernel
theorem dX2_tell_66 : decode cX2_tell 66 = .ok (.getfield 18, 3) := by decide +kernel
theorem dX2_tell_69 : decode cX2_tell 69 = .ok (.iload_n 1, 1) := by decide +kernel
theorem dX2_tell_70 : decode cX2_tell 70 = .ok (.iconst 0, 1) := by decide +kernel
theorem dX2_tell_71 : decode cX2_tell 71 = .ok (.iastore, 1) := by decide +kernel
theorem dX2_tell_72 : decode cX2_tell 72 = .ok (.return_, 1) := by decide +kernel
theorem dX2_tellGoods_0 : decode cX2_tellGoods 0 = .ok (.aload_n 0, 1) := by decide +kernel
theorem dX2_tellGoods_1 : decode cX2_tellGoods 1 = .ok (.iload_n 1, 1) := by decide +kernel
theorem dX2_tellGoods_2 : decode cX2_tellGoods 2 = .ok (.invokevirtual 35, 3) := by decide +kernel
theorem dX2_tellGoods_5 : decode cX2_tellGoods 5 = .ok (.ifCond .eq 10, 3) := by decide +kernel
theorem dX2_tellGoods_8 : decode cX2_tellGoods 8 = .ok (.aload_n 0, 1) := by decide +kernel
theorem dX2_tellGoods_9 : decode cX2_tellGoods 9 = .ok (.getfield 18, 3) := by decide +kernel
theorem dX2_tellGoods_12 : decode cX2_tellGoods 12 = .ok (.iload_n 1, 1) := by decide +kernel
theorem dX2_tellGoods_13 : decode cX2_tellGoods 13 = .ok (.iload_n 2, 1) := by decide +kernel
theorem dX2_tellGoods_14 : decode cX2_tellGoods 14 = .ok (.iastore, 1) := by decide +kernel
theorem dX2_tellGoods_15 : decode cX2_tellGoods 15 = .ok (.return_, 1) := by decide +kernel
theorem dX2_callsAt_0 : decode cX2_callsAt 0 = .ok (.aload_n 0, 1) := by decide +kernel
theorem dX2_callsAt_1 : decode cX2_callsAt 1 = .ok (.iload_n 1, 1) := by decide +kernel
theorem dX2_callsAt_2 : decode cX2_callsAt 2 = .ok (.invokevirtual 35, 3) := by decide +kernel
theorem dX2_callsAt_5 : decode cX2_callsAt 5 = .ok (.ifCond .eq 12, 3) := by decide +kernel
theorem dX2_callsAt_8 : decode cX2_callsAt 8 = .ok (.aload_n 0, 1) := by decide +kernel
theorem dX2_callsAt_9 : decode cX2_callsAt 9 = .ok (.getfield 9, 3) := by decide +kernel
theorem dX2_callsAt_12 : decode cX2_callsAt 12 = .ok (.iload_n 1, 1) := by decide +kernel
theorem dX2_callsAt_13 : decode cX2_callsAt 13 = .ok (.iaload, 1) := by decide +kernel
theorem dX2_callsAt_14 : decode cX2_callsAt 14 = .ok (.goto 4, 3) := by decide +kernel
theorem dX2_callsAt_17 : decode cX2_callsAt 17 = .ok (.iconst 0, 1) := by decide +kernel
theorem dX2_callsAt_18 : decode cX2_callsAt 18 = .ok (.ireturn, 1) := by decide +kernel
theorem dX2_faultsAt_0 : decode cX2_faultsAt 0 = .ok (.aload_n 0, 1) := by decide +kernel
theorem dX2_faultsAt_1 : decode cX2_faultsAt 1 = .ok (.iload_n 1, 1) := by decide +kernel
theorem dX2_faultsAt_2 : decode cX2_faultsAt 2 = .ok (.invokevirtual 35, 3) := by decide +kernel
theorem dX2_faultsAt_5 : decode cX2_faultsAt 5 = .ok (.ifCond .eq 12, 3) := by decide +kernel
theorem dX2_faultsAt_8 : decode cX2_faultsAt 8 = .ok (.aload_n 0, 1) := by decide +kernel
theorem dX2_faultsAt_9 : decode cX2_faultsAt 9 = .ok (.getfield 15, 3) := by decide +kernel
theorem dX2_faultsAt_12 : decode cX2_faultsAt 12 = .ok (.iload_n 1, 1) := by decide +kernel
theorem dX2_faultsAt_13 : decode cX2_faultsAt 13 = .ok (.iaload, 1) := by decide +kernel
theorem dX2_faultsAt_14 : decode cX2_faultsAt 14 = .ok (.goto 4, 3) := by decide +kernel
theorem dX2_faultsAt_17 : decode cX2_faultsAt 17 = .ok (.iconst 0, 1) := by decide +kernel
theorem dX2_faultsAt_18 : decode cX2_faultsAt 18 = .ok (.ireturn, 1) := by decide +kernel
theorem dX2_goodsAt_0 : decode cX2_goodsAt 0 = .ok (.aload_n 0, 1) := by decide +kernel
theorem dX2_goodsAt_1 : decode cX2_goodsAt 1 = .ok (.iload_n 1, 1) := by decide +kernel
theorem dX2_goodsAt_2 : decode cX2_goodsAt 2 = .ok (.invokevirtual 35, 3) := by decide +kernel
theorem dX2_goodsAt_5 : decode cX2_goodsAt 5 = .ok (.ifCond .eq 12, 3) := by decide +kernel
theorem dX2_goodsAt_8 : decode cX2_goodsAt 8 = .ok (.aload_n 0, 1) := by decide +kernel
theorem dX2_goodsAt_9 : decode cX2_goodsAt 9 = .ok (.getfield 18, 3) := by decide +kernel
theorem dX2_goodsAt_12 : decode cX2_goodsAt 12 = .ok (.iload_n 1, 1) := by decide +kernel
theorem dX2_goodsAt_13 : decode cX2_goodsAt 13 = .ok (.iaload, 1) := by decide +kernel
theorem dX2_goodsAt_14 : decode cX2_goodsAt 14 = .ok (.goto 4, 3) := by decide +kernel
theorem dX2_goodsAt_17 : decode cX2_goodsAt 17 = .ok (.iconst 0, 1) := by decide +kernel
theorem dX2_goodsAt_18 : decode cX2_goodsAt 18 = .ok (.ireturn, 1) := by decide +kernel
theorem dX2_callsIn_0 : decode cX2_callsIn 0 = .ok (.lconst 0, 1) := by decide +kernel
theorem dX2_callsIn_1 : decode cX2_callsIn 1 = .ok (.lstore_n 3, 1) := by decide +kernel
theorem dX2_callsIn_2 : decode cX2_callsIn 2 = .ok (.iload_n 1, 1) := by decide +kernel
theorem dX2_callsIn_3 : decode cX2_callsIn 3 = .ok (.istore 5, 2) := by decide +kernel
theorem dX2_callsIn_5 : decode cX2_callsIn 5 = .ok (.iload 5, 2) := by decide +kernel
theorem dX2_callsIn_7 : decode cX2_callsIn 7 = .ok (.iload_n 2, 1) := by decide +kernel
theorem dX2_callsIn_8 : decode cX2_callsIn 8 = .ok (.if_icmp .gt 19, 3) := by decide +kernel
theorem dX2_callsIn_11 : decode cX2_callsIn 11 = .ok (.lload_n 3, 1) := by decide +kernel
theorem dX2_callsIn_12 : decode cX2_callsIn 12 = .ok (.aload_n 0, 1) := by decide +kernel
theorem dX2_callsIn_13 : decode cX2_callsIn 13 = .ok (.iload 5, 2) := by decide +kernel
theorem dX2_callsIn_15 : decode cX2_callsIn 15 = .ok (.invokevirtual 49, 3) := by decide +kernel
theorem dX2_callsIn_18 : decode cX2_callsIn 18 = .ok (.i2l, 1) := by decide +kernel
theorem dX2_callsIn_19 : decode cX2_callsIn 19 = .ok (.ladd, 1) := by decide +kernel
theorem dX2_callsIn_20 : decode cX2_callsIn 20 = .ok (.lstore_n 3, 1) := by decide +kernel
theorem dX2_callsIn_21 : decode cX2_callsIn 21 = .ok (.iinc 5 1, 3) := by decide +kernel
theorem dX2_callsIn_24 : decode cX2_callsIn 24 = .ok (.goto (-19), 3) := by decide +kernel
theorem dX2_callsIn_27 : decode cX2_callsIn 27 = .ok (.lload_n 3, 1) := by decide +kernel
theorem dX2_callsIn_28 : decode cX2_callsIn 28 = .ok (.lreturn, 1) := by decide +kernel
theorem dX2_faultsIn_0 : decode cX2_faultsIn 0 = .ok (.lconst 0, 1) := by decide +kernel
theorem dX2_faultsIn_1 : decode cX2_faultsIn 1 = .ok (.lstore_n 3, 1) := by decide +kernel
theorem dX2_faultsIn_2 : decode cX2_faultsIn 2 = .ok (.iload_n 1, 1) := by decide +kernel
theorem dX2_faultsIn_3 : decode cX2_faultsIn 3 = .ok (.istore 5, 2) := by decide +kernel
theorem dX2_faultsIn_5 : decode cX2_faultsIn 5 = .ok (.iload 5, 2) := by decide +kernel
theorem dX2_faultsIn_7 : decode cX2_faultsIn 7 = .ok (.iload_n 2, 1) := by decide +kernel
theorem dX2_faultsIn_8 : decode cX2_faultsIn 8 = .ok (.if_icmp .gt 19, 3) := by decide +kernel
theorem dX2_faultsIn_11 : decode cX2_faultsIn 11 = .ok (.lload_n 3, 1) := by decide +kernel
theorem dX2_faultsIn_12 : decode cX2_faultsIn 12 = .ok (.aload_n 0, 1) := by decide +kernel
theorem dX2_faultsIn_13 : decode cX2_faultsIn 13 = .ok (.iload 5, 2) := by decide +kernel
theorem dX2_faultsIn_15 : decode cX2_faultsIn 15 = .ok (.invokevirtual 53, 3) := by decide +kernel
theorem dX2_faultsIn_18 : decode cX2_faultsIn 18 = .ok (.i2l, 1) := by decide +kernel
theorem dX2_faultsIn_19 : decode cX2_faultsIn 19 = .ok (.ladd, 1) := by decide +kernel
theorem dX2_faultsIn_20 : decode cX2_faultsIn 20 = .ok (.lstore_n 3, 1) := by decide +kernel
theorem dX2_faultsIn_21 : decode cX2_faultsIn 21 = .ok (.iinc 5 1, 3) := by decide +kernel
theorem dX2_faultsIn_24 : decode cX2_faultsIn 24 = .ok (.goto (-19), 3) := by decide +kernel
theorem dX2_faultsIn_27 : decode cX2_faultsIn 27 = .ok (.lload_n 3, 1) := by decide +kernel
theorem dX2_faultsIn_28 : decode cX2_faultsIn 28 = .ok (.lreturn, 1) := by decide +kernel
theorem dX2_callsBeside_0 : decode cX2_callsBeside 0 = .ok (.iconst 0, 1) := by decide +kernel
theorem dX2_callsBeside_1 : decode cX2_callsBeside 1 = .ok (.istore_n 3, 1) := by decide +kernel
theorem dX2_callsBeside_2 : decode cX2_callsBeside 2 = .ok (.iconst 0, 1) := by decide +kernel
theorem dX2_callsBeside_3 : decode cX2_callsBeside 3 = .ok (.istore 4, 2) := by decide +kernel
theorem dX2_callsBeside_5 : decode cX2_callsBeside 5 = .ok (.iload 4, 2) := by decide +kernel
theorem dX2_callsBeside_7 : decode cX2_callsBeside 7 = .ok (.iload_n 2, 1) := by decide +kernel
theorem dX2_callsBeside_8 : decode cX2_callsBeside 8 = .ok (.if_icmp .gt 27, 3) := by decide +kernel
theorem dX2_callsBeside_11 : decode cX2_callsBeside 11 = .ok (.aload_n 1, 1) := by decide +kernel
theorem dX2_callsBeside_12 : decode cX2_callsBeside 12 = .ok (.iload 4, 2) := by decide +kernel
theorem dX2_callsBeside_14 : decode cX2_callsBeside 14 = .ok (.invokevirtual 35, 3) := by decide +kernel
theorem dX2_callsBeside_17 : decode cX2_callsBeside 17 = .ok (.ifCond .eq 12, 3) := by decide +kernel
theorem dX2_callsBeside_20 : decode cX2_callsBeside 20 = .ok (.iload_n 3, 1) := by decide +kernel
theorem dX2_callsBeside_21 : decode cX2_callsBeside 21 = .ok (.aload_n 0, 1) := by decide +kernel
theorem dX2_callsBeside_22 : decode cX2_callsBeside 22 = .ok (.iload 4, 2) := by decide +kernel
theorem dX2_callsBeside_24 : decode cX2_callsBeside 24 = .ok (.invokevirtual 49, 3) := by decide +kernel
theorem dX2_callsBeside_27 : decode cX2_callsBeside 27 = .ok (.iadd, 1) := by decide +kernel
theorem dX2_callsBeside_28 : decode cX2_callsBeside 28 = .ok (.istore_n 3, 1) := by decide +kernel
theorem dX2_callsBeside_29 : decode cX2_callsBeside 29 = .ok (.iinc 4 1, 3) := by decide +kernel
theorem dX2_callsBeside_32 : decode cX2_callsBeside 32 = .ok (.goto (-27), 3) := by decide +kernel
theorem dX2_callsBeside_35 : decode cX2_callsBeside 35 = .ok (.iload_n 3, 1) := by decide +kernel
theorem dX2_callsBeside_36 : decode cX2_callsBeside 36 = .ok (.ireturn, 1) := by decide +kernel
theorem dX2_goodsBeside_0 : decode cX2_goodsBeside 0 = .ok (.iconst 0, 1) := by decide +kernel
theorem dX2_goodsBeside_1 : decode cX2_goodsBeside 1 = .ok (.istore_n 3, 1) := by decide +kernel
theorem dX2_goodsBeside_2 : decode cX2_goodsBeside 2 = .ok (.iconst 0, 1) := by decide +kernel
theorem dX2_goodsBeside_3 : decode cX2_goodsBeside 3 = .ok (.istore 4, 2) := by decide +kernel
theorem dX2_goodsBeside_5 : decode cX2_goodsBeside 5 = .ok (.iload 4, 2) := by decide +kernel
theorem dX2_goodsBeside_7 : decode cX2_goodsBeside 7 = .ok (.iload_n 2, 1) := by decide +kernel
theorem dX2_goodsBeside_8 : decode cX2_goodsBeside 8 = .ok (.if_icmp .gt 27, 3) := by decide +kernel
theorem dX2_goodsBeside_11 : decode cX2_goodsBeside 11 = .ok (.aload_n 1, 1) := by decide +kernel
theorem dX2_goodsBeside_12 : decode cX2_goodsBeside 12 = .ok (.iload 4, 2) := by decide +kernel
theorem dX2_goodsBeside_14 : decode cX2_goodsBeside 14 = .ok (.invokevirtual 35, 3) := by decide +kernel
theorem dX2_goodsBeside_17 : decode cX2_goodsBeside 17 = .ok (.ifCond .eq 12, 3) := by decide +kernel
theorem dX2_goodsBeside_20 : decode cX2_goodsBeside 20 = .ok (.iload_n 3, 1) := by decide +kernel
theorem dX2_goodsBeside_21 : decode cX2_goodsBeside 21 = .ok (.aload_n 0, 1) := by decide +kernel
theorem dX2_goodsBeside_22 : decode cX2_goodsBeside 22 = .ok (.iload 4, 2) := by decide +kernel
theorem dX2_goodsBeside_24 : decode cX2_goodsBeside 24 = .ok (.invokevirtual 56, 3) := by decide +kernel
theorem dX2_goodsBeside_27 : decode cX2_goodsBeside 27 = .ok (.iadd, 1) := by decide +kernel
theorem dX2_goodsBeside_28 : decode cX2_goodsBeside 28 = .ok (.istore_n 3, 1) := by decide +kernel
theorem dX2_goodsBeside_29 : decode cX2_goodsBeside 29 = .ok (.iinc 4 1, 3) := by decide +kernel
theorem dX2_goodsBeside_32 : decode cX2_goodsBeside 32 = .ok (.goto (-27), 3) := by decide +kernel
theorem dX2_goodsBeside_35 : decode cX2_goodsBeside 35 = .ok (.iload_n 3, 1) := by decide +kernel
theorem dX2_goodsBeside_36 : decode cX2_goodsBeside 36 = .ok (.ireturn, 1) := by decide +kernel
theorem dX3_init_0 : decode cX3_init 0 = .ok (.aload_n 0, 1) := by decide +kernel
theorem dX3_init_1 : decode cX3_init 1 = .ok (.invokespecial 3, 3) := by decide +kernel
theorem dX3_init_4 : decode cX3_init 4 = .ok (.aload_n 0, 1) := by decide +kernel
theorem dX3_init_5 : decode cX3_init 5 = .ok (.bipush 20, 2) := by decide +kernel
theorem dX3_init_7 : decode cX3_init 7 = .ok (.newarray .int, 2) := by decide +kernel
theorem dX3_init_9 : decode cX3_init 9 = .ok (.putfield 9, 3) := by decide +kernel
theorem dX3_init_12 : decode cX3_init 12 = .ok (.return_, 1) := by decide +kernel
theorem dX3_begin_0 : decode cX3_begin 0 = .ok (.aload_n 0, 1) := by decide +kernel
theorem dX3_begin_1 : decode cX3_begin 1 = .ok (.iconst (-1), 1) := by decide +kernel
theorem dX3_begin_2 : decode cX3_begin 2 = .ok (.putfield 15, 3) := by decide +kernel
theorem dX3_begin_5 : decode cX3_begin 5 = .ok (.aload_n 0, 1) := by decide +kernel
theorem dX3_begin_6 : decode cX3_begin 6 = .ok (.iconst (-1), 1) := by decide +kernel
theorem dX3_begin_7 : decode cX3_begin 7 = .ok (.putfield 19, 3) := by decide +kernel
theorem dX3_begin_10 : decode cX3_begin 10 = .ok (.return_, 1) := by decide +kernel
theorem dX3_takeFrom_0 : decode cX3_takeFrom 0 = .ok (.aload_n 0, 1) := by decide +kernel
theorem dX3_takeFrom_1 : decode cX3_takeFrom 1 = .ok (.aload_n 1, 1) := by decide +kernel
theorem dX3_takeFrom_2 : decode cX3_takeFrom 2 = .ok (.getfield 15, 3) := by decide +kernel
theorem dX3_takeFrom_5 : decode cX3_takeFrom 5 = .ok (.putfield 15, 3) := by decide +kernel
theorem dX3_takeFrom_8 : decode cX3_takeFrom 8 = .ok (.aload_n 0, 1) := by decide +kernel
theorem dX3_takeFrom_9 : decode cX3_takeFrom 9 = .ok (.aload_n 1, 1) := by decide +kernel
theorem dX3_takeFrom_10 : decode cX3_takeFrom 10 = .ok (.getfield 19, 3) := by decide +kernel
theorem dX3_takeFrom_13 : decode cX3_takeFrom 13 = .ok (.putfield 19, 3) := by decide +kernel
theorem dX3_takeFrom_16 : decode cX3_takeFrom 16 = .ok (.aload_n 1, 1) := by decide +kernel
theorem dX3_takeFrom_17 : decode cX3_takeFrom 17 = .ok (.getfield 9, 3) := by decide +kernel
theorem dX3_takeFrom_20 : decode cX3_takeFrom 20 = .ok (.iconst 0, 1) := by decide +kernel
theorem dX3_takeFrom_21 : decode cX3_takeFrom 21 = .ok (.aload_n 0, 1) := by decide +kernel
theorem dX3_takeFrom_22 : decode cX3_takeFrom 22 = .ok (.getfield 9, 3) := by decide +kernel
theorem dX3_takeFrom_25 : decode cX3_takeFrom 25 = .ok (.iconst 0, 1) := by decide +kernel
theorem dX3_takeFrom_26 : decode cX3_takeFrom 26 = .ok (.bipush 20, 2) := by decide +kernel
theorem dX3_takeFrom_28 : decode cX3_takeFrom 28 = .ok (.invokestatic 22, 3) := by decide +kernel
theorem dX3_takeFrom_31 : decode cX3_takeFrom 31 = .ok (.return_, 1) := by decide +kernel
theorem dX3_hasRow_0 : decode cX3_hasRow 0 = .ok (.aload_n 0, 1) := by decide +kernel
theorem dX3_hasRow_1 : decode cX3_hasRow 1 = .ok (.getfield 15, 3) := by decide +kernel
theorem dX3_hasRow_4 : decode cX3_hasRow 4 = .ok (.iconst (-1), 1) := by decide +kernel
theorem dX3_hasRow_5 : decode cX3_hasRow 5 = .ok (.if_icmp .eq 7, 3) := by decide +kernel
theorem dX3_hasRow_8 : decode cX3_hasRow 8 = .ok (.iconst 1, 1) := by decide +kernel
theorem dX3_hasRow_9 : decode cX3_hasRow 9 = .ok (.goto 4, 3) := by decide +kernel
theorem dX3_hasRow_12 : decode cX3_hasRow 12 = .ok (.iconst 0, 1) := by decide +kernel
theorem dX3_hasRow_13 : decode cX3_hasRow 13 = .ok (.ireturn, 1) := by decide +kernel
theorem dX3_isStoodOn_0 : decode cX3_isStoodOn 0 = .ok (.aload_n 0, 1) := by decide +kernel
theorem dX3_isStoodOn_1 : decode cX3_isStoodOn 1 = .ok (.getfield 19, 3) := by decide +kernel
theorem dX3_isStoodOn_4 : decode cX3_isStoodOn 4 = .ok (.iconst (-1), 1) := by decide +kernel
theorem dX3_isStoodOn_5 : decode cX3_isStoodOn 5 = .ok (.if_icmp .eq 7, 3) := by decide +kernel
theorem dX3_isStoodOn_8 : decode cX3_isStoodOn 8 = .ok (.iconst 1, 1) := by decide +kernel
theorem dX3_isStoodOn_9 : decode cX3_isStoodOn 9 = .ok (.goto 4, 3) := by decide +kernel
theorem dX3_isStoodOn_12 : decode cX3_isStoodOn 12 = .ok (.iconst 0, 1) := by decide +kernel
theorem dX3_isStoodOn_13 : decode cX3_isStoodOn 13 = .ok (.ireturn, 1) := by decide +kernel
theorem dX3_layRow_0 : decode cX3_layRow 0 = .ok (.aload_n 0, 1) := by decide +kernel
theorem dX3_layRow_1 : decode cX3_layRow 1 = .ok (.getfield 9, 3) := by decide +kernel
theorem dX3_layRow_4 : decode cX3_layRow 4 = .ok (.iconst 0, 1) := by decide +kernel
theorem dX3_layRow_5 : decode cX3_layRow 5 = .ok (.invokestatic 28, 3) := by decide +kernel
theorem dX3_layRow_8 : decode cX3_layRow 8 = .ok (.aload_n 0, 1) := by decide +kernel
theorem dX3_layRow_9 : decode cX3_layRow 9 = .ok (.iload_n 1, 1) := by decide +kernel
theorem dX3_layRow_10 : decode cX3_layRow 10 = .ok (.bipush 20, 2) := by decide +kernel
theorem dX3_layRow_12 : decode cX3_layRow 12 = .ok (.invokestatic 34, 3) := by decide +kernel
theorem dX3_layRow_15 : decode cX3_layRow 15 = .ok (.putfield 15, 3) := by decide +kernel
theorem dX3_layRow_18 : decode cX3_layRow 18 = .ok (.return_, 1) := by decide +kernel
theorem dX3_dropRow_0 : decode cX3_dropRow 0 = .ok (.aload_n 0, 1) := by decide +kernel
theorem dX3_dropRow_1 : decode cX3_dropRow 1 = .ok (.invokevirtual 40, 3) := by decide +kernel
theorem dX3_dropRow_4 : decode cX3_dropRow 4 = .ok (.istore_n 1, 1) := by decide +kernel
theorem dX3_dropRow_5 : decode cX3_dropRow 5 = .ok (.aload_n 0, 1) := by decide +kernel
theorem dX3_dropRow_6 : decode cX3_dropRow 6 = .ok (.iconst (-1), 1) := by decide +kernel
theorem dX3_dropRow_7 : decode cX3_dropRow 7 = .ok (.putfield 15, 3) := by decide +kernel
theorem dX3_dropRow_10 : decode cX3_dropRow 10 = .ok (.iload_n 1, 1) := by decide +kernel
theorem dX3_dropRow_11 : decode cX3_dropRow 11 = .ok (.ireturn, 1) := by decide +kernel
theorem dX3_hasStep_0 : decode cX3_hasStep 0 = .ok (.iload_n 1, 1) := by decide +kernel
theorem dX3_hasStep_1 : decode cX3_hasStep 1 = .ok (.ifCond .lt 15, 3) := by decide +kernel
theorem dX3_hasStep_4 : decode cX3_hasStep 4 = .ok (.iload_n 1, 1) := by decide +kernel
theorem dX3_hasStep_5 : decode cX3_hasStep 5 = .ok (.aload_n 0, 1) := by decide +kernel
theorem dX3_hasStep_6 : decode cX3_hasStep 6 = .ok (.getfield 15, 3) := by decide +kernel
theorem dX3_hasStep_9 : decode cX3_hasStep 9 = .ok (.if_icmp .ge 7, 3) := by decide +kernel
theorem dX3_hasStep_12 : decode cX3_hasStep 12 = .ok (.iconst 1, 1) := by decide +kernel
theorem dX3_hasStep_13 : decode cX3_hasStep 13 = .ok (.goto 4, 3) := by decide +kernel
theorem dX3_hasStep_16 : decode cX3_hasStep 16 = .ok (.iconst 0, 1) := by decide +kernel
theorem dX3_hasStep_17 : decode cX3_hasStep 17 = .ok (.ireturn, 1) := by decide +kernel
theorem dX3_hasSteps_0 : decode cX3_hasSteps 0 = .ok (.iload_n 1, 1) := by decide +kernel
theorem dX3_hasSteps_1 : decode cX3_hasSteps 1 = .ok (.aload_n 0, 1) := by decide +kernel
theorem dX3_hasSteps_2 : decode cX3_hasSteps 2 = .ok (.getfield 15, 3) := by decide +kernel
theorem dX3_hasSteps_5 : decode cX3_hasSteps 5 = .ok (.invokestatic 44, 3) := by decide +kernel
theorem dX3_hasSteps_8 : decode cX3_hasSteps 8 = .ok (.ifCond .eq 20, 3) := by decide +kernel
theorem dX3_hasSteps_11 : decode cX3_hasSteps 11 = .ok (.iload_n 2, 1) := by decide +kernel
theorem dX3_hasSteps_12 : decode cX3_hasSteps 12 = .ok (.aload_n 0, 1) := by decide +kernel
theorem dX3_hasSteps_13 : decode cX3_hasSteps 13 = .ok (.getfield 15, 3) := by decide +kernel
theorem dX3_hasSteps_16 : decode cX3_hasSteps 16 = .ok (.iload_n 1, 1) := by decide +kernel
theorem dX3_hasSteps_17 : decode cX3_hasSteps 17 = .ok (.isub, 1) := by decide +kernel
theorem dX3_hasSteps_18 : decode cX3_hasSteps 18 = .ok (.invokestatic 44, 3) := by decide +kernel
theorem dX3_hasSteps_21 : decode cX3_hasSteps 21 = .ok (.ifCond .eq 7, 3) := by decide +kernel
theorem dX3_hasSteps_24 : decode cX3_hasSteps 24 = .ok (.iconst 1, 1) := by decide +kernel
theorem dX3_hasSteps_25 : decode cX3_hasSteps 25 = .ok (.goto 4, 3) := by decide +kernel
theorem dX3_hasSteps_28 : decode cX3_hasSteps 28 = .ok (.iconst 0, 1) := by decide +kernel
theorem dX3_hasSteps_29 : decode cX3_hasSteps 29 = .ok (.ireturn, 1) := by decide +kernel
theorem dX3_stepAt_0 : decode cX3_stepAt 0 = .ok (.aload_n 0, 1) := by decide +kernel
theorem dX3_stepAt_1 : decode cX3_stepAt 1 = .ok (.iload_n 1, 1) := by decide +kernel
theorem dX3_stepAt_2 : decode cX3_stepAt 2 = .ok (.invokevirtual 48, 3) := by decide +kernel
theorem dX3_stepAt_5 : decode cX3_stepAt 5 = .ok (.ifCond .eq 12, 3) := by decide +kernel
theorem dX3_stepAt_8 : decode cX3_stepAt 8 = .ok (.aload_n 0, 1) := by decide +kernel
theorem dX3_stepAt_9 : decode cX3_stepAt 9 = .ok (.getfield 9, 3) := by decide +kernel
theorem dX3_stepAt_12 : decode cX3_stepAt 12 = .ok (.iload_n 1, 1) := by decide +kernel
theorem dX3_stepAt_13 : decode cX3_stepAt 13 = .ok (.iaload, 1) := by decide +kernel
theorem dX3_stepAt_14 : decode cX3_stepAt 14 = .ok (.goto 4, 3) := by decide +kernel
theorem dX3_stepAt_17 : decode cX3_stepAt 17 = .ok (.iconst 0, 1) := by decide +kernel
theorem dX3_stepAt_18 : decode cX3_stepAt 18 = .ok (.ireturn, 1) := by decide +kernel
theorem dX3_setStep_0 : decode cX3_setStep 0 = .ok (.aload_n 0, 1) := by decide +kernel
theorem dX3_setStep_1 : decode cX3_setStep 1 = .ok (.iload_n 1, 1) := by decide +kernel
theorem dX3_setStep_2 : decode cX3_setStep 2 = .ok (.invokevirtual 48, 3) := by decide +kernel
theorem dX3_setStep_5 : decode cX3_setStep 5 = .ok (.ifCond .eq 10, 3) := by decide +kernel
theorem dX3_setStep_8 : decode cX3_setStep 8 = .ok (.aload_n 0, 1) := by decide +kernel
theorem dX3_setStep_9 : decode cX3_setStep 9 = .ok (.getfield 9, 3) := by decide +kernel
theorem dX3_setStep_12 : decode cX3_setStep 12 = .ok (.iload_n 1, 1) := by decide +kernel
theorem dX3_setStep_13 : decode cX3_setStep 13 = .ok (.iload_n 2, 1) := by decide +kernel
theorem dX3_setStep_14 : decode cX3_setStep 14 = .ok (.iastore, 1) := by decide +kernel
theorem dX3_setStep_15 : decode cX3_setStep 15 = .ok (.return_, 1) := by decide +kernel
theorem dX3_copySteps_0 : decode cX3_copySteps 0 = .ok (.aload_n 1, 1) := by decide +kernel
theorem dX3_copySteps_1 : decode cX3_copySteps 1 = .ok (.iload_n 2, 1) := by decide +kernel
theorem dX3_copySteps_2 : decode cX3_copySteps 2 = .ok (.iload 4, 2) := by decide +kernel
theorem dX3_copySteps_4 : decode cX3_copySteps 4 = .ok (.invokevirtual 52, 3) := by decide +kernel
theorem dX3_copySteps_7 : decode cX3_copySteps 7 = .ok (.ifCond .eq 28, 3) := by decide +kernel
theorem dX3_copySteps_10 : decode cX3_copySteps 10 = .ok (.aload_n 0, 1) := by decide +kernel
theorem dX3_copySteps_11 : decode cX3_copySteps 11 = .ok (.iload_n 3, 1) := by decide +kernel
theorem dX3_copySteps_12 : decode cX3_copySteps 12 = .ok (.iload 4, 2) := by decide +kernel
theorem dX3_copySteps_14 : decode cX3_copySteps 14 = .ok (.invokevirtual 52, 3) := by decide +kernel
theorem dX3_copySteps_17 : decode cX3_copySteps 17 = .ok (.ifCond .eq 18, 3) := by decide +kernel
theorem dX3_copySteps_20 : decode cX3_copySteps 20 = .ok (.aload_n 1, 1) := by decide +kernel
theorem dX3_copySteps_21 : decode cX3_copySteps 21 = .ok (.getfield 9, 3) := by decide +kernel
theorem dX3_copySteps_24 : decode cX3_copySteps 24 = .ok (.iload_n 2, 1) := by decide +kernel
theorem dX3_copySteps_25 : decode cX3_copySteps 25 = .ok (.aload_n 0, 1) := by decide +kernel
theorem dX3_copySteps_26 : decode cX3_copySteps 26 = .ok (.getfield 9, 3) := by decide +kernel
theorem dX3_copySteps_29 : decode cX3_copySteps 29 = .ok (.iload_n 3, 1) := by decide +kernel
theorem dX3_copySteps_30 : decode cX3_copySteps 30 = .ok (.iload 4, 2) := by decide +kernel
theorem dX3_copySteps_32 : decode cX3_copySteps 32 = .ok (.invokestatic 22, 3) := by decide +kernel
theorem dX3_copySteps_35 : decode cX3_copySteps 35 = .ok (.return_, 1) := by decide +kernel
theorem dX4_init_0 : decode cX4_init 0 = .ok (.aload_n 0, 1) := by decide +kernel
theorem dX4_init_1 : decode cX4_init 1 = .ok (.invokespecial 3, 3) := by decide +kernel
theorem dX4_init_4 : decode cX4_init 4 = .ok (.return_, 1) := by decide +kernel
theorem dX4_content_0 : decode cX4_content 0 = .ok (.aload_n 0, 1) := by decide +kernel
theorem dX4_content_1 : decode cX4_content 1 = .ok (.getfield 9, 3) := by decide +kernel
theorem dX4_content_4 : decode cX4_content 4 = .ok (.ifnull 11, 3) := by decide +kernel
theorem dX4_content_7 : decode cX4_content 7 = .ok (.aload_n 0, 1) := by decide +kernel
theorem dX4_content_8 : decode cX4_content 8 = .ok (.getfield 9, 3) := by decide +kernel
theorem dX4_content_11 : decode cX4_content 11 = .ok (.getfield 15, 3) := by decide +kernel
theorem dX4_content_14 : decode cX4_content 14 = .ok (.ireturn, 1) := by decide +kernel
theorem dX4_content_15 : decode cX4_content 15 = .ok (.aload_n 0, 1) := by decide +kernel
theorem dX4_content_16 : decode cX4_content 16 = .ok (.getfield 21, 3) := by decide +kernel
theorem dX4_content_19 : decode cX4_content 19 = .ok (.ifCond .eq 7, 3) := by decide +kernel
theorem dX4_content_22 : decode cX4_content 22 = .ok (.iconst 5, 1) := by decide +kernel
theorem dX4_content_23 : decode cX4_content 23 = .ok (.goto 4, 3) := by decide +kernel
theorem dX4_content_26 : decode cX4_content 26 = .ok (.iconst (-1), 1) := by decide +kernel
theorem dX4_content_27 : decode cX4_content 27 = .ok (.ireturn, 1) := by decide +kernel
theorem dX4_putSwitch_0 : decode cX4_putSwitch 0 = .ok (.aload_n 0, 1) := by decide +kernel
theorem dX4_putSwitch_1 : decode cX4_putSwitch 1 = .ok (.invokevirtual 25, 3) := by decide +kernel
theorem dX4_putSwitch_4 : decode cX4_putSwitch 4 = .ok (.pop, 1) := by decide +kernel
theorem dX4_putSwitch_5 : decode cX4_putSwitch 5 = .ok (.aload_n 0, 1) := by decide +kernel
theorem dX4_putSwitch_6 : decode cX4_putSwitch 6 = .ok (.invokevirtual 29, 3) := by decide +kernel
theorem dX4_putSwitch_9 : decode cX4_putSwitch 9 = .ok (.astore 4, 2) := by decide +kernel
theorem dX4_putSwitch_11 : decode cX4_putSwitch 11 = .ok (.aload 4, 2) := by decide +kernel
theorem dX4_putSwitch_13 : decode cX4_putSwitch 13 = .ok (.iload_n 1, 1) := by decide +kernel
theorem dX4_putSwitch_14 : decode cX4_putSwitch 14 = .ok (.iload_n 2, 1) := by decide +kernel
theorem dX4_putSwitch_15 : decode cX4_putSwitch 15 = .ok (.iload_n 3, 1) := by decide +kernel
theorem dX4_putSwitch_16 : decode cX4_putSwitch 16 = .ok (.invokevirtual 33, 3) := by decide +kernel
theorem dX4_putSwitch_19 : decode cX4_putSwitch 19 = .ok (.aload_n 0, 1) := by decide +kernel
theorem dX4_putSwitch_20 : decode cX4_putSwitch 20 = .ok (.aload 4, 2) := by decide +kernel
theorem dX4_putSwitch_22 : decode cX4_putSwitch 22 = .ok (.putfield 9, 3) := by decide +kernel
theorem dX4_putSwitch_25 : decode cX4_putSwitch 25 = .ok (.return_, 1) := by decide +kernel
theorem dX4_putNote_0 : decode cX4_putNote 0 = .ok (.aload_n 0, 1) := by decide +kernel
theorem dX4_putNote_1 : decode cX4_putNote 1 = .ok (.invokevirtual 25, 3) := by decide +kernel
theorem dX4_putNote_4 : decode cX4_putNote 4 = .ok (.pop, 1) := by decide +kernel
theorem dX4_putNote_5 : decode cX4_putNote 5 = .ok (.aload_n 0, 1) := by decide +kernel
theorem dX4_putNote_6 : decode cX4_putNote 6 = .ok (.iconst 1, 1) := by decide +kernel
theorem dX4_putNote_7 : decode cX4_putNote 7 = .ok (.putfield 21, 3) := by decide +kernel
theorem dX4_putNote_10 : decode cX4_putNote 10 = .ok (.aload_n 0, 1) := by decide +kernel
theorem dX4_putNote_11 : decode cX4_putNote 11 = .ok (.lload_n 1, 1) := by decide +kernel
theorem dX4_putNote_12 : decode cX4_putNote 12 = .ok (.putfield 37, 3) := by decide +kernel
theorem dX4_putNote_15 : decode cX4_putNote 15 = .ok (.return_, 1) := by decide +kernel
theorem dX4_clear_0 : decode cX4_clear 0 = .ok (.aload_n 0, 1) := by decide +kernel
theorem dX4_clear_1 : decode cX4_clear 1 = .ok (.getfield 9, 3) := by decide +kernel
theorem dX4_clear_4 : decode cX4_clear 4 = .ok (.ifnonnull 10, 3) := by decide +kernel
theorem dX4_clear_7 : decode cX4_clear 7 = .ok (.aload_n 0, 1) := by decide +kernel
theorem dX4_clear_8 : decode cX4_clear 8 = .ok (.getfield 21, 3) := by decide +kernel
theorem dX4_clear_11 : decode cX4_clear 11 = .ok (.ifCond .eq 7, 3) := by decide +kernel
theorem dX4_clear_14 : decode cX4_clear 14 = .ok (.iconst 1, 1) := by decide +kernel
theorem dX4_clear_15 : decode cX4_clear 15 = .ok (.goto 4, 3) := by decide +kernel
theorem dX4_clear_18 : decode cX4_clear 18 = .ok (.iconst 0, 1) := by decide +kernel
theorem dX4_clear_19 : decode cX4_clear 19 = .ok (.istore_n 1, 1) := by decide +kernel
theorem dX4_clear_20 : decode cX4_clear 20 = .ok (.aload_n 0, 1) := by decide +kernel
theorem dX4_clear_21 : decode cX4_clear 21 = .ok (.aconst_null, 1) := by decide +kernel
theorem dX4_clear_22 : decode cX4_clear 22 = .ok (.putfield 9, 3) := by decide +kernel
theorem dX4_clear_25 : decode cX4_clear 25 = .ok (.aload_n 0, 1) := by decide +kernel
theorem dX4_clear_26 : decode cX4_clear 26 = .ok (.iconst 0, 1) := by decide +kernel
theorem dX4_clear_27 : decode cX4_clear 27 = .ok (.putfield 21, 3) := by decide +kernel
theorem dX4_clear_30 : decode cX4_clear 30 = .ok (.aload_n 0, 1) := by decide +kernel
theorem dX4_clear_31 : decode cX4_clear 31 = .ok (.lconst 0, 1) := by decide +kernel
theorem dX4_clear_32 : decode cX4_clear 32 = .ok (.putfield 37, 3) := by decide +kernel
theorem dX4_clear_35 : decode cX4_clear 35 = .ok (.iload_n 1, 1) := by decide +kernel
theorem dX4_clear_36 : decode cX4_clear 36 = .ok (.ireturn, 1) := by decide +kernel
theorem dX4_takeFrom_0 : decode cX4_takeFrom 0 = .ok (.aload_n 0, 1) := by decide +kernel
theorem dX4_takeFrom_1 : decode cX4_takeFrom 1 = .ok (.invokevirtual 25, 3) := by decide +kernel
theorem dX4_takeFrom_4 : decode cX4_takeFrom 4 = .ok (.pop, 1) := by decide +kernel
theorem dX4_takeFrom_5 : decode cX4_takeFrom 5 = .ok (.aload_n 0, 1) := by decide +kernel
theorem dX4_takeFrom_6 : decode cX4_takeFrom 6 = .ok (.aload_n 1, 1) := by decide +kernel
theorem dX4_takeFrom_7 : decode cX4_takeFrom 7 = .ok (.getfield 21, 3) := by decide +kernel
theorem dX4_takeFrom_10 : decode cX4_takeFrom 10 = .ok (.putfield 21, 3) := by decide +kernel
theorem dX4_takeFrom_13 : decode cX4_takeFrom 13 = .ok (.aload_n 0, 1) := by decide +kernel
theorem dX4_takeFrom_14 : decode cX4_takeFrom 14 = .ok (.aload_n 1, 1) := by decide +kernel
theorem dX4_takeFrom_15 : decode cX4_takeFrom 15 = .ok (.getfield 37, 3) := by decide +kernel
theorem dX4_takeFrom_18 : decode cX4_takeFrom 18 = .ok (.putfield 37, 3) := by decide +kernel
theorem dX4_takeFrom_21 : decode cX4_takeFrom 21 = .ok (.aload_n 1, 1) := by decide +kernel
theorem dX4_takeFrom_22 : decode cX4_takeFrom 22 = .ok (.getfield 9, 3) := by decide +kernel
theorem dX4_takeFrom_25 : decode cX4_takeFrom 25 = .ok (.ifnull 21, 3) := by decide +kernel
theorem dX4_takeFrom_28 : decode cX4_takeFrom 28 = .ok (.aload_n 0, 1) := by decide +kernel
theorem dX4_takeFrom_29 : decode cX4_takeFrom 29 = .ok (.invokevirtual 29, 3) := by decide +kernel
theorem dX4_takeFrom_32 : decode cX4_takeFrom 32 = .ok (.astore_n 2, 1) := by decide +kernel
theorem dX4_takeFrom_33 : decode cX4_takeFrom 33 = .ok (.aload_n 2, 1) := by decide +kernel
theorem dX4_takeFrom_34 : decode cX4_takeFrom 34 = .ok (.aload_n 1, 1) := by decide +kernel
theorem dX4_takeFrom_35 : decode cX4_takeFrom 35 = .ok (.getfield 9, 3) := by decide +kernel
theorem dX4_takeFrom_38 : decode cX4_takeFrom 38 = .ok (.invokevirtual 41, 3) := by decide +kernel
theorem dX4_takeFrom_41 : decode cX4_takeFrom 41 = .ok (.aload_n 0, 1) := by decide +kernel
theorem dX4_takeFrom_42 : decode cX4_takeFrom 42 = .ok (.aload_n 2, 1) := by decide +kernel
theorem dX4_takeFrom_43 : decode cX4_takeFrom 43 = .ok (.putfield 9, 3) := by decide +kernel
theorem dX4_takeFrom_46 : decode cX4_takeFrom 46 = .ok (.return_, 1) := by decide +kernel
theorem dX4_spareSwitch_0 : decode cX4_spareSwitch 0 = .ok (.aload_n 0, 1) := by decide +kernel
theorem dX4_spareSwitch_1 : decode cX4_spareSwitch 1 = .ok (.getfield 45, 3) := by decide +kernel
theorem dX4_spareSwitch_4 : decode cX4_spareSwitch 4 = .ok (.ifnonnull 14, 3) := by decide +kernel
theorem dX4_spareSwitch_7 : decode cX4_spareSwitch 7 = .ok (.aload_n 0, 1) := by decide +kernel
theorem dX4_spareSwitch_8 : decode cX4_spareSwitch 8 = .ok (.new 16, 3) := by decide +kernel
theorem dX4_spareSwitch_11 : decode cX4_spareSwitch 11 = .ok (.dup, 1) := by decide +kernel
theorem dX4_spareSwitch_12 : decode cX4_spareSwitch 12 = .ok (.invokespecial 48, 3) := by decide +kernel
theorem dX4_spareSwitch_15 : decode cX4_spareSwitch 15 = .ok (.putfield 45, 3) := by decide +kernel
theorem dX4_spareSwitch_18 : decode cX4_spareSwitch 18 = .ok (.aload_n 0, 1) := by decide +kernel
theorem dX4_spareSwitch_19 : decode cX4_spareSwitch 19 = .ok (.getfield 45, 3) := by decide +kernel
theorem dX4_spareSwitch_22 : decode cX4_spareSwitch 22 = .ok (.areturn, 1) := by decide +kernel
theorem dX5_init_0 : decode cX5_init 0 = .ok (.aload_n 0, 1) := by decide +kernel
theorem dX5_init_1 : decode cX5_init 1 = .ok (.invokespecial 3, 3) := by decide +kernel
theorem dX5_init_4 : decode cX5_init 4 = .ok (.aload_n 0, 1) := by decide +kernel
theorem dX5_init_5 : decode cX5_init 5 = .ok (.bipush 16, 2) := by decide +kernel
theorem dX5_init_7 : decode cX5_init 7 = .ok (.newarray .int, 2) := by decide +kernel
theorem dX5_init_9 : decode cX5_init 9 = .ok (.putfield 9, 3) := by decide +kernel
theorem dX5_init_12 : decode cX5_init 12 = .ok (.aload_n 0, 1) := by decide +kernel
theorem dX5_init_13 : decode cX5_init 13 = .ok (.bipush 16, 2) := by decide +kernel
theorem dX5_init_15 : decode cX5_init 15 = .ok (.newarray .int, 2) := by decide +kernel
theorem dX5_init_17 : decode cX5_init 17 = .ok (.putfield 15, 3) := by decide +kernel
theorem dX5_init_20 : decode cX5_init 20 = .ok (.aload_n 0, 1) := by decide +kernel
theorem dX5_init_21 : decode cX5_init 21 = .ok (.bipush 16, 2) := by decide +kernel
theorem dX5_init_23 : decode cX5_init 23 = .ok (.newarray .int, 2) := by decide +kernel
theorem dX5_init_25 : decode cX5_init 25 = .ok (.putfield 18, 3) := by decide +kernel
theorem dX5_init_28 : decode cX5_init 28 = .ok (.return_, 1) := by decide +kernel
theorem dX5_memberAt_0 : decode cX5_memberAt 0 = .ok (.iload_n 1, 1) := by decide +kernel
theorem dX5_memberAt_1 : decode cX5_memberAt 1 = .ok (.ifCond .lt 20, 3) := by decide +kernel
theorem dX5_memberAt_4 : decode cX5_memberAt 4 = .ok (.iload_n 1, 1) := by decide +kernel
theorem dX5_memberAt_5 : decode cX5_memberAt 5 = .ok (.aload_n 0, 1) := by decide +kernel
theorem dX5_memberAt_6 : decode cX5_memberAt 6 = .ok (.getfield 21, 3) := by decide +kernel
theorem dX5_memberAt_9 : decode cX5_memberAt 9 = .ok (.if_icmp .ge 12, 3) := by decide +kernel
theorem dX5_memberAt_12 : decode cX5_memberAt 12 = .ok (.aload_n 0, 1) := by decide +kernel
theorem dX5_memberAt_13 : decode cX5_memberAt 13 = .ok (.getfield 18, 3) := by decide +kernel
theorem dX5_memberAt_16 : decode cX5_memberAt 16 = .ok (.iload_n 1, 1) := by decide +kernel
theorem dX5_memberAt_17 : decode cX5_memberAt 17 = .ok (.iaload, 1) := by decide +kernel
theorem dX5_memberAt_18 : decode cX5_memberAt 18 = .ok (.goto 5, 3) := by decide +kernel
theorem dX5_memberAt_21 : decode cX5_memberAt 21 = .ok (.bipush (-3), 2) := by decide +kernel
theorem dX5_memberAt_23 : decode cX5_memberAt 23 = .ok (.ireturn, 1) := by decide +kernel
theorem dX5_findIn_0 : decode cX5_findIn 0 = .ok (.aload_n 0, 1) := by decide +kernel
theorem dX5_findIn_1 : decode cX5_findIn 1 = .ok (.aload_n 1, 1) := by decide +kernel
theorem dX5_findIn_2 : decode cX5_findIn 2 = .ok (.invokevirtual 25, 3) := by decide +kernel
theorem dX5_findIn_5 : decode cX5_findIn 5 = .ok (.iconst 0, 1) := by decide +kernel
theorem dX5_findIn_6 : decode cX5_findIn 6 = .ok (.istore_n 2, 1) := by decide +kernel
theorem dX5_findIn_7 : decode cX5_findIn 7 = .ok (.iload_n 2, 1) := by decide +kernel
theorem dX5_findIn_8 : decode cX5_findIn 8 = .ok (.bipush 16, 2) := by decide +kernel
theorem dX5_findIn_10 : decode cX5_findIn 10 = .ok (.if_icmp .ge 30, 3) := by decide +kernel
theorem dX5_findIn_13 : decode cX5_findIn 13 = .ok (.aload_n 0, 1) := by decide +kernel
theorem dX5_findIn_14 : decode cX5_findIn 14 = .ok (.iload_n 2, 1) := by decide +kernel
theorem dX5_findIn_15 : decode cX5_findIn 15 = .ok (.invokevirtual 29, 3) := by decide +kernel
theorem dX5_findIn_18 : decode cX5_findIn 18 = .ok (.aload_n 0, 1) := by decide +kernel
theorem dX5_findIn_19 : decode cX5_findIn 19 = .ok (.iload_n 2, 1) := by decide +kernel
theorem dX5_findIn_20 : decode cX5_findIn 20 = .ok (.invokevirtual 33, 3) := by decide +kernel
theorem dX5_findIn_23 : decode cX5_findIn 23 = .ok (.iconst (-1), 1) := by decide +kernel
theorem dX5_findIn_24 : decode cX5_findIn 24 = .ok (.if_icmp .eq 10, 3) := by decide +kernel
theorem dX5_findIn_27 : decode cX5_findIn 27 = .ok (.aload_n 0, 1) := by decide +kernel
theorem dX5_findIn_28 : decode cX5_findIn 28 = .ok (.iload_n 2, 1) := by decide +kernel
theorem dX5_findIn_29 : decode cX5_findIn 29 = .ok (.invokevirtual 37, 3) := by decide +kernel
theorem dX5_findIn_32 : decode cX5_findIn 32 = .ok (.iconst 1, 1) := by decide +kernel
theorem dX5_findIn_33 : decode cX5_findIn 33 = .ok (.ireturn, 1) := by decide +kernel
theorem dX5_findIn_34 : decode cX5_findIn 34 = .ok (.iinc 2 1, 3) := by decide +kernel
theorem dX5_findIn_37 : decode cX5_findIn 37 = .ok (.goto (-30), 3) := by decide +kernel
theorem dX5_findIn_40 : decode cX5_findIn 40 = .ok (.iconst 0, 1) := by decide +kernel
theorem dX5_findIn_41 : decode cX5_findIn 41 = .ok (.ireturn, 1) := by decide +kernel
theorem dX5_gatherAsks_0 : decode cX5_gatherAsks 0 = .ok (.aload_n 0, 1) := by decide +kernel
theorem dX5_gatherAsks_1 : decode cX5_gatherAsks 1 = .ok (.getfield 9, 3) := by decide +kernel
theorem dX5_gatherAsks_4 : decode cX5_gatherAsks 4 = .ok (.iconst 0, 1) := by decide +kernel
theorem dX5_gatherAsks_5 : decode cX5_gatherAsks 5 = .ok (.invokestatic 40, 3) := by decide +kernel
theorem dX5_gatherAsks_8 : decode cX5_gatherAsks 8 = .ok (.iconst 0, 1) := by decide +kernel
theorem dX5_gatherAsks_9 : decode cX5_gatherAsks 9 = .ok (.istore_n 2, 1) := by decide +kernel
theorem dX5_gatherAsks_10 : decode cX5_gatherAsks 10 = .ok (.iload_n 2, 1) := by decide +kernel
theorem dX5_gatherAsks_11 : decode cX5_gatherAsks 11 = .ok (.bipush 16, 2) := by decide +kernel
theorem dX5_gatherAsks_13 : decode cX5_gatherAsks 13 = .ok (.if_icmp .ge 51, 3) := by decide +kernel
theorem dX5_gatherAsks_16 : decode cX5_gatherAsks 16 = .ok (.aload_n 1, 1) := by decide +kernel
theorem dX5_gatherAsks_17 : decode cX5_gatherAsks 17 = .ok (.iload_n 2, 1) := by decide +kernel
theorem dX5_gatherAsks_18 : decode cX5_gatherAsks 18 = .ok (.invokevirtual 46, 3) := by decide +kernel
theorem dX5_gatherAsks_21 : decode cX5_gatherAsks 21 = .ok (.astore_n 3, 1) := by decide +kernel
theorem dX5_gatherAsks_22 : decode cX5_gatherAsks 22 = .ok (.aload_n 3, 1) := by decide +kernel
theorem dX5_gatherAsks_23 : decode cX5_gatherAsks 23 = .ok (.ifnull 35, 3) := by decide +kernel
theorem dX5_gatherAsks_26 : decode cX5_gatherAsks 26 = .ok (.aload_n 3, 1) := by decide +kernel
theorem dX5_gatherAsks_27 : decode cX5_gatherAsks 27 = .ok (.getfield 52, 3) := by decide +kernel
theorem dX5_gatherAsks_30 : decode cX5_gatherAsks 30 = .ok (.bipush 15, 2) := by decide +kernel
theorem dX5_gatherAsks_32 : decode cX5_gatherAsks 32 = .ok (.invokestatic 57, 3) := by decide +kernel
theorem dX5_gatherAsks_35 : decode cX5_gatherAsks 35 = .ok (.ifCond .eq 23, 3) := by decide +kernel
theorem dX5_gatherAsks_38 : decode cX5_gatherAsks 38 = .ok (.aload_n 0, 1) := by decide +kernel
theorem dX5_gatherAsks_39 : decode cX5_gatherAsks 39 = .ok (.getfield 9, 3) := by decide +kernel
theorem dX5_gatherAsks_42 : decode cX5_gatherAsks 42 = .ok (.iload_n 2, 1) := by decide +kernel
theorem dX5_gatherAsks_43 : decode cX5_gatherAsks 43 = .ok (.dup2, 1) := by decide +kernel
theorem dX5_gatherAsks_44 : decode cX5_gatherAsks 44 = .ok (.iaload, 1) := by decide +kernel
theorem dX5_gatherAsks_45 : decode cX5_gatherAsks 45 = .ok (.iconst 1, 1) := by decide +kernel
theorem dX5_gatherAsks_46 : decode cX5_gatherAsks 46 = .ok (.aload_n 3, 1) := by decide +kernel
theorem dX5_gatherAsks_47 : decode cX5_gatherAsks 47 = .ok (.getfield 52, 3) := by decide +kernel
theorem dX5_gatherAsks_50 : decode cX5_gatherAsks 50 = .ok (.ishl, 1) := by decide +kernel
theorem dX5_gatherAsks_51 : decode cX5_gatherAsks 51 = .ok (.ior, 1) := by decide +kernel
theorem dX5_gatherAsks_52 : decode cX5_gatherAsks 52 = .ok (.iastore, 1) := by decide +kernel
theorem dX5_gatherAsks_53 : decode cX5_gatherAsks 53 = .ok (.aload_n 0, 1) := by decide +kernel
theorem dX5_gatherAsks_54 : decode cX5_gatherAsks 54 = .ok (.aload_n 3, 1) := by decide +kernel
theorem dX5_gatherAsks_55 : decode cX5_gatherAsks 55 = .ok (.invokevirtual 61, 3) := by decide +kernel
theorem dX5_gatherAsks_58 : decode cX5_gatherAsks 58 = .ok (.iinc 2 1, 3) := by decide +kernel
theorem dX5_gatherAsks_61 : decode cX5_gatherAsks 61 = .ok (.goto (-51), 3) := by decide +kernel
theorem dX5_gatherAsks_64 : decode cX5_gatherAsks 64 = .ok (.return_, 1) := by decide +kernel
theorem dX5_gatherStopped_0 : decode cX5_gatherStopped 0 = .ok (.iconst 0, 1) := by decide +kernel
theorem dX5_gatherStopped_1 : decode cX5_gatherStopped 1 = .ok (.istore_n 2, 1) := by decide +kernel
theorem dX5_gatherStopped_2 : decode cX5_gatherStopped 2 = .ok (.iload_n 2, 1) := by decide +kernel
theorem dX5_gatherStopped_3 : decode cX5_gatherStopped 3 = .ok (.bipush 16, 2) := by decide +kernel
theorem dX5_gatherStopped_5 : decode cX5_gatherStopped 5 = .ok (.if_icmp .ge 32, 3) := by decide +kernel
theorem dX5_gatherStopped_8 : decode cX5_gatherStopped 8 = .ok (.aload_n 1, 1) := by decide +kernel
theorem dX5_gatherStopped_9 : decode cX5_gatherStopped 9 = .ok (.iload_n 2, 1) := by decide +kernel
theorem dX5_gatherStopped_10 : decode cX5_gatherStopped 10 = .ok (.invokevirtual 65, 3) := by decide +kernel
theorem dX5_gatherStopped_13 : decode cX5_gatherStopped 13 = .ok (.ifCond .eq 18, 3) := by decide +kernel
theorem dX5_gatherStopped_16 : decode cX5_gatherStopped 16 = .ok (.aload_n 0, 1) := by decide +kernel
theorem dX5_gatherStopped_17 : decode cX5_gatherStopped 17 = .ok (.getfield 9, 3) := by decide +kernel
theorem dX5_gatherStopped_20 : decode cX5_gatherStopped 20 = .ok (.iload_n 2, 1) := by decide +kernel
theorem dX5_gatherStopped_21 : decode cX5_gatherStopped 21 = .ok (.dup2, 1) := by decide +kernel
theorem dX5_gatherStopped_22 : decode cX5_gatherStopped 22 = .ok (.iaload, 1) := by decide +kernel
theorem dX5_gatherStopped_23 : decode cX5_gatherStopped 23 = .ok (.iconst 1, 1) := by decide +kernel
theorem dX5_gatherStopped_24 : decode cX5_gatherStopped 24 = .ok (.aload_n 1, 1) := by decide +kernel
theorem dX5_gatherStopped_25 : decode cX5_gatherStopped 25 = .ok (.getfield 52, 3) := by decide +kernel
theorem dX5_gatherStopped_28 : decode cX5_gatherStopped 28 = .ok (.ishl, 1) := by decide +kernel
theorem dX5_gatherStopped_29 : decode cX5_gatherStopped 29 = .ok (.ior, 1) := by decide +kernel
theorem dX5_gatherStopped_30 : decode cX5_gatherStopped 30 = .ok (.iastore, 1) := by decide +kernel
theorem dX5_gatherStopped_31 : decode cX5_gatherStopped 31 = .ok (.iinc 2 1, 3) := by decide +kernel
theorem dX5_gatherStopped_34 : decode cX5_gatherStopped 34 = .ok (.goto (-32), 3) := by decide +kernel
theorem dX5_gatherStopped_37 : decode cX5_gatherStopped 37 = .ok (.return_, 1) := by decide +kernel
theorem dX5_measureTo_0 : decode cX5_measureTo 0 = .ok (.aload_n 0, 1) := by decide +kernel
theorem dX5_measureTo_1 : decode cX5_measureTo 1 = .ok (.getfield 15, 3) := by decide +kernel
theorem dX5_measureTo_4 : decode cX5_measureTo 4 = .ok (.iconst (-1), 1) := by decide +kernel
theorem dX5_measureTo_5 : decode cX5_measureTo 5 = .ok (.invokestatic 40, 3) := by decide +kernel
theorem dX5_measureTo_8 : decode cX5_measureTo 8 = .ok (.aload_n 0, 1) := by decide +kernel
theorem dX5_measureTo_9 : decode cX5_measureTo 9 = .ok (.getfield 15, 3) := by decide +kernel
theorem dX5_measureTo_12 : decode cX5_measureTo 12 = .ok (.iload_n 1, 1) := by decide +kernel
theorem dX5_measureTo_13 : decode cX5_measureTo 13 = .ok (.iconst 0, 1) := by decide +kernel
theorem dX5_measureTo_14 : decode cX5_measureTo 14 = .ok (.iastore, 1) := by decide +kernel
theorem dX5_measureTo_15 : decode cX5_measureTo 15 = .ok (.iconst 1, 1) := by decide +kernel
theorem dX5_measureTo_16 : decode cX5_measureTo 16 = .ok (.iload_n 1, 1) := by decide +kernel
theorem dX5_measureTo_17 : decode cX5_measureTo 17 = .ok (.ishl, 1) := by decide +kernel
theorem dX5_measureTo_18 : decode cX5_measureTo 18 = .ok (.istore_n 2, 1) := by decide +kernel
theorem dX5_measureTo_19 : decode cX5_measureTo 19 = .ok (.iconst 1, 1) := by decide +kernel
theorem dX5_measureTo_20 : decode cX5_measureTo 20 = .ok (.istore_n 3, 1) := by decide +kernel
theorem dX5_measureTo_21 : decode cX5_measureTo 21 = .ok (.iload_n 3, 1) := by decide +kernel
theorem dX5_measureTo_22 : decode cX5_measureTo 22 = .ok (.bipush 16, 2) := by decide +kernel
theorem dX5_measureTo_24 : decode cX5_measureTo 24 = .ok (.if_icmp .ge 71, 3) := by decide +kernel
theorem dX5_measureTo_27 : decode cX5_measureTo 27 = .ok (.iconst 0, 1) := by decide +kernel
theorem dX5_measureTo_28 : decode cX5_measureTo 28 = .ok (.istore 4, 2) := by decide +kernel
theorem dX5_measureTo_30 : decode cX5_measureTo 30 = .ok (.iconst 0, 1) := by decide +kernel
theorem dX5_measureTo_31 : decode cX5_measureTo 31 = .ok (.istore 5, 2) := by decide +kernel
theorem dX5_measureTo_33 : decode cX5_measureTo 33 = .ok (.iload 5, 2) := by decide +kernel
theorem dX5_measureTo_35 : decode cX5_measureTo 35 = .ok (.bipush 16, 2) := by decide +kernel
theorem dX5_measureTo_37 : decode cX5_measureTo 37 = .ok (.if_icmp .ge 49, 3) := by decide +kernel
theorem dX5_measureTo_40 : decode cX5_measureTo 40 = .ok (.aload_n 0, 1) := by decide +kernel
theorem dX5_measureTo_41 : decode cX5_measureTo 41 = .ok (.getfield 15, 3) := by decide +kernel
theorem dX5_measureTo_44 : decode cX5_measureTo 44 = .ok (.iload 5, 2) := by decide +kernel
theorem dX5_measureTo_46 : decode cX5_measureTo 46 = .ok (.iaload, 1) := by decide +kernel
theorem dX5_measureTo_47 : decode cX5_measureTo 47 = .ok (.iconst (-1), 1) := by decide +kernel
theorem dX5_measureTo_48 : decode cX5_measureTo 48 = .ok (.if_icmp .ne 32, 3) := by decide +kernel
theorem dX5_measureTo_51 : decode cX5_measureTo 51 = .ok (.aload_n 0, 1) := by decide +kernel
theorem dX5_measureTo_52 : decode cX5_measureTo 52 = .ok (.getfield 9, 3) := by decide +kernel
theorem dX5_measureTo_55 : decode cX5_measureTo 55 = .ok (.iload 5, 2) := by decide +kernel
theorem dX5_measureTo_57 : decode cX5_measureTo 57 = .ok (.iaload, 1) := by decide +kernel
theorem dX5_measureTo_58 : decode cX5_measureTo 58 = .ok (.iload_n 2, 1) := by decide +kernel
theorem dX5_measureTo_59 : decode cX5_measureTo 59 = .ok (.iand, 1) := by decide +kernel
theorem dX5_measureTo_60 : decode cX5_measureTo 60 = .ok (.ifCond .eq 20, 3) := by decide +kernel
theorem dX5_measureTo_63 : decode cX5_measureTo 63 = .ok (.aload_n 0, 1) := by decide +kernel
theorem dX5_measureTo_64 : decode cX5_measureTo 64 = .ok (.getfield 15, 3) := by decide +kernel
theorem dX5_measureTo_67 : decode cX5_measureTo 67 = .ok (.iload 5, 2) := by decide +kernel
theorem dX5_measureTo_69 : decode cX5_measureTo 69 = .ok (.iload_n 3, 1) := by decide +kernel
theorem dX5_measureTo_70 : decode cX5_measureTo 70 = .ok (.iastore, 1) := by decide +kernel
theorem dX5_measureTo_71 : decode cX5_measureTo 71 = .ok (.iload 4, 2) := by decide +kernel
theorem dX5_measureTo_73 : decode cX5_measureTo 73 = .ok (.iconst 1, 1) := by decide +kernel
theorem dX5_measureTo_74 : decode cX5_measureTo 74 = .ok (.iload 5, 2) := by decide +kernel
theorem dX5_measureTo_76 : decode cX5_measureTo 76 = .ok (.ishl, 1) := by decide +kernel
theorem dX5_measureTo_77 : decode cX5_measureTo 77 = .ok (.ior, 1) := by decide +kernel
theorem dX5_measureTo_78 : decode cX5_measureTo 78 = .ok (.istore 4, 2) := by decide +kernel
theorem dX5_measureTo_80 : decode cX5_measureTo 80 = .ok (.iinc 5 1, 3) := by decide +kernel
theorem dX5_measureTo_83 : decode cX5_measureTo 83 = .ok (.goto (-50), 3) := by decide +kernel
theorem dX5_measureTo_86 : decode cX5_measureTo 86 = .ok (.iload 4, 2) := by decide +kernel
theorem dX5_measureTo_88 : decode cX5_measureTo 88 = .ok (.istore_n 2, 1) := by decide +kernel
theorem dX5_measureTo_89 : decode cX5_measureTo 89 = .ok (.iinc 3 1, 3) := by decide +kernel
theorem dX5_measureTo_92 : decode cX5_measureTo 92 = .ok (.goto (-71), 3) := by decide +kernel
theorem dX5_measureTo_95 : decode cX5_measureTo 95 = .ok (.return_, 1) := by decide +kernel
theorem dX5_nearest_0 : decode cX5_nearest 0 = .ok (.iconst (-1), 1) := by decide +kernel
theorem dX5_nearest_1 : decode cX5_nearest 1 = .ok (.istore_n 2, 1) := by decide +kernel
theorem dX5_nearest_2 : decode cX5_nearest 2 = .ok (.iconst 0, 1) := by decide +kernel
theorem dX5_nearest_3 : decode cX5_nearest 3 = .ok (.istore_n 3, 1) := by decide +kernel
theorem dX5_nearest_4 : decode cX5_nearest 4 = .ok (.iload_n 3, 1) := by decide +kernel
theorem dX5_nearest_5 : decode cX5_nearest 5 = .ok (.bipush 16, 2) := by decide +kernel
theorem dX5_nearest_7 : decode cX5_nearest 7 = .ok (.if_icmp .ge 66, 3) := by decide +kernel
theorem dX5_nearest_10 : decode cX5_nearest 10 = .ok (.aload_n 0, 1) := by decide +kernel
theorem dX5_nearest_11 : decode cX5_nearest 11 = .ok (.getfield 9, 3) := by decide +kernel
theorem dX5_nearest_14 : decode cX5_nearest 14 = .ok (.iload_n 1, 1) := by decide +kernel
theorem dX5_nearest_15 : decode cX5_nearest 15 = .ok (.iaload, 1) := by decide +kernel
theorem dX5_nearest_16 : decode cX5_nearest 16 = .ok (.iload_n 3, 1) := by decide +kernel
theorem dX5_nearest_17 : decode cX5_nearest 17 = .ok (.invokestatic 69, 3) := by decide +kernel
theorem dX5_nearest_20 : decode cX5_nearest 20 = .ok (.ifCond .eq 17, 3) := by decide +kernel
theorem dX5_nearest_23 : decode cX5_nearest 23 = .ok (.aload_n 0, 1) := by decide +kernel
theorem dX5_nearest_24 : decode cX5_nearest 24 = .ok (.getfield 15, 3) := by decide +kernel
theorem dX5_nearest_27 : decode cX5_nearest 27 = .ok (.iload_n 3, 1) := by decide +kernel
theorem dX5_nearest_28 : decode cX5_nearest 28 = .ok (.iaload, 1) := by decide +kernel
theorem dX5_nearest_29 : decode cX5_nearest 29 = .ok (.iconst (-1), 1) := by decide +kernel
theorem dX5_nearest_30 : decode cX5_nearest 30 = .ok (.if_icmp .eq 7, 3) := by decide +kernel
theorem dX5_nearest_33 : decode cX5_nearest 33 = .ok (.iconst 1, 1) := by decide +kernel
theorem dX5_nearest_34 : decode cX5_nearest 34 = .ok (.goto 4, 3) := by decide +kernel
theorem dX5_nearest_37 : decode cX5_nearest 37 = .ok (.iconst 0, 1) := by decide +kernel
theorem dX5_nearest_38 : decode cX5_nearest 38 = .ok (.istore 4, 2) := by decide +kernel
theorem dX5_nearest_40 : decode cX5_nearest 40 = .ok (.iload 4, 2) := by decide +kernel
theorem dX5_nearest_42 : decode cX5_nearest 42 = .ok (.ifCond .eq 25, 3) := by decide +kernel
theorem dX5_nearest_45 : decode cX5_nearest 45 = .ok (.iload_n 2, 1) := by decide +kernel
theorem dX5_nearest_46 : decode cX5_nearest 46 = .ok (.iconst (-1), 1) := by decide +kernel
theorem dX5_nearest_47 : decode cX5_nearest 47 = .ok (.if_icmp .eq 18, 3) := by decide +kernel
theorem dX5_nearest_50 : decode cX5_nearest 50 = .ok (.aload_n 0, 1) := by decide +kernel
theorem dX5_nearest_51 : decode cX5_nearest 51 = .ok (.getfield 15, 3) := by decide +kernel
theorem dX5_nearest_54 : decode cX5_nearest 54 = .ok (.iload_n 3, 1) := by decide +kernel
theorem dX5_nearest_55 : decode cX5_nearest 55 = .ok (.iaload, 1) := by decide +kernel
theorem dX5_nearest_56 : decode cX5_nearest 56 = .ok (.aload_n 0, 1) := by decide +kernel
theorem dX5_nearest_57 : decode cX5_nearest 57 = .ok (.getfield 15, 3) := by decide +kernel
theorem dX5_nearest_60 : decode cX5_nearest 60 = .ok (.iload_n 2, 1) := by decide +kernel
theorem dX5_nearest_61 : decode cX5_nearest 61 = .ok (.iaload, 1) := by decide +kernel
theorem dX5_nearest_62 : decode cX5_nearest 62 = .ok (.if_icmp .ge 5, 3) := by decide +kernel
theorem dX5_nearest_65 : decode cX5_nearest 65 = .ok (.iload_n 3, 1) := by decide +kernel
theorem dX5_nearest_66 : decode cX5_nearest 66 = .ok (.istore_n 2, 1) := by decide +kernel
theorem dX5_nearest_67 : decode cX5_nearest 67 = .ok (.iinc 3 1, 3) := by decide +kernel
theorem dX5_nearest_70 : decode cX5_nearest 70 = .ok (.goto (-66), 3) := by decide +kernel
theorem dX5_nearest_73 : decode cX5_nearest 73 = .ok (.iload_n 2, 1) := by decide +kernel
theorem dX5_nearest_74 : decode cX5_nearest 74 = .ok (.ireturn, 1) := by decide +kernel
theorem dX5_keepFrom_0 : decode cX5_keepFrom 0 = .ok (.aload_n 0, 1) := by decide +kernel
theorem dX5_keepFrom_1 : decode cX5_keepFrom 1 = .ok (.iconst 0, 1) := by decide +kernel
theorem dX5_keepFrom_2 : decode cX5_keepFrom 2 = .ok (.putfield 21, 3) := by decide +kernel
theorem dX5_keepFrom_5 : decode cX5_keepFrom 5 = .ok (.iload_n 1, 1) := by decide +kernel
theorem dX5_keepFrom_6 : decode cX5_keepFrom 6 = .ok (.istore_n 2, 1) := by decide +kernel
theorem dX5_keepFrom_7 : decode cX5_keepFrom 7 = .ok (.iconst 0, 1) := by decide +kernel
theorem dX5_keepFrom_8 : decode cX5_keepFrom 8 = .ok (.istore_n 3, 1) := by decide +kernel
theorem dX5_keepFrom_9 : decode cX5_keepFrom 9 = .ok (.iload_n 3, 1) := by decide +kernel
theorem dX5_keepFrom_10 : decode cX5_keepFrom 10 = .ok (.bipush 16, 2) := by decide +kernel
theorem dX5_keepFrom_12 : decode cX5_keepFrom 12 = .ok (.if_icmp .ge 46, 3) := by decide +kernel
theorem dX5_keepFrom_15 : decode cX5_keepFrom 15 = .ok (.aload_n 0, 1) := by decide +kernel
theorem dX5_keepFrom_16 : decode cX5_keepFrom 16 = .ok (.getfield 18, 3) := by decide +kernel
theorem dX5_keepFrom_19 : decode cX5_keepFrom 19 = .ok (.aload_n 0, 1) := by decide +kernel
theorem dX5_keepFrom_20 : decode cX5_keepFrom 20 = .ok (.getfield 21, 3) := by decide +kernel
theorem dX5_keepFrom_23 : decode cX5_keepFrom 23 = .ok (.iload_n 2, 1) := by decide +kernel
theorem dX5_keepFrom_24 : decode cX5_keepFrom 24 = .ok (.iastore, 1) := by decide +kernel
theorem dX5_keepFrom_25 : decode cX5_keepFrom 25 = .ok (.aload_n 0, 1) := by decide +kernel
theorem dX5_keepFrom_26 : decode cX5_keepFrom 26 = .ok (.dup, 1) := by decide +kernel
theorem dX5_keepFrom_27 : decode cX5_keepFrom 27 = .ok (.getfield 21, 3) := by decide +kernel
theorem dX5_keepFrom_30 : decode cX5_keepFrom 30 = .ok (.iconst 1, 1) := by decide +kernel
theorem dX5_keepFrom_31 : decode cX5_keepFrom 31 = .ok (.iadd, 1) := by decide +kernel
theorem dX5_keepFrom_32 : decode cX5_keepFrom 32 = .ok (.putfield 21, 3) := by decide +kernel
theorem dX5_keepFrom_35 : decode cX5_keepFrom 35 = .ok (.aload_n 0, 1) := by decide +kernel
theorem dX5_keepFrom_36 : decode cX5_keepFrom 36 = .ok (.iload_n 2, 1) := by decide +kernel
theorem dX5_keepFrom_37 : decode cX5_keepFrom 37 = .ok (.invokevirtual 33, 3) := by decide +kernel
theorem dX5_keepFrom_40 : decode cX5_keepFrom 40 = .ok (.istore_n 2, 1) := by decide +kernel
theorem dX5_keepFrom_41 : decode cX5_keepFrom 41 = .ok (.iload_n 2, 1) := by decide +kernel
theorem dX5_keepFrom_42 : decode cX5_keepFrom 42 = .ok (.iload_n 1, 1) := by decide +kernel
theorem dX5_keepFrom_43 : decode cX5_keepFrom 43 = .ok (.if_icmp .eq 8, 3) := by decide +kernel
theorem dX5_keepFrom_46 : decode cX5_keepFrom 46 = .ok (.iload_n 2, 1) := by decide +kernel
theorem dX5_keepFrom_47 : decode cX5_keepFrom 47 = .ok (.iconst (-1), 1) := by decide +kernel
theorem dX5_keepFrom_48 : decode cX5_keepFrom 48 = .ok (.if_icmp .ne 4, 3) := by decide +kernel
theorem dX5_keepFrom_51 : decode cX5_keepFrom 51 = .ok (.return_, 1) := by decide +kernel
theorem dX5_keepFrom_52 : decode cX5_keepFrom 52 = .ok (.iinc 3 1, 3) := by decide +kernel
theorem dX5_keepFrom_55 : decode cX5_keepFrom 55 = .ok (.goto (-46), 3) := by decide +kernel
theorem dX5_keepFrom_58 : decode cX5_keepFrom 58 = .ok (.return_, 1) := by decide +kernel
theorem dX6_init_0 : decode cX6_init 0 = .ok (.aload_n 0, 1) := by decide +kernel
theorem dX6_init_1 : decode cX6_init 1 = .ok (.invokespecial 3, 3) := by decide +kernel
theorem dX6_init_4 : decode cX6_init 4 = .ok (.aload_n 0, 1) := by decide +kernel
theorem dX6_init_5 : decode cX6_init 5 = .ok (.bipush 6, 2) := by decide +kernel
theorem dX6_init_7 : decode cX6_init 7 = .ok (.newarray .int, 2) := by decide +kernel
theorem dX6_init_9 : decode cX6_init 9 = .ok (.putfield 9, 3) := by decide +kernel
theorem dX6_init_12 : decode cX6_init 12 = .ok (.aload_n 0, 1) := by decide +kernel
theorem dX6_init_13 : decode cX6_init 13 = .ok (.bipush 6, 2) := by decide +kernel
theorem dX6_init_15 : decode cX6_init 15 = .ok (.newarray .int, 2) := by decide +kernel
theorem dX6_init_17 : decode cX6_init 17 = .ok (.putfield 15, 3) := by decide +kernel
theorem dX6_init_20 : decode cX6_init 20 = .ok (.aload_n 0, 1) := by decide +kernel
theorem dX6_init_21 : decode cX6_init 21 = .ok (.bipush 6, 2) := by decide +kernel
theorem dX6_init_23 : decode cX6_init 23 = .ok (.newarray .int, 2) := by decide +kernel
theorem dX6_init_25 : decode cX6_init 25 = .ok (.putfield 18, 3) := by decide +kernel
theorem dX6_init_28 : decode cX6_init 28 = .ok (.aload_n 0, 1) := by decide +kernel
theorem dX6_init_29 : decode cX6_init 29 = .ok (.bipush 6, 2) := by decide +kernel
theorem dX6_init_31 : decode cX6_init 31 = .ok (.newarray .int, 2) := by decide +kernel
theorem dX6_init_33 : decode cX6_init 33 = .ok (.putfield 21, 3) := by decide +kernel
theorem dX6_init_36 : decode cX6_init 36 = .ok (.return_, 1) := by decide +kernel
theorem dX6_begin_0 : decode cX6_begin 0 = .ok (.aload_n 0, 1) := by decide +kernel
theorem dX6_begin_1 : decode cX6_begin 1 = .ok (.iconst 0, 1) := by decide +kernel
theorem dX6_begin_2 : decode cX6_begin 2 = .ok (.putfield 24, 3) := by decide +kernel
theorem dX6_begin_5 : decode cX6_begin 5 = .ok (.return_, 1) := by decide +kernel
theorem dX6_takeFrom_0 : decode cX6_takeFrom 0 = .ok (.aload_n 0, 1) := by decide +kernel
theorem dX6_takeFrom_1 : decode cX6_takeFrom 1 = .ok (.aload_n 1, 1) := by decide +kernel
theorem dX6_takeFrom_2 : decode cX6_takeFrom 2 = .ok (.getfield 24, 3) := by decide +kernel
theorem dX6_takeFrom_5 : decode cX6_takeFrom 5 = .ok (.putfield 24, 3) := by decide +kernel
theorem dX6_takeFrom_8 : decode cX6_takeFrom 8 = .ok (.aload_n 1, 1) := by decide +kernel
theorem dX6_takeFrom_9 : decode cX6_takeFrom 9 = .ok (.getfield 9, 3) := by decide +kernel
theorem dX6_takeFrom_12 : decode cX6_takeFrom 12 = .ok (.iconst 0, 1) := by decide +kernel
theorem dX6_takeFrom_13 : decode cX6_takeFrom 13 = .ok (.aload_n 0, 1) := by decide +kernel
theorem dX6_takeFrom_14 : decode cX6_takeFrom 14 = .ok (.getfield 9, 3) := by decide +kernel
theorem dX6_takeFrom_17 : decode cX6_takeFrom 17 = .ok (.iconst 0, 1) := by decide +kernel
theorem dX6_takeFrom_18 : decode cX6_takeFrom 18 = .ok (.bipush 6, 2) := by decide +kernel
theorem dX6_takeFrom_20 : decode cX6_takeFrom 20 = .ok (.invokestatic 28, 3) := by decide +kernel
theorem dX6_takeFrom_23 : decode cX6_takeFrom 23 = .ok (.aload_n 1, 1) := by decide +kernel
theorem dX6_takeFrom_24 : decode cX6_takeFrom 24 = .ok (.getfield 15, 3) := by decide +kernel
theorem dX6_takeFrom_27 : decode cX6_takeFrom 27 = .ok (.iconst 0, 1) := by decide +kernel
theorem dX6_takeFrom_28 : decode cX6_takeFrom 28 = .ok (.aload_n 0, 1) := by decide +kernel
theorem dX6_takeFrom_29 : decode cX6_takeFrom 29 = .ok (.getfield 15, 3) := by decide +kernel
theorem dX6_takeFrom_32 : decode cX6_takeFrom 32 = .ok (.iconst 0, 1) := by decide +kernel
theorem dX6_takeFrom_33 : decode cX6_takeFrom 33 = .ok (.bipush 6, 2) := by decide +kernel
theorem dX6_takeFrom_35 : decode cX6_takeFrom 35 = .ok (.invokestatic 28, 3) := by decide +kernel
theorem dX6_takeFrom_38 : decode cX6_takeFrom 38 = .ok (.aload_n 1, 1) := by decide +kernel
theorem dX6_takeFrom_39 : decode cX6_takeFrom 39 = .ok (.getfield 18, 3) := by decide +kernel
theorem dX6_takeFrom_42 : decode cX6_takeFrom 42 = .ok (.iconst 0, 1) := by decide +kernel
theorem dX6_takeFrom_43 : decode cX6_takeFrom 43 = .ok (.aload_n 0, 1) := by decide +kernel
theorem dX6_takeFrom_44 : decode cX6_takeFrom 44 = .ok (.getfield 18, 3) := by decide +kernel
theorem dX6_takeFrom_47 : decode cX6_takeFrom 47 = .ok (.iconst 0, 1) := by decide +kernel
theorem dX6_takeFrom_48 : decode cX6_takeFrom 48 = .ok (.bipush 6, 2) := by decide +kernel
theorem dX6_takeFrom_50 : decode cX6_takeFrom 50 = .ok (.invokestatic 28, 3) := by decide +kernel
theorem dX6_takeFrom_53 : decode cX6_takeFrom 53 = .ok (.aload_n 1, 1) := by decide +kernel
theorem dX6_takeFrom_54 : decode cX6_takeFrom 54 = .ok (.getfield 21, 3) := by decide +kernel
theorem dX6_takeFrom_57 : decode cX6_takeFrom 57 = .ok (.iconst 0, 1) := by decide +kernel
theorem dX6_takeFrom_58 : decode cX6_takeFrom 58 = .ok (.aload_n 0, 1) := by decide +kernel
theorem dX6_takeFrom_59 : decode cX6_takeFrom 59 = .ok (.getfield 21, 3) := by decide +kernel
theorem dX6_takeFrom_62 : decode cX6_takeFrom 62 = .ok (.iconst 0, 1) := by decide +kernel
theorem dX6_takeFrom_63 : decode cX6_takeFrom 63 = .ok (.bipush 6, 2) := by decide +kernel
theorem dX6_takeFrom_65 : decode cX6_takeFrom 65 = .ok (.invokestatic 28, 3) := by decide +kernel
theorem dX6_takeFrom_68 : decode cX6_takeFrom 68 = .ok (.return_, 1) := by decide +kernel
theorem dX6_add_0 : decode cX6_add 0 = .ok (.aload_n 0, 1) := by decide +kernel
theorem dX6_add_1 : decode cX6_add 1 = .ok (.getfield 24, 3) := by decide +kernel
theorem dX6_add_4 : decode cX6_add 4 = .ok (.bipush 6, 2) := by decide +kernel
theorem dX6_add_6 : decode cX6_add 6 = .ok (.if_icmp .lt 6, 3) := by decide +kernel
theorem dX6_add_9 : decode cX6_add 9 = .ok (.bipush (-13), 2) := by decide +kernel
theorem dX6_add_11 : decode cX6_add 11 = .ok (.ireturn, 1) := by decide +kernel
theorem dX6_add_12 : decode cX6_add 12 = .ok (.aload_n 0, 1) := by decide +kernel
theorem dX6_add_13 : decode cX6_add 13 = .ok (.getfield 9, 3) := by decide +kernel
theorem dX6_add_16 : decode cX6_add 16 = .ok (.aload_n 0, 1) := by decide +kernel
theorem dX6_add_17 : decode cX6_add 17 = .ok (.getfield 24, 3) := by decide +kernel
theorem dX6_add_20 : decode cX6_add 20 = .ok (.iload_n 1, 1) := by decide +kernel
theorem dX6_add_21 : decode cX6_add 21 = .ok (.iastore, 1) := by decide +kernel
theorem dX6_add_22 : decode cX6_add 22 = .ok (.aload_n 0, 1) := by decide +kernel
theorem dX6_add_23 : decode cX6_add 23 = .ok (.getfield 15, 3) := by decide +kernel
theorem dX6_add_26 : decode cX6_add 26 = .ok (.aload_n 0, 1) := by decide +kernel
theorem dX6_add_27 : decode cX6_add 27 = .ok (.getfield 24, 3) := by decide +kernel
theorem dX6_add_30 : decode cX6_add 30 = .ok (.iload_n 2, 1) := by decide +kernel
theorem dX6_add_31 : decode cX6_add 31 = .ok (.iastore, 1) := by decide +kernel
theorem dX6_add_32 : decode cX6_add 32 = .ok (.aload_n 0, 1) := by decide +kernel
theorem dX6_add_33 : decode cX6_add 33 = .ok (.getfield 18, 3) := by decide +kernel
theorem dX6_add_36 : decode cX6_add 36 = .ok (.aload_n 0, 1) := by decide +kernel
theorem dX6_add_37 : decode cX6_add 37 = .ok (.getfield 24, 3) := by decide +kernel
theorem dX6_add_40 : decode cX6_add 40 = .ok (.iload_n 3, 1) := by decide +kernel
theorem dX6_add_41 : decode cX6_add 41 = .ok (.iastore, 1) := by decide +kernel
theorem dX6_add_42 : decode cX6_add 42 = .ok (.aload_n 0, 1) := by decide +kernel
theorem dX6_add_43 : decode cX6_add 43 = .ok (.getfield 21, 3) := by decide +kernel
theorem dX6_add_46 : decode cX6_add 46 = .ok (.aload_n 0, 1) := by decide +kernel
theorem dX6_add_47 : decode cX6_add 47 = .ok (.getfield 24, 3) := by decide +kernel
theorem dX6_add_50 : decode cX6_add 50 = .ok (.iload 4, 2) := by decide +kernel
theorem dX6_add_52 : decode cX6_add 52 = .ok (.iastore, 1) := by decide +kernel
theorem dX6_add_53 : decode cX6_add 53 = .ok (.aload_n 0, 1) := by decide +kernel
theorem dX6_add_54 : decode cX6_add 54 = .ok (.dup, 1) := by decide +kernel
theorem dX6_add_55 : decode cX6_add 55 = .ok (.getfield 24, 3) := by decide +kernel
theorem dX6_add_58 : decode cX6_add 58 = .ok (.iconst 1, 1) := by decide +kernel
theorem dX6_add_59 : decode cX6_add 59 = .ok (.iadd, 1) := by decide +kernel
theorem dX6_add_60 : decode cX6_add 60 = .ok (.putfield 24, 3) := by decide +kernel
theorem dX6_add_63 : decode cX6_add 63 = .ok (.aload_n 0, 1) := by decide +kernel
theorem dX6_add_64 : decode cX6_add 64 = .ok (.getfield 24, 3) := by decide +kernel
theorem dX6_add_67 : decode cX6_add 67 = .ok (.ireturn, 1) := by decide +kernel
theorem dX6_dropLast_0 : decode cX6_dropLast 0 = .ok (.aload_n 0, 1) := by decide +kernel
theorem dX6_dropLast_1 : decode cX6_dropLast 1 = .ok (.getfield 24, 3) := by decide +kernel
theorem dX6_dropLast_4 : decode cX6_dropLast 4 = .ok (.ifCond .ne 6, 3) := by decide +kernel
theorem dX6_dropLast_7 : decode cX6_dropLast 7 = .ok (.bipush (-2), 2) := by decide +kernel
theorem dX6_dropLast_9 : decode cX6_dropLast 9 = .ok (.ireturn, 1) := by decide +kernel
theorem dX6_dropLast_10 : decode cX6_dropLast 10 = .ok (.aload_n 0, 1) := by decide +kernel
theorem dX6_dropLast_11 : decode cX6_dropLast 11 = .ok (.dup, 1) := by decide +kernel
theorem dX6_dropLast_12 : decode cX6_dropLast 12 = .ok (.getfield 24, 3) := by decide +kernel
theorem dX6_dropLast_15 : decode cX6_dropLast 15 = .ok (.iconst 1, 1) := by decide +kernel
theorem dX6_dropLast_16 : decode cX6_dropLast 16 = .ok (.isub, 1) := by decide +kernel
theorem dX6_dropLast_17 : decode cX6_dropLast 17 = .ok (.putfield 24, 3) := by decide +kernel
theorem dX6_dropLast_20 : decode cX6_dropLast 20 = .ok (.aload_n 0, 1) := by decide +kernel
theorem dX6_dropLast_21 : decode cX6_dropLast 21 = .ok (.getfield 24, 3) := by decide +kernel
theorem dX6_dropLast_24 : decode cX6_dropLast 24 = .ok (.ireturn, 1) := by decide +kernel
theorem dX6_firstFor_0 : decode cX6_firstFor 0 = .ok (.iconst 0, 1) := by decide +kernel
theorem dX6_firstFor_1 : decode cX6_firstFor 1 = .ok (.istore_n 2, 1) := by decide +kernel
theorem dX6_firstFor_2 : decode cX6_firstFor 2 = .ok (.iload_n 2, 1) := by decide +kernel
theorem dX6_firstFor_3 : decode cX6_firstFor 3 = .ok (.aload_n 0, 1) := by decide +kernel
theorem dX6_firstFor_4 : decode cX6_firstFor 4 = .ok (.getfield 24, 3) := by decide +kernel
theorem dX6_firstFor_7 : decode cX6_firstFor 7 = .ok (.if_icmp .ge 44, 3) := by decide +kernel
theorem dX6_firstFor_10 : decode cX6_firstFor 10 = .ok (.aload_n 1, 1) := by decide +kernel
theorem dX6_firstFor_11 : decode cX6_firstFor 11 = .ok (.aload_n 0, 1) := by decide +kernel
theorem dX6_firstFor_12 : decode cX6_firstFor 12 = .ok (.getfield 9, 3) := by decide +kernel
theorem dX6_firstFor_15 : decode cX6_firstFor 15 = .ok (.iload_n 2, 1) := by decide +kernel
theorem dX6_firstFor_16 : decode cX6_firstFor 16 = .ok (.iaload, 1) := by decide +kernel
theorem dX6_firstFor_17 : decode cX6_firstFor 17 = .ok (.invokevirtual 34, 3) := by decide +kernel
theorem dX6_firstFor_20 : decode cX6_firstFor 20 = .ok (.istore_n 3, 1) := by decide +kernel
theorem dX6_firstFor_21 : decode cX6_firstFor 21 = .ok (.iload_n 3, 1) := by decide +kernel
theorem dX6_firstFor_22 : decode cX6_firstFor 22 = .ok (.aload_n 0, 1) := by decide +kernel
theorem dX6_firstFor_23 : decode cX6_firstFor 23 = .ok (.getfield 15, 3) := by decide +kernel
theorem dX6_firstFor_26 : decode cX6_firstFor 26 = .ok (.iload_n 2, 1) := by decide +kernel
theorem dX6_firstFor_27 : decode cX6_firstFor 27 = .ok (.iaload, 1) := by decide +kernel
theorem dX6_firstFor_28 : decode cX6_firstFor 28 = .ok (.if_icmp .lt 17, 3) := by decide +kernel
theorem dX6_firstFor_31 : decode cX6_firstFor 31 = .ok (.iload_n 3, 1) := by decide +kernel
theorem dX6_firstFor_32 : decode cX6_firstFor 32 = .ok (.aload_n 0, 1) := by decide +kernel
theorem dX6_firstFor_33 : decode cX6_firstFor 33 = .ok (.getfield 18, 3) := by decide +kernel
theorem dX6_firstFor_36 : decode cX6_firstFor 36 = .ok (.iload_n 2, 1) := by decide +kernel
theorem dX6_firstFor_37 : decode cX6_firstFor 37 = .ok (.iaload, 1) := by decide +kernel
theorem dX6_firstFor_38 : decode cX6_firstFor 38 = .ok (.if_icmp .gt 7, 3) := by decide +kernel
theorem dX6_firstFor_41 : decode cX6_firstFor 41 = .ok (.iload_n 2, 1) := by decide +kernel
theorem dX6_firstFor_42 : decode cX6_firstFor 42 = .ok (.iconst 1, 1) := by decide +kernel
theorem dX6_firstFor_43 : decode cX6_firstFor 43 = .ok (.iadd, 1) := by decide +kernel
theorem dX6_firstFor_44 : decode cX6_firstFor 44 = .ok (.ireturn, 1) := by decide +kernel
theorem dX6_firstFor_45 : decode cX6_firstFor 45 = .ok (.iinc 2 1, 3) := by decide +kernel
theorem dX6_firstFor_48 : decode cX6_firstFor 48 = .ok (.goto (-46), 3) := by decide +kernel
theorem dX6_firstFor_51 : decode cX6_firstFor 51 = .ok (.iconst 0, 1) := by decide +kernel
theorem dX6_firstFor_52 : decode cX6_firstFor 52 = .ok (.ireturn, 1) := by decide +kernel
theorem dX6_wayOfRule_0 : decode cX6_wayOfRule 0 = .ok (.iload_n 1, 1) := by decide +kernel
theorem dX6_wayOfRule_1 : decode cX6_wayOfRule 1 = .ok (.iconst 1, 1) := by decide +kernel
theorem dX6_wayOfRule_2 : decode cX6_wayOfRule 2 = .ok (.if_icmp .lt 22, 3) := by decide +kernel
theorem dX6_wayOfRule_5 : decode cX6_wayOfRule 5 = .ok (.iload_n 1, 1) := by decide +kernel
theorem dX6_wayOfRule_6 : decode cX6_wayOfRule 6 = .ok (.aload_n 0, 1) := by decide +kernel
theorem dX6_wayOfRule_7 : decode cX6_wayOfRule 7 = .ok (.getfield 24, 3) := by decide +kernel
theorem dX6_wayOfRule_10 : decode cX6_wayOfRule 10 = .ok (.if_icmp .gt 14, 3) := by decide +kernel
theorem dX6_wayOfRule_13 : decode cX6_wayOfRule 13 = .ok (.aload_n 0, 1) := by decide +kernel
theorem dX6_wayOfRule_14 : decode cX6_wayOfRule 14 = .ok (.getfield 21, 3) := by decide +kernel
theorem dX6_wayOfRule_17 : decode cX6_wayOfRule 17 = .ok (.iload_n 1, 1) := by decide +kernel
theorem dX6_wayOfRule_18 : decode cX6_wayOfRule 18 = .ok (.iconst 1, 1) := by decide +kernel
theorem dX6_wayOfRule_19 : decode cX6_wayOfRule 19 = .ok (.isub, 1) := by decide +kernel
theorem dX6_wayOfRule_20 : decode cX6_wayOfRule 20 = .ok (.iaload, 1) := by decide +kernel
theorem dX6_wayOfRule_21 : decode cX6_wayOfRule 21 = .ok (.goto 4, 3) := by decide +kernel
theorem dX6_wayOfRule_24 : decode cX6_wayOfRule 24 = .ok (.iconst 0, 1) := by decide +kernel
theorem dX6_wayOfRule_25 : decode cX6_wayOfRule 25 = .ok (.ireturn, 1) := by decide +kernel
theorem dX7_init_0 : decode cX7_init 0 = .ok (.aload_n 0, 1) := by decide +kernel
theorem dX7_init_1 : decode cX7_init 1 = .ok (.invokespecial 3, 3) := by decide +kernel
theorem dX7_init_4 : decode cX7_init 4 = .ok (.aload_n 0, 1) := by decide +kernel
theorem dX7_init_5 : decode cX7_init 5 = .ok (.bipush 8, 2) := by decide +kernel
theorem dX7_init_7 : decode cX7_init 7 = .ok (.newarray .int, 2) := by decide +kernel
theorem dX7_init_9 : decode cX7_init 9 = .ok (.putfield 9, 3) := by decide +kernel
theorem dX7_init_12 : decode cX7_init 12 = .ok (.aload_n 0, 1) := by decide +kernel
theorem dX7_init_13 : decode cX7_init 13 = .ok (.bipush 8, 2) := by decide +kernel
theorem dX7_init_15 : decode cX7_init 15 = .ok (.newarray .int, 2) := by decide +kernel
theorem dX7_init_17 : decode cX7_init 17 = .ok (.putfield 15, 3) := by decide +kernel
theorem dX7_init_20 : decode cX7_init 20 = .ok (.return_, 1) := by decide +kernel
theorem dX7_begin_0 : decode cX7_begin 0 = .ok (.aload_n 0, 1) := by decide +kernel
theorem dX7_begin_1 : decode cX7_begin 1 = .ok (.getfield 9, 3) := by decide +kernel
theorem dX7_begin_4 : decode cX7_begin 4 = .ok (.iconst 0, 1) := by decide +kernel
theorem dX7_begin_5 : decode cX7_begin 5 = .ok (.invokestatic 18, 3) := by decide +kernel
theorem dX7_begin_8 : decode cX7_begin 8 = .ok (.aload_n 0, 1) := by decide +kernel
theorem dX7_begin_9 : decode cX7_begin 9 = .ok (.getfield 15, 3) := by decide +kernel
theorem dX7_begin_12 : decode cX7_begin 12 = .ok (.iconst 0, 1) := by decide +kernel
theorem dX7_begin_13 : decode cX7_begin 13 = .ok (.invokestatic 18, 3) := by decide +kernel
theorem dX7_begin_16 : decode cX7_begin 16 = .ok (.return_, 1) := by decide +kernel
theorem dX7_takeFrom_0 : decode cX7_takeFrom 0 = .ok (.aload_n 1, 1) := by decide +kernel
theorem dX7_takeFrom_1 : decode cX7_takeFrom 1 = .ok (.getfield 9, 3) := by decide +kernel
theorem dX7_takeFrom_4 : decode cX7_takeFrom 4 = .ok (.iconst 0, 1) := by decide +kernel
theorem dX7_takeFrom_5 : decode cX7_takeFrom 5 = .ok (.aload_n 0, 1) := by decide +kernel
theorem dX7_takeFrom_6 : decode cX7_takeFrom 6 = .ok (.getfield 9, 3) := by decide +kernel
theorem dX7_takeFrom_9 : decode cX7_takeFrom 9 = .ok (.iconst 0, 1) := by decide +kernel
theorem dX7_takeFrom_10 : decode cX7_takeFrom 10 = .ok (.bipush 8, 2) := by decide +kernel
theorem dX7_takeFrom_12 : decode cX7_takeFrom 12 = .ok (.invokestatic 24, 3) := by decide +kernel
theorem dX7_takeFrom_15 : decode cX7_takeFrom 15 = .ok (.aload_n 1, 1) := by decide +kernel
theorem dX7_takeFrom_16 : decode cX7_takeFrom 16 = .ok (.getfield 15, 3) := by decide +kernel
theorem dX7_takeFrom_19 : decode cX7_takeFrom 19 = .ok (.iconst 0, 1) := by decide +kernel
theorem dX7_takeFrom_20 : decode cX7_takeFrom 20 = .ok (.aload_n 0, 1) := by decide +kernel
theorem dX7_takeFrom_21 : decode cX7_takeFrom 21 = .ok (.getfield 15, 3) := by decide +kernel
theorem dX7_takeFrom_24 : decode cX7_takeFrom 24 = .ok (.iconst 0, 1) := by decide +kernel
theorem dX7_takeFrom_25 : decode cX7_takeFrom 25 = .ok (.bipush 8, 2) := by decide +kernel
theorem dX7_takeFrom_27 : decode cX7_takeFrom 27 = .ok (.invokestatic 24, 3) := by decide +kernel
theorem dX7_takeFrom_30 : decode cX7_takeFrom 30 = .ok (.return_, 1) := by decide +kernel
theorem dX7_firstOf_0 : decode cX7_firstOf 0 = .ok (.iload_n 1, 1) := by decide +kernel
theorem dX7_firstOf_1 : decode cX7_firstOf 1 = .ok (.invokestatic 30, 3) := by decide +kernel
theorem dX7_firstOf_4 : decode cX7_firstOf 4 = .ok (.ifCond .eq 12, 3) := by decide +kernel
theorem dX7_firstOf_7 : decode cX7_firstOf 7 = .ok (.aload_n 0, 1) := by decide +kernel
theorem dX7_firstOf_8 : decode cX7_firstOf 8 = .ok (.getfield 9, 3) := by decide +kernel
theorem dX7_firstOf_11 : decode cX7_firstOf 11 = .ok (.iload_n 1, 1) := by decide +kernel
theorem dX7_firstOf_12 : decode cX7_firstOf 12 = .ok (.iaload, 1) := by decide +kernel
theorem dX7_firstOf_13 : decode cX7_firstOf 13 = .ok (.goto 4, 3) := by decide +kernel
theorem dX7_firstOf_16 : decode cX7_firstOf 16 = .ok (.iconst 0, 1) := by decide +kernel
theorem dX7_firstOf_17 : decode cX7_firstOf 17 = .ok (.ireturn, 1) := by decide +kernel
theorem dX7_sizeOf_0 : decode cX7_sizeOf 0 = .ok (.iload_n 1, 1) := by decide +kernel
theorem dX7_sizeOf_1 : decode cX7_sizeOf 1 = .ok (.invokestatic 30, 3) := by decide +kernel
theorem dX7_sizeOf_4 : decode cX7_sizeOf 4 = .ok (.ifCond .eq 12, 3) := by decide +kernel
theorem dX7_sizeOf_7 : decode cX7_sizeOf 7 = .ok (.aload_n 0, 1) := by decide +kernel
theorem dX7_sizeOf_8 : decode cX7_sizeOf 8 = .ok (.getfield 15, 3) := by decide +kernel
theorem dX7_sizeOf_11 : decode cX7_sizeOf 11 = .ok (.iload_n 1, 1) := by decide +kernel
theorem dX7_sizeOf_12 : decode cX7_sizeOf 12 = .ok (.iaload, 1) := by decide +kernel
theorem dX7_sizeOf_13 : decode cX7_sizeOf 13 = .ok (.goto 4, 3) := by decide +kernel
theorem dX7_sizeOf_16 : decode cX7_sizeOf 16 = .ok (.iconst 0, 1) := by decide +kernel
theorem dX7_sizeOf_17 : decode cX7_sizeOf 17 = .ok (.ireturn, 1) := by decide +kernel
theorem dX7_put_0 : decode cX7_put 0 = .ok (.iload_n 1, 1) := by decide +kernel
theorem dX7_put_1 : decode cX7_put 1 = .ok (.invokestatic 30, 3) := by decide +kernel
theorem dX7_put_4 : decode cX7_put 4 = .ok (.ifCond .eq 17, 3) := by decide +kernel
theorem dX7_put_7 : decode cX7_put 7 = .ok (.aload_n 0, 1) := by decide +kernel
theorem dX7_put_8 : decode cX7_put 8 = .ok (.getfield 9, 3) := by decide +kernel
theorem dX7_put_11 : decode cX7_put 11 = .ok (.iload_n 1, 1) := by decide +kernel
theorem dX7_put_12 : decode cX7_put 12 = .ok (.iload_n 2, 1) := by decide +kernel
theorem dX7_put_13 : decode cX7_put 13 = .ok (.iastore, 1) := by decide +kernel
theorem dX7_put_14 : decode cX7_put 14 = .ok (.aload_n 0, 1) := by decide +kernel
theorem dX7_put_15 : decode cX7_put 15 = .ok (.getfield 15, 3) := by decide +kernel
theorem dX7_put_18 : decode cX7_put 18 = .ok (.iload_n 1, 1) := by decide +kernel
theorem dX7_put_19 : decode cX7_put 19 = .ok (.iload_n 3, 1) := by decide +kernel
theorem dX7_put_20 : decode cX7_put 20 = .ok (.iastore, 1) := by decide +kernel
theorem dX7_put_21 : decode cX7_put 21 = .ok (.return_, 1) := by decide +kernel
theorem dX7_fits_0 : decode cX7_fits 0 = .ok (.iload_n 2, 1) := by decide +kernel
theorem dX7_fits_1 : decode cX7_fits 1 = .ok (.sipush 9999, 3) := by decide +kernel
theorem dX7_fits_4 : decode cX7_fits 4 = .ok (.invokestatic 34, 3) := by decide +kernel
theorem dX7_fits_7 : decode cX7_fits 7 = .ok (.ifCond .eq 15, 3) := by decide +kernel
theorem dX7_fits_10 : decode cX7_fits 10 = .ok (.iload_n 3, 1) := by decide +kernel
theorem dX7_fits_11 : decode cX7_fits 11 = .ok (.sipush 10000, 3) := by decide +kernel
theorem dX7_fits_14 : decode cX7_fits 14 = .ok (.iload_n 2, 1) := by decide +kernel
theorem dX7_fits_15 : decode cX7_fits 15 = .ok (.isub, 1) := by decide +kernel
theorem dX7_fits_16 : decode cX7_fits 16 = .ok (.invokestatic 34, 3) := by decide +kernel
theorem dX7_fits_19 : decode cX7_fits 19 = .ok (.ifCond .ne 5, 3) := by decide +kernel
theorem dX7_fits_22 : decode cX7_fits 22 = .ok (.iconst 0, 1) := by decide +kernel
theorem dX7_fits_23 : decode cX7_fits 23 = .ok (.ireturn, 1) := by decide +kernel
theorem dX7_fits_24 : decode cX7_fits 24 = .ok (.iconst 1, 1) := by decide +kernel
theorem dX7_fits_25 : decode cX7_fits 25 = .ok (.istore 4, 2) := by decide +kernel
theorem dX7_fits_27 : decode cX7_fits 27 = .ok (.iload 4, 2) := by decide +kernel
theorem dX7_fits_29 : decode cX7_fits 29 = .ok (.bipush 8, 2) := by decide +kernel
theorem dX7_fits_31 : decode cX7_fits 31 = .ok (.if_icmp .ge 28, 3) := by decide +kernel
theorem dX7_fits_34 : decode cX7_fits 34 = .ok (.iload 4, 2) := by decide +kernel
theorem dX7_fits_36 : decode cX7_fits 36 = .ok (.iload_n 1, 1) := by decide +kernel
theorem dX7_fits_37 : decode cX7_fits 37 = .ok (.if_icmp .eq 16, 3) := by decide +kernel
theorem dX7_fits_40 : decode cX7_fits 40 = .ok (.aload_n 0, 1) := by decide +kernel
theorem dX7_fits_41 : decode cX7_fits 41 = .ok (.iload 4, 2) := by decide +kernel
theorem dX7_fits_43 : decode cX7_fits 43 = .ok (.iload_n 2, 1) := by decide +kernel
theorem dX7_fits_44 : decode cX7_fits 44 = .ok (.iload_n 3, 1) := by decide +kernel
theorem dX7_fits_45 : decode cX7_fits 45 = .ok (.invokevirtual 38, 3) := by decide +kernel
theorem dX7_fits_48 : decode cX7_fits 48 = .ok (.ifCond .eq 5, 3) := by decide +kernel
theorem dX7_fits_51 : decode cX7_fits 51 = .ok (.iconst 0, 1) := by decide +kernel
theorem dX7_fits_52 : decode cX7_fits 52 = .ok (.ireturn, 1) := by decide +kernel
theorem dX7_fits_53 : decode cX7_fits 53 = .ok (.iinc 4 1, 3) := by decide +kernel
theorem dX7_fits_56 : decode cX7_fits 56 = .ok (.goto (-29), 3) := by decide +kernel
theorem dX7_fits_59 : decode cX7_fits 59 = .ok (.iconst 1, 1) := by decide +kernel
theorem dX7_fits_60 : decode cX7_fits 60 = .ok (.ireturn, 1) := by decide +kernel
theorem dX7_goesOver_0 : decode cX7_goesOver 0 = .ok (.iload_n 3, 1) := by decide +kernel
theorem dX7_goesOver_1 : decode cX7_goesOver 1 = .ok (.ifCond .le 45, 3) := by decide +kernel
theorem dX7_goesOver_4 : decode cX7_goesOver 4 = .ok (.aload_n 0, 1) := by decide +kernel
theorem dX7_goesOver_5 : decode cX7_goesOver 5 = .ok (.getfield 15, 3) := by decide +kernel
theorem dX7_goesOver_8 : decode cX7_goesOver 8 = .ok (.iload_n 1, 1) := by decide +kernel
theorem dX7_goesOver_9 : decode cX7_goesOver 9 = .ok (.iaload, 1) := by decide +kernel
theorem dX7_goesOver_10 : decode cX7_goesOver 10 = .ok (.ifCond .le 36, 3) := by decide +kernel
theorem dX7_goesOver_13 : decode cX7_goesOver 13 = .ok (.iload_n 2, 1) := by decide +kernel
theorem dX7_goesOver_14 : decode cX7_goesOver 14 = .ok (.aload_n 0, 1) := by decide +kernel
theorem dX7_goesOver_15 : decode cX7_goesOver 15 = .ok (.getfield 9, 3) := by decide +kernel
theorem dX7_goesOver_18 : decode cX7_goesOver 18 = .ok (.iload_n 1, 1) := by decide +kernel
theorem dX7_goesOver_19 : decode cX7_goesOver 19 = .ok (.iaload, 1) := by decide +kernel
theorem dX7_goesOver_20 : decode cX7_goesOver 20 = .ok (.aload_n 0, 1) := by decide +kernel
theorem dX7_goesOver_21 : decode cX7_goesOver 21 = .ok (.getfield 15, 3) := by decide +kernel
theorem dX7_goesOver_24 : decode cX7_goesOver 24 = .ok (.iload_n 1, 1) := by decide +kernel
theorem dX7_goesOver_25 : decode cX7_goesOver 25 = .ok (.iaload, 1) := by decide +kernel
theorem dX7_goesOver_26 : decode cX7_goesOver 26 = .ok (.iadd, 1) := by decide +kernel
theorem dX7_goesOver_27 : decode cX7_goesOver 27 = .ok (.if_icmp .ge 19, 3) := by decide +kernel
theorem dX7_goesOver_30 : decode cX7_goesOver 30 = .ok (.aload_n 0, 1) := by decide +kernel
theorem dX7_goesOver_31 : decode cX7_goesOver 31 = .ok (.getfield 9, 3) := by decide +kernel
theorem dX7_goesOver_34 : decode cX7_goesOver 34 = .ok (.iload_n 1, 1) := by decide +kernel
theorem dX7_goesOver_35 : decode cX7_goesOver 35 = .ok (.iaload, 1) := by decide +kernel
theorem dX7_goesOver_36 : decode cX7_goesOver 36 = .ok (.iload_n 2, 1) := by decide +kernel
theorem dX7_goesOver_37 : decode cX7_goesOver 37 = .ok (.iload_n 3, 1) := by decide +kernel
theorem dX7_goesOver_38 : decode cX7_goesOver 38 = .ok (.iadd, 1) := by decide +kernel
theorem dX7_goesOver_39 : decode cX7_goesOver 39 = .ok (.if_icmp .ge 7, 3) := by decide +kernel
theorem dX7_goesOver_42 : decode cX7_goesOver 42 = .ok (.iconst 1, 1) := by decide +kernel
theorem dX7_goesOver_43 : decode cX7_goesOver 43 = .ok (.goto 4, 3) := by decide +kernel
theorem dX7_goesOver_46 : decode cX7_goesOver 46 = .ok (.iconst 0, 1) := by decide +kernel
theorem dX7_goesOver_47 : decode cX7_goesOver 47 = .ok (.ireturn, 1) := by decide +kernel
theorem dX7_wayOfSeat_0 : decode cX7_wayOfSeat 0 = .ok (.iconst 1, 1) := by decide +kernel
theorem dX7_wayOfSeat_1 : decode cX7_wayOfSeat 1 = .ok (.istore_n 2, 1) := by decide +kernel
theorem dX7_wayOfSeat_2 : decode cX7_wayOfSeat 2 = .ok (.iload_n 2, 1) := by decide +kernel
theorem dX7_wayOfSeat_3 : decode cX7_wayOfSeat 3 = .ok (.bipush 8, 2) := by decide +kernel
theorem dX7_wayOfSeat_5 : decode cX7_wayOfSeat 5 = .ok (.if_icmp .ge 38, 3) := by decide +kernel
theorem dX7_wayOfSeat_8 : decode cX7_wayOfSeat 8 = .ok (.iload_n 1, 1) := by decide +kernel
theorem dX7_wayOfSeat_9 : decode cX7_wayOfSeat 9 = .ok (.aload_n 0, 1) := by decide +kernel
theorem dX7_wayOfSeat_10 : decode cX7_wayOfSeat 10 = .ok (.getfield 9, 3) := by decide +kernel
theorem dX7_wayOfSeat_13 : decode cX7_wayOfSeat 13 = .ok (.iload_n 2, 1) := by decide +kernel
theorem dX7_wayOfSeat_14 : decode cX7_wayOfSeat 14 = .ok (.iaload, 1) := by decide +kernel
theorem dX7_wayOfSeat_15 : decode cX7_wayOfSeat 15 = .ok (.if_icmp .lt 22, 3) := by decide +kernel
theorem dX7_wayOfSeat_18 : decode cX7_wayOfSeat 18 = .ok (.iload_n 1, 1) := by decide +kernel
theorem dX7_wayOfSeat_19 : decode cX7_wayOfSeat 19 = .ok (.aload_n 0, 1) := by decide +kernel
theorem dX7_wayOfSeat_20 : decode cX7_wayOfSeat 20 = .ok (.getfield 9, 3) := by decide +kernel
theorem dX7_wayOfSeat_23 : decode cX7_wayOfSeat 23 = .ok (.iload_n 2, 1) := by decide +kernel
theorem dX7_wayOfSeat_24 : decode cX7_wayOfSeat 24 = .ok (.iaload, 1) := by decide +kernel
theorem dX7_wayOfSeat_25 : decode cX7_wayOfSeat 25 = .ok (.aload_n 0, 1) := by decide +kernel
theorem dX7_wayOfSeat_26 : decode cX7_wayOfSeat 26 = .ok (.getfield 15, 3) := by decide +kernel
theorem dX7_wayOfSeat_29 : decode cX7_wayOfSeat 29 = .ok (.iload_n 2, 1) := by decide +kernel
theorem dX7_wayOfSeat_30 : decode cX7_wayOfSeat 30 = .ok (.iaload, 1) := by decide +kernel
theorem dX7_wayOfSeat_31 : decode cX7_wayOfSeat 31 = .ok (.iadd, 1) := by decide +kernel
theorem dX7_wayOfSeat_32 : decode cX7_wayOfSeat 32 = .ok (.if_icmp .ge 5, 3) := by decide +kernel
theorem dX7_wayOfSeat_35 : decode cX7_wayOfSeat 35 = .ok (.iload_n 2, 1) := by decide +kernel
theorem dX7_wayOfSeat_36 : decode cX7_wayOfSeat 36 = .ok (.ireturn, 1) := by decide +kernel
theorem dX7_wayOfSeat_37 : decode cX7_wayOfSeat 37 = .ok (.iinc 2 1, 3) := by decide +kernel
theorem dX7_wayOfSeat_40 : decode cX7_wayOfSeat 40 = .ok (.goto (-38), 3) := by decide +kernel
theorem dX7_wayOfSeat_43 : decode cX7_wayOfSeat 43 = .ok (.iconst 0, 1) := by decide +kernel
theorem dX7_wayOfSeat_44 : decode cX7_wayOfSeat 44 = .ok (.ireturn, 1) := by decide +kernel
theorem dX7_wouldMove_0 : decode cX7_wouldMove 0 = .ok (.aload_n 0, 1) := by decide +kernel
theorem dX7_wouldMove_1 : decode cX7_wouldMove 1 = .ok (.getfield 9, 3) := by decide +kernel
theorem dX7_wouldMove_4 : decode cX7_wouldMove 4 = .ok (.iconst 1, 1) := by decide +kernel
theorem dX7_wouldMove_5 : decode cX7_wouldMove 5 = .ok (.iaload, 1) := by decide +kernel
theorem dX7_wouldMove_6 : decode cX7_wouldMove 6 = .ok (.istore_n 3, 1) := by decide +kernel
theorem dX7_wouldMove_7 : decode cX7_wouldMove 7 = .ok (.iload_n 1, 1) := by decide +kernel
theorem dX7_wouldMove_8 : decode cX7_wouldMove 8 = .ok (.iload_n 3, 1) := by decide +kernel
theorem dX7_wouldMove_9 : decode cX7_wouldMove 9 = .ok (.if_icmp .lt 19, 3) := by decide +kernel
theorem dX7_wouldMove_12 : decode cX7_wouldMove 12 = .ok (.iload_n 1, 1) := by decide +kernel
theorem dX7_wouldMove_13 : decode cX7_wouldMove 13 = .ok (.iload_n 3, 1) := by decide +kernel
theorem dX7_wouldMove_14 : decode cX7_wouldMove 14 = .ok (.aload_n 0, 1) := by decide +kernel
theorem dX7_wouldMove_15 : decode cX7_wouldMove 15 = .ok (.getfield 15, 3) := by decide +kernel
theorem dX7_wouldMove_18 : decode cX7_wouldMove 18 = .ok (.iconst 1, 1) := by decide +kernel
theorem dX7_wouldMove_19 : decode cX7_wouldMove 19 = .ok (.iaload, 1) := by decide +kernel
theorem dX7_wouldMove_20 : decode cX7_wouldMove 20 = .ok (.iadd, 1) := by decide +kernel
theorem dX7_wouldMove_21 : decode cX7_wouldMove 21 = .ok (.if_icmp .ge 7, 3) := by decide +kernel
theorem dX7_wouldMove_24 : decode cX7_wouldMove 24 = .ok (.iconst 1, 1) := by decide +kernel
theorem dX7_wouldMove_25 : decode cX7_wouldMove 25 = .ok (.goto 4, 3) := by decide +kernel
theorem dX7_wouldMove_28 : decode cX7_wouldMove 28 = .ok (.iconst 0, 1) := by decide +kernel
theorem dX7_wouldMove_29 : decode cX7_wouldMove 29 = .ok (.istore 4, 2) := by decide +kernel
theorem dX7_wouldMove_31 : decode cX7_wouldMove 31 = .ok (.iload_n 1, 1) := by decide +kernel
theorem dX7_wouldMove_32 : decode cX7_wouldMove 32 = .ok (.iload_n 3, 1) := by decide +kernel
theorem dX7_wouldMove_33 : decode cX7_wouldMove 33 = .ok (.if_icmp .lt 14, 3) := by decide +kernel
theorem dX7_wouldMove_36 : decode cX7_wouldMove 36 = .ok (.iload_n 1, 1) := by decide +kernel
theorem dX7_wouldMove_37 : decode cX7_wouldMove 37 = .ok (.iload_n 3, 1) := by decide +kernel
theorem dX7_wouldMove_38 : decode cX7_wouldMove 38 = .ok (.iload_n 2, 1) := by decide +kernel
theorem dX7_wouldMove_39 : decode cX7_wouldMove 39 = .ok (.iadd, 1) := by decide +kernel
theorem dX7_wouldMove_40 : decode cX7_wouldMove 40 = .ok (.if_icmp .ge 7, 3) := by decide +kernel
theorem dX7_wouldMove_43 : decode cX7_wouldMove 43 = .ok (.iconst 1, 1) := by decide +kernel
theorem dX7_wouldMove_44 : decode cX7_wouldMove 44 = .ok (.goto 4, 3) := by decide +kernel
theorem dX7_wouldMove_47 : decode cX7_wouldMove 47 = .ok (.iconst 0, 1) := by decide +kernel
theorem dX7_wouldMove_48 : decode cX7_wouldMove 48 = .ok (.istore 5, 2) := by decide +kernel
theorem dX7_wouldMove_50 : decode cX7_wouldMove 50 = .ok (.iload 4, 2) := by decide +kernel
theorem dX7_wouldMove_52 : decode cX7_wouldMove 52 = .ok (.iload 5, 2) := by decide +kernel
theorem dX7_wouldMove_54 : decode cX7_wouldMove 54 = .ok (.if_icmp .eq 7, 3) := by decide +kernel
theorem dX7_wouldMove_57 : decode cX7_wouldMove 57 = .ok (.iconst 1, 1) := by decide +kernel
theorem dX7_wouldMove_58 : decode cX7_wouldMove 58 = .ok (.goto 4, 3) := by decide +kernel
theorem dX7_wouldMove_61 : decode cX7_wouldMove 61 = .ok (.iconst 0, 1) := by decide +kernel
theorem dX7_wouldMove_62 : decode cX7_wouldMove 62 = .ok (.ireturn, 1) := by decide +kernel
theorem dX8_init_0 : decode cX8_init 0 = .ok (.aload_n 0, 1) := by decide +kernel
theorem dX8_init_1 : decode cX8_init 1 = .ok (.invokespecial 3, 3) := by decide +kernel
theorem dX8_init_4 : decode cX8_init 4 = .ok (.aload_n 0, 1) := by decide +kernel
theorem dX8_init_5 : decode cX8_init 5 = .ok (.bipush 16, 2) := by decide +kernel
theorem dX8_init_7 : decode cX8_init 7 = .ok (.anewarray 9, 3) := by decide +kernel
theorem dX8_init_10 : decode cX8_init 10 = .ok (.putfield 11, 3) := by decide +kernel
theorem dX8_init_13 : decode cX8_init 13 = .ok (.iconst 0, 1) := by decide +kernel
theorem dX8_init_14 : decode cX8_init 14 = .ok (.istore_n 1, 1) := by decide +kernel
theorem dX8_init_15 : decode cX8_init 15 = .ok (.iload_n 1, 1) := by decide +kernel
theorem dX8_init_16 : decode cX8_init 16 = .ok (.bipush 16, 2) := by decide +kernel
theorem dX8_init_18 : decode cX8_init 18 = .ok (.if_icmp .ge 22, 3) := by decide +kernel
theorem dX8_init_21 : decode cX8_init 21 = .ok (.aload_n 0, 1) := by decide +kernel
theorem dX8_init_22 : decode cX8_init 22 = .ok (.getfield 11, 3) := by decide +kernel
theorem dX8_init_25 : decode cX8_init 25 = .ok (.iload_n 1, 1) := by decide +kernel
theorem dX8_init_26 : decode cX8_init 26 = .ok (.new 9, 3) := by decide +kernel
theorem dX8_init_29 : decode cX8_init 29 = .ok (.dup, 1) := by decide +kernel
theorem dX8_init_30 : decode cX8_init 30 = .ok (.invokespecial 17, 3) := by decide +kernel
theorem dX8_init_33 : decode cX8_init 33 = .ok (.aastore, 1) := by decide +kernel
theorem dX8_init_34 : decode cX8_init 34 = .ok (.iinc 1 1, 3) := by decide +kernel
theorem dX8_init_37 : decode cX8_init 37 = .ok (.goto (-22), 3) := by decide +kernel
theorem dX8_init_40 : decode cX8_init 40 = .ok (.return_, 1) := by decide +kernel
theorem dX8_placeAt_0 : decode cX8_placeAt 0 = .ok (.iload_n 1, 1) := by decide +kernel
theorem dX8_placeAt_1 : decode cX8_placeAt 1 = .ok (.bipush 15, 2) := by decide +kernel
theorem dX8_placeAt_3 : decode cX8_placeAt 3 = .ok (.invokestatic 18, 3) := by decide +kernel
theorem dX8_placeAt_6 : decode cX8_placeAt 6 = .ok (.ifCond .eq 12, 3) := by decide +kernel
theorem dX8_placeAt_9 : decode cX8_placeAt 9 = .ok (.aload_n 0, 1) := by decide +kernel
theorem dX8_placeAt_10 : decode cX8_placeAt 10 = .ok (.getfield 11, 3) := by decide +kernel
theorem dX8_placeAt_13 : decode cX8_placeAt 13 = .ok (.iload_n 1, 1) := by decide +kernel
theorem dX8_placeAt_14 : decode cX8_placeAt 14 = .ok (.aaload, 1) := by decide +kernel
theorem dX8_placeAt_15 : decode cX8_placeAt 15 = .ok (.goto 4, 3) := by decide +kernel
theorem dX8_placeAt_18 : decode cX8_placeAt 18 = .ok (.aconst_null, 1) := by decide +kernel
theorem dX8_placeAt_19 : decode cX8_placeAt 19 = .ok (.areturn, 1) := by decide +kernel
theorem dX8_switchAt_0 : decode cX8_switchAt 0 = .ok (.aload_n 0, 1) := by decide +kernel
theorem dX8_switchAt_1 : decode cX8_switchAt 1 = .ok (.iload_n 1, 1) := by decide +kernel
theorem dX8_switchAt_2 : decode cX8_switchAt 2 = .ok (.invokevirtual 22, 3) := by decide +kernel
theorem dX8_switchAt_5 : decode cX8_switchAt 5 = .ok (.astore_n 2, 1) := by decide +kernel
theorem dX8_switchAt_6 : decode cX8_switchAt 6 = .ok (.aload_n 2, 1) := by decide +kernel
theorem dX8_switchAt_7 : decode cX8_switchAt 7 = .ok (.ifnonnull 7, 3) := by decide +kernel
theorem dX8_switchAt_10 : decode cX8_switchAt 10 = .ok (.aconst_null, 1) := by decide +kernel
theorem dX8_switchAt_11 : decode cX8_switchAt 11 = .ok (.goto 7, 3) := by decide +kernel
theorem dX8_switchAt_14 : decode cX8_switchAt 14 = .ok (.aload_n 2, 1) := by decide +kernel
theorem dX8_switchAt_15 : decode cX8_switchAt 15 = .ok (.getfield 26, 3) := by decide +kernel
theorem dX8_switchAt_18 : decode cX8_switchAt 18 = .ok (.areturn, 1) := by decide +kernel
theorem dX8_find_0 : decode cX8_find 0 = .ok (.aload_n 0, 1) := by decide +kernel
theorem dX8_find_1 : decode cX8_find 1 = .ok (.iload_n 1, 1) := by decide +kernel
theorem dX8_find_2 : decode cX8_find 2 = .ok (.iload_n 2, 1) := by decide +kernel
theorem dX8_find_3 : decode cX8_find 3 = .ok (.invokevirtual 30, 3) := by decide +kernel
theorem dX8_find_6 : decode cX8_find 6 = .ok (.ifCond .ne 11, 3) := by decide +kernel
theorem dX8_find_9 : decode cX8_find 9 = .ok (.aload_n 0, 1) := by decide +kernel
theorem dX8_find_10 : decode cX8_find 10 = .ok (.iload_n 1, 1) := by decide +kernel
theorem dX8_find_11 : decode cX8_find 11 = .ok (.invokevirtual 34, 3) := by decide +kernel
theorem dX8_find_14 : decode cX8_find 14 = .ok (.goto 4, 3) := by decide +kernel
theorem dX8_find_17 : decode cX8_find 17 = .ok (.aconst_null, 1) := by decide +kernel
theorem dX8_find_18 : decode cX8_find 18 = .ok (.areturn, 1) := by decide +kernel
theorem dX8_faultAt_0 : decode cX8_faultAt 0 = .ok (.aload_n 0, 1) := by decide +kernel
theorem dX8_faultAt_1 : decode cX8_faultAt 1 = .ok (.iload_n 1, 1) := by decide +kernel
theorem dX8_faultAt_2 : decode cX8_faultAt 2 = .ok (.invokevirtual 22, 3) := by decide +kernel
theorem dX8_faultAt_5 : decode cX8_faultAt 5 = .ok (.astore_n 3, 1) := by decide +kernel
theorem dX8_faultAt_6 : decode cX8_faultAt 6 = .ok (.aload_n 3, 1) := by decide +kernel
theorem dX8_faultAt_7 : decode cX8_faultAt 7 = .ok (.ifnonnull 6, 3) := by decide +kernel
theorem dX8_faultAt_10 : decode cX8_faultAt 10 = .ok (.bipush (-3), 2) := by decide +kernel
theorem dX8_faultAt_12 : decode cX8_faultAt 12 = .ok (.ireturn, 1) := by decide +kernel
theorem dX8_faultAt_13 : decode cX8_faultAt 13 = .ok (.aload_n 3, 1) := by decide +kernel
theorem dX8_faultAt_14 : decode cX8_faultAt 14 = .ok (.getfield 26, 3) := by decide +kernel
theorem dX8_faultAt_17 : decode cX8_faultAt 17 = .ok (.ifnonnull 18, 3) := by decide +kernel
theorem dX8_faultAt_20 : decode cX8_faultAt 20 = .ok (.aload_n 3, 1) := by decide +kernel
theorem dX8_faultAt_21 : decode cX8_faultAt 21 = .ok (.getfield 38, 3) := by decide +kernel
theorem dX8_faultAt_24 : decode cX8_faultAt 24 = .ok (.ifCond .eq 8, 3) := by decide +kernel
theorem dX8_faultAt_27 : decode cX8_faultAt 27 = .ok (.bipush (-5), 2) := by decide +kernel
theorem dX8_faultAt_29 : decode cX8_faultAt 29 = .ok (.goto 5, 3) := by decide +kernel
theorem dX8_faultAt_32 : decode cX8_faultAt 32 = .ok (.bipush (-2), 2) := by decide +kernel
theorem dX8_faultAt_34 : decode cX8_faultAt 34 = .ok (.ireturn, 1) := by decide +kernel
theorem dX8_faultAt_35 : decode cX8_faultAt 35 = .ok (.iload_n 2, 1) := by decide +kernel
theorem dX8_faultAt_36 : decode cX8_faultAt 36 = .ok (.aload_n 3, 1) := by decide +kernel
theorem dX8_faultAt_37 : decode cX8_faultAt 37 = .ok (.getfield 26, 3) := by decide +kernel
theorem dX8_faultAt_40 : decode cX8_faultAt 40 = .ok (.getfield 42, 3) := by decide +kernel
theorem dX8_faultAt_43 : decode cX8_faultAt 43 = .ok (.invokestatic 48, 3) := by decide +kernel
theorem dX8_faultAt_46 : decode cX8_faultAt 46 = .ok (.ifCond .eq 7, 3) := by decide +kernel
theorem dX8_faultAt_49 : decode cX8_faultAt 49 = .ok (.iconst 0, 1) := by decide +kernel
theorem dX8_faultAt_50 : decode cX8_faultAt 50 = .ok (.goto 5, 3) := by decide +kernel
theorem dX8_faultAt_53 : decode cX8_faultAt 53 = .ok (.bipush (-5), 2) := by decide +kernel
theorem dX8_faultAt_55 : decode cX8_faultAt 55 = .ok (.ireturn, 1) := by decide +kernel
theorem dX8_switchCount_0 : decode cX8_switchCount 0 = .ok (.iconst 0, 1) := by decide +kernel
theorem dX8_switchCount_1 : decode cX8_switchCount 1 = .ok (.istore_n 1, 1) := by decide +kernel
theorem dX8_switchCount_2 : decode cX8_switchCount 2 = .ok (.iconst 0, 1) := by decide +kernel
theorem dX8_switchCount_3 : decode cX8_switchCount 3 = .ok (.istore_n 2, 1) := by decide +kernel
theorem dX8_switchCount_4 : decode cX8_switchCount 4 = .ok (.iload_n 2, 1) := by decide +kernel
theorem dX8_switchCount_5 : decode cX8_switchCount 5 = .ok (.bipush 16, 2) := by decide +kernel
theorem dX8_switchCount_7 : decode cX8_switchCount 7 = .ok (.if_icmp .ge 20, 3) := by decide +kernel
theorem dX8_switchCount_10 : decode cX8_switchCount 10 = .ok (.aload_n 0, 1) := by decide +kernel
theorem dX8_switchCount_11 : decode cX8_switchCount 11 = .ok (.iload_n 2, 1) := by decide +kernel
theorem dX8_switchCount_12 : decode cX8_switchCount 12 = .ok (.invokevirtual 34, 3) := by decide +kernel
theorem dX8_switchCount_15 : decode cX8_switchCount 15 = .ok (.ifnull 6, 3) := by decide +kernel
theorem dX8_switchCount_18 : decode cX8_switchCount 18 = .ok (.iinc 1 1, 3) := by decide +kernel
theorem dX8_switchCount_21 : decode cX8_switchCount 21 = .ok (.iinc 2 1, 3) := by decide +kernel
theorem dX8_switchCount_24 : decode cX8_switchCount 24 = .ok (.goto (-20), 3) := by decide +kernel
theorem dX8_switchCount_27 : decode cX8_switchCount 27 = .ok (.iload_n 1, 1) := by decide +kernel
theorem dX8_switchCount_28 : decode cX8_switchCount 28 = .ok (.ireturn, 1) := by decide +kernel
theorem dX8_takeFrom_0 : decode cX8_takeFrom 0 = .ok (.iconst 0, 1) := by decide +kernel
theorem dX8_takeFrom_1 : decode cX8_takeFrom 1 = .ok (.istore_n 2, 1) := by decide +kernel
theorem dX8_takeFrom_2 : decode cX8_takeFrom 2 = .ok (.iload_n 2, 1) := by decide +kernel
theorem dX8_takeFrom_3 : decode cX8_takeFrom 3 = .ok (.bipush 16, 2) := by decide +kernel
theorem dX8_takeFrom_5 : decode cX8_takeFrom 5 = .ok (.if_icmp .ge 24, 3) := by decide +kernel
theorem dX8_takeFrom_8 : decode cX8_takeFrom 8 = .ok (.aload_n 0, 1) := by decide +kernel
theorem dX8_takeFrom_9 : decode cX8_takeFrom 9 = .ok (.getfield 11, 3) := by decide +kernel
theorem dX8_takeFrom_12 : decode cX8_takeFrom 12 = .ok (.iload_n 2, 1) := by decide +kernel
theorem dX8_takeFrom_13 : decode cX8_takeFrom 13 = .ok (.aaload, 1) := by decide +kernel
theorem dX8_takeFrom_14 : decode cX8_takeFrom 14 = .ok (.aload_n 1, 1) := by decide +kernel
theorem dX8_takeFrom_15 : decode cX8_takeFrom 15 = .ok (.getfield 11, 3) := by decide +kernel
theorem dX8_takeFrom_18 : decode cX8_takeFrom 18 = .ok (.iload_n 2, 1) := by decide +kernel
theorem dX8_takeFrom_19 : decode cX8_takeFrom 19 = .ok (.aaload, 1) := by decide +kernel
theorem dX8_takeFrom_20 : decode cX8_takeFrom 20 = .ok (.invokevirtual 51, 3) := by decide +kernel
theorem dX8_takeFrom_23 : decode cX8_takeFrom 23 = .ok (.iinc 2 1, 3) := by decide +kernel
theorem dX8_takeFrom_26 : decode cX8_takeFrom 26 = .ok (.goto (-24), 3) := by decide +kernel
theorem dX8_takeFrom_29 : decode cX8_takeFrom 29 = .ok (.return_, 1) := by decide +kernel
theorem dX9_init_0 : decode cX9_init 0 = .ok (.aload_n 0, 1) := by decide +kernel
theorem dX9_init_1 : decode cX9_init 1 = .ok (.invokespecial 3, 3) := by decide +kernel
theorem dX9_init_4 : decode cX9_init 4 = .ok (.aload_n 0, 1) := by decide +kernel
theorem dX9_init_5 : decode cX9_init 5 = .ok (.new 9, 3) := by decide +kernel
theorem dX9_init_8 : decode cX9_init 8 = .ok (.dup, 1) := by decide +kernel
theorem dX9_init_9 : decode cX9_init 9 = .ok (.invokespecial 11, 3) := by decide +kernel
theorem dX9_init_12 : decode cX9_init 12 = .ok (.putfield 12, 3) := by decide +kernel
theorem dX9_init_15 : decode cX9_init 15 = .ok (.aload_n 0, 1) := by decide +kernel
theorem dX9_init_16 : decode cX9_init 16 = .ok (.new 18, 3) := by decide +kernel
theorem dX9_init_19 : decode cX9_init 19 = .ok (.dup, 1) := by decide +kernel
theorem dX9_init_20 : decode cX9_init 20 = .ok (.invokespecial 20, 3) := by decide +kernel
theorem dX9_init_23 : decode cX9_init 23 = .ok (.putfield 21, 3) := by decide +kernel
theorem dX9_init_26 : decode cX9_init 26 = .ok (.aload_n 0, 1) := by decide +kernel
theorem dX9_init_27 : decode cX9_init 27 = .ok (.new 25, 3) := by decide +kernel
theorem dX9_init_30 : decode cX9_init 30 = .ok (.dup, 1) := by decide +kernel
theorem dX9_init_31 : decode cX9_init 31 = .ok (.invokespecial 27, 3) := by decide +kernel
theorem dX9_init_34 : decode cX9_init 34 = .ok (.putfield 28, 3) := by decide +kernel
theorem dX9_init_37 : decode cX9_init 37 = .ok (.aload_n 0, 1) := by decide +kernel
theorem dX9_init_38 : decode cX9_init 38 = .ok (.new 32, 3) := by decide +kernel
theorem dX9_init_41 : decode cX9_init 41 = .ok (.dup, 1) := by decide +kernel
theorem dX9_init_42 : decode cX9_init 42 = .ok (.invokespecial 34, 3) := by decide +kernel
theorem dX9_init_45 : decode cX9_init 45 = .ok (.putfield 35, 3) := by decide +kernel
theorem dX9_init_48 : decode cX9_init 48 = .ok (.aload_n 0, 1) := by decide +kernel
theorem dX9_init_49 : decode cX9_init 49 = .ok (.new 39, 3) := by decide +kernel
theorem dX9_init_52 : decode cX9_init 52 = .ok (.dup, 1) := by decide +kernel
theorem dX9_init_53 : decode cX9_init 53 = .ok (.invokespecial 41, 3) := by decide +kernel
theorem dX9_init_56 : decode cX9_init 56 = .ok (.putfield 42, 3) := by decide +kernel
theorem dX9_init_59 : decode cX9_init 59 = .ok (.aload_n 0, 1) := by decide +kernel
theorem dX9_init_60 : decode cX9_init 60 = .ok (.iconst 4, 1) := by decide +kernel
theorem dX9_init_61 : decode cX9_init 61 = .ok (.anewarray 46, 3) := by decide +kernel
theorem dX9_init_64 : decode cX9_init 64 = .ok (.putfield 48, 3) := by decide +kernel
theorem dX9_init_67 : decode cX9_init 67 = .ok (.iconst 0, 1) := by decide +kernel
theorem dX9_init_68 : decode cX9_init 68 = .ok (.istore_n 1, 1) := by decide +kernel
theorem dX9_init_69 : decode cX9_init 69 = .ok (.iload_n 1, 1) := by decide +kernel
theorem dX9_init_70 : decode cX9_init 70 = .ok (.iconst 4, 1) := by decide +kernel
theorem dX9_init_71 : decode cX9_init 71 = .ok (.if_icmp .ge 22, 3) := by decide +kernel
theorem dX9_init_74 : decode cX9_init 74 = .ok (.aload_n 0, 1) := by decide +kernel
theorem dX9_init_75 : decode cX9_init 75 = .ok (.getfield 48, 3) := by decide +kernel
theorem dX9_init_78 : decode cX9_init 78 = .ok (.iload_n 1, 1) := by decide +kernel
theorem dX9_init_79 : decode cX9_init 79 = .ok (.new 46, 3) := by decide +kernel
theorem dX9_init_82 : decode cX9_init 82 = .ok (.dup, 1) := by decide +kernel
theorem dX9_init_83 : decode cX9_init 83 = .ok (.invokespecial 52, 3) := by decide +kernel
theorem dX9_init_86 : decode cX9_init 86 = .ok (.aastore, 1) := by decide +kernel
theorem dX9_init_87 : decode cX9_init 87 = .ok (.iinc 1 1, 3) := by decide +kernel
theorem dX9_init_90 : decode cX9_init 90 = .ok (.goto (-21), 3) := by decide +kernel
theorem dX9_init_93 : decode cX9_init 93 = .ok (.return_, 1) := by decide +kernel
theorem dX9_begin_0 : decode cX9_begin 0 = .ok (.aload_n 0, 1) := by decide +kernel
theorem dX9_begin_1 : decode cX9_begin 1 = .ok (.iload_n 1, 1) := by decide +kernel
theorem dX9_begin_2 : decode cX9_begin 2 = .ok (.putfield 53, 3) := by decide +kernel
theorem dX9_begin_5 : decode cX9_begin 5 = .ok (.aload_n 0, 1) := by decide +kernel
theorem dX9_begin_6 : decode cX9_begin 6 = .ok (.iload_n 2, 1) := by decide +kernel
theorem dX9_begin_7 : decode cX9_begin 7 = .ok (.putfield 57, 3) := by decide +kernel
theorem dX9_begin_10 : decode cX9_begin 10 = .ok (.aload_n 0, 1) := by decide +kernel
theorem dX9_begin_11 : decode cX9_begin 11 = .ok (.iload_n 3, 1) := by decide +kernel
theorem dX9_begin_12 : decode cX9_begin 12 = .ok (.putfield 60, 3) := by decide +kernel
theorem dX9_begin_15 : decode cX9_begin 15 = .ok (.aload_n 0, 1) := by decide +kernel
theorem dX9_begin_16 : decode cX9_begin 16 = .ok (.getfield 12, 3) := by decide +kernel
theorem dX9_begin_19 : decode cX9_begin 19 = .ok (.invokevirtual 63, 3) := by decide +kernel
theorem dX9_begin_22 : decode cX9_begin 22 = .ok (.aload_n 0, 1) := by decide +kernel
theorem dX9_begin_23 : decode cX9_begin 23 = .ok (.getfield 21, 3) := by decide +kernel
theorem dX9_begin_26 : decode cX9_begin 26 = .ok (.invokevirtual 66, 3) := by decide +kernel
theorem dX9_begin_29 : decode cX9_begin 29 = .ok (.aload_n 0, 1) := by decide +kernel
theorem dX9_begin_30 : decode cX9_begin 30 = .ok (.iconst (-1), 1) := by decide +kernel
theorem dX9_begin_31 : decode cX9_begin 31 = .ok (.iconst 0, 1) := by decide +kernel
theorem dX9_begin_32 : decode cX9_begin 32 = .ok (.invokevirtual 67, 3) := by decide +kernel
theorem dX9_begin_35 : decode cX9_begin 35 = .ok (.aload_n 0, 1) := by decide +kernel
theorem dX9_begin_36 : decode cX9_begin 36 = .ok (.iconst 0, 1) := by decide +kernel
theorem dX9_begin_37 : decode cX9_begin 37 = .ok (.putfield 71, 3) := by decide +kernel
theorem dX9_begin_40 : decode cX9_begin 40 = .ok (.aload_n 0, 1) := by decide +kernel
theorem dX9_begin_41 : decode cX9_begin 41 = .ok (.iconst 0, 1) := by decide +kernel
theorem dX9_begin_42 : decode cX9_begin 42 = .ok (.putfield 74, 3) := by decide +kernel
theorem dX9_begin_45 : decode cX9_begin 45 = .ok (.aload_n 0, 1) := by decide +kernel
theorem dX9_begin_46 : decode cX9_begin 46 = .ok (.getfield 28, 3) := by decide +kernel
theorem dX9_begin_49 : decode cX9_begin 49 = .ok (.invokevirtual 78, 3) := by decide +kernel
theorem dX9_begin_52 : decode cX9_begin 52 = .ok (.aload_n 0, 1) := by decide +kernel
theorem dX9_begin_53 : decode cX9_begin 53 = .ok (.getfield 35, 3) := by decide +kernel
theorem dX9_begin_56 : decode cX9_begin 56 = .ok (.invokevirtual 79, 3) := by decide +kernel
theorem dX9_begin_59 : decode cX9_begin 59 = .ok (.aload_n 0, 1) := by decide +kernel
theorem dX9_begin_60 : decode cX9_begin 60 = .ok (.getfield 42, 3) := by decide +kernel
theorem dX9_begin_63 : decode cX9_begin 63 = .ok (.iconst 0, 1) := by decide +kernel
theorem dX9_begin_64 : decode cX9_begin 64 = .ok (.iconst 1, 1) := by decide +kernel
theorem dX9_begin_65 : decode cX9_begin 65 = .ok (.sipush 500, 3) := by decide +kernel
theorem dX9_begin_68 : decode cX9_begin 68 = .ok (.iconst 1, 1) := by decide +kernel
theorem dX9_begin_69 : decode cX9_begin 69 = .ok (.invokevirtual 80, 3) := by decide +kernel
theorem dX9_begin_72 : decode cX9_begin 72 = .ok (.iconst 0, 1) := by decide +kernel
theorem dX9_begin_73 : decode cX9_begin 73 = .ok (.istore 4, 2) := by decide +kernel
theorem dX9_begin_75 : decode cX9_begin 75 = .ok (.iload 4, 2) := by decide +kernel
theorem dX9_begin_77 : decode cX9_begin 77 = .ok (.iconst 4, 1) := by decide +kernel
theorem dX9_begin_78 : decode cX9_begin 78 = .ok (.if_icmp .ge 20, 3) := by decide +kernel
theorem dX9_begin_81 : decode cX9_begin 81 = .ok (.aload_n 0, 1) := by decide +kernel
theorem dX9_begin_82 : decode cX9_begin 82 = .ok (.getfield 48, 3) := by decide +kernel
theorem dX9_begin_85 : decode cX9_begin 85 = .ok (.iload 4, 2) := by decide +kernel
theorem dX9_begin_87 : decode cX9_begin 87 = .ok (.aaload, 1) := by decide +kernel
theorem dX9_begin_88 : decode cX9_begin 88 = .ok (.iconst 1, 1) := by decide +kernel
theorem dX9_begin_89 : decode cX9_begin 89 = .ok (.invokevirtual 83, 3) := by decide +kernel
theorem dX9_begin_92 : decode cX9_begin 92 = .ok (.iinc 4 1, 3) := by decide +kernel
theorem dX9_begin_95 : decode cX9_begin 95 = .ok (.goto (-20), 3) := by decide +kernel
theorem dX9_begin_98 : decode cX9_begin 98 = .ok (.return_, 1) := by decide +kernel
theorem dX9_takeFrom_0 : decode cX9_takeFrom 0 = .ok (.aload_n 0, 1) := by decide +kernel
theorem dX9_takeFrom_1 : decode cX9_takeFrom 1 = .ok (.aload_n 1, 1) := by decide +kernel
theorem dX9_takeFrom_2 : decode cX9_takeFrom 2 = .ok (.getfield 53, 3) := by decide +kernel
theorem dX9_takeFrom_5 : decode cX9_takeFrom 5 = .ok (.putfield 53, 3) := by decide +kernel
theorem dX9_takeFrom_8 : decode cX9_takeFrom 8 = .ok (.aload_n 0, 1) := by decide +kernel
theorem dX9_takeFrom_9 : decode cX9_takeFrom 9 = .ok (.aload_n 1, 1) := by decide +kernel
theorem dX9_takeFrom_10 : decode cX9_takeFrom 10 = .ok (.getfield 57, 3) := by decide +kernel
theorem dX9_takeFrom_13 : decode cX9_takeFrom 13 = .ok (.putfield 57, 3) := by decide +kernel
theorem dX9_takeFrom_16 : decode cX9_takeFrom 16 = .ok (.aload_n 0, 1) := by decide +kernel
theorem dX9_takeFrom_17 : decode cX9_takeFrom 17 = .ok (.aload_n 1, 1) := by decide +kernel
theorem dX9_takeFrom_18 : decode cX9_takeFrom 18 = .ok (.getfield 60, 3) := by decide +kernel
theorem dX9_takeFrom_21 : decode cX9_takeFrom 21 = .ok (.putfield 60, 3) := by decide +kernel
theorem dX9_takeFrom_24 : decode cX9_takeFrom 24 = .ok (.aload_n 0, 1) := by decide +kernel
theorem dX9_takeFrom_25 : decode cX9_takeFrom 25 = .ok (.getfield 12, 3) := by decide +kernel
theorem dX9_takeFrom_28 : decode cX9_takeFrom 28 = .ok (.aload_n 1, 1) := by decide +kernel
theorem dX9_takeFrom_29 : decode cX9_takeFrom 29 = .ok (.getfield 12, 3) := by decide +kernel
theorem dX9_takeFrom_32 : decode cX9_takeFrom 32 = .ok (.invokevirtual 86, 3) := by decide +kernel
theorem dX9_takeFrom_35 : decode cX9_takeFrom 35 = .ok (.aload_n 0, 1) := by decide +kernel
theorem dX9_takeFrom_36 : decode cX9_takeFrom 36 = .ok (.getfield 21, 3) := by decide +kernel
theorem dX9_takeFrom_39 : decode cX9_takeFrom 39 = .ok (.aload_n 1, 1) := by decide +kernel
theorem dX9_takeFrom_40 : decode cX9_takeFrom 40 = .ok (.getfield 21, 3) := by decide +kernel
theorem dX9_takeFrom_43 : decode cX9_takeFrom 43 = .ok (.invokevirtual 90, 3) := by decide +kernel
theorem dX9_takeFrom_46 : decode cX9_takeFrom 46 = .ok (.aload_n 0, 1) := by decide +kernel
theorem dX9_takeFrom_47 : decode cX9_takeFrom 47 = .ok (.aload_n 1, 1) := by decide +kernel
theorem dX9_takeFrom_48 : decode cX9_takeFrom 48 = .ok (.getfield 93, 3) := by decide +kernel
theorem dX9_takeFrom_51 : decode cX9_takeFrom 51 = .ok (.aload_n 1, 1) := by decide +kernel
theorem dX9_takeFrom_52 : decode cX9_takeFrom 52 = .ok (.getfield 96, 3) := by decide +kernel
theorem dX9_takeFrom_55 : decode cX9_takeFrom 55 = .ok (.invokevirtual 67, 3) := by decide +kernel
theorem dX9_takeFrom_58 : decode cX9_takeFrom 58 = .ok (.aload_n 0, 1) := by decide +kernel
theorem dX9_takeFrom_59 : decode cX9_takeFrom 59 = .ok (.aload_n 1, 1) := by decide +kernel
theorem dX9_takeFrom_60 : decode cX9_takeFrom 60 = .ok (.getfield 71, 3) := by decide +kernel
theorem dX9_takeFrom_63 : decode cX9_takeFrom 63 = .ok (.putfield 71, 3) := by decide +kernel
theorem dX9_takeFrom_66 : decode cX9_takeFrom 66 = .ok (.aload_n 0, 1) := by decide +kernel
theorem dX9_takeFrom_67 : decode cX9_takeFrom 67 = .ok (.aload_n 1, 1) := by decide +kernel
theorem dX9_takeFrom_68 : decode cX9_takeFrom 68 = .ok (.getfield 74, 3) := by decide +kernel
theorem dX9_takeFrom_71 : decode cX9_takeFrom 71 = .ok (.putfield 74, 3) := by decide +kernel
theorem dX9_takeFrom_74 : decode cX9_takeFrom 74 = .ok (.aload_n 0, 1) := by decide +kernel
theorem dX9_takeFrom_75 : decode cX9_takeFrom 75 = .ok (.getfield 28, 3) := by decide +kernel
theorem dX9_takeFrom_78 : decode cX9_takeFrom 78 = .ok (.aload_n 1, 1) := by decide +kernel
theorem dX9_takeFrom_79 : decode cX9_takeFrom 79 = .ok (.getfield 28, 3) := by decide +kernel
theorem dX9_takeFrom_82 : decode cX9_takeFrom 82 = .ok (.invokevirtual 99, 3) := by decide +kernel
theorem dX9_takeFrom_85 : decode cX9_takeFrom 85 = .ok (.aload_n 0, 1) := by decide +kernel
theorem dX9_takeFrom_86 : decode cX9_takeFrom 86 = .ok (.getfield 35, 3) := by decide +kernel
theorem dX9_takeFrom_89 : decode cX9_takeFrom 89 = .ok (.aload_n 1, 1) := by decide +kernel
theorem dX9_takeFrom_90 : decode cX9_takeFrom 90 = .ok (.getfield 35, 3) := by decide +kernel
theorem dX9_takeFrom_93 : decode cX9_takeFrom 93 = .ok (.invokevirtual 102, 3) := by decide +kernel
theorem dX9_takeFrom_96 : decode cX9_takeFrom 96 = .ok (.aload_n 0, 1) := by decide +kernel
theorem dX9_takeFrom_97 : decode cX9_takeFrom 97 = .ok (.getfield 42, 3) := by decide +kernel
theorem dX9_takeFrom_100 : decode cX9_takeFrom 100 = .ok (.aload_n 1, 1) := by decide +kernel
theorem dX9_takeFrom_101 : decode cX9_takeFrom 101 = .ok (.getfield 42, 3) := by decide +kernel
theorem dX9_takeFrom_104 : decode cX9_takeFrom 104 = .ok (.invokevirtual 105, 3) := by decide +kernel
theorem dX9_takeFrom_107 : decode cX9_takeFrom 107 = .ok (.iconst 0, 1) := by decide +kernel
theorem dX9_takeFrom_108 : decode cX9_takeFrom 108 = .ok (.istore_n 2, 1) := by decide +kernel
theorem dX9_takeFrom_109 : decode cX9_takeFrom 109 = .ok (.iload_n 2, 1) := by decide +kernel
theorem dX9_takeFrom_110 : decode cX9_takeFrom 110 = .ok (.iconst 4, 1) := by decide +kernel
theorem dX9_takeFrom_111 : decode cX9_takeFrom 111 = .ok (.if_icmp .ge 24, 3) := by decide +kernel
theorem dX9_takeFrom_114 : decode cX9_takeFrom 114 = .ok (.aload_n 0, 1) := by decide +kernel
theorem dX9_takeFrom_115 : decode cX9_takeFrom 115 = .ok (.getfield 48, 3) := by decide +kernel
theorem dX9_takeFrom_118 : decode cX9_takeFrom 118 = .ok (.iload_n 2, 1) := by decide +kernel
theorem dX9_takeFrom_119 : decode cX9_takeFrom 119 = .ok (.aaload, 1) := by decide +kernel
theorem dX9_takeFrom_120 : decode cX9_takeFrom 120 = .ok (.aload_n 1, 1) := by decide +kernel
theorem dX9_takeFrom_121 : decode cX9_takeFrom 121 = .ok (.getfield 48, 3) := by decide +kernel
theorem dX9_takeFrom_124 : decode cX9_takeFrom 124 = .ok (.iload_n 2, 1) := by decide +kernel
theorem dX9_takeFrom_125 : decode cX9_takeFrom 125 = .ok (.aaload, 1) := by decide +kernel
theorem dX9_takeFrom_126 : decode cX9_takeFrom 126 = .ok (.invokevirtual 108, 3) := by decide +kernel
theorem dX9_takeFrom_129 : decode cX9_takeFrom 129 = .ok (.iinc 2 1, 3) := by decide +kernel
theorem dX9_takeFrom_132 : decode cX9_takeFrom 132 = .ok (.goto (-23), 3) := by decide +kernel
theorem dX9_takeFrom_135 : decode cX9_takeFrom 135 = .ok (.return_, 1) := by decide +kernel
theorem dX9_seatOf_0 : decode cX9_seatOf 0 = .ok (.aload_n 0, 1) := by decide +kernel
theorem dX9_seatOf_1 : decode cX9_seatOf 1 = .ok (.getfield 57, 3) := by decide +kernel
theorem dX9_seatOf_4 : decode cX9_seatOf 4 = .ok (.i2l, 1) := by decide +kernel
theorem dX9_seatOf_5 : decode cX9_seatOf 5 = .ok (.iload_n 1, 1) := by decide +kernel
theorem dX9_seatOf_6 : decode cX9_seatOf 6 = .ok (.i2l, 1) := by decide +kernel
theorem dX9_seatOf_7 : decode cX9_seatOf 7 = .ok (.lmul, 1) := by decide +kernel
theorem dX9_seatOf_8 : decode cX9_seatOf 8 = .ok (.aload_n 0, 1) := by decide +kernel
theorem dX9_seatOf_9 : decode cX9_seatOf 9 = .ok (.getfield 60, 3) := by decide +kernel
theorem dX9_seatOf_12 : decode cX9_seatOf 12 = .ok (.i2l, 1) := by decide +kernel
theorem dX9_seatOf_13 : decode cX9_seatOf 13 = .ok (.ladd, 1) := by decide +kernel
theorem dX9_seatOf_14 : decode cX9_seatOf 14 = .ok (.ldc2_w 111, 3) := by decide +kernel
theorem dX9_seatOf_17 : decode cX9_seatOf 17 = .ok (.lrem, 1) := by decide +kernel
theorem dX9_seatOf_18 : decode cX9_seatOf 18 = .ok (.l2i, 1) := by decide +kernel
theorem dX9_seatOf_19 : decode cX9_seatOf 19 = .ok (.ireturn, 1) := by decide +kernel
theorem dX9_hangOn_0 : decode cX9_hangOn 0 = .ok (.aload_n 0, 1) := by decide +kernel
theorem dX9_hangOn_1 : decode cX9_hangOn 1 = .ok (.iload_n 1, 1) := by decide +kernel
theorem dX9_hangOn_2 : decode cX9_hangOn 2 = .ok (.putfield 93, 3) := by decide +kernel
theorem dX9_hangOn_5 : decode cX9_hangOn 5 = .ok (.aload_n 0, 1) := by decide +kernel
theorem dX9_hangOn_6 : decode cX9_hangOn 6 = .ok (.iload_n 2, 1) := by decide +kernel
theorem dX9_hangOn_7 : decode cX9_hangOn 7 = .ok (.putfield 96, 3) := by decide +kernel
theorem dX9_hangOn_10 : decode cX9_hangOn 10 = .ok (.return_, 1) := by decide +kernel
theorem dX9_isStopOf_0 : decode cX9_isStopOf 0 = .ok (.aload_n 0, 1) := by decide +kernel
theorem dX9_isStopOf_1 : decode cX9_isStopOf 1 = .ok (.getfield 53, 3) := by decide +kernel
theorem dX9_isStopOf_4 : decode cX9_isStopOf 4 = .ok (.iconst 4, 1) := by decide +kernel
theorem dX9_isStopOf_5 : decode cX9_isStopOf 5 = .ok (.if_icmp .ne 18, 3) := by decide +kernel
theorem dX9_isStopOf_8 : decode cX9_isStopOf 8 = .ok (.aload_n 0, 1) := by decide +kernel
theorem dX9_isStopOf_9 : decode cX9_isStopOf 9 = .ok (.getfield 71, 3) := by decide +kernel
theorem dX9_isStopOf_12 : decode cX9_isStopOf 12 = .ok (.iload_n 1, 1) := by decide +kernel
theorem dX9_isStopOf_13 : decode cX9_isStopOf 13 = .ok (.invokestatic 113, 3) := by decide +kernel
theorem dX9_isStopOf_16 : decode cX9_isStopOf 16 = .ok (.ifCond .eq 7, 3) := by decide +kernel
theorem dX9_isStopOf_19 : decode cX9_isStopOf 19 = .ok (.iconst 1, 1) := by decide +kernel
theorem dX9_isStopOf_20 : decode cX9_isStopOf 20 = .ok (.goto 4, 3) := by decide +kernel
theorem dX9_isStopOf_23 : decode cX9_isStopOf 23 = .ok (.iconst 0, 1) := by decide +kernel
theorem dX9_isStopOf_24 : decode cX9_isStopOf 24 = .ok (.ireturn, 1) := by decide +kernel
theorem dX9_rowOf_0 : decode cX9_rowOf 0 = .ok (.iload_n 1, 1) := by decide +kernel
theorem dX9_rowOf_1 : decode cX9_rowOf 1 = .ok (.iconst 3, 1) := by decide +kernel
theorem dX9_rowOf_2 : decode cX9_rowOf 2 = .ok (.invokestatic 117, 3) := by decide +kernel
theorem dX9_rowOf_5 : decode cX9_rowOf 5 = .ok (.ifCond .eq 24, 3) := by decide +kernel
theorem dX9_rowOf_8 : decode cX9_rowOf 8 = .ok (.aload_n 0, 1) := by decide +kernel
theorem dX9_rowOf_9 : decode cX9_rowOf 9 = .ok (.getfield 48, 3) := by decide +kernel
theorem dX9_rowOf_12 : decode cX9_rowOf 12 = .ok (.iload_n 1, 1) := by decide +kernel
theorem dX9_rowOf_13 : decode cX9_rowOf 13 = .ok (.aaload, 1) := by decide +kernel
theorem dX9_rowOf_14 : decode cX9_rowOf 14 = .ok (.getfield 120, 3) := by decide +kernel
theorem dX9_rowOf_17 : decode cX9_rowOf 17 = .ok (.ifCond .eq 12, 3) := by decide +kernel
theorem dX9_rowOf_20 : decode cX9_rowOf 20 = .ok (.aload_n 0, 1) := by decide +kernel
theorem dX9_rowOf_21 : decode cX9_rowOf 21 = .ok (.getfield 48, 3) := by decide +kernel
theorem dX9_rowOf_24 : decode cX9_rowOf 24 = .ok (.iload_n 1, 1) := by decide +kernel
theorem dX9_rowOf_25 : decode cX9_rowOf 25 = .ok (.aaload, 1) := by decide +kernel
theorem dX9_rowOf_26 : decode cX9_rowOf 26 = .ok (.goto 4, 3) := by decide +kernel
theorem dX9_rowOf_29 : decode cX9_rowOf 29 = .ok (.aconst_null, 1) := by decide +kernel
theorem dX9_rowOf_30 : decode cX9_rowOf 30 = .ok (.areturn, 1) := by decide +kernel
theorem dX9_beginRow_0 : decode cX9_beginRow 0 = .ok (.iload_n 1, 1) := by decide +kernel
theorem dX9_beginRow_1 : decode cX9_beginRow 1 = .ok (.iconst 3, 1) := by decide +kernel
theorem dX9_beginRow_2 : decode cX9_beginRow 2 = .ok (.invokestatic 117, 3) := by decide +kernel
theorem dX9_beginRow_5 : decode cX9_beginRow 5 = .ok (.ifCond .eq 13, 3) := by decide +kernel
theorem dX9_beginRow_8 : decode cX9_beginRow 8 = .ok (.aload_n 0, 1) := by decide +kernel
theorem dX9_beginRow_9 : decode cX9_beginRow 9 = .ok (.getfield 48, 3) := by decide +kernel
theorem dX9_beginRow_12 : decode cX9_beginRow 12 = .ok (.iload_n 1, 1) := by decide +kernel
theorem dX9_beginRow_13 : decode cX9_beginRow 13 = .ok (.aaload, 1) := by decide +kernel
theorem dX9_beginRow_14 : decode cX9_beginRow 14 = .ok (.iload_n 2, 1) := by decide +kernel
theorem dX9_beginRow_15 : decode cX9_beginRow 15 = .ok (.invokevirtual 83, 3) := by decide +kernel
theorem dX9_beginRow_18 : decode cX9_beginRow 18 = .ok (.return_, 1) := by decide +kernel
theorem dX9_standOn_0 : decode cX9_standOn 0 = .ok (.aload_n 0, 1) := by decide +kernel
theorem dX9_standOn_1 : decode cX9_standOn 1 = .ok (.getfield 28, 3) := by decide +kernel
theorem dX9_standOn_4 : decode cX9_standOn 4 = .ok (.iload_n 1, 1) := by decide +kernel
theorem dX9_standOn_5 : decode cX9_standOn 5 = .ok (.putfield 123, 3) := by decide +kernel
theorem dX9_standOn_8 : decode cX9_standOn 8 = .ok (.aload_n 0, 1) := by decide +kernel
theorem dX9_standOn_9 : decode cX9_standOn 9 = .ok (.getfield 21, 3) := by decide +kernel
theorem dX9_standOn_12 : decode cX9_standOn 12 = .ok (.iconst 1, 1) := by decide +kernel
theorem dX9_standOn_13 : decode cX9_standOn 13 = .ok (.aload_n 0, 1) := by decide +kernel
theorem dX9_standOn_14 : decode cX9_standOn 14 = .ok (.getfield 21, 3) := by decide +kernel
theorem dX9_standOn_17 : decode cX9_standOn 17 = .ok (.iconst 1, 1) := by decide +kernel
theorem dX9_standOn_18 : decode cX9_standOn 18 = .ok (.invokevirtual 126, 3) := by decide +kernel
theorem dX9_standOn_21 : decode cX9_standOn 21 = .ok (.aload_n 0, 1) := by decide +kernel
theorem dX9_standOn_22 : decode cX9_standOn 22 = .ok (.getfield 28, 3) := by decide +kernel
theorem dX9_standOn_25 : decode cX9_standOn 25 = .ok (.iload_n 1, 1) := by decide +kernel
theorem dX9_standOn_26 : decode cX9_standOn 26 = .ok (.invokevirtual 130, 3) := by decide +kernel
theorem dX9_standOn_29 : decode cX9_standOn 29 = .ok (.invokevirtual 133, 3) := by decide +kernel
theorem dX9_standOn_32 : decode cX9_standOn 32 = .ok (.return_, 1) := by decide +kernel
theorem dX9_growFault_0 : decode cX9_growFault 0 = .ok (.aload_n 0, 1) := by decide +kernel
theorem dX9_growFault_1 : decode cX9_growFault 1 = .ok (.getfield 28, 3) := by decide +kernel
theorem dX9_growFault_4 : decode cX9_growFault 4 = .ok (.invokevirtual 137, 3) := by decide +kernel
theorem dX9_growFault_7 : decode cX9_growFault 7 = .ok (.ifCond .ne 6, 3) := by decide +kernel
theorem dX9_growFault_10 : decode cX9_growFault 10 = .ok (.bipush (-2), 2) := by decide +kernel
theorem dX9_growFault_12 : decode cX9_growFault 12 = .ok (.ireturn, 1) := by decide +kernel
theorem dX9_growFault_13 : decode cX9_growFault 13 = .ok (.aload_n 0, 1) := by decide +kernel
theorem dX9_growFault_14 : decode cX9_growFault 14 = .ok (.getfield 28, 3) := by decide +kernel
theorem dX9_growFault_17 : decode cX9_growFault 17 = .ok (.getfield 123, 3) := by decide +kernel
theorem dX9_growFault_20 : decode cX9_growFault 20 = .ok (.iconst 1, 1) := by decide +kernel
theorem dX9_growFault_21 : decode cX9_growFault 21 = .ok (.iadd, 1) := by decide +kernel
theorem dX9_growFault_22 : decode cX9_growFault 22 = .ok (.istore_n 2, 1) := by decide +kernel
theorem dX9_growFault_23 : decode cX9_growFault 23 = .ok (.aload_n 0, 1) := by decide +kernel
theorem dX9_growFault_24 : decode cX9_growFault 24 = .ok (.getfield 28, 3) := by decide +kernel
theorem dX9_growFault_27 : decode cX9_growFault 27 = .ok (.iload_n 2, 1) := by decide +kernel
theorem dX9_growFault_28 : decode cX9_growFault 28 = .ok (.invokevirtual 141, 3) := by decide +kernel
theorem dX9_growFault_31 : decode cX9_growFault 31 = .ok (.ifCond .ne 6, 3) := by decide +kernel
theorem dX9_growFault_34 : decode cX9_growFault 34 = .ok (.bipush (-3), 2) := by decide +kernel
theorem dX9_growFault_36 : decode cX9_growFault 36 = .ok (.ireturn, 1) := by decide +kernel
theorem dX9_growFault_37 : decode cX9_growFault 37 = .ok (.aload_n 0, 1) := by decide +kernel
theorem dX9_growFault_38 : decode cX9_growFault 38 = .ok (.getfield 28, 3) := by decide +kernel
theorem dX9_growFault_41 : decode cX9_growFault 41 = .ok (.invokevirtual 145, 3) := by decide +kernel
theorem dX9_growFault_44 : decode cX9_growFault 44 = .ok (.ifCond .eq 19, 3) := by decide +kernel
theorem dX9_growFault_47 : decode cX9_growFault 47 = .ok (.aload_n 0, 1) := by decide +kernel
theorem dX9_growFault_48 : decode cX9_growFault 48 = .ok (.getfield 35, 3) := by decide +kernel
theorem dX9_growFault_51 : decode cX9_growFault 51 = .ok (.aload_n 0, 1) := by decide +kernel
theorem dX9_growFault_52 : decode cX9_growFault 52 = .ok (.iconst 1, 1) := by decide +kernel
theorem dX9_growFault_53 : decode cX9_growFault 53 = .ok (.invokevirtual 148, 3) := by decide +kernel
theorem dX9_growFault_56 : decode cX9_growFault 56 = .ok (.iload_n 1, 1) := by decide +kernel
theorem dX9_growFault_57 : decode cX9_growFault 57 = .ok (.invokevirtual 152, 3) := by decide +kernel
theorem dX9_growFault_60 : decode cX9_growFault 60 = .ok (.goto 4, 3) := by decide +kernel
theorem dX9_growFault_63 : decode cX9_growFault 63 = .ok (.iconst 0, 1) := by decide +kernel
theorem dX9_growFault_64 : decode cX9_growFault 64 = .ok (.istore_n 3, 1) := by decide +kernel
theorem dX9_growFault_65 : decode cX9_growFault 65 = .ok (.iload_n 3, 1) := by decide +kernel
theorem dX9_growFault_66 : decode cX9_growFault 66 = .ok (.ifCond .eq 5, 3) := by decide +kernel
theorem dX9_growFault_69 : decode cX9_growFault 69 = .ok (.iload_n 3, 1) := by decide +kernel
theorem dX9_growFault_70 : decode cX9_growFault 70 = .ok (.ireturn, 1) := by decide +kernel
theorem dX9_growFault_71 : decode cX9_growFault 71 = .ok (.iload_n 1, 1) := by decide +kernel
theorem dX9_growFault_72 : decode cX9_growFault 72 = .ok (.aload_n 0, 1) := by decide +kernel
theorem dX9_growFault_73 : decode cX9_growFault 73 = .ok (.getfield 35, 3) := by decide +kernel
theorem dX9_growFault_76 : decode cX9_growFault 76 = .ok (.getfield 156, 3) := by decide +kernel
theorem dX9_growFault_79 : decode cX9_growFault 79 = .ok (.if_icmp .ge 6, 3) := by decide +kernel
theorem dX9_growFault_82 : decode cX9_growFault 82 = .ok (.bipush (-11), 2) := by decide +kernel
theorem dX9_growFault_84 : decode cX9_growFault 84 = .ok (.ireturn, 1) := by decide +kernel
theorem dX9_growFault_85 : decode cX9_growFault 85 = .ok (.aload_n 0, 1) := by decide +kernel
theorem dX9_growFault_86 : decode cX9_growFault 86 = .ok (.getfield 28, 3) := by decide +kernel
theorem dX9_growFault_89 : decode cX9_growFault 89 = .ok (.iload_n 2, 1) := by decide +kernel
theorem dX9_growFault_90 : decode cX9_growFault 90 = .ok (.invokevirtual 130, 3) := by decide +kernel
theorem dX9_growFault_93 : decode cX9_growFault 93 = .ok (.istore 4, 2) := by decide +kernel
theorem dX9_growFault_95 : decode cX9_growFault 95 = .ok (.iload 4, 2) := by decide +kernel
theorem dX9_growFault_97 : decode cX9_growFault 97 = .ok (.aload_n 0, 1) := by decide +kernel
theorem dX9_growFault_98 : decode cX9_growFault 98 = .ok (.getfield 21, 3) := by decide +kernel
theorem dX9_growFault_101 : decode cX9_growFault 101 = .ok (.iconst 1, 1) := by decide +kernel
theorem dX9_growFault_102 : decode cX9_growFault 102 = .ok (.invokevirtual 159, 3) := by decide +kernel
theorem dX9_growFault_105 : decode cX9_growFault 105 = .ok (.if_icmp .ge 7, 3) := by decide +kernel
theorem dX9_growFault_108 : decode cX9_growFault 108 = .ok (.iconst 1, 1) := by decide +kernel
theorem dX9_growFault_109 : decode cX9_growFault 109 = .ok (.goto 4, 3) := by decide +kernel
theorem dX9_growFault_112 : decode cX9_growFault 112 = .ok (.iconst 0, 1) := by decide +kernel
theorem dX9_growFault_113 : decode cX9_growFault 113 = .ok (.istore 5, 2) := by decide +kernel
theorem dX9_growFault_115 : decode cX9_growFault 115 = .ok (.iload 5, 2) := by decide +kernel
theorem dX9_growFault_117 : decode cX9_growFault 117 = .ok (.ifCond .ne 24, 3) := by decide +kernel
theorem dX9_growFault_120 : decode cX9_growFault 120 = .ok (.aload_n 0, 1) := by decide +kernel
theorem dX9_growFault_121 : decode cX9_growFault 121 = .ok (.getfield 21, 3) := by decide +kernel
theorem dX9_growFault_124 : decode cX9_growFault 124 = .ok (.iconst 1, 1) := by decide +kernel
theorem dX9_growFault_125 : decode cX9_growFault 125 = .ok (.aload_n 0, 1) := by decide +kernel
theorem dX9_growFault_126 : decode cX9_growFault 126 = .ok (.getfield 21, 3) := by decide +kernel
theorem dX9_growFault_129 : decode cX9_growFault 129 = .ok (.iconst 1, 1) := by decide +kernel
theorem dX9_growFault_130 : decode cX9_growFault 130 = .ok (.invokevirtual 126, 3) := by decide +kernel
theorem dX9_growFault_133 : decode cX9_growFault 133 = .ok (.iload 4, 2) := by decide +kernel
theorem dX9_growFault_135 : decode cX9_growFault 135 = .ok (.invokevirtual 162, 3) := by decide +kernel
theorem dX9_growFault_138 : decode cX9_growFault 138 = .ok (.ifCond .ne 8, 3) := by decide +kernel
theorem dX9_growFault_141 : decode cX9_growFault 141 = .ok (.bipush (-12), 2) := by decide +kernel
theorem dX9_growFault_143 : decode cX9_growFault 143 = .ok (.goto 4, 3) := by decide +kernel
theorem dX9_growFault_146 : decode cX9_growFault 146 = .ok (.iconst 0, 1) := by decide +kernel
theorem dX9_growFault_147 : decode cX9_growFault 147 = .ok (.ireturn, 1) := by decide +kernel
theorem dX9_goBackIfSpent_0 : decode cX9_goBackIfSpent 0 = .ok (.aload_n 0, 1) := by decide +kernel
theorem dX9_goBackIfSpent_1 : decode cX9_goBackIfSpent 1 = .ok (.getfield 28, 3) := by decide +kernel
theorem dX9_goBackIfSpent_4 : decode cX9_goBackIfSpent 4 = .ok (.invokevirtual 145, 3) := by decide +kernel
theorem dX9_goBackIfSpent_7 : decode cX9_goBackIfSpent 7 = .ok (.ifCond .eq 21, 3) := by decide +kernel
theorem dX9_goBackIfSpent_10 : decode cX9_goBackIfSpent 10 = .ok (.aload_n 0, 1) := by decide +kernel
theorem dX9_goBackIfSpent_11 : decode cX9_goBackIfSpent 11 = .ok (.getfield 35, 3) := by decide +kernel
theorem dX9_goBackIfSpent_14 : decode cX9_goBackIfSpent 14 = .ok (.aload_n 0, 1) := by decide +kernel
theorem dX9_goBackIfSpent_15 : decode cX9_goBackIfSpent 15 = .ok (.iconst 1, 1) := by decide +kernel
theorem dX9_goBackIfSpent_16 : decode cX9_goBackIfSpent 16 = .ok (.invokevirtual 148, 3) := by decide +kernel
theorem dX9_goBackIfSpent_19 : decode cX9_goBackIfSpent 19 = .ok (.iload_n 1, 1) := by decide +kernel
theorem dX9_goBackIfSpent_20 : decode cX9_goBackIfSpent 20 = .ok (.invokevirtual 152, 3) := by decide +kernel
theorem dX9_goBackIfSpent_23 : decode cX9_goBackIfSpent 23 = .ok (.bipush (-10), 2) := by decide +kernel
theorem dX9_goBackIfSpent_25 : decode cX9_goBackIfSpent 25 = .ok (.if_icmp .eq 4, 3) := by decide +kernel
theorem dX9_goBackIfSpent_28 : decode cX9_goBackIfSpent 28 = .ok (.return_, 1) := by decide +kernel
theorem dX9_goBackIfSpent_29 : decode cX9_goBackIfSpent 29 = .ok (.aload_n 0, 1) := by decide +kernel
theorem dX9_goBackIfSpent_30 : decode cX9_goBackIfSpent 30 = .ok (.getfield 35, 3) := by decide +kernel
theorem dX9_goBackIfSpent_33 : decode cX9_goBackIfSpent 33 = .ok (.getfield 166, 3) := by decide +kernel
theorem dX9_goBackIfSpent_36 : decode cX9_goBackIfSpent 36 = .ok (.ifCond .ne 13, 3) := by decide +kernel
theorem dX9_goBackIfSpent_39 : decode cX9_goBackIfSpent 39 = .ok (.aload_n 0, 1) := by decide +kernel
theorem dX9_goBackIfSpent_40 : decode cX9_goBackIfSpent 40 = .ok (.getfield 28, 3) := by decide +kernel
theorem dX9_goBackIfSpent_43 : decode cX9_goBackIfSpent 43 = .ok (.invokevirtual 137, 3) := by decide +kernel
theorem dX9_goBackIfSpent_46 : decode cX9_goBackIfSpent 46 = .ok (.ifCond .ne 7, 3) := by decide +kernel
theorem dX9_goBackIfSpent_49 : decode cX9_goBackIfSpent 49 = .ok (.iconst 1, 1) := by decide +kernel
theorem dX9_goBackIfSpent_50 : decode cX9_goBackIfSpent 50 = .ok (.goto 4, 3) := by decide +kernel
theorem dX9_goBackIfSpent_53 : decode cX9_goBackIfSpent 53 = .ok (.iconst 0, 1) := by decide +kernel
theorem dX9_goBackIfSpent_54 : decode cX9_goBackIfSpent 54 = .ok (.istore_n 2, 1) := by decide +kernel
theorem dX9_goBackIfSpent_55 : decode cX9_goBackIfSpent 55 = .ok (.aload_n 0, 1) := by decide +kernel
theorem dX9_goBackIfSpent_56 : decode cX9_goBackIfSpent 56 = .ok (.iload_n 2, 1) := by decide +kernel
theorem dX9_goBackIfSpent_57 : decode cX9_goBackIfSpent 57 = .ok (.ifCond .eq 7, 3) := by decide +kernel
theorem dX9_goBackIfSpent_60 : decode cX9_goBackIfSpent 60 = .ok (.iconst (-1), 1) := by decide +kernel
theorem dX9_goBackIfSpent_61 : decode cX9_goBackIfSpent 61 = .ok (.goto 12, 3) := by decide +kernel
theorem dX9_goBackIfSpent_64 : decode cX9_goBackIfSpent 64 = .ok (.aload_n 0, 1) := by decide +kernel
theorem dX9_goBackIfSpent_65 : decode cX9_goBackIfSpent 65 = .ok (.getfield 28, 3) := by decide +kernel
theorem dX9_goBackIfSpent_68 : decode cX9_goBackIfSpent 68 = .ok (.getfield 123, 3) := by decide +kernel
theorem dX9_goBackIfSpent_71 : decode cX9_goBackIfSpent 71 = .ok (.iconst 1, 1) := by decide +kernel
theorem dX9_goBackIfSpent_72 : decode cX9_goBackIfSpent 72 = .ok (.isub, 1) := by decide +kernel
theorem dX9_goBackIfSpent_73 : decode cX9_goBackIfSpent 73 = .ok (.invokevirtual 169, 3) := by decide +kernel
theorem dX9_goBackIfSpent_76 : decode cX9_goBackIfSpent 76 = .ok (.aload_n 0, 1) := by decide +kernel
theorem dX9_goBackIfSpent_77 : decode cX9_goBackIfSpent 77 = .ok (.getfield 35, 3) := by decide +kernel
theorem dX9_goBackIfSpent_80 : decode cX9_goBackIfSpent 80 = .ok (.iload_n 1, 1) := by decide +kernel
theorem dX9_goBackIfSpent_81 : decode cX9_goBackIfSpent 81 = .ok (.invokevirtual 173, 3) := by decide +kernel
theorem dX9_goBackIfSpent_84 : decode cX9_goBackIfSpent 84 = .ok (.return_, 1) := by decide +kernel
theorem dX10_init_0 : decode cX10_init 0 = .ok (.aload_n 0, 1) := by decide +kernel
theorem dX10_init_1 : decode cX10_init 1 = .ok (.invokespecial 3, 3) := by decide +kernel
theorem dX10_init_4 : decode cX10_init 4 = .ok (.return_, 1) := by decide +kernel
theorem dX10_begin_0 : decode cX10_begin 0 = .ok (.aload_n 0, 1) := by decide +kernel
theorem dX10_begin_1 : decode cX10_begin 1 = .ok (.iload_n 1, 1) := by decide +kernel
theorem dX10_begin_2 : decode cX10_begin 2 = .ok (.putfield 9, 3) := by decide +kernel
theorem dX10_begin_5 : decode cX10_begin 5 = .ok (.aload_n 0, 1) := by decide +kernel
theorem dX10_begin_6 : decode cX10_begin 6 = .ok (.iload_n 2, 1) := by decide +kernel
theorem dX10_begin_7 : decode cX10_begin 7 = .ok (.putfield 15, 3) := by decide +kernel
theorem dX10_begin_10 : decode cX10_begin 10 = .ok (.aload_n 0, 1) := by decide +kernel
theorem dX10_begin_11 : decode cX10_begin 11 = .ok (.iload_n 3, 1) := by decide +kernel
theorem dX10_begin_12 : decode cX10_begin 12 = .ok (.putfield 18, 3) := by decide +kernel
theorem dX10_begin_15 : decode cX10_begin 15 = .ok (.aload_n 0, 1) := by decide +kernel
theorem dX10_begin_16 : decode cX10_begin 16 = .ok (.iload 4, 2) := by decide +kernel
theorem dX10_begin_18 : decode cX10_begin 18 = .ok (.putfield 21, 3) := by decide +kernel
theorem dX10_begin_21 : decode cX10_begin 21 = .ok (.aload_n 0, 1) := by decide +kernel
theorem dX10_begin_22 : decode cX10_begin 22 = .ok (.iconst 0, 1) := by decide +kernel
theorem dX10_begin_23 : decode cX10_begin 23 = .ok (.putfield 24, 3) := by decide +kernel
theorem dX10_begin_26 : decode cX10_begin 26 = .ok (.aload_n 0, 1) := by decide +kernel
theorem dX10_begin_27 : decode cX10_begin 27 = .ok (.iconst 0, 1) := by decide +kernel
theorem dX10_begin_28 : decode cX10_begin 28 = .ok (.putfield 27, 3) := by decide +kernel
theorem dX10_begin_31 : decode cX10_begin 31 = .ok (.aload_n 0, 1) := by decide +kernel
theorem dX10_begin_32 : decode cX10_begin 32 = .ok (.iconst 0, 1) := by decide +kernel
theorem dX10_begin_33 : decode cX10_begin 33 = .ok (.putfield 30, 3) := by decide +kernel
theorem dX10_begin_36 : decode cX10_begin 36 = .ok (.aload_n 0, 1) := by decide +kernel
theorem dX10_begin_37 : decode cX10_begin 37 = .ok (.iconst 0, 1) := by decide +kernel
theorem dX10_begin_38 : decode cX10_begin 38 = .ok (.iconst 0, 1) := by decide +kernel
theorem dX10_begin_39 : decode cX10_begin 39 = .ok (.iconst 0, 1) := by decide +kernel
theorem dX10_begin_40 : decode cX10_begin 40 = .ok (.iconst 0, 1) := by decide +kernel
theorem dX10_begin_41 : decode cX10_begin 41 = .ok (.invokevirtual 33, 3) := by decide +kernel
theorem dX10_begin_44 : decode cX10_begin 44 = .ok (.return_, 1) := by decide +kernel
theorem dX10_takeFrom_0 : decode cX10_takeFrom 0 = .ok (.aload_n 0, 1) := by decide +kernel
theorem dX10_takeFrom_1 : decode cX10_takeFrom 1 = .ok (.aload_n 1, 1) := by decide +kernel
theorem dX10_takeFrom_2 : decode cX10_takeFrom 2 = .ok (.getfield 9, 3) := by decide +kernel
theorem dX10_takeFrom_5 : decode cX10_takeFrom 5 = .ok (.aload_n 1, 1) := by decide +kernel
theorem dX10_takeFrom_6 : decode cX10_takeFrom 6 = .ok (.getfield 15, 3) := by decide +kernel
theorem dX10_takeFrom_9 : decode cX10_takeFrom 9 = .ok (.aload_n 1, 1) := by decide +kernel
theorem dX10_takeFrom_10 : decode cX10_takeFrom 10 = .ok (.getfield 18, 3) := by decide +kernel
theorem dX10_takeFrom_13 : decode cX10_takeFrom 13 = .ok (.aload_n 1, 1) := by decide +kernel
theorem dX10_takeFrom_14 : decode cX10_takeFrom 14 = .ok (.getfield 21, 3) := by decide +kernel
theorem dX10_takeFrom_17 : decode cX10_takeFrom 17 = .ok (.invokevirtual 37, 3) := by decide +kernel
theorem dX10_takeFrom_20 : decode cX10_takeFrom 20 = .ok (.aload_n 0, 1) := by decide +kernel
theorem dX10_takeFrom_21 : decode cX10_takeFrom 21 = .ok (.aload_n 1, 1) := by decide +kernel
theorem dX10_takeFrom_22 : decode cX10_takeFrom 22 = .ok (.getfield 24, 3) := by decide +kernel
theorem dX10_takeFrom_25 : decode cX10_takeFrom 25 = .ok (.putfield 24, 3) := by decide +kernel
theorem dX10_takeFrom_28 : decode cX10_takeFrom 28 = .ok (.aload_n 0, 1) := by decide +kernel
theorem dX10_takeFrom_29 : decode cX10_takeFrom 29 = .ok (.aload_n 1, 1) := by decide +kernel
theorem dX10_takeFrom_30 : decode cX10_takeFrom 30 = .ok (.getfield 27, 3) := by decide +kernel
theorem dX10_takeFrom_33 : decode cX10_takeFrom 33 = .ok (.putfield 27, 3) := by decide +kernel
theorem dX10_takeFrom_36 : decode cX10_takeFrom 36 = .ok (.aload_n 0, 1) := by decide +kernel
theorem dX10_takeFrom_37 : decode cX10_takeFrom 37 = .ok (.aload_n 1, 1) := by decide +kernel
theorem dX10_takeFrom_38 : decode cX10_takeFrom 38 = .ok (.getfield 30, 3) := by decide +kernel
theorem dX10_takeFrom_41 : decode cX10_takeFrom 41 = .ok (.putfield 30, 3) := by decide +kernel
