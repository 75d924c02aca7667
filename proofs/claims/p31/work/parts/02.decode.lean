theorem dX0_init_0 : decode cX0_init 0 = .ok (.aload_n 0, 1) := by decide +kernel
theorem dX0_init_1 : decode cX0_init 1 = .ok (.invokespecial 3, 3) := by decide +kernel
theorem dX0_init_4 : decode cX0_init 4 = .ok (.aload_n 0, 1) := by decide +kernel
theorem dX0_init_5 : decode cX0_init 5 = .ok (.iconst 0, 1) := by decide +kernel
theorem dX0_init_6 : decode cX0_init 6 = .ok (.putfield 9, 3) := by decide +kernel
theorem dX0_init_9 : decode cX0_init 9 = .ok (.aload_n 0, 1) := by decide +kernel
theorem dX0_init_10 : decode cX0_init 10 = .ok (.iconst (-1), 1) := by decide +kernel
theorem dX0_init_11 : decode cX0_init 11 = .ok (.putfield 15, 3) := by decide +kernel
theorem dX0_init_14 : decode cX0_init 14 = .ok (.aload_n 0, 1) := by decide +kernel
theorem dX0_init_15 : decode cX0_init 15 = .ok (.bipush 20, 2) := by decide +kernel
theorem dX0_init_17 : decode cX0_init 17 = .ok (.putfield 18, 3) := by decide +kernel
theorem dX0_init_20 : decode cX0_init 20 = .ok (.aload_n 0, 1) := by decide +kernel
theorem dX0_init_21 : decode cX0_init 21 = .ok (.bipush 120, 2) := by decide +kernel
theorem dX0_init_23 : decode cX0_init 23 = .ok (.putfield 21, 3) := by decide +kernel
theorem dX0_init_26 : decode cX0_init 26 = .ok (.return_, 1) := by decide +kernel
theorem dX0_begin_0 : decode cX0_begin 0 = .ok (.aload_n 0, 1) := by decide +kernel
theorem dX0_begin_1 : decode cX0_begin 1 = .ok (.iconst 2, 1) := by decide +kernel
theorem dX0_begin_2 : decode cX0_begin 2 = .ok (.putfield 9, 3) := by decide +kernel
theorem dX0_begin_5 : decode cX0_begin 5 = .ok (.aload_n 0, 1) := by decide +kernel
theorem dX0_begin_6 : decode cX0_begin 6 = .ok (.iload_n 1, 1) := by decide +kernel
theorem dX0_begin_7 : decode cX0_begin 7 = .ok (.putfield 15, 3) := by decide +kernel
theorem dX0_begin_10 : decode cX0_begin 10 = .ok (.aload_n 0, 1) := by decide +kernel
theorem dX0_begin_11 : decode cX0_begin 11 = .ok (.iconst 0, 1) := by decide +kernel
theorem dX0_begin_12 : decode cX0_begin 12 = .ok (.putfield 24, 3) := by decide +kernel
theorem dX0_begin_15 : decode cX0_begin 15 = .ok (.aload_n 0, 1) := by decide +kernel
theorem dX0_begin_16 : decode cX0_begin 16 = .ok (.bipush 100, 2) := by decide +kernel
theorem dX0_begin_18 : decode cX0_begin 18 = .ok (.putfield 27, 3) := by decide +kernel
theorem dX0_begin_21 : decode cX0_begin 21 = .ok (.aload_n 0, 1) := by decide +kernel
theorem dX0_begin_22 : decode cX0_begin 22 = .ok (.iconst 0, 1) := by decide +kernel
theorem dX0_begin_23 : decode cX0_begin 23 = .ok (.putfield 30, 3) := by decide +kernel
theorem dX0_begin_26 : decode cX0_begin 26 = .ok (.aload_n 0, 1) := by decide +kernel
theorem dX0_begin_27 : decode cX0_begin 27 = .ok (.iconst 0, 1) := by decide +kernel
theorem dX0_begin_28 : decode cX0_begin 28 = .ok (.putfield 33, 3) := by decide +kernel
theorem dX0_begin_31 : decode cX0_begin 31 = .ok (.aload_n 0, 1) := by decide +kernel
theorem dX0_begin_32 : decode cX0_begin 32 = .ok (.bipush 120, 2) := by decide +kernel
theorem dX0_begin_34 : decode cX0_begin 34 = .ok (.putfield 21, 3) := by decide +kernel
theorem dX0_begin_37 : decode cX0_begin 37 = .ok (.return_, 1) := by decide +kernel
theorem dX0_end_0 : decode cX0_end 0 = .ok (.aload_n 0, 1) := by decide +kernel
theorem dX0_end_1 : decode cX0_end 1 = .ok (.iconst 0, 1) := by decide +kernel
theorem dX0_end_2 : decode cX0_end 2 = .ok (.putfield 9, 3) := by decide +kernel
theorem dX0_end_5 : decode cX0_end 5 = .ok (.aload_n 0, 1) := by decide +kernel
theorem dX0_end_6 : decode cX0_end 6 = .ok (.iconst (-1), 1) := by decide +kernel
theorem dX0_end_7 : decode cX0_end 7 = .ok (.putfield 15, 3) := by decide +kernel
theorem dX0_end_10 : decode cX0_end 10 = .ok (.aload_n 0, 1) := by decide +kernel
theorem dX0_end_11 : decode cX0_end 11 = .ok (.iconst 0, 1) := by decide +kernel
theorem dX0_end_12 : decode cX0_end 12 = .ok (.putfield 24, 3) := by decide +kernel
theorem dX0_end_15 : decode cX0_end 15 = .ok (.aload_n 0, 1) := by decide +kernel
theorem dX0_end_16 : decode cX0_end 16 = .ok (.iconst 0, 1) := by decide +kernel
theorem dX0_end_17 : decode cX0_end 17 = .ok (.putfield 27, 3) := by decide +kernel
theorem dX0_end_20 : decode cX0_end 20 = .ok (.return_, 1) := by decide +kernel
theorem dX0_thirst_0 : decode cX0_thirst 0 = .ok (.aload_n 0, 1) := by decide +kernel
theorem dX0_thirst_1 : decode cX0_thirst 1 = .ok (.getfield 9, 3) := by decide +kernel
theorem dX0_thirst_4 : decode cX0_thirst 4 = .ok (.invokestatic 36, 3) := by decide +kernel
theorem dX0_thirst_7 : decode cX0_thirst 7 = .ok (.ifCond .eq 7, 3) := by decide +kernel
theorem dX0_thirst_10 : decode cX0_thirst 10 = .ok (.iconst 2, 1) := by decide +kernel
theorem dX0_thirst_11 : decode cX0_thirst 11 = .ok (.goto 4, 3) := by decide +kernel
theorem dX0_thirst_14 : decode cX0_thirst 14 = .ok (.iconst 1, 1) := by decide +kernel
theorem dX0_thirst_15 : decode cX0_thirst 15 = .ok (.ireturn, 1) := by decide +kernel
theorem dX0_grow_0 : decode cX0_grow 0 = .ok (.aload_n 0, 1) := by decide +kernel
theorem dX0_grow_1 : decode cX0_grow 1 = .ok (.getfield 9, 3) := by decide +kernel
theorem dX0_grow_4 : decode cX0_grow 4 = .ok (.invokestatic 36, 3) := by decide +kernel
theorem dX0_grow_7 : decode cX0_grow 7 = .ok (.ifCond .ne 4, 3) := by decide +kernel
theorem dX0_grow_10 : decode cX0_grow 10 = .ok (.return_, 1) := by decide +kernel
theorem dX0_grow_11 : decode cX0_grow 11 = .ok (.aload_n 0, 1) := by decide +kernel
theorem dX0_grow_12 : decode cX0_grow 12 = .ok (.iload_n 1, 1) := by decide +kernel
theorem dX0_grow_13 : decode cX0_grow 13 = .ok (.iload_n 2, 1) := by decide +kernel
theorem dX0_grow_14 : decode cX0_grow 14 = .ok (.invokevirtual 40, 3) := by decide +kernel
theorem dX0_grow_17 : decode cX0_grow 17 = .ok (.aload_n 0, 1) := by decide +kernel
theorem dX0_grow_18 : decode cX0_grow 18 = .ok (.dup, 1) := by decide +kernel
theorem dX0_grow_19 : decode cX0_grow 19 = .ok (.getfield 24, 3) := by decide +kernel
theorem dX0_grow_22 : decode cX0_grow 22 = .ok (.iload_n 3, 1) := by decide +kernel
theorem dX0_grow_23 : decode cX0_grow 23 = .ok (.iadd, 1) := by decide +kernel
theorem dX0_grow_24 : decode cX0_grow 24 = .ok (.putfield 24, 3) := by decide +kernel
theorem dX0_grow_27 : decode cX0_grow 27 = .ok (.aload_n 0, 1) := by decide +kernel
theorem dX0_grow_28 : decode cX0_grow 28 = .ok (.invokevirtual 44, 3) := by decide +kernel
theorem dX0_grow_31 : decode cX0_grow 31 = .ok (.aload_n 0, 1) := by decide +kernel
theorem dX0_grow_32 : decode cX0_grow 32 = .ok (.getfield 9, 3) := by decide +kernel
theorem dX0_grow_35 : decode cX0_grow 35 = .ok (.invokestatic 36, 3) := by decide +kernel
theorem dX0_grow_38 : decode cX0_grow 38 = .ok (.ifCond .eq 20, 3) := by decide +kernel
theorem dX0_grow_41 : decode cX0_grow 41 = .ok (.aload_n 0, 1) := by decide +kernel
theorem dX0_grow_42 : decode cX0_grow 42 = .ok (.getfield 18, 3) := by decide +kernel
theorem dX0_grow_45 : decode cX0_grow 45 = .ok (.ifCond .le 13, 3) := by decide +kernel
theorem dX0_grow_48 : decode cX0_grow 48 = .ok (.aload_n 0, 1) := by decide +kernel
theorem dX0_grow_49 : decode cX0_grow 49 = .ok (.dup, 1) := by decide +kernel
theorem dX0_grow_50 : decode cX0_grow 50 = .ok (.getfield 18, 3) := by decide +kernel
theorem dX0_grow_53 : decode cX0_grow 53 = .ok (.iconst 1, 1) := by decide +kernel
theorem dX0_grow_54 : decode cX0_grow 54 = .ok (.isub, 1) := by decide +kernel
theorem dX0_grow_55 : decode cX0_grow 55 = .ok (.putfield 18, 3) := by decide +kernel
theorem dX0_grow_58 : decode cX0_grow 58 = .ok (.return_, 1) := by decide +kernel
theorem dX0_suffer_0 : decode cX0_suffer 0 = .ok (.iload_n 2, 1) := by decide +kernel
theorem dX0_suffer_1 : decode cX0_suffer 1 = .ok (.bipush 20, 2) := by decide +kernel
theorem dX0_suffer_3 : decode cX0_suffer 3 = .ok (.idiv, 1) := by decide +kernel
theorem dX0_suffer_4 : decode cX0_suffer 4 = .ok (.istore_n 3, 1) := by decide +kernel
theorem dX0_suffer_5 : decode cX0_suffer 5 = .ok (.iload_n 1, 1) := by decide +kernel
theorem dX0_suffer_6 : decode cX0_suffer 6 = .ok (.iconst 2, 1) := by decide +kernel
theorem dX0_suffer_7 : decode cX0_suffer 7 = .ok (.if_icmp .ge 19, 3) := by decide +kernel
theorem dX0_suffer_10 : decode cX0_suffer 10 = .ok (.iload_n 3, 1) := by decide +kernel
theorem dX0_suffer_11 : decode cX0_suffer 11 = .ok (.getstatic 47, 3) := by decide +kernel
theorem dX0_suffer_14 : decode cX0_suffer 14 = .ok (.aload_n 0, 1) := by decide +kernel
theorem dX0_suffer_15 : decode cX0_suffer 15 = .ok (.getfield 9, 3) := by decide +kernel
theorem dX0_suffer_18 : decode cX0_suffer 18 = .ok (.invokestatic 51, 3) := by decide +kernel
theorem dX0_suffer_21 : decode cX0_suffer 21 = .ok (.iadd, 1) := by decide +kernel
theorem dX0_suffer_22 : decode cX0_suffer 22 = .ok (.istore_n 3, 1) := by decide +kernel
theorem dX0_suffer_23 : decode cX0_suffer 23 = .ok (.goto 22, 3) := by decide +kernel
theorem dX0_suffer_26 : decode cX0_suffer 26 = .ok (.iload_n 1, 1) := by decide +kernel
theorem dX0_suffer_27 : decode cX0_suffer 27 = .ok (.bipush 20, 2) := by decide +kernel
theorem dX0_suffer_29 : decode cX0_suffer 29 = .ok (.if_icmp .le 16, 3) := by decide +kernel
theorem dX0_suffer_32 : decode cX0_suffer 32 = .ok (.iload_n 3, 1) := by decide +kernel
theorem dX0_suffer_33 : decode cX0_suffer 33 = .ok (.getstatic 55, 3) := by decide +kernel
theorem dX0_suffer_36 : decode cX0_suffer 36 = .ok (.aload_n 0, 1) := by decide +kernel
theorem dX0_suffer_37 : decode cX0_suffer 37 = .ok (.getfield 9, 3) := by decide +kernel
theorem dX0_suffer_40 : decode cX0_suffer 40 = .ok (.invokestatic 51, 3) := by decide +kernel
theorem dX0_suffer_43 : decode cX0_suffer 43 = .ok (.iadd, 1) := by decide +kernel
theorem dX0_suffer_44 : decode cX0_suffer 44 = .ok (.istore_n 3, 1) := by decide +kernel
theorem dX0_suffer_45 : decode cX0_suffer 45 = .ok (.aload_n 0, 1) := by decide +kernel
theorem dX0_suffer_46 : decode cX0_suffer 46 = .ok (.iconst 0, 1) := by decide +kernel
theorem dX0_suffer_47 : decode cX0_suffer 47 = .ok (.aload_n 0, 1) := by decide +kernel
theorem dX0_suffer_48 : decode cX0_suffer 48 = .ok (.getfield 27, 3) := by decide +kernel
theorem dX0_suffer_51 : decode cX0_suffer 51 = .ok (.iload_n 3, 1) := by decide +kernel
theorem dX0_suffer_52 : decode cX0_suffer 52 = .ok (.isub, 1) := by decide +kernel
theorem dX0_suffer_53 : decode cX0_suffer 53 = .ok (.invokestatic 58, 3) := by decide +kernel
theorem dX0_suffer_56 : decode cX0_suffer 56 = .ok (.putfield 27, 3) := by decide +kernel
theorem dX0_suffer_59 : decode cX0_suffer 59 = .ok (.return_, 1) := by decide +kernel
theorem dX0_ripen_0 : decode cX0_ripen 0 = .ok (.aload_n 0, 1) := by decide +kernel
theorem dX0_ripen_1 : decode cX0_ripen 1 = .ok (.getfield 24, 3) := by decide +kernel
theorem dX0_ripen_4 : decode cX0_ripen 4 = .ok (.getstatic 64, 3) := by decide +kernel
theorem dX0_ripen_7 : decode cX0_ripen 7 = .ok (.aload_n 0, 1) := by decide +kernel
theorem dX0_ripen_8 : decode cX0_ripen 8 = .ok (.getfield 15, 3) := by decide +kernel
theorem dX0_ripen_11 : decode cX0_ripen 11 = .ok (.invokestatic 51, 3) := by decide +kernel
theorem dX0_ripen_14 : decode cX0_ripen 14 = .ok (.if_icmp .lt 11, 3) := by decide +kernel
theorem dX0_ripen_17 : decode cX0_ripen 17 = .ok (.aload_n 0, 1) := by decide +kernel
theorem dX0_ripen_18 : decode cX0_ripen 18 = .ok (.iconst 5, 1) := by decide +kernel
theorem dX0_ripen_19 : decode cX0_ripen 19 = .ok (.putfield 9, 3) := by decide +kernel
theorem dX0_ripen_22 : decode cX0_ripen 22 = .ok (.goto 50, 3) := by decide +kernel
theorem dX0_ripen_25 : decode cX0_ripen 25 = .ok (.aload_n 0, 1) := by decide +kernel
theorem dX0_ripen_26 : decode cX0_ripen 26 = .ok (.getfield 24, 3) := by decide +kernel
theorem dX0_ripen_29 : decode cX0_ripen 29 = .ok (.getstatic 67, 3) := by decide +kernel
theorem dX0_ripen_32 : decode cX0_ripen 32 = .ok (.aload_n 0, 1) := by decide +kernel
theorem dX0_ripen_33 : decode cX0_ripen 33 = .ok (.getfield 15, 3) := by decide +kernel
theorem dX0_ripen_36 : decode cX0_ripen 36 = .ok (.invokestatic 51, 3) := by decide +kernel
theorem dX0_ripen_39 : decode cX0_ripen 39 = .ok (.if_icmp .lt 11, 3) := by decide +kernel
theorem dX0_ripen_42 : decode cX0_ripen 42 = .ok (.aload_n 0, 1) := by decide +kernel
theorem dX0_ripen_43 : decode cX0_ripen 43 = .ok (.iconst 4, 1) := by decide +kernel
theorem dX0_ripen_44 : decode cX0_ripen 44 = .ok (.putfield 9, 3) := by decide +kernel
theorem dX0_ripen_47 : decode cX0_ripen 47 = .ok (.goto 25, 3) := by decide +kernel
theorem dX0_ripen_50 : decode cX0_ripen 50 = .ok (.aload_n 0, 1) := by decide +kernel
theorem dX0_ripen_51 : decode cX0_ripen 51 = .ok (.getfield 24, 3) := by decide +kernel
theorem dX0_ripen_54 : decode cX0_ripen 54 = .ok (.getstatic 70, 3) := by decide +kernel
theorem dX0_ripen_57 : decode cX0_ripen 57 = .ok (.aload_n 0, 1) := by decide +kernel
theorem dX0_ripen_58 : decode cX0_ripen 58 = .ok (.getfield 15, 3) := by decide +kernel
theorem dX0_ripen_61 : decode cX0_ripen 61 = .ok (.invokestatic 51, 3) := by decide +kernel
theorem dX0_ripen_64 : decode cX0_ripen 64 = .ok (.if_icmp .lt 8, 3) := by decide +kernel
theorem dX0_ripen_67 : decode cX0_ripen 67 = .ok (.aload_n 0, 1) := by decide +kernel
theorem dX0_ripen_68 : decode cX0_ripen 68 = .ok (.iconst 3, 1) := by decide +kernel
theorem dX0_ripen_69 : decode cX0_ripen 69 = .ok (.putfield 9, 3) := by decide +kernel
theorem dX0_ripen_72 : decode cX0_ripen 72 = .ok (.return_, 1) := by decide +kernel
theorem dX0_ripeYield_0 : decode cX0_ripeYield 0 = .ok (.aload_n 0, 1) := by decide +kernel
theorem dX0_ripeYield_1 : decode cX0_ripeYield 1 = .ok (.getfield 9, 3) := by decide +kernel
theorem dX0_ripeYield_4 : decode cX0_ripeYield 4 = .ok (.iconst 5, 1) := by decide +kernel
theorem dX0_ripeYield_5 : decode cX0_ripeYield 5 = .ok (.if_icmp .eq 5, 3) := by decide +kernel
theorem dX0_ripeYield_8 : decode cX0_ripeYield 8 = .ok (.iconst 0, 1) := by decide +kernel
theorem dX0_ripeYield_9 : decode cX0_ripeYield 9 = .ok (.ireturn, 1) := by decide +kernel
theorem dX0_ripeYield_10 : decode cX0_ripeYield 10 = .ok (.getstatic 73, 3) := by decide +kernel
theorem dX0_ripeYield_13 : decode cX0_ripeYield 13 = .ok (.aload_n 0, 1) := by decide +kernel
theorem dX0_ripeYield_14 : decode cX0_ripeYield 14 = .ok (.getfield 15, 3) := by decide +kernel
theorem dX0_ripeYield_17 : decode cX0_ripeYield 17 = .ok (.invokestatic 51, 3) := by decide +kernel
theorem dX0_ripeYield_20 : decode cX0_ripeYield 20 = .ok (.aload_n 0, 1) := by decide +kernel
theorem dX0_ripeYield_21 : decode cX0_ripeYield 21 = .ok (.getfield 27, 3) := by decide +kernel
theorem dX0_ripeYield_24 : decode cX0_ripeYield 24 = .ok (.imul, 1) := by decide +kernel
theorem dX0_ripeYield_25 : decode cX0_ripeYield 25 = .ok (.bipush 100, 2) := by decide +kernel
theorem dX0_ripeYield_27 : decode cX0_ripeYield 27 = .ok (.idiv, 1) := by decide +kernel
theorem dX0_ripeYield_28 : decode cX0_ripeYield 28 = .ok (.istore_n 1, 1) := by decide +kernel
theorem dX0_ripeYield_29 : decode cX0_ripeYield 29 = .ok (.iload_n 1, 1) := by decide +kernel
theorem dX0_ripeYield_30 : decode cX0_ripeYield 30 = .ok (.bipush 50, 2) := by decide +kernel
theorem dX0_ripeYield_32 : decode cX0_ripeYield 32 = .ok (.aload_n 0, 1) := by decide +kernel
theorem dX0_ripeYield_33 : decode cX0_ripeYield 33 = .ok (.getfield 18, 3) := by decide +kernel
theorem dX0_ripeYield_36 : decode cX0_ripeYield 36 = .ok (.iadd, 1) := by decide +kernel
theorem dX0_ripeYield_37 : decode cX0_ripeYield 37 = .ok (.imul, 1) := by decide +kernel
theorem dX0_ripeYield_38 : decode cX0_ripeYield 38 = .ok (.bipush 100, 2) := by decide +kernel
theorem dX0_ripeYield_40 : decode cX0_ripeYield 40 = .ok (.idiv, 1) := by decide +kernel
theorem dX0_ripeYield_41 : decode cX0_ripeYield 41 = .ok (.ireturn, 1) := by decide +kernel
theorem dX0_learn_0 : decode cX0_learn 0 = .ok (.bipush 100, 2) := by decide +kernel
theorem dX0_learn_2 : decode cX0_learn 2 = .ok (.iload_n 1, 1) := by decide +kernel
theorem dX0_learn_3 : decode cX0_learn 3 = .ok (.imul, 1) := by decide +kernel
theorem dX0_learn_4 : decode cX0_learn 4 = .ok (.bipush 109, 2) := by decide +kernel
theorem dX0_learn_6 : decode cX0_learn 6 = .ok (.iadd, 1) := by decide +kernel
theorem dX0_learn_7 : decode cX0_learn 7 = .ok (.bipush 110, 2) := by decide +kernel
theorem dX0_learn_9 : decode cX0_learn 9 = .ok (.idiv, 1) := by decide +kernel
theorem dX0_learn_10 : decode cX0_learn 10 = .ok (.istore_n 2, 1) := by decide +kernel
theorem dX0_learn_11 : decode cX0_learn 11 = .ok (.bipush 100, 2) := by decide +kernel
theorem dX0_learn_13 : decode cX0_learn 13 = .ok (.iload_n 1, 1) := by decide +kernel
theorem dX0_learn_14 : decode cX0_learn 14 = .ok (.iconst 1, 1) := by decide +kernel
theorem dX0_learn_15 : decode cX0_learn 15 = .ok (.iadd, 1) := by decide +kernel
theorem dX0_learn_16 : decode cX0_learn 16 = .ok (.imul, 1) := by decide +kernel
theorem dX0_learn_17 : decode cX0_learn 17 = .ok (.iconst 1, 1) := by decide +kernel
theorem dX0_learn_18 : decode cX0_learn 18 = .ok (.isub, 1) := by decide +kernel
theorem dX0_learn_19 : decode cX0_learn 19 = .ok (.bipush 90, 2) := by decide +kernel
theorem dX0_learn_21 : decode cX0_learn 21 = .ok (.idiv, 1) := by decide +kernel
theorem dX0_learn_22 : decode cX0_learn 22 = .ok (.istore_n 3, 1) := by decide +kernel
theorem dX0_learn_23 : decode cX0_learn 23 = .ok (.aload_n 0, 1) := by decide +kernel
theorem dX0_learn_24 : decode cX0_learn 24 = .ok (.aload_n 0, 1) := by decide +kernel
theorem dX0_learn_25 : decode cX0_learn 25 = .ok (.getfield 33, 3) := by decide +kernel
theorem dX0_learn_28 : decode cX0_learn 28 = .ok (.iload_n 2, 1) := by decide +kernel
theorem dX0_learn_29 : decode cX0_learn 29 = .ok (.invokestatic 58, 3) := by decide +kernel
theorem dX0_learn_32 : decode cX0_learn 32 = .ok (.putfield 33, 3) := by decide +kernel
theorem dX0_learn_35 : decode cX0_learn 35 = .ok (.aload_n 0, 1) := by decide +kernel
theorem dX0_learn_36 : decode cX0_learn 36 = .ok (.aload_n 0, 1) := by decide +kernel
theorem dX0_learn_37 : decode cX0_learn 37 = .ok (.getfield 21, 3) := by decide +kernel
theorem dX0_learn_40 : decode cX0_learn 40 = .ok (.iload_n 3, 1) := by decide +kernel
theorem dX0_learn_41 : decode cX0_learn 41 = .ok (.invokestatic 76, 3) := by decide +kernel
theorem dX0_learn_44 : decode cX0_learn 44 = .ok (.putfield 21, 3) := by decide +kernel
theorem dX0_learn_47 : decode cX0_learn 47 = .ok (.return_, 1) := by decide +kernel
theorem dX0_copyFrom_0 : decode cX0_copyFrom 0 = .ok (.aload_n 0, 1) := by decide +kernel
theorem dX0_copyFrom_1 : decode cX0_copyFrom 1 = .ok (.aload_n 1, 1) := by decide +kernel
theorem dX0_copyFrom_2 : decode cX0_copyFrom 2 = .ok (.getfield 9, 3) := by decide +kernel
theorem dX0_copyFrom_5 : decode cX0_copyFrom 5 = .ok (.putfield 9, 3) := by decide +kernel
theorem dX0_copyFrom_8 : decode cX0_copyFrom 8 = .ok (.aload_n 0, 1) := by decide +kernel
theorem dX0_copyFrom_9 : decode cX0_copyFrom 9 = .ok (.aload_n 1, 1) := by decide +kernel
theorem dX0_copyFrom_10 : decode cX0_copyFrom 10 = .ok (.getfield 15, 3) := by decide +kernel
theorem dX0_copyFrom_13 : decode cX0_copyFrom 13 = .ok (.putfield 15, 3) := by decide +kernel
theorem dX0_copyFrom_16 : decode cX0_copyFrom 16 = .ok (.aload_n 0, 1) := by decide +kernel
theorem dX0_copyFrom_17 : decode cX0_copyFrom 17 = .ok (.aload_n 1, 1) := by decide +kernel
theorem dX0_copyFrom_18 : decode cX0_copyFrom 18 = .ok (.getfield 24, 3) := by decide +kernel
theorem dX0_copyFrom_21 : decode cX0_copyFrom 21 = .ok (.putfield 24, 3) := by decide +kernel
theorem dX0_copyFrom_24 : decode cX0_copyFrom 24 = .ok (.aload_n 0, 1) := by decide +kernel
theorem dX0_copyFrom_25 : decode cX0_copyFrom 25 = .ok (.aload_n 1, 1) := by decide +kernel
theorem dX0_copyFrom_26 : decode cX0_copyFrom 26 = .ok (.getfield 27, 3) := by decide +kernel
theorem dX0_copyFrom_29 : decode cX0_copyFrom 29 = .ok (.putfield 27, 3) := by decide +kernel
theorem dX0_copyFrom_32 : decode cX0_copyFrom 32 = .ok (.aload_n 0, 1) := by decide +kernel
theorem dX0_copyFrom_33 : decode cX0_copyFrom 33 = .ok (.aload_n 1, 1) := by decide +kernel
theorem dX0_copyFrom_34 : decode cX0_copyFrom 34 = .ok (.getfield 18, 3) := by decide +kernel
theorem dX0_copyFrom_37 : decode cX0_copyFrom 37 = .ok (.putfield 18, 3) := by decide +kernel
theorem dX0_copyFrom_40 : decode cX0_copyFrom 40 = .ok (.return_, 1) := by decide +kernel
theorem dX1_init_0 : decode cX1_init 0 = .ok (.aload_n 0, 1) := by decide +kernel
theorem dX1_init_1 : decode cX1_init 1 = .ok (.invokespecial 3, 3) := by decide +kernel
theorem dX1_init_4 : decode cX1_init 4 = .ok (.aload_n 0, 1) := by decide +kernel
theorem dX1_init_5 : decode cX1_init 5 = .ok (.new 9, 3) := by decide +kernel
theorem dX1_init_8 : decode cX1_init 8 = .ok (.dup, 1) := by decide +kernel
theorem dX1_init_9 : decode cX1_init 9 = .ok (.invokespecial 11, 3) := by decide +kernel
theorem dX1_init_12 : decode cX1_init 12 = .ok (.putfield 12, 3) := by decide +kernel
theorem dX1_init_15 : decode cX1_init 15 = .ok (.aload_n 0, 1) := by decide +kernel
theorem dX1_init_16 : decode cX1_init 16 = .ok (.new 18, 3) := by decide +kernel
theorem dX1_init_19 : decode cX1_init 19 = .ok (.dup, 1) := by decide +kernel
theorem dX1_init_20 : decode cX1_init 20 = .ok (.invokespecial 20, 3) := by decide +kernel
theorem dX1_init_23 : decode cX1_init 23 = .ok (.putfield 21, 3) := by decide +kernel
theorem dX1_init_26 : decode cX1_init 26 = .ok (.aload_n 0, 1) := by decide +kernel
theorem dX1_init_27 : decode cX1_init 27 = .ok (.iload_n 1, 1) := by decide +kernel
theorem dX1_init_28 : decode cX1_init 28 = .ok (.putfield 25, 3) := by decide +kernel
theorem dX1_init_31 : decode cX1_init 31 = .ok (.aload_n 0, 1) := by decide +kernel
theorem dX1_init_32 : decode cX1_init 32 = .ok (.aload_n 2, 1) := by decide +kernel
theorem dX1_init_33 : decode cX1_init 33 = .ok (.putfield 29, 3) := by decide +kernel
theorem dX1_init_36 : decode cX1_init 36 = .ok (.aload_n 0, 1) := by decide +kernel
theorem dX1_init_37 : decode cX1_init 37 = .ok (.iload_n 3, 1) := by decide +kernel
theorem dX1_init_38 : decode cX1_init 38 = .ok (.putfield 33, 3) := by decide +kernel
theorem dX1_init_41 : decode cX1_init 41 = .ok (.aload_n 0, 1) := by decide +kernel
theorem dX1_init_42 : decode cX1_init 42 = .ok (.iload 4, 2) := by decide +kernel
theorem dX1_init_44 : decode cX1_init 44 = .ok (.putfield 36, 3) := by decide +kernel
theorem dX1_init_47 : decode cX1_init 47 = .ok (.return_, 1) := by decide +kernel
theorem dX1_takesWater_0 : decode cX1_takesWater 0 = .ok (.aload_n 0, 1) := by decide +kernel
theorem dX1_takesWater_1 : decode cX1_takesWater 1 = .ok (.getfield 39, 3) := by decide +kernel
theorem dX1_takesWater_4 : decode cX1_takesWater 4 = .ok (.ifCond .eq 17, 3) := by decide +kernel
theorem dX1_takesWater_7 : decode cX1_takesWater 7 = .ok (.aload_n 0, 1) := by decide +kernel
theorem dX1_takesWater_8 : decode cX1_takesWater 8 = .ok (.getfield 12, 3) := by decide +kernel
theorem dX1_takesWater_11 : decode cX1_takesWater 11 = .ok (.getfield 43, 3) := by decide +kernel
theorem dX1_takesWater_14 : decode cX1_takesWater 14 = .ok (.ifCond .lt 7, 3) := by decide +kernel
theorem dX1_takesWater_17 : decode cX1_takesWater 17 = .ok (.iconst 1, 1) := by decide +kernel
theorem dX1_takesWater_18 : decode cX1_takesWater 18 = .ok (.goto 4, 3) := by decide +kernel
theorem dX1_takesWater_21 : decode cX1_takesWater 21 = .ok (.iconst 0, 1) := by decide +kernel
theorem dX1_takesWater_22 : decode cX1_takesWater 22 = .ok (.ireturn, 1) := by decide +kernel
theorem dX1_part_0 : decode cX1_part 0 = .ok (.aload_n 0, 1) := by decide +kernel
theorem dX1_part_1 : decode cX1_part 1 = .ok (.getfield 33, 3) := by decide +kernel
theorem dX1_part_4 : decode cX1_part 4 = .ok (.aload_n 0, 1) := by decide +kernel
theorem dX1_part_5 : decode cX1_part 5 = .ok (.getfield 46, 3) := by decide +kernel
theorem dX1_part_8 : decode cX1_part 8 = .ok (.iadd, 1) := by decide +kernel
theorem dX1_part_9 : decode cX1_part 9 = .ok (.ireturn, 1) := by decide +kernel
theorem dX1_clear_0 : decode cX1_clear 0 = .ok (.aload_n 0, 1) := by decide +kernel
theorem dX1_clear_1 : decode cX1_clear 1 = .ok (.getfield 21, 3) := by decide +kernel
theorem dX1_clear_4 : decode cX1_clear 4 = .ok (.invokevirtual 49, 3) := by decide +kernel
theorem dX1_clear_7 : decode cX1_clear 7 = .ok (.iload_n 1, 1) := by decide +kernel
theorem dX1_clear_8 : decode cX1_clear 8 = .ok (.ifCond .eq 16, 3) := by decide +kernel
theorem dX1_clear_11 : decode cX1_clear 11 = .ok (.aload_n 0, 1) := by decide +kernel
theorem dX1_clear_12 : decode cX1_clear 12 = .ok (.dup, 1) := by decide +kernel
theorem dX1_clear_13 : decode cX1_clear 13 = .ok (.getfield 52, 3) := by decide +kernel
theorem dX1_clear_16 : decode cX1_clear 16 = .ok (.iconst 2, 1) := by decide +kernel
theorem dX1_clear_17 : decode cX1_clear 17 = .ok (.idiv, 1) := by decide +kernel
theorem dX1_clear_18 : decode cX1_clear 18 = .ok (.putfield 52, 3) := by decide +kernel
theorem dX1_clear_21 : decode cX1_clear 21 = .ok (.goto 25, 3) := by decide +kernel
theorem dX1_clear_24 : decode cX1_clear 24 = .ok (.aload_n 0, 1) := by decide +kernel
theorem dX1_clear_25 : decode cX1_clear 25 = .ok (.getfield 21, 3) := by decide +kernel
theorem dX1_clear_28 : decode cX1_clear 28 = .ok (.bipush 50, 2) := by decide +kernel
theorem dX1_clear_30 : decode cX1_clear 30 = .ok (.aload_n 0, 1) := by decide +kernel
theorem dX1_clear_31 : decode cX1_clear 31 = .ok (.getfield 21, 3) := by decide +kernel
theorem dX1_clear_34 : decode cX1_clear 34 = .ok (.getfield 55, 3) := by decide +kernel
theorem dX1_clear_37 : decode cX1_clear 37 = .ok (.bipush 10, 2) := by decide +kernel
theorem dX1_clear_39 : decode cX1_clear 39 = .ok (.iadd, 1) := by decide +kernel
theorem dX1_clear_40 : decode cX1_clear 40 = .ok (.invokestatic 58, 3) := by decide +kernel
theorem dX1_clear_43 : decode cX1_clear 43 = .ok (.putfield 55, 3) := by decide +kernel
theorem dX1_clear_46 : decode cX1_clear 46 = .ok (.return_, 1) := by decide +kernel
theorem dX1_passWater_0 : decode cX1_passWater 0 = .ok (.aload_n 0, 1) := by decide +kernel
theorem dX1_passWater_1 : decode cX1_passWater 1 = .ok (.dup, 1) := by decide +kernel
theorem dX1_passWater_2 : decode cX1_passWater 2 = .ok (.getfield 64, 3) := by decide +kernel
theorem dX1_passWater_5 : decode cX1_passWater 5 = .ok (.aload_n 0, 1) := by decide +kernel
theorem dX1_passWater_6 : decode cX1_passWater 6 = .ok (.getfield 67, 3) := by decide +kernel
theorem dX1_passWater_9 : decode cX1_passWater 9 = .ok (.iload_n 1, 1) := by decide +kernel
theorem dX1_passWater_10 : decode cX1_passWater 10 = .ok (.iadd, 1) := by decide +kernel
theorem dX1_passWater_11 : decode cX1_passWater 11 = .ok (.aload_n 0, 1) := by decide +kernel
theorem dX1_passWater_12 : decode cX1_passWater 12 = .ok (.getfield 70, 3) := by decide +kernel
theorem dX1_passWater_15 : decode cX1_passWater 15 = .ok (.iadd, 1) := by decide +kernel
theorem dX1_passWater_16 : decode cX1_passWater 16 = .ok (.iadd, 1) := by decide +kernel
theorem dX1_passWater_17 : decode cX1_passWater 17 = .ok (.putfield 64, 3) := by decide +kernel
theorem dX1_passWater_20 : decode cX1_passWater 20 = .ok (.aload_n 0, 1) := by decide +kernel
theorem dX1_passWater_21 : decode cX1_passWater 21 = .ok (.iconst 0, 1) := by decide +kernel
theorem dX1_passWater_22 : decode cX1_passWater 22 = .ok (.putfield 70, 3) := by decide +kernel
theorem dX1_passWater_25 : decode cX1_passWater 25 = .ok (.iconst 0, 1) := by decide +kernel
theorem dX1_passWater_26 : decode cX1_passWater 26 = .ok (.aload_n 0, 1) := by decide +kernel
theorem dX1_passWater_27 : decode cX1_passWater 27 = .ok (.getfield 64, 3) := by decide +kernel
theorem dX1_passWater_30 : decode cX1_passWater 30 = .ok (.aload_n 0, 1) := by decide +kernel
theorem dX1_passWater_31 : decode cX1_passWater 31 = .ok (.getfield 36, 3) := by decide +kernel
theorem dX1_passWater_34 : decode cX1_passWater 34 = .ok (.isub, 1) := by decide +kernel
theorem dX1_passWater_35 : decode cX1_passWater 35 = .ok (.invokestatic 73, 3) := by decide +kernel
theorem dX1_passWater_38 : decode cX1_passWater 38 = .ok (.istore_n 3, 1) := by decide +kernel
theorem dX1_passWater_39 : decode cX1_passWater 39 = .ok (.aload_n 0, 1) := by decide +kernel
theorem dX1_passWater_40 : decode cX1_passWater 40 = .ok (.dup, 1) := by decide +kernel
theorem dX1_passWater_41 : decode cX1_passWater 41 = .ok (.getfield 64, 3) := by decide +kernel
theorem dX1_passWater_44 : decode cX1_passWater 44 = .ok (.iload_n 3, 1) := by decide +kernel
theorem dX1_passWater_45 : decode cX1_passWater 45 = .ok (.isub, 1) := by decide +kernel
theorem dX1_passWater_46 : decode cX1_passWater 46 = .ok (.putfield 64, 3) := by decide +kernel
theorem dX1_passWater_49 : decode cX1_passWater 49 = .ok (.iconst 1, 1) := by decide +kernel
theorem dX1_passWater_50 : decode cX1_passWater 50 = .ok (.aload_n 0, 1) := by decide +kernel
theorem dX1_passWater_51 : decode cX1_passWater 51 = .ok (.getfield 76, 3) := by decide +kernel
theorem dX1_passWater_54 : decode cX1_passWater 54 = .ok (.iadd, 1) := by decide +kernel
theorem dX1_passWater_55 : decode cX1_passWater 55 = .ok (.aload_n 0, 1) := by decide +kernel
theorem dX1_passWater_56 : decode cX1_passWater 56 = .ok (.getfield 64, 3) := by decide +kernel
theorem dX1_passWater_59 : decode cX1_passWater 59 = .ok (.invokestatic 58, 3) := by decide +kernel
theorem dX1_passWater_62 : decode cX1_passWater 62 = .ok (.istore 4, 2) := by decide +kernel
theorem dX1_passWater_64 : decode cX1_passWater 64 = .ok (.aload_n 0, 1) := by decide +kernel
theorem dX1_passWater_65 : decode cX1_passWater 65 = .ok (.dup, 1) := by decide +kernel
theorem dX1_passWater_66 : decode cX1_passWater 66 = .ok (.getfield 64, 3) := by decide +kernel
theorem dX1_passWater_69 : decode cX1_passWater 69 = .ok (.iload 4, 2) := by decide +kernel
theorem dX1_passWater_71 : decode cX1_passWater 71 = .ok (.isub, 1) := by decide +kernel
theorem dX1_passWater_72 : decode cX1_passWater 72 = .ok (.putfield 64, 3) := by decide +kernel
theorem dX1_passWater_75 : decode cX1_passWater 75 = .ok (.iload 4, 2) := by decide +kernel
theorem dX1_passWater_77 : decode cX1_passWater 77 = .ok (.iconst 2, 1) := by decide +kernel
theorem dX1_passWater_78 : decode cX1_passWater 78 = .ok (.idiv, 1) := by decide +kernel
theorem dX1_passWater_79 : decode cX1_passWater 79 = .ok (.istore 5, 2) := by decide +kernel
theorem dX1_passWater_81 : decode cX1_passWater 81 = .ok (.aload_n 2, 1) := by decide +kernel
theorem dX1_passWater_82 : decode cX1_passWater 82 = .ok (.dup, 1) := by decide +kernel
theorem dX1_passWater_83 : decode cX1_passWater 83 = .ok (.getfield 79, 3) := by decide +kernel
theorem dX1_passWater_86 : decode cX1_passWater 86 = .ok (.iload 4, 2) := by decide +kernel
theorem dX1_passWater_88 : decode cX1_passWater 88 = .ok (.iload 5, 2) := by decide +kernel
theorem dX1_passWater_90 : decode cX1_passWater 90 = .ok (.isub, 1) := by decide +kernel
theorem dX1_passWater_91 : decode cX1_passWater 91 = .ok (.iadd, 1) := by decide +kernel
theorem dX1_passWater_92 : decode cX1_passWater 92 = .ok (.putfield 79, 3) := by decide +kernel
theorem dX1_passWater_95 : decode cX1_passWater 95 = .ok (.aload_n 0, 1) := by decide +kernel
theorem dX1_passWater_96 : decode cX1_passWater 96 = .ok (.iload_n 3, 1) := by decide +kernel
theorem dX1_passWater_97 : decode cX1_passWater 97 = .ok (.iload 5, 2) := by decide +kernel
theorem dX1_passWater_99 : decode cX1_passWater 99 = .ok (.iadd, 1) := by decide +kernel
theorem dX1_passWater_100 : decode cX1_passWater 100 = .ok (.aload_n 2, 1) := by decide +kernel
theorem dX1_passWater_101 : decode cX1_passWater 101 = .ok (.invokevirtual 84, 3) := by decide +kernel
theorem dX1_passWater_104 : decode cX1_passWater 104 = .ok (.aload_n 0, 1) := by decide +kernel
theorem dX1_passWater_105 : decode cX1_passWater 105 = .ok (.getfield 21, 3) := by decide +kernel
theorem dX1_passWater_108 : decode cX1_passWater 108 = .ok (.invokevirtual 88, 3) := by decide +kernel
theorem dX1_passWater_111 : decode cX1_passWater 111 = .ok (.aload_n 0, 1) := by decide +kernel
theorem dX1_passWater_112 : decode cX1_passWater 112 = .ok (.getfield 64, 3) := by decide +kernel
theorem dX1_passWater_115 : decode cX1_passWater 115 = .ok (.invokestatic 58, 3) := by decide +kernel
theorem dX1_passWater_118 : decode cX1_passWater 118 = .ok (.istore 6, 2) := by decide +kernel
theorem dX1_passWater_120 : decode cX1_passWater 120 = .ok (.aload_n 0, 1) := by decide +kernel
theorem dX1_passWater_121 : decode cX1_passWater 121 = .ok (.dup, 1) := by decide +kernel
theorem dX1_passWater_122 : decode cX1_passWater 122 = .ok (.getfield 64, 3) := by decide +kernel
theorem dX1_passWater_125 : decode cX1_passWater 125 = .ok (.iload 6, 2) := by decide +kernel
theorem dX1_passWater_127 : decode cX1_passWater 127 = .ok (.isub, 1) := by decide +kernel
theorem dX1_passWater_128 : decode cX1_passWater 128 = .ok (.putfield 64, 3) := by decide +kernel
theorem dX1_passWater_131 : decode cX1_passWater 131 = .ok (.aload_n 2, 1) := by decide +kernel
theorem dX1_passWater_132 : decode cX1_passWater 132 = .ok (.dup, 1) := by decide +kernel
theorem dX1_passWater_133 : decode cX1_passWater 133 = .ok (.getfield 92, 3) := by decide +kernel
theorem dX1_passWater_136 : decode cX1_passWater 136 = .ok (.iload 6, 2) := by decide +kernel
theorem dX1_passWater_138 : decode cX1_passWater 138 = .ok (.iadd, 1) := by decide +kernel
theorem dX1_passWater_139 : decode cX1_passWater 139 = .ok (.putfield 92, 3) := by decide +kernel
theorem dX1_passWater_142 : decode cX1_passWater 142 = .ok (.return_, 1) := by decide +kernel
theorem dX1_sendBelow_0 : decode cX1_sendBelow 0 = .ok (.aload_n 0, 1) := by decide +kernel
theorem dX1_sendBelow_1 : decode cX1_sendBelow 1 = .ok (.getfield 95, 3) := by decide +kernel
theorem dX1_sendBelow_4 : decode cX1_sendBelow 4 = .ok (.ifnonnull 16, 3) := by decide +kernel
theorem dX1_sendBelow_7 : decode cX1_sendBelow 7 = .ok (.aload_n 2, 1) := by decide +kernel
theorem dX1_sendBelow_8 : decode cX1_sendBelow 8 = .ok (.dup, 1) := by decide +kernel
theorem dX1_sendBelow_9 : decode cX1_sendBelow 9 = .ok (.getfield 99, 3) := by decide +kernel
theorem dX1_sendBelow_12 : decode cX1_sendBelow 12 = .ok (.iload_n 1, 1) := by decide +kernel
theorem dX1_sendBelow_13 : decode cX1_sendBelow 13 = .ok (.iadd, 1) := by decide +kernel
theorem dX1_sendBelow_14 : decode cX1_sendBelow 14 = .ok (.putfield 99, 3) := by decide +kernel
theorem dX1_sendBelow_17 : decode cX1_sendBelow 17 = .ok (.goto 16, 3) := by decide +kernel
theorem dX1_sendBelow_20 : decode cX1_sendBelow 20 = .ok (.aload_n 0, 1) := by decide +kernel
theorem dX1_sendBelow_21 : decode cX1_sendBelow 21 = .ok (.getfield 95, 3) := by decide +kernel
theorem dX1_sendBelow_24 : decode cX1_sendBelow 24 = .ok (.dup, 1) := by decide +kernel
theorem dX1_sendBelow_25 : decode cX1_sendBelow 25 = .ok (.getfield 70, 3) := by decide +kernel
theorem dX1_sendBelow_28 : decode cX1_sendBelow 28 = .ok (.iload_n 1, 1) := by decide +kernel
theorem dX1_sendBelow_29 : decode cX1_sendBelow 29 = .ok (.iadd, 1) := by decide +kernel
theorem dX1_sendBelow_30 : decode cX1_sendBelow 30 = .ok (.putfield 70, 3) := by decide +kernel
theorem dX1_sendBelow_33 : decode cX1_sendBelow 33 = .ok (.return_, 1) := by decide +kernel
theorem dX1_dryOut_0 : decode cX1_dryOut 0 = .ok (.aload_n 0, 1) := by decide +kernel
theorem dX1_dryOut_1 : decode cX1_dryOut 1 = .ok (.getfield 64, 3) := by decide +kernel
theorem dX1_dryOut_4 : decode cX1_dryOut 4 = .ok (.ifCond .le 9, 3) := by decide +kernel
theorem dX1_dryOut_7 : decode cX1_dryOut 7 = .ok (.aload_n 0, 1) := by decide +kernel
theorem dX1_dryOut_8 : decode cX1_dryOut 8 = .ok (.iconst 0, 1) := by decide +kernel
theorem dX1_dryOut_9 : decode cX1_dryOut 9 = .ok (.putfield 102, 3) := by decide +kernel
theorem dX1_dryOut_12 : decode cX1_dryOut 12 = .ok (.return_, 1) := by decide +kernel
theorem dX1_dryOut_13 : decode cX1_dryOut 13 = .ok (.aload_n 0, 1) := by decide +kernel
theorem dX1_dryOut_14 : decode cX1_dryOut 14 = .ok (.dup, 1) := by decide +kernel
theorem dX1_dryOut_15 : decode cX1_dryOut 15 = .ok (.getfield 102, 3) := by decide +kernel
theorem dX1_dryOut_18 : decode cX1_dryOut 18 = .ok (.iconst 1, 1) := by decide +kernel
theorem dX1_dryOut_19 : decode cX1_dryOut 19 = .ok (.iadd, 1) := by decide +kernel
theorem dX1_dryOut_20 : decode cX1_dryOut 20 = .ok (.putfield 102, 3) := by decide +kernel
theorem dX1_dryOut_23 : decode cX1_dryOut 23 = .ok (.aload_n 0, 1) := by decide +kernel
theorem dX1_dryOut_24 : decode cX1_dryOut 24 = .ok (.getfield 102, 3) := by decide +kernel
theorem dX1_dryOut_27 : decode cX1_dryOut 27 = .ok (.iconst 3, 1) := by decide +kernel
theorem dX1_dryOut_28 : decode cX1_dryOut 28 = .ok (.irem, 1) := by decide +kernel
theorem dX1_dryOut_29 : decode cX1_dryOut 29 = .ok (.ifCond .ne 17, 3) := by decide +kernel
theorem dX1_dryOut_32 : decode cX1_dryOut 32 = .ok (.aload_n 0, 1) := by decide +kernel
theorem dX1_dryOut_33 : decode cX1_dryOut 33 = .ok (.iconst 3, 1) := by decide +kernel
theorem dX1_dryOut_34 : decode cX1_dryOut 34 = .ok (.aload_n 0, 1) := by decide +kernel
theorem dX1_dryOut_35 : decode cX1_dryOut 35 = .ok (.getfield 76, 3) := by decide +kernel
theorem dX1_dryOut_38 : decode cX1_dryOut 38 = .ok (.iconst 1, 1) := by decide +kernel
theorem dX1_dryOut_39 : decode cX1_dryOut 39 = .ok (.iadd, 1) := by decide +kernel
theorem dX1_dryOut_40 : decode cX1_dryOut 40 = .ok (.invokestatic 58, 3) := by decide +kernel
theorem dX1_dryOut_43 : decode cX1_dryOut 43 = .ok (.putfield 76, 3) := by decide +kernel
theorem dX1_dryOut_46 : decode cX1_dryOut 46 = .ok (.return_, 1) := by decide +kernel
theorem dX1_breedPests_0 : decode cX1_breedPests 0 = .ok (.aload_n 0, 1) := by decide +kernel
theorem dX1_breedPests_1 : decode cX1_breedPests 1 = .ok (.getfield 21, 3) := by decide +kernel
theorem dX1_breedPests_4 : decode cX1_breedPests 4 = .ok (.getfield 105, 3) := by decide +kernel
theorem dX1_breedPests_7 : decode cX1_breedPests 7 = .ok (.invokestatic 108, 3) := by decide +kernel
theorem dX1_breedPests_10 : decode cX1_breedPests 10 = .ok (.ifCond .eq 23, 3) := by decide +kernel
theorem dX1_breedPests_13 : decode cX1_breedPests 13 = .ok (.aload_n 0, 1) := by decide +kernel
theorem dX1_breedPests_14 : decode cX1_breedPests 14 = .ok (.dup, 1) := by decide +kernel
theorem dX1_breedPests_15 : decode cX1_breedPests 15 = .ok (.getfield 52, 3) := by decide +kernel
theorem dX1_breedPests_18 : decode cX1_breedPests 18 = .ok (.iconst 1, 1) := by decide +kernel
theorem dX1_breedPests_19 : decode cX1_breedPests 19 = .ok (.aload_n 0, 1) := by decide +kernel
theorem dX1_breedPests_20 : decode cX1_breedPests 20 = .ok (.getfield 52, 3) := by decide +kernel
theorem dX1_breedPests_23 : decode cX1_breedPests 23 = .ok (.iconst 4, 1) := by decide +kernel
theorem dX1_breedPests_24 : decode cX1_breedPests 24 = .ok (.idiv, 1) := by decide +kernel
theorem dX1_breedPests_25 : decode cX1_breedPests 25 = .ok (.iadd, 1) := by decide +kernel
theorem dX1_breedPests_26 : decode cX1_breedPests 26 = .ok (.iadd, 1) := by decide +kernel
theorem dX1_breedPests_27 : decode cX1_breedPests 27 = .ok (.putfield 52, 3) := by decide +kernel
theorem dX1_breedPests_30 : decode cX1_breedPests 30 = .ok (.goto 24, 3) := by decide +kernel
theorem dX1_breedPests_33 : decode cX1_breedPests 33 = .ok (.aload_n 0, 1) := by decide +kernel
theorem dX1_breedPests_34 : decode cX1_breedPests 34 = .ok (.getfield 21, 3) := by decide +kernel
theorem dX1_breedPests_37 : decode cX1_breedPests 37 = .ok (.getfield 105, 3) := by decide +kernel
theorem dX1_breedPests_40 : decode cX1_breedPests 40 = .ok (.iconst 5, 1) := by decide +kernel
theorem dX1_breedPests_41 : decode cX1_breedPests 41 = .ok (.if_icmp .eq 13, 3) := by decide +kernel
theorem dX1_breedPests_44 : decode cX1_breedPests 44 = .ok (.aload_n 0, 1) := by decide +kernel
theorem dX1_breedPests_45 : decode cX1_breedPests 45 = .ok (.dup, 1) := by decide +kernel
theorem dX1_breedPests_46 : decode cX1_breedPests 46 = .ok (.getfield 52, 3) := by decide +kernel
theorem dX1_breedPests_49 : decode cX1_breedPests 49 = .ok (.iconst 2, 1) := by decide +kernel
theorem dX1_breedPests_50 : decode cX1_breedPests 50 = .ok (.idiv, 1) := by decide +kernel
theorem dX1_breedPests_51 : decode cX1_breedPests 51 = .ok (.putfield 52, 3) := by decide +kernel
theorem dX1_breedPests_54 : decode cX1_breedPests 54 = .ok (.aload_n 0, 1) := by decide +kernel
theorem dX1_breedPests_55 : decode cX1_breedPests 55 = .ok (.getfield 112, 3) := by decide +kernel
theorem dX1_breedPests_58 : decode cX1_breedPests 58 = .ok (.ifCond .eq 13, 3) := by decide +kernel
theorem dX1_breedPests_61 : decode cX1_breedPests 61 = .ok (.aload_n 0, 1) := by decide +kernel
theorem dX1_breedPests_62 : decode cX1_breedPests 62 = .ok (.dup, 1) := by decide +kernel
theorem dX1_breedPests_63 : decode cX1_breedPests 63 = .ok (.getfield 52, 3) := by decide +kernel
theorem dX1_breedPests_66 : decode cX1_breedPests 66 = .ok (.iconst 4, 1) := by decide +kernel
theorem dX1_breedPests_67 : decode cX1_breedPests 67 = .ok (.isub, 1) := by decide +kernel
theorem dX1_breedPests_68 : decode cX1_breedPests 68 = .ok (.putfield 52, 3) := by decide +kernel
theorem dX1_breedPests_71 : decode cX1_breedPests 71 = .ok (.aload_n 0, 1) := by decide +kernel
theorem dX1_breedPests_72 : decode cX1_breedPests 72 = .ok (.iconst 0, 1) := by decide +kernel
theorem dX1_breedPests_73 : decode cX1_breedPests 73 = .ok (.bipush 99, 2) := by decide +kernel
theorem dX1_breedPests_75 : decode cX1_breedPests 75 = .ok (.aload_n 0, 1) := by decide +kernel
theorem dX1_breedPests_76 : decode cX1_breedPests 76 = .ok (.getfield 52, 3) := by decide +kernel
theorem dX1_breedPests_79 : decode cX1_breedPests 79 = .ok (.invokestatic 58, 3) := by decide +kernel
theorem dX1_breedPests_82 : decode cX1_breedPests 82 = .ok (.invokestatic 73, 3) := by decide +kernel
theorem dX1_breedPests_85 : decode cX1_breedPests 85 = .ok (.putfield 52, 3) := by decide +kernel
theorem dX1_breedPests_88 : decode cX1_breedPests 88 = .ok (.return_, 1) := by decide +kernel
theorem dX1_settlePests_0 : decode cX1_settlePests 0 = .ok (.aload_n 0, 1) := by decide +kernel
theorem dX1_settlePests_1 : decode cX1_settlePests 1 = .ok (.bipush 99, 2) := by decide +kernel
theorem dX1_settlePests_3 : decode cX1_settlePests 3 = .ok (.aload_n 0, 1) := by decide +kernel
theorem dX1_settlePests_4 : decode cX1_settlePests 4 = .ok (.getfield 52, 3) := by decide +kernel
theorem dX1_settlePests_7 : decode cX1_settlePests 7 = .ok (.aload_n 0, 1) := by decide +kernel
theorem dX1_settlePests_8 : decode cX1_settlePests 8 = .ok (.getfield 115, 3) := by decide +kernel
theorem dX1_settlePests_11 : decode cX1_settlePests 11 = .ok (.iadd, 1) := by decide +kernel
theorem dX1_settlePests_12 : decode cX1_settlePests 12 = .ok (.invokestatic 58, 3) := by decide +kernel
theorem dX1_settlePests_15 : decode cX1_settlePests 15 = .ok (.putfield 52, 3) := by decide +kernel
theorem dX1_settlePests_18 : decode cX1_settlePests 18 = .ok (.aload_n 0, 1) := by decide +kernel
theorem dX1_settlePests_19 : decode cX1_settlePests 19 = .ok (.iconst 0, 1) := by decide +kernel
theorem dX1_settlePests_20 : decode cX1_settlePests 20 = .ok (.putfield 115, 3) := by decide +kernel
theorem dX1_settlePests_23 : decode cX1_settlePests 23 = .ok (.return_, 1) := by decide +kernel
theorem dX1_copyFrom_0 : decode cX1_copyFrom 0 = .ok (.aload_n 0, 1) := by decide +kernel
theorem dX1_copyFrom_1 : decode cX1_copyFrom 1 = .ok (.aload_n 1, 1) := by decide +kernel
theorem dX1_copyFrom_2 : decode cX1_copyFrom 2 = .ok (.getfield 46, 3) := by decide +kernel
theorem dX1_copyFrom_5 : decode cX1_copyFrom 5 = .ok (.putfield 46, 3) := by decide +kernel
theorem dX1_copyFrom_8 : decode cX1_copyFrom 8 = .ok (.aload_n 0, 1) := by decide +kernel
theorem dX1_copyFrom_9 : decode cX1_copyFrom 9 = .ok (.aload_n 1, 1) := by decide +kernel
theorem dX1_copyFrom_10 : decode cX1_copyFrom 10 = .ok (.getfield 39, 3) := by decide +kernel
theorem dX1_copyFrom_13 : decode cX1_copyFrom 13 = .ok (.putfield 39, 3) := by decide +kernel
theorem dX1_copyFrom_16 : decode cX1_copyFrom 16 = .ok (.aload_n 0, 1) := by decide +kernel
theorem dX1_copyFrom_17 : decode cX1_copyFrom 17 = .ok (.aload_n 1, 1) := by decide +kernel
theorem dX1_copyFrom_18 : decode cX1_copyFrom 18 = .ok (.getfield 64, 3) := by decide +kernel
theorem dX1_copyFrom_21 : decode cX1_copyFrom 21 = .ok (.putfield 64, 3) := by decide +kernel
theorem dX1_copyFrom_24 : decode cX1_copyFrom 24 = .ok (.aload_n 0, 1) := by decide +kernel
theorem dX1_copyFrom_25 : decode cX1_copyFrom 25 = .ok (.aload_n 1, 1) := by decide +kernel
theorem dX1_copyFrom_26 : decode cX1_copyFrom 26 = .ok (.getfield 76, 3) := by decide +kernel
theorem dX1_copyFrom_29 : decode cX1_copyFrom 29 = .ok (.putfield 76, 3) := by decide +kernel
theorem dX1_copyFrom_32 : decode cX1_copyFrom 32 = .ok (.aload_n 0, 1) := by decide +kernel
theorem dX1_copyFrom_33 : decode cX1_copyFrom 33 = .ok (.aload_n 1, 1) := by decide +kernel
theorem dX1_copyFrom_34 : decode cX1_copyFrom 34 = .ok (.getfield 102, 3) := by decide +kernel
theorem dX1_copyFrom_37 : decode cX1_copyFrom 37 = .ok (.putfield 102, 3) := by decide +kernel
theorem dX1_copyFrom_40 : decode cX1_copyFrom 40 = .ok (.aload_n 0, 1) := by decide +kernel
theorem dX1_copyFrom_41 : decode cX1_copyFrom 41 = .ok (.aload_n 1, 1) := by decide +kernel
theorem dX1_copyFrom_42 : decode cX1_copyFrom 42 = .ok (.getfield 52, 3) := by decide +kernel
theorem dX1_copyFrom_45 : decode cX1_copyFrom 45 = .ok (.putfield 52, 3) := by decide +kernel
theorem dX1_copyFrom_48 : decode cX1_copyFrom 48 = .ok (.aload_n 0, 1) := by decide +kernel
theorem dX1_copyFrom_49 : decode cX1_copyFrom 49 = .ok (.aload_n 1, 1) := by decide +kernel
theorem dX1_copyFrom_50 : decode cX1_copyFrom 50 = .ok (.getfield 112, 3) := by decide +kernel
theorem dX1_copyFrom_53 : decode cX1_copyFrom 53 = .ok (.putfield 112, 3) := by decide +kernel
theorem dX1_copyFrom_56 : decode cX1_copyFrom 56 = .ok (.aload_n 0, 1) := by decide +kernel
theorem dX1_copyFrom_57 : decode cX1_copyFrom 57 = .ok (.getfield 12, 3) := by decide +kernel
theorem dX1_copyFrom_60 : decode cX1_copyFrom 60 = .ok (.aload_n 1, 1) := by decide +kernel
theorem dX1_copyFrom_61 : decode cX1_copyFrom 61 = .ok (.getfield 12, 3) := by decide +kernel
theorem dX1_copyFrom_64 : decode cX1_copyFrom 64 = .ok (.getfield 43, 3) := by decide +kernel
theorem dX1_copyFrom_67 : decode cX1_copyFrom 67 = .ok (.putfield 43, 3) := by decide +kernel
theorem dX1_copyFrom_70 : decode cX1_copyFrom 70 = .ok (.aload_n 0, 1) := by decide +kernel
theorem dX1_copyFrom_71 : decode cX1_copyFrom 71 = .ok (.getfield 21, 3) := by decide +kernel
theorem dX1_copyFrom_74 : decode cX1_copyFrom 74 = .ok (.aload_n 1, 1) := by decide +kernel
theorem dX1_copyFrom_75 : decode cX1_copyFrom 75 = .ok (.getfield 21, 3) := by decide +kernel
theorem dX1_copyFrom_78 : decode cX1_copyFrom 78 = .ok (.invokevirtual 118, 3) := by decide +kernel
theorem dX1_copyFrom_81 : decode cX1_copyFrom 81 = .ok (.return_, 1) := by decide +kernel
theorem dX2_init_0 : decode cX2_init 0 = .ok (.aload_n 0, 1) := by decide +kernel
theorem dX2_init_1 : decode cX2_init 1 = .ok (.invokespecial 3, 3) := by decide +kernel
theorem dX2_init_4 : decode cX2_init 4 = .ok (.aload_n 0, 1) := by decide +kernel
theorem dX2_init_5 : decode cX2_init 5 = .ok (.new 9, 3) := by decide +kernel
theorem dX2_init_8 : decode cX2_init 8 = .ok (.dup, 1) := by decide +kernel
theorem dX2_init_9 : decode cX2_init 9 = .ok (.invokespecial 11, 3) := by decide +kernel
theorem dX2_init_12 : decode cX2_init 12 = .ok (.putfield 12, 3) := by decide +kernel
theorem dX2_init_15 : decode cX2_init 15 = .ok (.aload_n 0, 1) := by decide +kernel
theorem dX2_init_16 : decode cX2_init 16 = .ok (.new 9, 3) := by decide +kernel
theorem dX2_init_19 : decode cX2_init 19 = .ok (.dup, 1) := by decide +kernel
theorem dX2_init_20 : decode cX2_init 20 = .ok (.invokespecial 11, 3) := by decide +kernel
theorem dX2_init_23 : decode cX2_init 23 = .ok (.putfield 18, 3) := by decide +kernel
theorem dX2_init_26 : decode cX2_init 26 = .ok (.aload_n 0, 1) := by decide +kernel
theorem dX2_init_27 : decode cX2_init 27 = .ok (.new 21, 3) := by decide +kernel
theorem dX2_init_30 : decode cX2_init 30 = .ok (.dup, 1) := by decide +kernel
theorem dX2_init_31 : decode cX2_init 31 = .ok (.invokespecial 23, 3) := by decide +kernel
theorem dX2_init_34 : decode cX2_init 34 = .ok (.putfield 24, 3) := by decide +kernel
theorem dX2_init_37 : decode cX2_init 37 = .ok (.return_, 1) := by decide +kernel
theorem dX2_addSociety_0 : decode cX2_addSociety 0 = .ok (.new 28, 3) := by decide +kernel
theorem dX2_addSociety_3 : decode cX2_addSociety 3 = .ok (.dup, 1) := by decide +kernel
theorem dX2_addSociety_4 : decode cX2_addSociety 4 = .ok (.aload_n 0, 1) := by decide +kernel
theorem dX2_addSociety_5 : decode cX2_addSociety 5 = .ok (.getfield 12, 3) := by decide +kernel
theorem dX2_addSociety_8 : decode cX2_addSociety 8 = .ok (.invokevirtual 30, 3) := by decide +kernel
theorem dX2_addSociety_11 : decode cX2_addSociety 11 = .ok (.iload_n 1, 1) := by decide +kernel
theorem dX2_addSociety_12 : decode cX2_addSociety 12 = .ok (.iload_n 2, 1) := by decide +kernel
theorem dX2_addSociety_13 : decode cX2_addSociety 13 = .ok (.iload_n 3, 1) := by decide +kernel
theorem dX2_addSociety_14 : decode cX2_addSociety 14 = .ok (.iload 4, 2) := by decide +kernel
theorem dX2_addSociety_16 : decode cX2_addSociety 16 = .ok (.invokespecial 34, 3) := by decide +kernel
theorem dX2_addSociety_19 : decode cX2_addSociety 19 = .ok (.astore 5, 2) := by decide +kernel
theorem dX2_addSociety_21 : decode cX2_addSociety 21 = .ok (.aload_n 0, 1) := by decide +kernel
theorem dX2_addSociety_22 : decode cX2_addSociety 22 = .ok (.getfield 12, 3) := by decide +kernel
theorem dX2_addSociety_25 : decode cX2_addSociety 25 = .ok (.aload 5, 2) := by decide +kernel
theorem dX2_addSociety_27 : decode cX2_addSociety 27 = .ok (.invokevirtual 37, 3) := by decide +kernel
theorem dX2_addSociety_30 : decode cX2_addSociety 30 = .ok (.pop, 1) := by decide +kernel
theorem dX2_addSociety_31 : decode cX2_addSociety 31 = .ok (.aload 5, 2) := by decide +kernel
theorem dX2_addSociety_33 : decode cX2_addSociety 33 = .ok (.getfield 41, 3) := by decide +kernel
theorem dX2_addSociety_36 : decode cX2_addSociety 36 = .ok (.ireturn, 1) := by decide +kernel
theorem dX2_addField_0 : decode cX2_addField 0 = .ok (.iload_n 1, 1) := by decide +kernel
theorem dX2_addField_1 : decode cX2_addField 1 = .ok (.ifCond .lt 14, 3) := by decide +kernel
theorem dX2_addField_4 : decode cX2_addField 4 = .ok (.iload_n 1, 1) := by decide +kernel
theorem dX2_addField_5 : decode cX2_addField 5 = .ok (.aload_n 0, 1) := by decide +kernel
theorem dX2_addField_6 : decode cX2_addField 6 = .ok (.getfield 12, 3) := by decide +kernel
theorem dX2_addField_9 : decode cX2_addField 9 = .ok (.invokevirtual 30, 3) := by decide +kernel
theorem dX2_addField_12 : decode cX2_addField 12 = .ok (.if_icmp .lt 5, 3) := by decide +kernel
theorem dX2_addField_15 : decode cX2_addField 15 = .ok (.iconst (-1), 1) := by decide +kernel
theorem dX2_addField_16 : decode cX2_addField 16 = .ok (.ireturn, 1) := by decide +kernel
theorem dX2_addField_17 : decode cX2_addField 17 = .ok (.aload_n 0, 1) := by decide +kernel
theorem dX2_addField_18 : decode cX2_addField 18 = .ok (.getfield 12, 3) := by decide +kernel
theorem dX2_addField_21 : decode cX2_addField 21 = .ok (.iload_n 1, 1) := by decide +kernel
theorem dX2_addField_22 : decode cX2_addField 22 = .ok (.invokevirtual 45, 3) := by decide +kernel
theorem dX2_addField_25 : decode cX2_addField 25 = .ok (.checkcast 28, 3) := by decide +kernel
theorem dX2_addField_28 : decode cX2_addField 28 = .ok (.astore 4, 2) := by decide +kernel
theorem dX2_addField_30 : decode cX2_addField 30 = .ok (.new 49, 3) := by decide +kernel
theorem dX2_addField_33 : decode cX2_addField 33 = .ok (.dup, 1) := by decide +kernel
theorem dX2_addField_34 : decode cX2_addField 34 = .ok (.aload_n 0, 1) := by decide +kernel
theorem dX2_addField_35 : decode cX2_addField 35 = .ok (.getfield 18, 3) := by decide +kernel
theorem dX2_addField_38 : decode cX2_addField 38 = .ok (.invokevirtual 30, 3) := by decide +kernel
theorem dX2_addField_41 : decode cX2_addField 41 = .ok (.aload 4, 2) := by decide +kernel
theorem dX2_addField_43 : decode cX2_addField 43 = .ok (.iload_n 2, 1) := by decide +kernel
theorem dX2_addField_44 : decode cX2_addField 44 = .ok (.iload_n 3, 1) := by decide +kernel
theorem dX2_addField_45 : decode cX2_addField 45 = .ok (.invokespecial 51, 3) := by decide +kernel
theorem dX2_addField_48 : decode cX2_addField 48 = .ok (.astore 5, 2) := by decide +kernel
theorem dX2_addField_50 : decode cX2_addField 50 = .ok (.aload 4, 2) := by decide +kernel
theorem dX2_addField_52 : decode cX2_addField 52 = .ok (.aload 5, 2) := by decide +kernel
theorem dX2_addField_54 : decode cX2_addField 54 = .ok (.invokevirtual 54, 3) := by decide +kernel
theorem dX2_addField_57 : decode cX2_addField 57 = .ok (.aload_n 0, 1) := by decide +kernel
theorem dX2_addField_58 : decode cX2_addField 58 = .ok (.getfield 18, 3) := by decide +kernel
theorem dX2_addField_61 : decode cX2_addField 61 = .ok (.aload 5, 2) := by decide +kernel
theorem dX2_addField_63 : decode cX2_addField 63 = .ok (.invokevirtual 37, 3) := by decide +kernel
theorem dX2_addField_66 : decode cX2_addField 66 = .ok (.pop, 1) := by decide +kernel
theorem dX2_addField_67 : decode cX2_addField 67 = .ok (.aload 5, 2) := by decide +kernel
theorem dX2_addField_69 : decode cX2_addField 69 = .ok (.getfield 58, 3) := by decide +kernel
theorem dX2_addField_72 : decode cX2_addField 72 = .ok (.ireturn, 1) := by decide +kernel
theorem dX2_templeDay_0 : decode cX2_templeDay 0 = .ok (.aload_n 0, 1) := by decide +kernel
theorem dX2_templeDay_1 : decode cX2_templeDay 1 = .ok (.getfield 59, 3) := by decide +kernel
theorem dX2_templeDay_4 : decode cX2_templeDay 4 = .ok (.sipush 210, 3) := by decide +kernel
theorem dX2_templeDay_7 : decode cX2_templeDay 7 = .ok (.invokestatic 62, 3) := by decide +kernel
theorem dX2_templeDay_10 : decode cX2_templeDay 10 = .ok (.ireturn, 1) := by decide +kernel
theorem dX2_isDark_0 : decode cX2_isDark 0 = .ok (.aload_n 0, 1) := by decide +kernel
theorem dX2_isDark_1 : decode cX2_isDark 1 = .ok (.getfield 59, 3) := by decide +kernel
theorem dX2_isDark_4 : decode cX2_isDark 4 = .ok (.bipush 30, 2) := by decide +kernel
theorem dX2_isDark_6 : decode cX2_isDark 6 = .ok (.irem, 1) := by decide +kernel
theorem dX2_isDark_7 : decode cX2_isDark 7 = .ok (.ifCond .ne 7, 3) := by decide +kernel
theorem dX2_isDark_10 : decode cX2_isDark 10 = .ok (.iconst 1, 1) := by decide +kernel
theorem dX2_isDark_11 : decode cX2_isDark 11 = .ok (.goto 4, 3) := by decide +kernel
theorem dX2_isDark_14 : decode cX2_isDark 14 = .ok (.iconst 0, 1) := by decide +kernel
theorem dX2_isDark_15 : decode cX2_isDark 15 = .ok (.ireturn, 1) := by decide +kernel
theorem dX2_passDay_0 : decode cX2_passDay 0 = .ok (.aload_n 0, 1) := by decide +kernel
theorem dX2_passDay_1 : decode cX2_passDay 1 = .ok (.dup, 1) := by decide +kernel
theorem dX2_passDay_2 : decode cX2_passDay 2 = .ok (.getfield 59, 3) := by decide +kernel
theorem dX2_passDay_5 : decode cX2_passDay 5 = .ok (.iconst 1, 1) := by decide +kernel
theorem dX2_passDay_6 : decode cX2_passDay 6 = .ok (.iadd, 1) := by decide +kernel
theorem dX2_passDay_7 : decode cX2_passDay 7 = .ok (.putfield 59, 3) := by decide +kernel
theorem dX2_passDay_10 : decode cX2_passDay 10 = .ok (.aload_n 0, 1) := by decide +kernel
theorem dX2_passDay_11 : decode cX2_passDay 11 = .ok (.iload_n 1, 1) := by decide +kernel
theorem dX2_passDay_12 : decode cX2_passDay 12 = .ok (.putfield 68, 3) := by decide +kernel
theorem dX2_passDay_15 : decode cX2_passDay 15 = .ok (.aload_n 0, 1) := by decide +kernel
theorem dX2_passDay_16 : decode cX2_passDay 16 = .ok (.iload_n 2, 1) := by decide +kernel
theorem dX2_passDay_17 : decode cX2_passDay 17 = .ok (.putfield 71, 3) := by decide +kernel
theorem dX2_passDay_20 : decode cX2_passDay 20 = .ok (.aload_n 0, 1) := by decide +kernel
theorem dX2_passDay_21 : decode cX2_passDay 21 = .ok (.iload_n 3, 1) := by decide +kernel
theorem dX2_passDay_22 : decode cX2_passDay 22 = .ok (.putfield 74, 3) := by decide +kernel
theorem dX2_passDay_25 : decode cX2_passDay 25 = .ok (.aload_n 0, 1) := by decide +kernel
theorem dX2_passDay_26 : decode cX2_passDay 26 = .ok (.getfield 24, 3) := by decide +kernel
theorem dX2_passDay_29 : decode cX2_passDay 29 = .ok (.dup, 1) := by decide +kernel
theorem dX2_passDay_30 : decode cX2_passDay 30 = .ok (.getfield 77, 3) := by decide +kernel
theorem dX2_passDay_33 : decode cX2_passDay 33 = .ok (.iload_n 1, 1) := by decide +kernel
theorem dX2_passDay_34 : decode cX2_passDay 34 = .ok (.iload_n 3, 1) := by decide +kernel
theorem dX2_passDay_35 : decode cX2_passDay 35 = .ok (.aload_n 0, 1) := by decide +kernel
theorem dX2_passDay_36 : decode cX2_passDay 36 = .ok (.getfield 18, 3) := by decide +kernel
theorem dX2_passDay_39 : decode cX2_passDay 39 = .ok (.invokevirtual 30, 3) := by decide +kernel
theorem dX2_passDay_42 : decode cX2_passDay 42 = .ok (.imul, 1) := by decide +kernel
theorem dX2_passDay_43 : decode cX2_passDay 43 = .ok (.iadd, 1) := by decide +kernel
theorem dX2_passDay_44 : decode cX2_passDay 44 = .ok (.iadd, 1) := by decide +kernel
theorem dX2_passDay_45 : decode cX2_passDay 45 = .ok (.putfield 77, 3) := by decide +kernel
theorem dX2_passDay_48 : decode cX2_passDay 48 = .ok (.aload_n 0, 1) := by decide +kernel
theorem dX2_passDay_49 : decode cX2_passDay 49 = .ok (.iload_n 1, 1) := by decide +kernel
theorem dX2_passDay_50 : decode cX2_passDay 50 = .ok (.invokevirtual 80, 3) := by decide +kernel
theorem dX2_passDay_53 : decode cX2_passDay 53 = .ok (.aload_n 0, 1) := by decide +kernel
theorem dX2_passDay_54 : decode cX2_passDay 54 = .ok (.invokevirtual 84, 3) := by decide +kernel
theorem dX2_passDay_57 : decode cX2_passDay 57 = .ok (.istore 4, 2) := by decide +kernel
theorem dX2_passDay_59 : decode cX2_passDay 59 = .ok (.iconst 0, 1) := by decide +kernel
theorem dX2_passDay_60 : decode cX2_passDay 60 = .ok (.istore 5, 2) := by decide +kernel
theorem dX2_passDay_62 : decode cX2_passDay 62 = .ok (.iload 5, 2) := by decide +kernel
theorem dX2_passDay_64 : decode cX2_passDay 64 = .ok (.aload_n 0, 1) := by decide +kernel
theorem dX2_passDay_65 : decode cX2_passDay 65 = .ok (.getfield 12, 3) := by decide +kernel
theorem dX2_passDay_68 : decode cX2_passDay 68 = .ok (.invokevirtual 30, 3) := by decide +kernel
theorem dX2_passDay_71 : decode cX2_passDay 71 = .ok (.if_icmp .ge 30, 3) := by decide +kernel
theorem dX2_passDay_74 : decode cX2_passDay 74 = .ok (.aload_n 0, 1) := by decide +kernel
theorem dX2_passDay_75 : decode cX2_passDay 75 = .ok (.getfield 12, 3) := by decide +kernel
theorem dX2_passDay_78 : decode cX2_passDay 78 = .ok (.iload 5, 2) := by decide +kernel
theorem dX2_passDay_80 : decode cX2_passDay 80 = .ok (.invokevirtual 45, 3) := by decide +kernel
theorem dX2_passDay_83 : decode cX2_passDay 83 = .ok (.checkcast 28, 3) := by decide +kernel
theorem dX2_passDay_86 : decode cX2_passDay 86 = .ok (.iload 4, 2) := by decide +kernel
theorem dX2_passDay_88 : decode cX2_passDay 88 = .ok (.aload_n 0, 1) := by decide +kernel
theorem dX2_passDay_89 : decode cX2_passDay 89 = .ok (.getfield 24, 3) := by decide +kernel
theorem dX2_passDay_92 : decode cX2_passDay 92 = .ok (.invokevirtual 87, 3) := by decide +kernel
theorem dX2_passDay_95 : decode cX2_passDay 95 = .ok (.iinc 5 1, 3) := by decide +kernel
theorem dX2_passDay_98 : decode cX2_passDay 98 = .ok (.goto (-36), 3) := by decide +kernel
theorem dX2_passDay_101 : decode cX2_passDay 101 = .ok (.iconst 0, 1) := by decide +kernel
theorem dX2_passDay_102 : decode cX2_passDay 102 = .ok (.istore 5, 2) := by decide +kernel
theorem dX2_passDay_104 : decode cX2_passDay 104 = .ok (.iload 5, 2) := by decide +kernel
theorem dX2_passDay_106 : decode cX2_passDay 106 = .ok (.aload_n 0, 1) := by decide +kernel
theorem dX2_passDay_107 : decode cX2_passDay 107 = .ok (.getfield 18, 3) := by decide +kernel
theorem dX2_passDay_110 : decode cX2_passDay 110 = .ok (.invokevirtual 30, 3) := by decide +kernel
theorem dX2_passDay_113 : decode cX2_passDay 113 = .ok (.if_icmp .ge 62, 3) := by decide +kernel
theorem dX2_passDay_116 : decode cX2_passDay 116 = .ok (.aload_n 0, 1) := by decide +kernel
theorem dX2_passDay_117 : decode cX2_passDay 117 = .ok (.getfield 18, 3) := by decide +kernel
theorem dX2_passDay_120 : decode cX2_passDay 120 = .ok (.iload 5, 2) := by decide +kernel
theorem dX2_passDay_122 : decode cX2_passDay 122 = .ok (.invokevirtual 45, 3) := by decide +kernel
theorem dX2_passDay_125 : decode cX2_passDay 125 = .ok (.checkcast 49, 3) := by decide +kernel
theorem dX2_passDay_128 : decode cX2_passDay 128 = .ok (.astore 6, 2) := by decide +kernel
theorem dX2_passDay_130 : decode cX2_passDay 130 = .ok (.aload 6, 2) := by decide +kernel
theorem dX2_passDay_132 : decode cX2_passDay 132 = .ok (.iload_n 3, 1) := by decide +kernel
theorem dX2_passDay_133 : decode cX2_passDay 133 = .ok (.aload_n 0, 1) := by decide +kernel
theorem dX2_passDay_134 : decode cX2_passDay 134 = .ok (.getfield 24, 3) := by decide +kernel
theorem dX2_passDay_137 : decode cX2_passDay 137 = .ok (.invokevirtual 91, 3) := by decide +kernel
theorem dX2_passDay_140 : decode cX2_passDay 140 = .ok (.aload 6, 2) := by decide +kernel
theorem dX2_passDay_142 : decode cX2_passDay 142 = .ok (.invokevirtual 94, 3) := by decide +kernel
theorem dX2_passDay_145 : decode cX2_passDay 145 = .ok (.aload 6, 2) := by decide +kernel
theorem dX2_passDay_147 : decode cX2_passDay 147 = .ok (.getfield 97, 3) := by decide +kernel
theorem dX2_passDay_150 : decode cX2_passDay 150 = .ok (.aload 6, 2) := by decide +kernel
theorem dX2_passDay_152 : decode cX2_passDay 152 = .ok (.getfield 101, 3) := by decide +kernel
theorem dX2_passDay_155 : decode cX2_passDay 155 = .ok (.aload 6, 2) := by decide +kernel
theorem dX2_passDay_157 : decode cX2_passDay 157 = .ok (.getfield 104, 3) := by decide +kernel
theorem dX2_passDay_160 : decode cX2_passDay 160 = .ok (.iload_n 2, 1) := by decide +kernel
theorem dX2_passDay_161 : decode cX2_passDay 161 = .ok (.invokevirtual 107, 3) := by decide +kernel
theorem dX2_passDay_164 : decode cX2_passDay 164 = .ok (.aload 6, 2) := by decide +kernel
theorem dX2_passDay_166 : decode cX2_passDay 166 = .ok (.invokevirtual 113, 3) := by decide +kernel
theorem dX2_passDay_169 : decode cX2_passDay 169 = .ok (.iinc 5 1, 3) := by decide +kernel
theorem dX2_passDay_172 : decode cX2_passDay 172 = .ok (.goto (-68), 3) := by decide +kernel
theorem dX2_passDay_175 : decode cX2_passDay 175 = .ok (.aload_n 0, 1) := by decide +kernel
theorem dX2_passDay_176 : decode cX2_passDay 176 = .ok (.invokevirtual 116, 3) := by decide +kernel
theorem dX2_passDay_179 : decode cX2_passDay 179 = .ok (.return_, 1) := by decide +kernel
theorem dX2_splitAtWeir_0 : decode cX2_splitAtWeir 0 = .ok (.iload_n 1, 1) := by decide +kernel
theorem dX2_splitAtWeir_1 : decode cX2_splitAtWeir 1 = .ok (.aload_n 0, 1) := by decide +kernel
theorem dX2_splitAtWeir_2 : decode cX2_splitAtWeir 2 = .ok (.getfield 119, 3) := by decide +kernel
theorem dX2_splitAtWeir_5 : decode cX2_splitAtWeir 5 = .ok (.iadd, 1) := by decide +kernel
theorem dX2_splitAtWeir_6 : decode cX2_splitAtWeir 6 = .ok (.istore_n 2, 1) := by decide +kernel
theorem dX2_splitAtWeir_7 : decode cX2_splitAtWeir 7 = .ok (.iconst 0, 1) := by decide +kernel
theorem dX2_splitAtWeir_8 : decode cX2_splitAtWeir 8 = .ok (.istore_n 3, 1) := by decide +kernel
theorem dX2_splitAtWeir_9 : decode cX2_splitAtWeir 9 = .ok (.iconst 0, 1) := by decide +kernel
theorem dX2_splitAtWeir_10 : decode cX2_splitAtWeir 10 = .ok (.istore 4, 2) := by decide +kernel
theorem dX2_splitAtWeir_12 : decode cX2_splitAtWeir 12 = .ok (.iload 4, 2) := by decide +kernel
theorem dX2_splitAtWeir_14 : decode cX2_splitAtWeir 14 = .ok (.aload_n 0, 1) := by decide +kernel
theorem dX2_splitAtWeir_15 : decode cX2_splitAtWeir 15 = .ok (.getfield 12, 3) := by decide +kernel
theorem dX2_splitAtWeir_18 : decode cX2_splitAtWeir 18 = .ok (.invokevirtual 30, 3) := by decide +kernel
theorem dX2_splitAtWeir_21 : decode cX2_splitAtWeir 21 = .ok (.if_icmp .ge 27, 3) := by decide +kernel
theorem dX2_splitAtWeir_24 : decode cX2_splitAtWeir 24 = .ok (.iload_n 3, 1) := by decide +kernel
theorem dX2_splitAtWeir_25 : decode cX2_splitAtWeir 25 = .ok (.aload_n 0, 1) := by decide +kernel
theorem dX2_splitAtWeir_26 : decode cX2_splitAtWeir 26 = .ok (.getfield 12, 3) := by decide +kernel
theorem dX2_splitAtWeir_29 : decode cX2_splitAtWeir 29 = .ok (.iload 4, 2) := by decide +kernel
theorem dX2_splitAtWeir_31 : decode cX2_splitAtWeir 31 = .ok (.invokevirtual 45, 3) := by decide +kernel
theorem dX2_splitAtWeir_34 : decode cX2_splitAtWeir 34 = .ok (.checkcast 28, 3) := by decide +kernel
theorem dX2_splitAtWeir_37 : decode cX2_splitAtWeir 37 = .ok (.getfield 122, 3) := by decide +kernel
theorem dX2_splitAtWeir_40 : decode cX2_splitAtWeir 40 = .ok (.iadd, 1) := by decide +kernel
theorem dX2_splitAtWeir_41 : decode cX2_splitAtWeir 41 = .ok (.istore_n 3, 1) := by decide +kernel
theorem dX2_splitAtWeir_42 : decode cX2_splitAtWeir 42 = .ok (.iinc 4 1, 3) := by decide +kernel
theorem dX2_splitAtWeir_45 : decode cX2_splitAtWeir 45 = .ok (.goto (-33), 3) := by decide +kernel
theorem dX2_splitAtWeir_48 : decode cX2_splitAtWeir 48 = .ok (.aload_n 0, 1) := by decide +kernel
theorem dX2_splitAtWeir_49 : decode cX2_splitAtWeir 49 = .ok (.iload_n 2, 1) := by decide +kernel
theorem dX2_splitAtWeir_50 : decode cX2_splitAtWeir 50 = .ok (.putfield 119, 3) := by decide +kernel
theorem dX2_splitAtWeir_53 : decode cX2_splitAtWeir 53 = .ok (.iload_n 3, 1) := by decide +kernel
theorem dX2_splitAtWeir_54 : decode cX2_splitAtWeir 54 = .ok (.ifCond .gt 4, 3) := by decide +kernel
theorem dX2_splitAtWeir_57 : decode cX2_splitAtWeir 57 = .ok (.return_, 1) := by decide +kernel
theorem dX2_splitAtWeir_58 : decode cX2_splitAtWeir 58 = .ok (.iconst 0, 1) := by decide +kernel
theorem dX2_splitAtWeir_59 : decode cX2_splitAtWeir 59 = .ok (.istore 4, 2) := by decide +kernel
theorem dX2_splitAtWeir_61 : decode cX2_splitAtWeir 61 = .ok (.iload 4, 2) := by decide +kernel
theorem dX2_splitAtWeir_63 : decode cX2_splitAtWeir 63 = .ok (.aload_n 0, 1) := by decide +kernel
theorem dX2_splitAtWeir_64 : decode cX2_splitAtWeir 64 = .ok (.getfield 12, 3) := by decide +kernel
theorem dX2_splitAtWeir_67 : decode cX2_splitAtWeir 67 = .ok (.invokevirtual 30, 3) := by decide +kernel
theorem dX2_splitAtWeir_70 : decode cX2_splitAtWeir 70 = .ok (.if_icmp .ge 51, 3) := by decide +kernel
theorem dX2_splitAtWeir_73 : decode cX2_splitAtWeir 73 = .ok (.aload_n 0, 1) := by decide +kernel
theorem dX2_splitAtWeir_74 : decode cX2_splitAtWeir 74 = .ok (.getfield 12, 3) := by decide +kernel
theorem dX2_splitAtWeir_77 : decode cX2_splitAtWeir 77 = .ok (.iload 4, 2) := by decide +kernel
theorem dX2_splitAtWeir_79 : decode cX2_splitAtWeir 79 = .ok (.invokevirtual 45, 3) := by decide +kernel
theorem dX2_splitAtWeir_82 : decode cX2_splitAtWeir 82 = .ok (.checkcast 28, 3) := by decide +kernel
theorem dX2_splitAtWeir_85 : decode cX2_splitAtWeir 85 = .ok (.astore 5, 2) := by decide +kernel
theorem dX2_splitAtWeir_87 : decode cX2_splitAtWeir 87 = .ok (.aload 5, 2) := by decide +kernel
theorem dX2_splitAtWeir_89 : decode cX2_splitAtWeir 89 = .ok (.iload_n 2, 1) := by decide +kernel
theorem dX2_splitAtWeir_90 : decode cX2_splitAtWeir 90 = .ok (.aload 5, 2) := by decide +kernel
theorem dX2_splitAtWeir_92 : decode cX2_splitAtWeir 92 = .ok (.getfield 122, 3) := by decide +kernel
theorem dX2_splitAtWeir_95 : decode cX2_splitAtWeir 95 = .ok (.imul, 1) := by decide +kernel
theorem dX2_splitAtWeir_96 : decode cX2_splitAtWeir 96 = .ok (.iload_n 3, 1) := by decide +kernel
theorem dX2_splitAtWeir_97 : decode cX2_splitAtWeir 97 = .ok (.idiv, 1) := by decide +kernel
theorem dX2_splitAtWeir_98 : decode cX2_splitAtWeir 98 = .ok (.putfield 125, 3) := by decide +kernel
theorem dX2_splitAtWeir_101 : decode cX2_splitAtWeir 101 = .ok (.aload_n 0, 1) := by decide +kernel
theorem dX2_splitAtWeir_102 : decode cX2_splitAtWeir 102 = .ok (.dup, 1) := by decide +kernel
theorem dX2_splitAtWeir_103 : decode cX2_splitAtWeir 103 = .ok (.getfield 119, 3) := by decide +kernel
theorem dX2_splitAtWeir_106 : decode cX2_splitAtWeir 106 = .ok (.aload 5, 2) := by decide +kernel
theorem dX2_splitAtWeir_108 : decode cX2_splitAtWeir 108 = .ok (.getfield 125, 3) := by decide +kernel
theorem dX2_splitAtWeir_111 : decode cX2_splitAtWeir 111 = .ok (.isub, 1) := by decide +kernel
theorem dX2_splitAtWeir_112 : decode cX2_splitAtWeir 112 = .ok (.putfield 119, 3) := by decide +kernel
theorem dX2_splitAtWeir_115 : decode cX2_splitAtWeir 115 = .ok (.iinc 4 1, 3) := by decide +kernel
theorem dX2_splitAtWeir_118 : decode cX2_splitAtWeir 118 = .ok (.goto (-57), 3) := by decide +kernel
theorem dX2_splitAtWeir_121 : decode cX2_splitAtWeir 121 = .ok (.return_, 1) := by decide +kernel
theorem dX2_flyPests_0 : decode cX2_flyPests 0 = .ok (.iconst 0, 1) := by decide +kernel
theorem dX2_flyPests_1 : decode cX2_flyPests 1 = .ok (.istore_n 1, 1) := by decide +kernel
theorem dX2_flyPests_2 : decode cX2_flyPests 2 = .ok (.iload_n 1, 1) := by decide +kernel
theorem dX2_flyPests_3 : decode cX2_flyPests 3 = .ok (.aload_n 0, 1) := by decide +kernel
theorem dX2_flyPests_4 : decode cX2_flyPests 4 = .ok (.getfield 18, 3) := by decide +kernel
theorem dX2_flyPests_7 : decode cX2_flyPests 7 = .ok (.invokevirtual 30, 3) := by decide +kernel
theorem dX2_flyPests_10 : decode cX2_flyPests 10 = .ok (.if_icmp .ge 52, 3) := by decide +kernel
theorem dX2_flyPests_13 : decode cX2_flyPests 13 = .ok (.aload_n 0, 1) := by decide +kernel
theorem dX2_flyPests_14 : decode cX2_flyPests 14 = .ok (.getfield 18, 3) := by decide +kernel
theorem dX2_flyPests_17 : decode cX2_flyPests 17 = .ok (.iload_n 1, 1) := by decide +kernel
theorem dX2_flyPests_18 : decode cX2_flyPests 18 = .ok (.invokevirtual 45, 3) := by decide +kernel
theorem dX2_flyPests_21 : decode cX2_flyPests 21 = .ok (.checkcast 49, 3) := by decide +kernel
theorem dX2_flyPests_24 : decode cX2_flyPests 24 = .ok (.astore_n 2, 1) := by decide +kernel
theorem dX2_flyPests_25 : decode cX2_flyPests 25 = .ok (.aload_n 2, 1) := by decide +kernel
theorem dX2_flyPests_26 : decode cX2_flyPests 26 = .ok (.getfield 104, 3) := by decide +kernel
theorem dX2_flyPests_29 : decode cX2_flyPests 29 = .ok (.bipush 20, 2) := by decide +kernel
theorem dX2_flyPests_31 : decode cX2_flyPests 31 = .ok (.if_icmp .le 25, 3) := by decide +kernel
theorem dX2_flyPests_34 : decode cX2_flyPests 34 = .ok (.aload_n 0, 1) := by decide +kernel
theorem dX2_flyPests_35 : decode cX2_flyPests 35 = .ok (.aload_n 2, 1) := by decide +kernel
theorem dX2_flyPests_36 : decode cX2_flyPests 36 = .ok (.aload_n 0, 1) := by decide +kernel
theorem dX2_flyPests_37 : decode cX2_flyPests 37 = .ok (.iload_n 1, 1) := by decide +kernel
theorem dX2_flyPests_38 : decode cX2_flyPests 38 = .ok (.iconst (-1), 1) := by decide +kernel
theorem dX2_flyPests_39 : decode cX2_flyPests 39 = .ok (.invokevirtual 128, 3) := by decide +kernel
theorem dX2_flyPests_42 : decode cX2_flyPests 42 = .ok (.invokevirtual 132, 3) := by decide +kernel
theorem dX2_flyPests_45 : decode cX2_flyPests 45 = .ok (.aload_n 0, 1) := by decide +kernel
theorem dX2_flyPests_46 : decode cX2_flyPests 46 = .ok (.aload_n 2, 1) := by decide +kernel
theorem dX2_flyPests_47 : decode cX2_flyPests 47 = .ok (.aload_n 0, 1) := by decide +kernel
theorem dX2_flyPests_48 : decode cX2_flyPests 48 = .ok (.iload_n 1, 1) := by decide +kernel
theorem dX2_flyPests_49 : decode cX2_flyPests 49 = .ok (.iconst 1, 1) := by decide +kernel
theorem dX2_flyPests_50 : decode cX2_flyPests 50 = .ok (.invokevirtual 128, 3) := by decide +kernel
theorem dX2_flyPests_53 : decode cX2_flyPests 53 = .ok (.invokevirtual 132, 3) := by decide +kernel
theorem dX2_flyPests_56 : decode cX2_flyPests 56 = .ok (.iinc 1 1, 3) := by decide +kernel
theorem dX2_flyPests_59 : decode cX2_flyPests 59 = .ok (.goto (-57), 3) := by decide +kernel
theorem dX2_flyPests_62 : decode cX2_flyPests 62 = .ok (.iconst 0, 1) := by decide +kernel
theorem dX2_flyPests_63 : decode cX2_flyPests 63 = .ok (.istore_n 1, 1) := by decide +kernel
theorem dX2_flyPests_64 : decode cX2_flyPests 64 = .ok (.iload_n 1, 1) := by decide +kernel
theorem dX2_flyPests_65 : decode cX2_flyPests 65 = .ok (.aload_n 0, 1) := by decide +kernel
theorem dX2_flyPests_66 : decode cX2_flyPests 66 = .ok (.getfield 18, 3) := by decide +kernel
theorem dX2_flyPests_69 : decode cX2_flyPests 69 = .ok (.invokevirtual 30, 3) := by decide +kernel
theorem dX2_flyPests_72 : decode cX2_flyPests 72 = .ok (.if_icmp .ge 23, 3) := by decide +kernel
theorem dX2_flyPests_75 : decode cX2_flyPests 75 = .ok (.aload_n 0, 1) := by decide +kernel
theorem dX2_flyPests_76 : decode cX2_flyPests 76 = .ok (.getfield 18, 3) := by decide +kernel
theorem dX2_flyPests_79 : decode cX2_flyPests 79 = .ok (.iload_n 1, 1) := by decide +kernel
theorem dX2_flyPests_80 : decode cX2_flyPests 80 = .ok (.invokevirtual 45, 3) := by decide +kernel
theorem dX2_flyPests_83 : decode cX2_flyPests 83 = .ok (.checkcast 49, 3) := by decide +kernel
theorem dX2_flyPests_86 : decode cX2_flyPests 86 = .ok (.invokevirtual 136, 3) := by decide +kernel
theorem dX2_flyPests_89 : decode cX2_flyPests 89 = .ok (.iinc 1 1, 3) := by decide +kernel
theorem dX2_flyPests_92 : decode cX2_flyPests 92 = .ok (.goto (-28), 3) := by decide +kernel
theorem dX2_flyPests_95 : decode cX2_flyPests 95 = .ok (.return_, 1) := by decide +kernel
theorem dX2_flyFrom_0 : decode cX2_flyFrom 0 = .ok (.aload_n 2, 1) := by decide +kernel
theorem dX2_flyFrom_1 : decode cX2_flyFrom 1 = .ok (.ifnonnull 4, 3) := by decide +kernel
theorem dX2_flyFrom_4 : decode cX2_flyFrom 4 = .ok (.return_, 1) := by decide +kernel
theorem dX2_flyFrom_5 : decode cX2_flyFrom 5 = .ok (.aload_n 1, 1) := by decide +kernel
theorem dX2_flyFrom_6 : decode cX2_flyFrom 6 = .ok (.getfield 104, 3) := by decide +kernel
theorem dX2_flyFrom_9 : decode cX2_flyFrom 9 = .ok (.iconst 5, 1) := by decide +kernel
theorem dX2_flyFrom_10 : decode cX2_flyFrom 10 = .ok (.idiv, 1) := by decide +kernel
theorem dX2_flyFrom_11 : decode cX2_flyFrom 11 = .ok (.istore_n 3, 1) := by decide +kernel
theorem dX2_flyFrom_12 : decode cX2_flyFrom 12 = .ok (.aload_n 1, 1) := by decide +kernel
theorem dX2_flyFrom_13 : decode cX2_flyFrom 13 = .ok (.dup, 1) := by decide +kernel
theorem dX2_flyFrom_14 : decode cX2_flyFrom 14 = .ok (.getfield 139, 3) := by decide +kernel
theorem dX2_flyFrom_17 : decode cX2_flyFrom 17 = .ok (.iload_n 3, 1) := by decide +kernel
theorem dX2_flyFrom_18 : decode cX2_flyFrom 18 = .ok (.isub, 1) := by decide +kernel
theorem dX2_flyFrom_19 : decode cX2_flyFrom 19 = .ok (.putfield 139, 3) := by decide +kernel
theorem dX2_flyFrom_22 : decode cX2_flyFrom 22 = .ok (.aload_n 2, 1) := by decide +kernel
theorem dX2_flyFrom_23 : decode cX2_flyFrom 23 = .ok (.dup, 1) := by decide +kernel
theorem dX2_flyFrom_24 : decode cX2_flyFrom 24 = .ok (.getfield 139, 3) := by decide +kernel
theorem dX2_flyFrom_27 : decode cX2_flyFrom 27 = .ok (.iload_n 3, 1) := by decide +kernel
theorem dX2_flyFrom_28 : decode cX2_flyFrom 28 = .ok (.iadd, 1) := by decide +kernel
theorem dX2_flyFrom_29 : decode cX2_flyFrom 29 = .ok (.putfield 139, 3) := by decide +kernel
theorem dX2_flyFrom_32 : decode cX2_flyFrom 32 = .ok (.return_, 1) := by decide +kernel
theorem dX2_nearestOnTheStalk_0 : decode cX2_nearestOnTheStalk 0 = .ok (.iload_n 1, 1) := by decide +kernel
theorem dX2_nearestOnTheStalk_1 : decode cX2_nearestOnTheStalk 1 = .ok (.iload_n 2, 1) := by decide +kernel
theorem dX2_nearestOnTheStalk_2 : decode cX2_nearestOnTheStalk 2 = .ok (.iadd, 1) := by decide +kernel
theorem dX2_nearestOnTheStalk_3 : decode cX2_nearestOnTheStalk 3 = .ok (.istore_n 3, 1) := by decide +kernel
theorem dX2_nearestOnTheStalk_4 : decode cX2_nearestOnTheStalk 4 = .ok (.iconst 0, 1) := by decide +kernel
theorem dX2_nearestOnTheStalk_5 : decode cX2_nearestOnTheStalk 5 = .ok (.istore 4, 2) := by decide +kernel
theorem dX2_nearestOnTheStalk_7 : decode cX2_nearestOnTheStalk 7 = .ok (.iload 4, 2) := by decide +kernel
theorem dX2_nearestOnTheStalk_9 : decode cX2_nearestOnTheStalk 9 = .ok (.aload_n 0, 1) := by decide +kernel
theorem dX2_nearestOnTheStalk_10 : decode cX2_nearestOnTheStalk 10 = .ok (.getfield 18, 3) := by decide +kernel
theorem dX2_nearestOnTheStalk_13 : decode cX2_nearestOnTheStalk 13 = .ok (.invokevirtual 30, 3) := by decide +kernel
theorem dX2_nearestOnTheStalk_16 : decode cX2_nearestOnTheStalk 16 = .ok (.if_icmp .ge 60, 3) := by decide +kernel
theorem dX2_nearestOnTheStalk_19 : decode cX2_nearestOnTheStalk 19 = .ok (.iload_n 3, 1) := by decide +kernel
theorem dX2_nearestOnTheStalk_20 : decode cX2_nearestOnTheStalk 20 = .ok (.ifCond .lt 14, 3) := by decide +kernel
theorem dX2_nearestOnTheStalk_23 : decode cX2_nearestOnTheStalk 23 = .ok (.iload_n 3, 1) := by decide +kernel
theorem dX2_nearestOnTheStalk_24 : decode cX2_nearestOnTheStalk 24 = .ok (.aload_n 0, 1) := by decide +kernel
theorem dX2_nearestOnTheStalk_25 : decode cX2_nearestOnTheStalk 25 = .ok (.getfield 18, 3) := by decide +kernel
theorem dX2_nearestOnTheStalk_28 : decode cX2_nearestOnTheStalk 28 = .ok (.invokevirtual 30, 3) := by decide +kernel
theorem dX2_nearestOnTheStalk_31 : decode cX2_nearestOnTheStalk 31 = .ok (.if_icmp .lt 5, 3) := by decide +kernel
theorem dX2_nearestOnTheStalk_34 : decode cX2_nearestOnTheStalk 34 = .ok (.aconst_null, 1) := by decide +kernel
theorem dX2_nearestOnTheStalk_35 : decode cX2_nearestOnTheStalk 35 = .ok (.areturn, 1) := by decide +kernel
theorem dX2_nearestOnTheStalk_36 : decode cX2_nearestOnTheStalk 36 = .ok (.aload_n 0, 1) := by decide +kernel
theorem dX2_nearestOnTheStalk_37 : decode cX2_nearestOnTheStalk 37 = .ok (.getfield 18, 3) := by decide +kernel
theorem dX2_nearestOnTheStalk_40 : decode cX2_nearestOnTheStalk 40 = .ok (.iload_n 3, 1) := by decide +kernel
theorem dX2_nearestOnTheStalk_41 : decode cX2_nearestOnTheStalk 41 = .ok (.invokevirtual 45, 3) := by decide +kernel
theorem dX2_nearestOnTheStalk_44 : decode cX2_nearestOnTheStalk 44 = .ok (.checkcast 49, 3) := by decide +kernel
theorem dX2_nearestOnTheStalk_47 : decode cX2_nearestOnTheStalk 47 = .ok (.astore 5, 2) := by decide +kernel
theorem dX2_nearestOnTheStalk_49 : decode cX2_nearestOnTheStalk 49 = .ok (.aload 5, 2) := by decide +kernel
theorem dX2_nearestOnTheStalk_51 : decode cX2_nearestOnTheStalk 51 = .ok (.getfield 97, 3) := by decide +kernel
theorem dX2_nearestOnTheStalk_54 : decode cX2_nearestOnTheStalk 54 = .ok (.getfield 142, 3) := by decide +kernel
theorem dX2_nearestOnTheStalk_57 : decode cX2_nearestOnTheStalk 57 = .ok (.invokestatic 145, 3) := by decide +kernel
theorem dX2_nearestOnTheStalk_60 : decode cX2_nearestOnTheStalk 60 = .ok (.ifCond .eq 6, 3) := by decide +kernel
theorem dX2_nearestOnTheStalk_63 : decode cX2_nearestOnTheStalk 63 = .ok (.aload 5, 2) := by decide +kernel
theorem dX2_nearestOnTheStalk_65 : decode cX2_nearestOnTheStalk 65 = .ok (.areturn, 1) := by decide +kernel
theorem dX2_nearestOnTheStalk_66 : decode cX2_nearestOnTheStalk 66 = .ok (.iload_n 3, 1) := by decide +kernel
theorem dX2_nearestOnTheStalk_67 : decode cX2_nearestOnTheStalk 67 = .ok (.iload_n 2, 1) := by decide +kernel
theorem dX2_nearestOnTheStalk_68 : decode cX2_nearestOnTheStalk 68 = .ok (.iadd, 1) := by decide +kernel
theorem dX2_nearestOnTheStalk_69 : decode cX2_nearestOnTheStalk 69 = .ok (.istore_n 3, 1) := by decide +kernel
theorem dX2_nearestOnTheStalk_70 : decode cX2_nearestOnTheStalk 70 = .ok (.iinc 4 1, 3) := by decide +kernel
theorem dX2_nearestOnTheStalk_73 : decode cX2_nearestOnTheStalk 73 = .ok (.goto (-66), 3) := by decide +kernel
theorem dX2_nearestOnTheStalk_76 : decode cX2_nearestOnTheStalk 76 = .ok (.aconst_null, 1) := by decide +kernel
theorem dX2_nearestOnTheStalk_77 : decode cX2_nearestOnTheStalk 77 = .ok (.areturn, 1) := by decide +kernel
theorem dX2_modelOf_0 : decode cX2_modelOf 0 = .ok (.aload_n 0, 1) := by decide +kernel
theorem dX2_modelOf_1 : decode cX2_modelOf 1 = .ok (.iload_n 1, 1) := by decide +kernel
theorem dX2_modelOf_2 : decode cX2_modelOf 2 = .ok (.iconst 1, 1) := by decide +kernel
theorem dX2_modelOf_3 : decode cX2_modelOf 3 = .ok (.isub, 1) := by decide +kernel
theorem dX2_modelOf_4 : decode cX2_modelOf 4 = .ok (.invokevirtual 149, 3) := by decide +kernel
theorem dX2_modelOf_7 : decode cX2_modelOf 7 = .ok (.astore_n 2, 1) := by decide +kernel
theorem dX2_modelOf_8 : decode cX2_modelOf 8 = .ok (.aload_n 0, 1) := by decide +kernel
theorem dX2_modelOf_9 : decode cX2_modelOf 9 = .ok (.iload_n 1, 1) := by decide +kernel
theorem dX2_modelOf_10 : decode cX2_modelOf 10 = .ok (.iconst 1, 1) := by decide +kernel
theorem dX2_modelOf_11 : decode cX2_modelOf 11 = .ok (.iadd, 1) := by decide +kernel
theorem dX2_modelOf_12 : decode cX2_modelOf 12 = .ok (.invokevirtual 149, 3) := by decide +kernel
theorem dX2_modelOf_15 : decode cX2_modelOf 15 = .ok (.astore_n 3, 1) := by decide +kernel
theorem dX2_modelOf_16 : decode cX2_modelOf 16 = .ok (.aload_n 2, 1) := by decide +kernel
theorem dX2_modelOf_17 : decode cX2_modelOf 17 = .ok (.ifnonnull 5, 3) := by decide +kernel
theorem dX2_modelOf_20 : decode cX2_modelOf 20 = .ok (.aload_n 3, 1) := by decide +kernel
theorem dX2_modelOf_21 : decode cX2_modelOf 21 = .ok (.areturn, 1) := by decide +kernel
theorem dX2_modelOf_22 : decode cX2_modelOf 22 = .ok (.aload_n 3, 1) := by decide +kernel
theorem dX2_modelOf_23 : decode cX2_modelOf 23 = .ok (.ifnonnull 5, 3) := by decide +kernel
theorem dX2_modelOf_26 : decode cX2_modelOf 26 = .ok (.aload_n 2, 1) := by decide +kernel
theorem dX2_modelOf_27 : decode cX2_modelOf 27 = .ok (.areturn, 1) := by decide +kernel
theorem dX2_modelOf_28 : decode cX2_modelOf 28 = .ok (.aload_n 3, 1) := by decide +kernel
theorem dX2_modelOf_29 : decode cX2_modelOf 29 = .ok (.invokevirtual 153, 3) := by decide +kernel
theorem dX2_modelOf_32 : decode cX2_modelOf 32 = .ok (.aload_n 2, 1) := by decide +kernel
theorem dX2_modelOf_33 : decode cX2_modelOf 33 = .ok (.invokevirtual 153, 3) := by decide +kernel
theorem dX2_modelOf_36 : decode cX2_modelOf 36 = .ok (.if_icmp .le 7, 3) := by decide +kernel
theorem dX2_modelOf_39 : decode cX2_modelOf 39 = .ok (.aload_n 3, 1) := by decide +kernel
theorem dX2_modelOf_40 : decode cX2_modelOf 40 = .ok (.goto 4, 3) := by decide +kernel
theorem dX2_modelOf_43 : decode cX2_modelOf 43 = .ok (.aload_n 2, 1) := by decide +kernel
theorem dX2_modelOf_44 : decode cX2_modelOf 44 = .ok (.areturn, 1) := by decide +kernel
theorem dX2_societyOrNull_0 : decode cX2_societyOrNull 0 = .ok (.iload_n 1, 1) := by decide +kernel
theorem dX2_societyOrNull_1 : decode cX2_societyOrNull 1 = .ok (.ifCond .lt 28, 3) := by decide +kernel
theorem dX2_societyOrNull_4 : decode cX2_societyOrNull 4 = .ok (.iload_n 1, 1) := by decide +kernel
theorem dX2_societyOrNull_5 : decode cX2_societyOrNull 5 = .ok (.aload_n 0, 1) := by decide +kernel
theorem dX2_societyOrNull_6 : decode cX2_societyOrNull 6 = .ok (.getfield 12, 3) := by decide +kernel
theorem dX2_societyOrNull_9 : decode cX2_societyOrNull 9 = .ok (.invokevirtual 30, 3) := by decide +kernel
theorem dX2_societyOrNull_12 : decode cX2_societyOrNull 12 = .ok (.if_icmp .ge 17, 3) := by decide +kernel
theorem dX2_societyOrNull_15 : decode cX2_societyOrNull 15 = .ok (.aload_n 0, 1) := by decide +kernel
theorem dX2_societyOrNull_16 : decode cX2_societyOrNull 16 = .ok (.getfield 12, 3) := by decide +kernel
theorem dX2_societyOrNull_19 : decode cX2_societyOrNull 19 = .ok (.iload_n 1, 1) := by decide +kernel
theorem dX2_societyOrNull_20 : decode cX2_societyOrNull 20 = .ok (.invokevirtual 45, 3) := by decide +kernel
theorem dX2_societyOrNull_23 : decode cX2_societyOrNull 23 = .ok (.checkcast 28, 3) := by decide +kernel
theorem dX2_societyOrNull_26 : decode cX2_societyOrNull 26 = .ok (.goto 4, 3) := by decide +kernel
theorem dX2_societyOrNull_29 : decode cX2_societyOrNull 29 = .ok (.aconst_null, 1) := by decide +kernel
theorem dX2_societyOrNull_30 : decode cX2_societyOrNull 30 = .ok (.areturn, 1) := by decide +kernel
theorem dX2_plantByPlan_0 : decode cX2_plantByPlan 0 = .ok (.iload_n 1, 1) := by decide +kernel
theorem dX2_plantByPlan_1 : decode cX2_plantByPlan 1 = .ok (.istore 4, 2) := by decide +kernel
theorem dX2_plantByPlan_3 : decode cX2_plantByPlan 3 = .ok (.iconst 0, 1) := by decide +kernel
theorem dX2_plantByPlan_4 : decode cX2_plantByPlan 4 = .ok (.istore 5, 2) := by decide +kernel
theorem dX2_plantByPlan_6 : decode cX2_plantByPlan 6 = .ok (.iload 5, 2) := by decide +kernel
theorem dX2_plantByPlan_8 : decode cX2_plantByPlan 8 = .ok (.aload_n 0, 1) := by decide +kernel
theorem dX2_plantByPlan_9 : decode cX2_plantByPlan 9 = .ok (.getfield 12, 3) := by decide +kernel
theorem dX2_plantByPlan_12 : decode cX2_plantByPlan 12 = .ok (.invokevirtual 30, 3) := by decide +kernel
theorem dX2_plantByPlan_15 : decode cX2_plantByPlan 15 = .ok (.if_icmp .ge 41, 3) := by decide +kernel
theorem dX2_plantByPlan_18 : decode cX2_plantByPlan 18 = .ok (.iload 4, 2) := by decide +kernel
theorem dX2_plantByPlan_20 : decode cX2_plantByPlan 20 = .ok (.iconst 3, 1) := by decide +kernel
theorem dX2_plantByPlan_21 : decode cX2_plantByPlan 21 = .ok (.irem, 1) := by decide +kernel
theorem dX2_plantByPlan_22 : decode cX2_plantByPlan 22 = .ok (.iconst 5, 1) := by decide +kernel
theorem dX2_plantByPlan_23 : decode cX2_plantByPlan 23 = .ok (.imul, 1) := by decide +kernel
theorem dX2_plantByPlan_24 : decode cX2_plantByPlan 24 = .ok (.iload_n 3, 1) := by decide +kernel
theorem dX2_plantByPlan_25 : decode cX2_plantByPlan 25 = .ok (.if_icmp .ne 19, 3) := by decide +kernel
theorem dX2_plantByPlan_28 : decode cX2_plantByPlan 28 = .ok (.aload_n 0, 1) := by decide +kernel
theorem dX2_plantByPlan_29 : decode cX2_plantByPlan 29 = .ok (.getfield 12, 3) := by decide +kernel
theorem dX2_plantByPlan_32 : decode cX2_plantByPlan 32 = .ok (.iload 5, 2) := by decide +kernel
theorem dX2_plantByPlan_34 : decode cX2_plantByPlan 34 = .ok (.invokevirtual 45, 3) := by decide +kernel
theorem dX2_plantByPlan_37 : decode cX2_plantByPlan 37 = .ok (.checkcast 28, 3) := by decide +kernel
theorem dX2_plantByPlan_40 : decode cX2_plantByPlan 40 = .ok (.iload_n 2, 1) := by decide +kernel
theorem dX2_plantByPlan_41 : decode cX2_plantByPlan 41 = .ok (.invokevirtual 156, 3) := by decide +kernel
theorem dX2_plantByPlan_44 : decode cX2_plantByPlan 44 = .ok (.iload 4, 2) := by decide +kernel
theorem dX2_plantByPlan_46 : decode cX2_plantByPlan 46 = .ok (.iconst 3, 1) := by decide +kernel
theorem dX2_plantByPlan_47 : decode cX2_plantByPlan 47 = .ok (.idiv, 1) := by decide +kernel
theorem dX2_plantByPlan_48 : decode cX2_plantByPlan 48 = .ok (.istore 4, 2) := by decide +kernel
theorem dX2_plantByPlan_50 : decode cX2_plantByPlan 50 = .ok (.iinc 5 1, 3) := by decide +kernel
theorem dX2_plantByPlan_53 : decode cX2_plantByPlan 53 = .ok (.goto (-47), 3) := by decide +kernel
theorem dX2_plantByPlan_56 : decode cX2_plantByPlan 56 = .ok (.return_, 1) := by decide +kernel
theorem dX2_yieldOf_0 : decode cX2_yieldOf 0 = .ok (.iload_n 1, 1) := by decide +kernel
theorem dX2_yieldOf_1 : decode cX2_yieldOf 1 = .ok (.ifCond .lt 34, 3) := by decide +kernel
theorem dX2_yieldOf_4 : decode cX2_yieldOf 4 = .ok (.iload_n 1, 1) := by decide +kernel
theorem dX2_yieldOf_5 : decode cX2_yieldOf 5 = .ok (.aload_n 0, 1) := by decide +kernel
theorem dX2_yieldOf_6 : decode cX2_yieldOf 6 = .ok (.getfield 18, 3) := by decide +kernel
theorem dX2_yieldOf_9 : decode cX2_yieldOf 9 = .ok (.invokevirtual 30, 3) := by decide +kernel
theorem dX2_yieldOf_12 : decode cX2_yieldOf 12 = .ok (.if_icmp .ge 23, 3) := by decide +kernel
theorem dX2_yieldOf_15 : decode cX2_yieldOf 15 = .ok (.aload_n 0, 1) := by decide +kernel
theorem dX2_yieldOf_16 : decode cX2_yieldOf 16 = .ok (.getfield 18, 3) := by decide +kernel
theorem dX2_yieldOf_19 : decode cX2_yieldOf 19 = .ok (.iload_n 1, 1) := by decide +kernel
theorem dX2_yieldOf_20 : decode cX2_yieldOf 20 = .ok (.invokevirtual 45, 3) := by decide +kernel
theorem dX2_yieldOf_23 : decode cX2_yieldOf 23 = .ok (.checkcast 49, 3) := by decide +kernel
theorem dX2_yieldOf_26 : decode cX2_yieldOf 26 = .ok (.getfield 97, 3) := by decide +kernel
theorem dX2_yieldOf_29 : decode cX2_yieldOf 29 = .ok (.invokevirtual 159, 3) := by decide +kernel
theorem dX2_yieldOf_32 : decode cX2_yieldOf 32 = .ok (.goto 4, 3) := by decide +kernel
theorem dX2_yieldOf_35 : decode cX2_yieldOf 35 = .ok (.iconst 0, 1) := by decide +kernel
theorem dX2_yieldOf_36 : decode cX2_yieldOf 36 = .ok (.ireturn, 1) := by decide +kernel
theorem dX2_sumOfYields_0 : decode cX2_sumOfYields 0 = .ok (.iconst 0, 1) := by decide +kernel
theorem dX2_sumOfYields_1 : decode cX2_sumOfYields 1 = .ok (.istore_n 1, 1) := by decide +kernel
theorem dX2_sumOfYields_2 : decode cX2_sumOfYields 2 = .ok (.iconst 0, 1) := by decide +kernel
theorem dX2_sumOfYields_3 : decode cX2_sumOfYields 3 = .ok (.istore_n 2, 1) := by decide +kernel
theorem dX2_sumOfYields_4 : decode cX2_sumOfYields 4 = .ok (.iload_n 2, 1) := by decide +kernel
theorem dX2_sumOfYields_5 : decode cX2_sumOfYields 5 = .ok (.aload_n 0, 1) := by decide +kernel
theorem dX2_sumOfYields_6 : decode cX2_sumOfYields 6 = .ok (.getfield 18, 3) := by decide +kernel
theorem dX2_sumOfYields_9 : decode cX2_sumOfYields 9 = .ok (.invokevirtual 30, 3) := by decide +kernel
theorem dX2_sumOfYields_12 : decode cX2_sumOfYields 12 = .ok (.if_icmp .ge 29, 3) := by decide +kernel
theorem dX2_sumOfYields_15 : decode cX2_sumOfYields 15 = .ok (.iload_n 1, 1) := by decide +kernel
theorem dX2_sumOfYields_16 : decode cX2_sumOfYields 16 = .ok (.aload_n 0, 1) := by decide +kernel
theorem dX2_sumOfYields_17 : decode cX2_sumOfYields 17 = .ok (.getfield 18, 3) := by decide +kernel
theorem dX2_sumOfYields_20 : decode cX2_sumOfYields 20 = .ok (.iload_n 2, 1) := by decide +kernel
theorem dX2_sumOfYields_21 : decode cX2_sumOfYields 21 = .ok (.invokevirtual 45, 3) := by decide +kernel
theorem dX2_sumOfYields_24 : decode cX2_sumOfYields 24 = .ok (.checkcast 49, 3) := by decide +kernel
theorem dX2_sumOfYields_27 : decode cX2_sumOfYields 27 = .ok (.getfield 97, 3) := by decide +kernel
theorem dX2_sumOfYields_30 : decode cX2_sumOfYields 30 = .ok (.invokevirtual 159, 3) := by decide +kernel
theorem dX2_sumOfYields_33 : decode cX2_sumOfYields 33 = .ok (.iadd, 1) := by decide +kernel
theorem dX2_sumOfYields_34 : decode cX2_sumOfYields 34 = .ok (.istore_n 1, 1) := by decide +kernel
theorem dX2_sumOfYields_35 : decode cX2_sumOfYields 35 = .ok (.iinc 2 1, 3) := by decide +kernel
theorem dX2_sumOfYields_38 : decode cX2_sumOfYields 38 = .ok (.goto (-34), 3) := by decide +kernel
theorem dX2_sumOfYields_41 : decode cX2_sumOfYields 41 = .ok (.iload_n 1, 1) := by decide +kernel
theorem dX2_sumOfYields_42 : decode cX2_sumOfYields 42 = .ok (.ireturn, 1) := by decide +kernel
theorem dX2_countRipe_0 : decode cX2_countRipe 0 = .ok (.iconst 0, 1) := by decide +kernel
theorem dX2_countRipe_1 : decode cX2_countRipe 1 = .ok (.istore_n 1, 1) := by decide +kernel
theorem dX2_countRipe_2 : decode cX2_countRipe 2 = .ok (.iconst 0, 1) := by decide +kernel
theorem dX2_countRipe_3 : decode cX2_countRipe 3 = .ok (.istore_n 2, 1) := by decide +kernel
theorem dX2_countRipe_4 : decode cX2_countRipe 4 = .ok (.iload_n 2, 1) := by decide +kernel
theorem dX2_countRipe_5 : decode cX2_countRipe 5 = .ok (.aload_n 0, 1) := by decide +kernel
theorem dX2_countRipe_6 : decode cX2_countRipe 6 = .ok (.getfield 18, 3) := by decide +kernel
theorem dX2_countRipe_9 : decode cX2_countRipe 9 = .ok (.invokevirtual 30, 3) := by decide +kernel
theorem dX2_countRipe_12 : decode cX2_countRipe 12 = .ok (.if_icmp .ge 38, 3) := by decide +kernel
theorem dX2_countRipe_15 : decode cX2_countRipe 15 = .ok (.iload_n 1, 1) := by decide +kernel
theorem dX2_countRipe_16 : decode cX2_countRipe 16 = .ok (.aload_n 0, 1) := by decide +kernel
theorem dX2_countRipe_17 : decode cX2_countRipe 17 = .ok (.getfield 18, 3) := by decide +kernel
theorem dX2_countRipe_20 : decode cX2_countRipe 20 = .ok (.iload_n 2, 1) := by decide +kernel
theorem dX2_countRipe_21 : decode cX2_countRipe 21 = .ok (.invokevirtual 45, 3) := by decide +kernel
theorem dX2_countRipe_24 : decode cX2_countRipe 24 = .ok (.checkcast 49, 3) := by decide +kernel
theorem dX2_countRipe_27 : decode cX2_countRipe 27 = .ok (.getfield 97, 3) := by decide +kernel
theorem dX2_countRipe_30 : decode cX2_countRipe 30 = .ok (.getfield 142, 3) := by decide +kernel
theorem dX2_countRipe_33 : decode cX2_countRipe 33 = .ok (.iconst 5, 1) := by decide +kernel
theorem dX2_countRipe_34 : decode cX2_countRipe 34 = .ok (.if_icmp .ne 7, 3) := by decide +kernel
theorem dX2_countRipe_37 : decode cX2_countRipe 37 = .ok (.iconst 1, 1) := by decide +kernel
theorem dX2_countRipe_38 : decode cX2_countRipe 38 = .ok (.goto 4, 3) := by decide +kernel
theorem dX2_countRipe_41 : decode cX2_countRipe 41 = .ok (.iconst 0, 1) := by decide +kernel
theorem dX2_countRipe_42 : decode cX2_countRipe 42 = .ok (.iadd, 1) := by decide +kernel
theorem dX2_countRipe_43 : decode cX2_countRipe 43 = .ok (.istore_n 1, 1) := by decide +kernel
theorem dX2_countRipe_44 : decode cX2_countRipe 44 = .ok (.iinc 2 1, 3) := by decide +kernel
theorem dX2_countRipe_47 : decode cX2_countRipe 47 = .ok (.goto (-43), 3) := by decide +kernel
theorem dX2_countRipe_50 : decode cX2_countRipe 50 = .ok (.iload_n 1, 1) := by decide +kernel
theorem dX2_countRipe_51 : decode cX2_countRipe 51 = .ok (.ireturn, 1) := by decide +kernel
theorem dX2_copyFrom_0 : decode cX2_copyFrom 0 = .ok (.aload_n 0, 1) := by decide +kernel
theorem dX2_copyFrom_1 : decode cX2_copyFrom 1 = .ok (.aload_n 1, 1) := by decide +kernel
theorem dX2_copyFrom_2 : decode cX2_copyFrom 2 = .ok (.getfield 59, 3) := by decide +kernel
theorem dX2_copyFrom_5 : decode cX2_copyFrom 5 = .ok (.putfield 59, 3) := by decide +kernel
theorem dX2_copyFrom_8 : decode cX2_copyFrom 8 = .ok (.aload_n 0, 1) := by decide +kernel
theorem dX2_copyFrom_9 : decode cX2_copyFrom 9 = .ok (.aload_n 1, 1) := by decide +kernel
theorem dX2_copyFrom_10 : decode cX2_copyFrom 10 = .ok (.getfield 119, 3) := by decide +kernel
theorem dX2_copyFrom_13 : decode cX2_copyFrom 13 = .ok (.putfield 119, 3) := by decide +kernel
theorem dX2_copyFrom_16 : decode cX2_copyFrom 16 = .ok (.iconst 0, 1) := by decide +kernel
theorem dX2_copyFrom_17 : decode cX2_copyFrom 17 = .ok (.istore_n 2, 1) := by decide +kernel
theorem dX2_copyFrom_18 : decode cX2_copyFrom 18 = .ok (.iload_n 2, 1) := by decide +kernel
theorem dX2_copyFrom_19 : decode cX2_copyFrom 19 = .ok (.aload_n 0, 1) := by decide +kernel
theorem dX2_copyFrom_20 : decode cX2_copyFrom 20 = .ok (.getfield 12, 3) := by decide +kernel
theorem dX2_copyFrom_23 : decode cX2_copyFrom 23 = .ok (.invokevirtual 30, 3) := by decide +kernel
theorem dX2_copyFrom_26 : decode cX2_copyFrom 26 = .ok (.if_icmp .ge 45, 3) := by decide +kernel
theorem dX2_copyFrom_29 : decode cX2_copyFrom 29 = .ok (.iload_n 2, 1) := by decide +kernel
theorem dX2_copyFrom_30 : decode cX2_copyFrom 30 = .ok (.aload_n 1, 1) := by decide +kernel
theorem dX2_copyFrom_31 : decode cX2_copyFrom 31 = .ok (.getfield 12, 3) := by decide +kernel
theorem dX2_copyFrom_34 : decode cX2_copyFrom 34 = .ok (.invokevirtual 30, 3) := by decide +kernel
theorem dX2_copyFrom_37 : decode cX2_copyFrom 37 = .ok (.if_icmp .ge 34, 3) := by decide +kernel
theorem dX2_copyFrom_40 : decode cX2_copyFrom 40 = .ok (.aload_n 0, 1) := by decide +kernel
theorem dX2_copyFrom_41 : decode cX2_copyFrom 41 = .ok (.getfield 12, 3) := by decide +kernel
theorem dX2_copyFrom_44 : decode cX2_copyFrom 44 = .ok (.iload_n 2, 1) := by decide +kernel
theorem dX2_copyFrom_45 : decode cX2_copyFrom 45 = .ok (.invokevirtual 45, 3) := by decide +kernel
theorem dX2_copyFrom_48 : decode cX2_copyFrom 48 = .ok (.checkcast 28, 3) := by decide +kernel
theorem dX2_copyFrom_51 : decode cX2_copyFrom 51 = .ok (.aload_n 1, 1) := by decide +kernel
theorem dX2_copyFrom_52 : decode cX2_copyFrom 52 = .ok (.getfield 12, 3) := by decide +kernel
theorem dX2_copyFrom_55 : decode cX2_copyFrom 55 = .ok (.iload_n 2, 1) := by decide +kernel
theorem dX2_copyFrom_56 : decode cX2_copyFrom 56 = .ok (.invokevirtual 45, 3) := by decide +kernel
theorem dX2_copyFrom_59 : decode cX2_copyFrom 59 = .ok (.checkcast 28, 3) := by decide +kernel
theorem dX2_copyFrom_62 : decode cX2_copyFrom 62 = .ok (.invokevirtual 162, 3) := by decide +kernel
theorem dX2_copyFrom_65 : decode cX2_copyFrom 65 = .ok (.iinc 2 1, 3) := by decide +kernel
theorem dX2_copyFrom_68 : decode cX2_copyFrom 68 = .ok (.goto (-50), 3) := by decide +kernel
theorem dX2_copyFrom_71 : decode cX2_copyFrom 71 = .ok (.iconst 0, 1) := by decide +kernel
theorem dX2_copyFrom_72 : decode cX2_copyFrom 72 = .ok (.istore_n 2, 1) := by decide +kernel
theorem dX2_copyFrom_73 : decode cX2_copyFrom 73 = .ok (.iload_n 2, 1) := by decide +kernel
theorem dX2_copyFrom_74 : decode cX2_copyFrom 74 = .ok (.aload_n 0, 1) := by decide +kernel
theorem dX2_copyFrom_75 : decode cX2_copyFrom 75 = .ok (.getfield 18, 3) := by decide +kernel
theorem dX2_copyFrom_78 : decode cX2_copyFrom 78 = .ok (.invokevirtual 30, 3) := by decide +kernel
theorem dX2_copyFrom_81 : decode cX2_copyFrom 81 = .ok (.if_icmp .ge 45, 3) := by decide +kernel
theorem dX2_copyFrom_84 : decode cX2_copyFrom 84 = .ok (.iload_n 2, 1) := by decide +kernel
theorem dX2_copyFrom_85 : decode cX2_copyFrom 85 = .ok (.aload_n 1, 1) := by decide +kernel
theorem dX2_copyFrom_86 : decode cX2_copyFrom 86 = .ok (.getfield 18, 3) := by decide +kernel
theorem dX2_copyFrom_89 : decode cX2_copyFrom 89 = .ok (.invokevirtual 30, 3) := by decide +kernel
theorem dX2_copyFrom_92 : decode cX2_copyFrom 92 = .ok (.if_icmp .ge 34, 3) := by decide +kernel
theorem dX2_copyFrom_95 : decode cX2_copyFrom 95 = .ok (.aload_n 0, 1) := by decide +kernel
theorem dX2_copyFrom_96 : decode cX2_copyFrom 96 = .ok (.getfield 18, 3) := by decide +kernel
theorem dX2_copyFrom_99 : decode cX2_copyFrom 99 = .ok (.iload_n 2, 1) := by decide +kernel
theorem dX2_copyFrom_100 : decode cX2_copyFrom 100 = .ok (.invokevirtual 45, 3) := by decide +kernel
theorem dX2_copyFrom_103 : decode cX2_copyFrom 103 = .ok (.checkcast 49, 3) := by decide +kernel
theorem dX2_copyFrom_106 : decode cX2_copyFrom 106 = .ok (.aload_n 1, 1) := by decide +kernel
theorem dX2_copyFrom_107 : decode cX2_copyFrom 107 = .ok (.getfield 18, 3) := by decide +kernel
theorem dX2_copyFrom_110 : decode cX2_copyFrom 110 = .ok (.iload_n 2, 1) := by decide +kernel
theorem dX2_copyFrom_111 : decode cX2_copyFrom 111 = .ok (.invokevirtual 45, 3) := by decide +kernel
theorem dX2_copyFrom_114 : decode cX2_copyFrom 114 = .ok (.checkcast 49, 3) := by decide +kernel
theorem dX2_copyFrom_117 : decode cX2_copyFrom 117 = .ok (.invokevirtual 166, 3) := by decide +kernel
theorem dX2_copyFrom_120 : decode cX2_copyFrom 120 = .ok (.iinc 2 1, 3) := by decide +kernel
theorem dX2_copyFrom_123 : decode cX2_copyFrom 123 = .ok (.goto (-50), 3) := by decide +kernel
theorem dX2_copyFrom_126 : decode cX2_copyFrom 126 = .ok (.return_, 1) := by decide +kernel
theorem dX3_init_0 : decode cX3_init 0 = .ok (.aload_n 0, 1) := by decide +kernel
theorem dX3_init_1 : decode cX3_init 1 = .ok (.invokespecial 1, 3) := by decide +kernel
theorem dX3_init_4 : decode cX3_init 4 = .ok (.return_, 1) := by decide +kernel
theorem dX3_sumOfGone_0 : decode cX3_sumOfGone 0 = .ok (.aload_n 0, 1) := by decide +kernel
theorem dX3_sumOfGone_1 : decode cX3_sumOfGone 1 = .ok (.getfield 7, 3) := by decide +kernel
theorem dX3_sumOfGone_4 : decode cX3_sumOfGone 4 = .ok (.aload_n 0, 1) := by decide +kernel
theorem dX3_sumOfGone_5 : decode cX3_sumOfGone 5 = .ok (.getfield 13, 3) := by decide +kernel
theorem dX3_sumOfGone_8 : decode cX3_sumOfGone 8 = .ok (.iadd, 1) := by decide +kernel
theorem dX3_sumOfGone_9 : decode cX3_sumOfGone 9 = .ok (.aload_n 0, 1) := by decide +kernel
theorem dX3_sumOfGone_10 : decode cX3_sumOfGone 10 = .ok (.getfield 16, 3) := by decide +kernel
theorem dX3_sumOfGone_13 : decode cX3_sumOfGone 13 = .ok (.iadd, 1) := by decide +kernel
theorem dX3_sumOfGone_14 : decode cX3_sumOfGone 14 = .ok (.ireturn, 1) := by decide +kernel
theorem dX4_init_0 : decode cX4_init 0 = .ok (.aload_n 0, 1) := by decide +kernel
theorem dX4_init_1 : decode cX4_init 1 = .ok (.invokespecial 1, 3) := by decide +kernel
theorem dX4_init_4 : decode cX4_init 4 = .ok (.aload_n 0, 1) := by decide +kernel
theorem dX4_init_5 : decode cX4_init 5 = .ok (.bipush 20, 2) := by decide +kernel
theorem dX4_init_7 : decode cX4_init 7 = .ok (.putfield 7, 3) := by decide +kernel
theorem dX4_init_10 : decode cX4_init 10 = .ok (.return_, 1) := by decide +kernel
theorem dX4_isExcluded_0 : decode cX4_isExcluded 0 = .ok (.aload_n 0, 1) := by decide +kernel
theorem dX4_isExcluded_1 : decode cX4_isExcluded 1 = .ok (.getfield 7, 3) := by decide +kernel
theorem dX4_isExcluded_4 : decode cX4_isExcluded 4 = .ok (.ifCond .ge 7, 3) := by decide +kernel
theorem dX4_isExcluded_7 : decode cX4_isExcluded 7 = .ok (.iconst 1, 1) := by decide +kernel
theorem dX4_isExcluded_8 : decode cX4_isExcluded 8 = .ok (.goto 4, 3) := by decide +kernel
theorem dX4_isExcluded_11 : decode cX4_isExcluded 11 = .ok (.iconst 0, 1) := by decide +kernel
theorem dX4_isExcluded_12 : decode cX4_isExcluded 12 = .ok (.ireturn, 1) := by decide +kernel
theorem dX5_init_0 : decode cX5_init 0 = .ok (.aload_n 0, 1) := by decide +kernel
theorem dX5_init_1 : decode cX5_init 1 = .ok (.invokespecial 3, 3) := by decide +kernel
theorem dX5_init_4 : decode cX5_init 4 = .ok (.aload_n 0, 1) := by decide +kernel
theorem dX5_init_5 : decode cX5_init 5 = .ok (.new 9, 3) := by decide +kernel
theorem dX5_init_8 : decode cX5_init 8 = .ok (.dup, 1) := by decide +kernel
theorem dX5_init_9 : decode cX5_init 9 = .ok (.invokespecial 11, 3) := by decide +kernel
theorem dX5_init_12 : decode cX5_init 12 = .ok (.putfield 12, 3) := by decide +kernel
theorem dX5_init_15 : decode cX5_init 15 = .ok (.aload_n 0, 1) := by decide +kernel
theorem dX5_init_16 : decode cX5_init 16 = .ok (.iconst (-1), 1) := by decide +kernel
theorem dX5_init_17 : decode cX5_init 17 = .ok (.putfield 18, 3) := by decide +kernel
theorem dX5_init_20 : decode cX5_init 20 = .ok (.aload_n 0, 1) := by decide +kernel
theorem dX5_init_21 : decode cX5_init 21 = .ok (.iload_n 1, 1) := by decide +kernel
theorem dX5_init_22 : decode cX5_init 22 = .ok (.putfield 22, 3) := by decide +kernel
theorem dX5_init_25 : decode cX5_init 25 = .ok (.aload_n 0, 1) := by decide +kernel
theorem dX5_init_26 : decode cX5_init 26 = .ok (.iload_n 2, 1) := by decide +kernel
theorem dX5_init_27 : decode cX5_init 27 = .ok (.putfield 25, 3) := by decide +kernel
theorem dX5_init_30 : decode cX5_init 30 = .ok (.aload_n 0, 1) := by decide +kernel
theorem dX5_init_31 : decode cX5_init 31 = .ok (.iload_n 3, 1) := by decide +kernel
theorem dX5_init_32 : decode cX5_init 32 = .ok (.putfield 28, 3) := by decide +kernel
theorem dX5_init_35 : decode cX5_init 35 = .ok (.aload_n 0, 1) := by decide +kernel
theorem dX5_init_36 : decode cX5_init 36 = .ok (.iload 4, 2) := by decide +kernel
theorem dX5_init_38 : decode cX5_init 38 = .ok (.putfield 31, 3) := by decide +kernel
theorem dX5_init_41 : decode cX5_init 41 = .ok (.aload_n 0, 1) := by decide +kernel
theorem dX5_init_42 : decode cX5_init 42 = .ok (.iload 5, 2) := by decide +kernel
theorem dX5_init_44 : decode cX5_init 44 = .ok (.putfield 34, 3) := by decide +kernel
theorem dX5_init_47 : decode cX5_init 47 = .ok (.return_, 1) := by decide +kernel
theorem dX5_take_0 : decode cX5_take 0 = .ok (.aload_n 0, 1) := by decide +kernel
theorem dX5_take_1 : decode cX5_take 1 = .ok (.getfield 12, 3) := by decide +kernel
theorem dX5_take_4 : decode cX5_take 4 = .ok (.invokevirtual 37, 3) := by decide +kernel
theorem dX5_take_7 : decode cX5_take 7 = .ok (.ifCond .ne 26, 3) := by decide +kernel
theorem dX5_take_10 : decode cX5_take 10 = .ok (.aload_n 0, 1) := by decide +kernel
theorem dX5_take_11 : decode cX5_take 11 = .ok (.getfield 12, 3) := by decide +kernel
theorem dX5_take_14 : decode cX5_take 14 = .ok (.aload_n 0, 1) := by decide +kernel
theorem dX5_take_15 : decode cX5_take 15 = .ok (.getfield 12, 3) := by decide +kernel
theorem dX5_take_18 : decode cX5_take 18 = .ok (.invokevirtual 41, 3) := by decide +kernel
theorem dX5_take_21 : decode cX5_take 21 = .ok (.iconst 1, 1) := by decide +kernel
theorem dX5_take_22 : decode cX5_take 22 = .ok (.isub, 1) := by decide +kernel
theorem dX5_take_23 : decode cX5_take 23 = .ok (.invokevirtual 45, 3) := by decide +kernel
theorem dX5_take_26 : decode cX5_take 26 = .ok (.checkcast 49, 3) := by decide +kernel
theorem dX5_take_29 : decode cX5_take 29 = .ok (.aload_n 1, 1) := by decide +kernel
theorem dX5_take_30 : decode cX5_take 30 = .ok (.putfield 51, 3) := by decide +kernel
theorem dX5_take_33 : decode cX5_take 33 = .ok (.aload_n 0, 1) := by decide +kernel
theorem dX5_take_34 : decode cX5_take 34 = .ok (.getfield 12, 3) := by decide +kernel
theorem dX5_take_37 : decode cX5_take 37 = .ok (.aload_n 1, 1) := by decide +kernel
theorem dX5_take_38 : decode cX5_take 38 = .ok (.invokevirtual 55, 3) := by decide +kernel
theorem dX5_take_41 : decode cX5_take 41 = .ok (.pop, 1) := by decide +kernel
theorem dX5_take_42 : decode cX5_take 42 = .ok (.return_, 1) := by decide +kernel
theorem dX5_isOpenOn_0 : decode cX5_isOpenOn 0 = .ok (.iload_n 1, 1) := by decide +kernel
theorem dX5_isOpenOn_1 : decode cX5_isOpenOn 1 = .ok (.aload_n 0, 1) := by decide +kernel
theorem dX5_isOpenOn_2 : decode cX5_isOpenOn 2 = .ok (.getfield 31, 3) := by decide +kernel
theorem dX5_isOpenOn_5 : decode cX5_isOpenOn 5 = .ok (.isub, 1) := by decide +kernel
theorem dX5_isOpenOn_6 : decode cX5_isOpenOn 6 = .ok (.sipush 210, 3) := by decide +kernel
theorem dX5_isOpenOn_9 : decode cX5_isOpenOn 9 = .ok (.invokestatic 59, 3) := by decide +kernel
theorem dX5_isOpenOn_12 : decode cX5_isOpenOn 12 = .ok (.aload_n 0, 1) := by decide +kernel
theorem dX5_isOpenOn_13 : decode cX5_isOpenOn 13 = .ok (.getfield 34, 3) := by decide +kernel
theorem dX5_isOpenOn_16 : decode cX5_isOpenOn 16 = .ok (.if_icmp .ge 7, 3) := by decide +kernel
theorem dX5_isOpenOn_19 : decode cX5_isOpenOn 19 = .ok (.iconst 1, 1) := by decide +kernel
theorem dX5_isOpenOn_20 : decode cX5_isOpenOn 20 = .ok (.goto 4, 3) := by decide +kernel
theorem dX5_isOpenOn_23 : decode cX5_isOpenOn 23 = .ok (.iconst 0, 1) := by decide +kernel
theorem dX5_isOpenOn_24 : decode cX5_isOpenOn 24 = .ok (.ireturn, 1) := by decide +kernel
theorem dX5_shareOut_0 : decode cX5_shareOut 0 = .ok (.iconst 0, 1) := by decide +kernel
theorem dX5_shareOut_1 : decode cX5_shareOut 1 = .ok (.istore_n 3, 1) := by decide +kernel
theorem dX5_shareOut_2 : decode cX5_shareOut 2 = .ok (.iload_n 3, 1) := by decide +kernel
theorem dX5_shareOut_3 : decode cX5_shareOut 3 = .ok (.aload_n 0, 1) := by decide +kernel
theorem dX5_shareOut_4 : decode cX5_shareOut 4 = .ok (.getfield 12, 3) := by decide +kernel
theorem dX5_shareOut_7 : decode cX5_shareOut 7 = .ok (.invokevirtual 41, 3) := by decide +kernel
theorem dX5_shareOut_10 : decode cX5_shareOut 10 = .ok (.if_icmp .ge 24, 3) := by decide +kernel
theorem dX5_shareOut_13 : decode cX5_shareOut 13 = .ok (.aload_n 0, 1) := by decide +kernel
theorem dX5_shareOut_14 : decode cX5_shareOut 14 = .ok (.getfield 12, 3) := by decide +kernel
theorem dX5_shareOut_17 : decode cX5_shareOut 17 = .ok (.iload_n 3, 1) := by decide +kernel
theorem dX5_shareOut_18 : decode cX5_shareOut 18 = .ok (.invokevirtual 45, 3) := by decide +kernel
theorem dX5_shareOut_21 : decode cX5_shareOut 21 = .ok (.checkcast 49, 3) := by decide +kernel
theorem dX5_shareOut_24 : decode cX5_shareOut 24 = .ok (.iconst 0, 1) := by decide +kernel
theorem dX5_shareOut_25 : decode cX5_shareOut 25 = .ok (.putfield 65, 3) := by decide +kernel
theorem dX5_shareOut_28 : decode cX5_shareOut 28 = .ok (.iinc 3 1, 3) := by decide +kernel
theorem dX5_shareOut_31 : decode cX5_shareOut 31 = .ok (.goto (-29), 3) := by decide +kernel
theorem dX5_shareOut_34 : decode cX5_shareOut 34 = .ok (.aload_n 0, 1) := by decide +kernel
theorem dX5_shareOut_35 : decode cX5_shareOut 35 = .ok (.getfield 68, 3) := by decide +kernel
theorem dX5_shareOut_38 : decode cX5_shareOut 38 = .ok (.aload_n 0, 1) := by decide +kernel
theorem dX5_shareOut_39 : decode cX5_shareOut 39 = .ok (.getfield 28, 3) := by decide +kernel
theorem dX5_shareOut_42 : decode cX5_shareOut 42 = .ok (.imul, 1) := by decide +kernel
theorem dX5_shareOut_43 : decode cX5_shareOut 43 = .ok (.bipush 100, 2) := by decide +kernel
theorem dX5_shareOut_45 : decode cX5_shareOut 45 = .ok (.idiv, 1) := by decide +kernel
theorem dX5_shareOut_46 : decode cX5_shareOut 46 = .ok (.istore_n 3, 1) := by decide +kernel
theorem dX5_shareOut_47 : decode cX5_shareOut 47 = .ok (.aload_n 2, 1) := by decide +kernel
theorem dX5_shareOut_48 : decode cX5_shareOut 48 = .ok (.dup, 1) := by decide +kernel
theorem dX5_shareOut_49 : decode cX5_shareOut 49 = .ok (.getfield 71, 3) := by decide +kernel
theorem dX5_shareOut_52 : decode cX5_shareOut 52 = .ok (.iload_n 3, 1) := by decide +kernel
theorem dX5_shareOut_53 : decode cX5_shareOut 53 = .ok (.iadd, 1) := by decide +kernel
theorem dX5_shareOut_54 : decode cX5_shareOut 54 = .ok (.putfield 71, 3) := by decide +kernel
theorem dX5_shareOut_57 : decode cX5_shareOut 57 = .ok (.aload_n 0, 1) := by decide +kernel
theorem dX5_shareOut_58 : decode cX5_shareOut 58 = .ok (.getfield 68, 3) := by decide +kernel
theorem dX5_shareOut_61 : decode cX5_shareOut 61 = .ok (.iload_n 3, 1) := by decide +kernel
theorem dX5_shareOut_62 : decode cX5_shareOut 62 = .ok (.isub, 1) := by decide +kernel
theorem dX5_shareOut_63 : decode cX5_shareOut 63 = .ok (.aload_n 0, 1) := by decide +kernel
theorem dX5_shareOut_64 : decode cX5_shareOut 64 = .ok (.getfield 76, 3) := by decide +kernel
theorem dX5_shareOut_67 : decode cX5_shareOut 67 = .ok (.iadd, 1) := by decide +kernel
theorem dX5_shareOut_68 : decode cX5_shareOut 68 = .ok (.istore 4, 2) := by decide +kernel
theorem dX5_shareOut_70 : decode cX5_shareOut 70 = .ok (.aload_n 0, 1) := by decide +kernel
theorem dX5_shareOut_71 : decode cX5_shareOut 71 = .ok (.iconst 0, 1) := by decide +kernel
theorem dX5_shareOut_72 : decode cX5_shareOut 72 = .ok (.putfield 76, 3) := by decide +kernel
theorem dX5_shareOut_75 : decode cX5_shareOut 75 = .ok (.aload_n 0, 1) := by decide +kernel
theorem dX5_shareOut_76 : decode cX5_shareOut 76 = .ok (.iload_n 1, 1) := by decide +kernel
theorem dX5_shareOut_77 : decode cX5_shareOut 77 = .ok (.invokevirtual 79, 3) := by decide +kernel
theorem dX5_shareOut_80 : decode cX5_shareOut 80 = .ok (.ifCond .ne 17, 3) := by decide +kernel
theorem dX5_shareOut_83 : decode cX5_shareOut 83 = .ok (.aload_n 2, 1) := by decide +kernel
theorem dX5_shareOut_84 : decode cX5_shareOut 84 = .ok (.dup, 1) := by decide +kernel
theorem dX5_shareOut_85 : decode cX5_shareOut 85 = .ok (.getfield 83, 3) := by decide +kernel
theorem dX5_shareOut_88 : decode cX5_shareOut 88 = .ok (.iload 4, 2) := by decide +kernel
theorem dX5_shareOut_90 : decode cX5_shareOut 90 = .ok (.iadd, 1) := by decide +kernel
theorem dX5_shareOut_91 : decode cX5_shareOut 91 = .ok (.putfield 83, 3) := by decide +kernel
theorem dX5_shareOut_94 : decode cX5_shareOut 94 = .ok (.goto 31, 3) := by decide +kernel
theorem dX5_shareOut_97 : decode cX5_shareOut 97 = .ok (.aload_n 0, 1) := by decide +kernel
theorem dX5_shareOut_98 : decode cX5_shareOut 98 = .ok (.getfield 86, 3) := by decide +kernel
theorem dX5_shareOut_101 : decode cX5_shareOut 101 = .ok (.ifCond .eq 17, 3) := by decide +kernel
theorem dX5_shareOut_104 : decode cX5_shareOut 104 = .ok (.aload_n 0, 1) := by decide +kernel
theorem dX5_shareOut_105 : decode cX5_shareOut 105 = .ok (.aload_n 0, 1) := by decide +kernel
theorem dX5_shareOut_106 : decode cX5_shareOut 106 = .ok (.invokevirtual 90, 3) := by decide +kernel
theorem dX5_shareOut_109 : decode cX5_shareOut 109 = .ok (.iload 4, 2) := by decide +kernel
theorem dX5_shareOut_111 : decode cX5_shareOut 111 = .ok (.aload_n 2, 1) := by decide +kernel
theorem dX5_shareOut_112 : decode cX5_shareOut 112 = .ok (.invokevirtual 94, 3) := by decide +kernel
theorem dX5_shareOut_115 : decode cX5_shareOut 115 = .ok (.goto 10, 3) := by decide +kernel
theorem dX5_shareOut_118 : decode cX5_shareOut 118 = .ok (.aload_n 0, 1) := by decide +kernel
theorem dX5_shareOut_119 : decode cX5_shareOut 119 = .ok (.iload 4, 2) := by decide +kernel
theorem dX5_shareOut_121 : decode cX5_shareOut 121 = .ok (.aload_n 2, 1) := by decide +kernel
theorem dX5_shareOut_122 : decode cX5_shareOut 122 = .ok (.invokevirtual 98, 3) := by decide +kernel
theorem dX5_shareOut_125 : decode cX5_shareOut 125 = .ok (.return_, 1) := by decide +kernel
theorem dX5_giveInTurn_0 : decode cX5_giveInTurn 0 = .ok (.aload_n 1, 1) := by decide +kernel
theorem dX5_giveInTurn_1 : decode cX5_giveInTurn 1 = .ok (.ifnonnull 14, 3) := by decide +kernel
theorem dX5_giveInTurn_4 : decode cX5_giveInTurn 4 = .ok (.aload_n 3, 1) := by decide +kernel
theorem dX5_giveInTurn_5 : decode cX5_giveInTurn 5 = .ok (.dup, 1) := by decide +kernel
theorem dX5_giveInTurn_6 : decode cX5_giveInTurn 6 = .ok (.getfield 83, 3) := by decide +kernel
theorem dX5_giveInTurn_9 : decode cX5_giveInTurn 9 = .ok (.iload_n 2, 1) := by decide +kernel
theorem dX5_giveInTurn_10 : decode cX5_giveInTurn 10 = .ok (.iadd, 1) := by decide +kernel
theorem dX5_giveInTurn_11 : decode cX5_giveInTurn 11 = .ok (.putfield 83, 3) := by decide +kernel
theorem dX5_giveInTurn_14 : decode cX5_giveInTurn 14 = .ok (.return_, 1) := by decide +kernel
theorem dX5_giveInTurn_15 : decode cX5_giveInTurn 15 = .ok (.aload_n 1, 1) := by decide +kernel
theorem dX5_giveInTurn_16 : decode cX5_giveInTurn 16 = .ok (.iload_n 2, 1) := by decide +kernel
theorem dX5_giveInTurn_17 : decode cX5_giveInTurn 17 = .ok (.putfield 65, 3) := by decide +kernel
theorem dX5_giveInTurn_20 : decode cX5_giveInTurn 20 = .ok (.aload_n 0, 1) := by decide +kernel
theorem dX5_giveInTurn_21 : decode cX5_giveInTurn 21 = .ok (.aload_n 1, 1) := by decide +kernel
theorem dX5_giveInTurn_22 : decode cX5_giveInTurn 22 = .ok (.getfield 102, 3) := by decide +kernel
theorem dX5_giveInTurn_25 : decode cX5_giveInTurn 25 = .ok (.putfield 18, 3) := by decide +kernel
theorem dX5_giveInTurn_28 : decode cX5_giveInTurn 28 = .ok (.return_, 1) := by decide +kernel
theorem dX5_nextInTurn_0 : decode cX5_nextInTurn 0 = .ok (.aconst_null, 1) := by decide +kernel
theorem dX5_nextInTurn_1 : decode cX5_nextInTurn 1 = .ok (.astore_n 1, 1) := by decide +kernel
theorem dX5_nextInTurn_2 : decode cX5_nextInTurn 2 = .ok (.iconst 0, 1) := by decide +kernel
theorem dX5_nextInTurn_3 : decode cX5_nextInTurn 3 = .ok (.istore_n 2, 1) := by decide +kernel
theorem dX5_nextInTurn_4 : decode cX5_nextInTurn 4 = .ok (.iload_n 2, 1) := by decide +kernel
theorem dX5_nextInTurn_5 : decode cX5_nextInTurn 5 = .ok (.aload_n 0, 1) := by decide +kernel
theorem dX5_nextInTurn_6 : decode cX5_nextInTurn 6 = .ok (.getfield 12, 3) := by decide +kernel
theorem dX5_nextInTurn_9 : decode cX5_nextInTurn 9 = .ok (.invokevirtual 41, 3) := by decide +kernel
theorem dX5_nextInTurn_12 : decode cX5_nextInTurn 12 = .ok (.if_icmp .ge 50, 3) := by decide +kernel
theorem dX5_nextInTurn_15 : decode cX5_nextInTurn 15 = .ok (.aload_n 0, 1) := by decide +kernel
theorem dX5_nextInTurn_16 : decode cX5_nextInTurn 16 = .ok (.getfield 12, 3) := by decide +kernel
theorem dX5_nextInTurn_19 : decode cX5_nextInTurn 19 = .ok (.iload_n 2, 1) := by decide +kernel
theorem dX5_nextInTurn_20 : decode cX5_nextInTurn 20 = .ok (.invokevirtual 45, 3) := by decide +kernel
theorem dX5_nextInTurn_23 : decode cX5_nextInTurn 23 = .ok (.checkcast 49, 3) := by decide +kernel
theorem dX5_nextInTurn_26 : decode cX5_nextInTurn 26 = .ok (.astore_n 3, 1) := by decide +kernel
theorem dX5_nextInTurn_27 : decode cX5_nextInTurn 27 = .ok (.aload_n 3, 1) := by decide +kernel
theorem dX5_nextInTurn_28 : decode cX5_nextInTurn 28 = .ok (.invokevirtual 103, 3) := by decide +kernel
theorem dX5_nextInTurn_31 : decode cX5_nextInTurn 31 = .ok (.ifCond .ne 6, 3) := by decide +kernel
theorem dX5_nextInTurn_34 : decode cX5_nextInTurn 34 = .ok (.goto 22, 3) := by decide +kernel
theorem dX5_nextInTurn_37 : decode cX5_nextInTurn 37 = .ok (.aload_n 3, 1) := by decide +kernel
theorem dX5_nextInTurn_38 : decode cX5_nextInTurn 38 = .ok (.getfield 102, 3) := by decide +kernel
theorem dX5_nextInTurn_41 : decode cX5_nextInTurn 41 = .ok (.aload_n 0, 1) := by decide +kernel
theorem dX5_nextInTurn_42 : decode cX5_nextInTurn 42 = .ok (.getfield 18, 3) := by decide +kernel
theorem dX5_nextInTurn_45 : decode cX5_nextInTurn 45 = .ok (.if_icmp .le 5, 3) := by decide +kernel
theorem dX5_nextInTurn_48 : decode cX5_nextInTurn 48 = .ok (.aload_n 3, 1) := by decide +kernel
theorem dX5_nextInTurn_49 : decode cX5_nextInTurn 49 = .ok (.areturn, 1) := by decide +kernel
theorem dX5_nextInTurn_50 : decode cX5_nextInTurn 50 = .ok (.aload_n 1, 1) := by decide +kernel
theorem dX5_nextInTurn_51 : decode cX5_nextInTurn 51 = .ok (.ifnonnull 5, 3) := by decide +kernel
theorem dX5_nextInTurn_54 : decode cX5_nextInTurn 54 = .ok (.aload_n 3, 1) := by decide +kernel
theorem dX5_nextInTurn_55 : decode cX5_nextInTurn 55 = .ok (.astore_n 1, 1) := by decide +kernel
theorem dX5_nextInTurn_56 : decode cX5_nextInTurn 56 = .ok (.iinc 2 1, 3) := by decide +kernel
theorem dX5_nextInTurn_59 : decode cX5_nextInTurn 59 = .ok (.goto (-55), 3) := by decide +kernel
theorem dX5_nextInTurn_62 : decode cX5_nextInTurn 62 = .ok (.aload_n 1, 1) := by decide +kernel
theorem dX5_nextInTurn_63 : decode cX5_nextInTurn 63 = .ok (.areturn, 1) := by decide +kernel
theorem dX5_giveByNotch_0 : decode cX5_giveByNotch 0 = .ok (.iconst 0, 1) := by decide +kernel
theorem dX5_giveByNotch_1 : decode cX5_giveByNotch 1 = .ok (.istore_n 3, 1) := by decide +kernel
theorem dX5_giveByNotch_2 : decode cX5_giveByNotch 2 = .ok (.iconst 0, 1) := by decide +kernel
theorem dX5_giveByNotch_3 : decode cX5_giveByNotch 3 = .ok (.istore 4, 2) := by decide +kernel
theorem dX5_giveByNotch_5 : decode cX5_giveByNotch 5 = .ok (.iload 4, 2) := by decide +kernel
theorem dX5_giveByNotch_7 : decode cX5_giveByNotch 7 = .ok (.aload_n 0, 1) := by decide +kernel
theorem dX5_giveByNotch_8 : decode cX5_giveByNotch 8 = .ok (.getfield 12, 3) := by decide +kernel
theorem dX5_giveByNotch_11 : decode cX5_giveByNotch 11 = .ok (.invokevirtual 41, 3) := by decide +kernel
theorem dX5_giveByNotch_14 : decode cX5_giveByNotch 14 = .ok (.if_icmp .ge 43, 3) := by decide +kernel
theorem dX5_giveByNotch_17 : decode cX5_giveByNotch 17 = .ok (.aload_n 0, 1) := by decide +kernel
theorem dX5_giveByNotch_18 : decode cX5_giveByNotch 18 = .ok (.getfield 12, 3) := by decide +kernel
theorem dX5_giveByNotch_21 : decode cX5_giveByNotch 21 = .ok (.iload 4, 2) := by decide +kernel
theorem dX5_giveByNotch_23 : decode cX5_giveByNotch 23 = .ok (.invokevirtual 45, 3) := by decide +kernel
theorem dX5_giveByNotch_26 : decode cX5_giveByNotch 26 = .ok (.checkcast 49, 3) := by decide +kernel
theorem dX5_giveByNotch_29 : decode cX5_giveByNotch 29 = .ok (.astore 5, 2) := by decide +kernel
theorem dX5_giveByNotch_31 : decode cX5_giveByNotch 31 = .ok (.iload_n 3, 1) := by decide +kernel
theorem dX5_giveByNotch_32 : decode cX5_giveByNotch 32 = .ok (.aload 5, 2) := by decide +kernel
theorem dX5_giveByNotch_34 : decode cX5_giveByNotch 34 = .ok (.invokevirtual 103, 3) := by decide +kernel
theorem dX5_giveByNotch_37 : decode cX5_giveByNotch 37 = .ok (.ifCond .eq 11, 3) := by decide +kernel
theorem dX5_giveByNotch_40 : decode cX5_giveByNotch 40 = .ok (.aload 5, 2) := by decide +kernel
theorem dX5_giveByNotch_42 : decode cX5_giveByNotch 42 = .ok (.invokevirtual 106, 3) := by decide +kernel
theorem dX5_giveByNotch_45 : decode cX5_giveByNotch 45 = .ok (.goto 4, 3) := by decide +kernel
theorem dX5_giveByNotch_48 : decode cX5_giveByNotch 48 = .ok (.iconst 0, 1) := by decide +kernel
theorem dX5_giveByNotch_49 : decode cX5_giveByNotch 49 = .ok (.iadd, 1) := by decide +kernel
theorem dX5_giveByNotch_50 : decode cX5_giveByNotch 50 = .ok (.istore_n 3, 1) := by decide +kernel
theorem dX5_giveByNotch_51 : decode cX5_giveByNotch 51 = .ok (.iinc 4 1, 3) := by decide +kernel
theorem dX5_giveByNotch_54 : decode cX5_giveByNotch 54 = .ok (.goto (-49), 3) := by decide +kernel
theorem dX5_giveByNotch_57 : decode cX5_giveByNotch 57 = .ok (.iload_n 3, 1) := by decide +kernel
theorem dX5_giveByNotch_58 : decode cX5_giveByNotch 58 = .ok (.ifCond .gt 14, 3) := by decide +kernel
theorem dX5_giveByNotch_61 : decode cX5_giveByNotch 61 = .ok (.aload_n 2, 1) := by decide +kernel
theorem dX5_giveByNotch_62 : decode cX5_giveByNotch 62 = .ok (.dup, 1) := by decide +kernel
theorem dX5_giveByNotch_63 : decode cX5_giveByNotch 63 = .ok (.getfield 83, 3) := by decide +kernel
theorem dX5_giveByNotch_66 : decode cX5_giveByNotch 66 = .ok (.iload_n 1, 1) := by decide +kernel
theorem dX5_giveByNotch_67 : decode cX5_giveByNotch 67 = .ok (.iadd, 1) := by decide +kernel
theorem dX5_giveByNotch_68 : decode cX5_giveByNotch 68 = .ok (.putfield 83, 3) := by decide +kernel
theorem dX5_giveByNotch_71 : decode cX5_giveByNotch 71 = .ok (.return_, 1) := by decide +kernel
theorem dX5_giveByNotch_72 : decode cX5_giveByNotch 72 = .ok (.aload_n 0, 1) := by decide +kernel
theorem dX5_giveByNotch_73 : decode cX5_giveByNotch 73 = .ok (.iload_n 1, 1) := by decide +kernel
theorem dX5_giveByNotch_74 : decode cX5_giveByNotch 74 = .ok (.putfield 76, 3) := by decide +kernel
theorem dX5_giveByNotch_77 : decode cX5_giveByNotch 77 = .ok (.iconst 0, 1) := by decide +kernel
theorem dX5_giveByNotch_78 : decode cX5_giveByNotch 78 = .ok (.istore 4, 2) := by decide +kernel
theorem dX5_giveByNotch_80 : decode cX5_giveByNotch 80 = .ok (.iload 4, 2) := by decide +kernel
theorem dX5_giveByNotch_82 : decode cX5_giveByNotch 82 = .ok (.aload_n 0, 1) := by decide +kernel
theorem dX5_giveByNotch_83 : decode cX5_giveByNotch 83 = .ok (.getfield 12, 3) := by decide +kernel
theorem dX5_giveByNotch_86 : decode cX5_giveByNotch 86 = .ok (.invokevirtual 41, 3) := by decide +kernel
theorem dX5_giveByNotch_89 : decode cX5_giveByNotch 89 = .ok (.if_icmp .ge 59, 3) := by decide +kernel
theorem dX5_giveByNotch_92 : decode cX5_giveByNotch 92 = .ok (.aload_n 0, 1) := by decide +kernel
theorem dX5_giveByNotch_93 : decode cX5_giveByNotch 93 = .ok (.getfield 12, 3) := by decide +kernel
theorem dX5_giveByNotch_96 : decode cX5_giveByNotch 96 = .ok (.iload 4, 2) := by decide +kernel
theorem dX5_giveByNotch_98 : decode cX5_giveByNotch 98 = .ok (.invokevirtual 45, 3) := by decide +kernel
theorem dX5_giveByNotch_101 : decode cX5_giveByNotch 101 = .ok (.checkcast 49, 3) := by decide +kernel
theorem dX5_giveByNotch_104 : decode cX5_giveByNotch 104 = .ok (.astore 5, 2) := by decide +kernel
theorem dX5_giveByNotch_106 : decode cX5_giveByNotch 106 = .ok (.aload 5, 2) := by decide +kernel
theorem dX5_giveByNotch_108 : decode cX5_giveByNotch 108 = .ok (.invokevirtual 103, 3) := by decide +kernel
theorem dX5_giveByNotch_111 : decode cX5_giveByNotch 111 = .ok (.ifCond .eq 31, 3) := by decide +kernel
theorem dX5_giveByNotch_114 : decode cX5_giveByNotch 114 = .ok (.aload 5, 2) := by decide +kernel
theorem dX5_giveByNotch_116 : decode cX5_giveByNotch 116 = .ok (.iload_n 1, 1) := by decide +kernel
theorem dX5_giveByNotch_117 : decode cX5_giveByNotch 117 = .ok (.aload 5, 2) := by decide +kernel
theorem dX5_giveByNotch_119 : decode cX5_giveByNotch 119 = .ok (.invokevirtual 106, 3) := by decide +kernel
theorem dX5_giveByNotch_122 : decode cX5_giveByNotch 122 = .ok (.imul, 1) := by decide +kernel
theorem dX5_giveByNotch_123 : decode cX5_giveByNotch 123 = .ok (.iload_n 3, 1) := by decide +kernel
theorem dX5_giveByNotch_124 : decode cX5_giveByNotch 124 = .ok (.idiv, 1) := by decide +kernel
theorem dX5_giveByNotch_125 : decode cX5_giveByNotch 125 = .ok (.putfield 65, 3) := by decide +kernel
theorem dX5_giveByNotch_128 : decode cX5_giveByNotch 128 = .ok (.aload_n 0, 1) := by decide +kernel
theorem dX5_giveByNotch_129 : decode cX5_giveByNotch 129 = .ok (.dup, 1) := by decide +kernel
theorem dX5_giveByNotch_130 : decode cX5_giveByNotch 130 = .ok (.getfield 76, 3) := by decide +kernel
theorem dX5_giveByNotch_133 : decode cX5_giveByNotch 133 = .ok (.aload 5, 2) := by decide +kernel
theorem dX5_giveByNotch_135 : decode cX5_giveByNotch 135 = .ok (.getfield 65, 3) := by decide +kernel
theorem dX5_giveByNotch_138 : decode cX5_giveByNotch 138 = .ok (.isub, 1) := by decide +kernel
theorem dX5_giveByNotch_139 : decode cX5_giveByNotch 139 = .ok (.putfield 76, 3) := by decide +kernel
theorem dX5_giveByNotch_142 : decode cX5_giveByNotch 142 = .ok (.iinc 4 1, 3) := by decide +kernel
theorem dX5_giveByNotch_145 : decode cX5_giveByNotch 145 = .ok (.goto (-65), 3) := by decide +kernel
theorem dX5_giveByNotch_148 : decode cX5_giveByNotch 148 = .ok (.return_, 1) := by decide +kernel
theorem dX5_mostAboveNotch_0 : decode cX5_mostAboveNotch 0 = .ok (.iconst 0, 1) := by decide +kernel
theorem dX5_mostAboveNotch_1 : decode cX5_mostAboveNotch 1 = .ok (.istore_n 1, 1) := by decide +kernel
theorem dX5_mostAboveNotch_2 : decode cX5_mostAboveNotch 2 = .ok (.iconst 0, 1) := by decide +kernel
theorem dX5_mostAboveNotch_3 : decode cX5_mostAboveNotch 3 = .ok (.istore_n 2, 1) := by decide +kernel
theorem dX5_mostAboveNotch_4 : decode cX5_mostAboveNotch 4 = .ok (.iconst 0, 1) := by decide +kernel
theorem dX5_mostAboveNotch_5 : decode cX5_mostAboveNotch 5 = .ok (.istore_n 3, 1) := by decide +kernel
theorem dX5_mostAboveNotch_6 : decode cX5_mostAboveNotch 6 = .ok (.iload_n 3, 1) := by decide +kernel
theorem dX5_mostAboveNotch_7 : decode cX5_mostAboveNotch 7 = .ok (.aload_n 0, 1) := by decide +kernel
theorem dX5_mostAboveNotch_8 : decode cX5_mostAboveNotch 8 = .ok (.getfield 12, 3) := by decide +kernel
theorem dX5_mostAboveNotch_11 : decode cX5_mostAboveNotch 11 = .ok (.invokevirtual 41, 3) := by decide +kernel
theorem dX5_mostAboveNotch_14 : decode cX5_mostAboveNotch 14 = .ok (.if_icmp .ge 46, 3) := by decide +kernel
theorem dX5_mostAboveNotch_17 : decode cX5_mostAboveNotch 17 = .ok (.aload_n 0, 1) := by decide +kernel
theorem dX5_mostAboveNotch_18 : decode cX5_mostAboveNotch 18 = .ok (.getfield 12, 3) := by decide +kernel
theorem dX5_mostAboveNotch_21 : decode cX5_mostAboveNotch 21 = .ok (.iload_n 3, 1) := by decide +kernel
theorem dX5_mostAboveNotch_22 : decode cX5_mostAboveNotch 22 = .ok (.invokevirtual 45, 3) := by decide +kernel
theorem dX5_mostAboveNotch_25 : decode cX5_mostAboveNotch 25 = .ok (.checkcast 49, 3) := by decide +kernel
theorem dX5_mostAboveNotch_28 : decode cX5_mostAboveNotch 28 = .ok (.astore 4, 2) := by decide +kernel
theorem dX5_mostAboveNotch_30 : decode cX5_mostAboveNotch 30 = .ok (.aload 4, 2) := by decide +kernel
theorem dX5_mostAboveNotch_32 : decode cX5_mostAboveNotch 32 = .ok (.getfield 65, 3) := by decide +kernel
theorem dX5_mostAboveNotch_35 : decode cX5_mostAboveNotch 35 = .ok (.ifCond .le 19, 3) := by decide +kernel
theorem dX5_mostAboveNotch_38 : decode cX5_mostAboveNotch 38 = .ok (.iload_n 1, 1) := by decide +kernel
theorem dX5_mostAboveNotch_39 : decode cX5_mostAboveNotch 39 = .ok (.aload 4, 2) := by decide +kernel
theorem dX5_mostAboveNotch_41 : decode cX5_mostAboveNotch 41 = .ok (.getfield 65, 3) := by decide +kernel
theorem dX5_mostAboveNotch_44 : decode cX5_mostAboveNotch 44 = .ok (.iadd, 1) := by decide +kernel
theorem dX5_mostAboveNotch_45 : decode cX5_mostAboveNotch 45 = .ok (.istore_n 1, 1) := by decide +kernel
theorem dX5_mostAboveNotch_46 : decode cX5_mostAboveNotch 46 = .ok (.iload_n 2, 1) := by decide +kernel
theorem dX5_mostAboveNotch_47 : decode cX5_mostAboveNotch 47 = .ok (.aload 4, 2) := by decide +kernel
theorem dX5_mostAboveNotch_49 : decode cX5_mostAboveNotch 49 = .ok (.getfield 109, 3) := by decide +kernel
theorem dX5_mostAboveNotch_52 : decode cX5_mostAboveNotch 52 = .ok (.iadd, 1) := by decide +kernel
theorem dX5_mostAboveNotch_53 : decode cX5_mostAboveNotch 53 = .ok (.istore_n 2, 1) := by decide +kernel
theorem dX5_mostAboveNotch_54 : decode cX5_mostAboveNotch 54 = .ok (.iinc 3 1, 3) := by decide +kernel
theorem dX5_mostAboveNotch_57 : decode cX5_mostAboveNotch 57 = .ok (.goto (-51), 3) := by decide +kernel
theorem dX5_mostAboveNotch_60 : decode cX5_mostAboveNotch 60 = .ok (.iload_n 2, 1) := by decide +kernel
theorem dX5_mostAboveNotch_61 : decode cX5_mostAboveNotch 61 = .ok (.ifCond .gt 5, 3) := by decide +kernel
theorem dX5_mostAboveNotch_64 : decode cX5_mostAboveNotch 64 = .ok (.aconst_null, 1) := by decide +kernel
theorem dX5_mostAboveNotch_65 : decode cX5_mostAboveNotch 65 = .ok (.areturn, 1) := by decide +kernel
theorem dX5_mostAboveNotch_66 : decode cX5_mostAboveNotch 66 = .ok (.aconst_null, 1) := by decide +kernel
theorem dX5_mostAboveNotch_67 : decode cX5_mostAboveNotch 67 = .ok (.astore_n 3, 1) := by decide +kernel
theorem dX5_mostAboveNotch_68 : decode cX5_mostAboveNotch 68 = .ok (.iconst 0, 1) := by decide +kernel
theorem dX5_mostAboveNotch_69 : decode cX5_mostAboveNotch 69 = .ok (.istore 4, 2) := by decide +kernel
theorem dX5_mostAboveNotch_71 : decode cX5_mostAboveNotch 71 = .ok (.iconst 0, 1) := by decide +kernel
theorem dX5_mostAboveNotch_72 : decode cX5_mostAboveNotch 72 = .ok (.istore 5, 2) := by decide +kernel
theorem dX5_mostAboveNotch_74 : decode cX5_mostAboveNotch 74 = .ok (.iload 5, 2) := by decide +kernel
theorem dX5_mostAboveNotch_76 : decode cX5_mostAboveNotch 76 = .ok (.aload_n 0, 1) := by decide +kernel
theorem dX5_mostAboveNotch_77 : decode cX5_mostAboveNotch 77 = .ok (.getfield 12, 3) := by decide +kernel
theorem dX5_mostAboveNotch_80 : decode cX5_mostAboveNotch 80 = .ok (.invokevirtual 41, 3) := by decide +kernel
theorem dX5_mostAboveNotch_83 : decode cX5_mostAboveNotch 83 = .ok (.if_icmp .ge 54, 3) := by decide +kernel
theorem dX5_mostAboveNotch_86 : decode cX5_mostAboveNotch 86 = .ok (.aload_n 0, 1) := by decide +kernel
theorem dX5_mostAboveNotch_87 : decode cX5_mostAboveNotch 87 = .ok (.getfield 12, 3) := by decide +kernel
theorem dX5_mostAboveNotch_90 : decode cX5_mostAboveNotch 90 = .ok (.iload 5, 2) := by decide +kernel
theorem dX5_mostAboveNotch_92 : decode cX5_mostAboveNotch 92 = .ok (.invokevirtual 45, 3) := by decide +kernel
theorem dX5_mostAboveNotch_95 : decode cX5_mostAboveNotch 95 = .ok (.checkcast 49, 3) := by decide +kernel
theorem dX5_mostAboveNotch_98 : decode cX5_mostAboveNotch 98 = .ok (.astore 6, 2) := by decide +kernel
theorem dX5_mostAboveNotch_100 : decode cX5_mostAboveNotch 100 = .ok (.aload 6, 2) := by decide +kernel
theorem dX5_mostAboveNotch_102 : decode cX5_mostAboveNotch 102 = .ok (.getfield 65, 3) := by decide +kernel
theorem dX5_mostAboveNotch_105 : decode cX5_mostAboveNotch 105 = .ok (.iload_n 1, 1) := by decide +kernel
theorem dX5_mostAboveNotch_106 : decode cX5_mostAboveNotch 106 = .ok (.aload 6, 2) := by decide +kernel
theorem dX5_mostAboveNotch_108 : decode cX5_mostAboveNotch 108 = .ok (.getfield 109, 3) := by decide +kernel
theorem dX5_mostAboveNotch_111 : decode cX5_mostAboveNotch 111 = .ok (.imul, 1) := by decide +kernel
theorem dX5_mostAboveNotch_112 : decode cX5_mostAboveNotch 112 = .ok (.iload_n 2, 1) := by decide +kernel
theorem dX5_mostAboveNotch_113 : decode cX5_mostAboveNotch 113 = .ok (.idiv, 1) := by decide +kernel
theorem dX5_mostAboveNotch_114 : decode cX5_mostAboveNotch 114 = .ok (.isub, 1) := by decide +kernel
theorem dX5_mostAboveNotch_115 : decode cX5_mostAboveNotch 115 = .ok (.istore 7, 2) := by decide +kernel
theorem dX5_mostAboveNotch_117 : decode cX5_mostAboveNotch 117 = .ok (.iload 7, 2) := by decide +kernel
theorem dX5_mostAboveNotch_119 : decode cX5_mostAboveNotch 119 = .ok (.iload 4, 2) := by decide +kernel
theorem dX5_mostAboveNotch_121 : decode cX5_mostAboveNotch 121 = .ok (.if_icmp .le 10, 3) := by decide +kernel
theorem dX5_mostAboveNotch_124 : decode cX5_mostAboveNotch 124 = .ok (.iload 7, 2) := by decide +kernel
theorem dX5_mostAboveNotch_126 : decode cX5_mostAboveNotch 126 = .ok (.istore 4, 2) := by decide +kernel
theorem dX5_mostAboveNotch_128 : decode cX5_mostAboveNotch 128 = .ok (.aload 6, 2) := by decide +kernel
theorem dX5_mostAboveNotch_130 : decode cX5_mostAboveNotch 130 = .ok (.astore_n 3, 1) := by decide +kernel
theorem dX5_mostAboveNotch_131 : decode cX5_mostAboveNotch 131 = .ok (.iinc 5 1, 3) := by decide +kernel
theorem dX5_mostAboveNotch_134 : decode cX5_mostAboveNotch 134 = .ok (.goto (-60), 3) := by decide +kernel
theorem dX5_mostAboveNotch_137 : decode cX5_mostAboveNotch 137 = .ok (.aload_n 3, 1) := by decide +kernel
theorem dX5_mostAboveNotch_138 : decode cX5_mostAboveNotch 138 = .ok (.areturn, 1) := by decide +kernel
theorem dX5_fineStones_0 : decode cX5_fineStones 0 = .ok (.iconst 0, 1) := by decide +kernel
theorem dX5_fineStones_1 : decode cX5_fineStones 1 = .ok (.istore_n 1, 1) := by decide +kernel
theorem dX5_fineStones_2 : decode cX5_fineStones 2 = .ok (.iconst 0, 1) := by decide +kernel
theorem dX5_fineStones_3 : decode cX5_fineStones 3 = .ok (.istore_n 2, 1) := by decide +kernel
theorem dX5_fineStones_4 : decode cX5_fineStones 4 = .ok (.iload_n 2, 1) := by decide +kernel
theorem dX5_fineStones_5 : decode cX5_fineStones 5 = .ok (.aload_n 0, 1) := by decide +kernel
theorem dX5_fineStones_6 : decode cX5_fineStones 6 = .ok (.getfield 12, 3) := by decide +kernel
theorem dX5_fineStones_9 : decode cX5_fineStones 9 = .ok (.invokevirtual 41, 3) := by decide +kernel
theorem dX5_fineStones_12 : decode cX5_fineStones 12 = .ok (.if_icmp .ge 53, 3) := by decide +kernel
theorem dX5_fineStones_15 : decode cX5_fineStones 15 = .ok (.aload_n 0, 1) := by decide +kernel
theorem dX5_fineStones_16 : decode cX5_fineStones 16 = .ok (.getfield 12, 3) := by decide +kernel
theorem dX5_fineStones_19 : decode cX5_fineStones 19 = .ok (.iload_n 2, 1) := by decide +kernel
theorem dX5_fineStones_20 : decode cX5_fineStones 20 = .ok (.invokevirtual 45, 3) := by decide +kernel
theorem dX5_fineStones_23 : decode cX5_fineStones 23 = .ok (.checkcast 49, 3) := by decide +kernel
theorem dX5_fineStones_26 : decode cX5_fineStones 26 = .ok (.astore_n 3, 1) := by decide +kernel
theorem dX5_fineStones_27 : decode cX5_fineStones 27 = .ok (.iconst 5, 1) := by decide +kernel
theorem dX5_fineStones_28 : decode cX5_fineStones 28 = .ok (.aload_n 3, 1) := by decide +kernel
theorem dX5_fineStones_29 : decode cX5_fineStones 29 = .ok (.getfield 115, 3) := by decide +kernel
theorem dX5_fineStones_32 : decode cX5_fineStones 32 = .ok (.imul, 1) := by decide +kernel
theorem dX5_fineStones_33 : decode cX5_fineStones 33 = .ok (.istore 4, 2) := by decide +kernel
theorem dX5_fineStones_35 : decode cX5_fineStones 35 = .ok (.aload_n 3, 1) := by decide +kernel
theorem dX5_fineStones_36 : decode cX5_fineStones 36 = .ok (.getfield 118, 3) := by decide +kernel
theorem dX5_fineStones_39 : decode cX5_fineStones 39 = .ok (.dup, 1) := by decide +kernel
theorem dX5_fineStones_40 : decode cX5_fineStones 40 = .ok (.getfield 122, 3) := by decide +kernel
theorem dX5_fineStones_43 : decode cX5_fineStones 43 = .ok (.iload 4, 2) := by decide +kernel
theorem dX5_fineStones_45 : decode cX5_fineStones 45 = .ok (.isub, 1) := by decide +kernel
theorem dX5_fineStones_46 : decode cX5_fineStones 46 = .ok (.putfield 122, 3) := by decide +kernel
theorem dX5_fineStones_49 : decode cX5_fineStones 49 = .ok (.aload_n 3, 1) := by decide +kernel
theorem dX5_fineStones_50 : decode cX5_fineStones 50 = .ok (.iconst 0, 1) := by decide +kernel
theorem dX5_fineStones_51 : decode cX5_fineStones 51 = .ok (.putfield 115, 3) := by decide +kernel
theorem dX5_fineStones_54 : decode cX5_fineStones 54 = .ok (.iload_n 1, 1) := by decide +kernel
theorem dX5_fineStones_55 : decode cX5_fineStones 55 = .ok (.iload 4, 2) := by decide +kernel
theorem dX5_fineStones_57 : decode cX5_fineStones 57 = .ok (.iadd, 1) := by decide +kernel
theorem dX5_fineStones_58 : decode cX5_fineStones 58 = .ok (.istore_n 1, 1) := by decide +kernel
theorem dX5_fineStones_59 : decode cX5_fineStones 59 = .ok (.iinc 2 1, 3) := by decide +kernel
theorem dX5_fineStones_62 : decode cX5_fineStones 62 = .ok (.goto (-58), 3) := by decide +kernel
theorem dX5_fineStones_65 : decode cX5_fineStones 65 = .ok (.aload_n 0, 1) := by decide +kernel
theorem dX5_fineStones_66 : decode cX5_fineStones 66 = .ok (.dup, 1) := by decide +kernel
theorem dX5_fineStones_67 : decode cX5_fineStones 67 = .ok (.getfield 127, 3) := by decide +kernel
theorem dX5_fineStones_70 : decode cX5_fineStones 70 = .ok (.iload_n 1, 1) := by decide +kernel
theorem dX5_fineStones_71 : decode cX5_fineStones 71 = .ok (.iadd, 1) := by decide +kernel
theorem dX5_fineStones_72 : decode cX5_fineStones 72 = .ok (.putfield 127, 3) := by decide +kernel
theorem dX5_fineStones_75 : decode cX5_fineStones 75 = .ok (.iload_n 1, 1) := by decide +kernel
theorem dX5_fineStones_76 : decode cX5_fineStones 76 = .ok (.ireturn, 1) := by decide +kernel
theorem dX5_cropPerField_0 : decode cX5_cropPerField 0 = .ok (.aload_n 0, 1) := by decide +kernel
theorem dX5_cropPerField_1 : decode cX5_cropPerField 1 = .ok (.getfield 12, 3) := by decide +kernel
theorem dX5_cropPerField_4 : decode cX5_cropPerField 4 = .ok (.invokevirtual 41, 3) := by decide +kernel
theorem dX5_cropPerField_7 : decode cX5_cropPerField 7 = .ok (.istore_n 1, 1) := by decide +kernel
theorem dX5_cropPerField_8 : decode cX5_cropPerField 8 = .ok (.iload_n 1, 1) := by decide +kernel
theorem dX5_cropPerField_9 : decode cX5_cropPerField 9 = .ok (.ifCond .ne 7, 3) := by decide +kernel
theorem dX5_cropPerField_12 : decode cX5_cropPerField 12 = .ok (.iconst 0, 1) := by decide +kernel
theorem dX5_cropPerField_13 : decode cX5_cropPerField 13 = .ok (.goto 9, 3) := by decide +kernel
theorem dX5_cropPerField_16 : decode cX5_cropPerField 16 = .ok (.aload_n 0, 1) := by decide +kernel
theorem dX5_cropPerField_17 : decode cX5_cropPerField 17 = .ok (.getfield 130, 3) := by decide +kernel
theorem dX5_cropPerField_20 : decode cX5_cropPerField 20 = .ok (.iload_n 1, 1) := by decide +kernel
theorem dX5_cropPerField_21 : decode cX5_cropPerField 21 = .ok (.idiv, 1) := by decide +kernel
theorem dX5_cropPerField_22 : decode cX5_cropPerField 22 = .ok (.ireturn, 1) := by decide +kernel
theorem dX5_countYes_0 : decode cX5_countYes 0 = .ok (.aload_n 1, 1) := by decide +kernel
theorem dX5_countYes_1 : decode cX5_countYes 1 = .ok (.ifnull 18, 3) := by decide +kernel
theorem dX5_countYes_4 : decode cX5_countYes 4 = .ok (.aload_n 1, 1) := by decide +kernel
theorem dX5_countYes_5 : decode cX5_countYes 5 = .ok (.invokevirtual 133, 3) := by decide +kernel
theorem dX5_countYes_8 : decode cX5_countYes 8 = .ok (.aload_n 0, 1) := by decide +kernel
theorem dX5_countYes_9 : decode cX5_countYes 9 = .ok (.invokevirtual 133, 3) := by decide +kernel
theorem dX5_countYes_12 : decode cX5_countYes 12 = .ok (.if_icmp .le 7, 3) := by decide +kernel
theorem dX5_countYes_15 : decode cX5_countYes 15 = .ok (.iconst 1, 1) := by decide +kernel
theorem dX5_countYes_16 : decode cX5_countYes 16 = .ok (.goto 4, 3) := by decide +kernel
theorem dX5_countYes_19 : decode cX5_countYes 19 = .ok (.iconst 0, 1) := by decide +kernel
theorem dX5_countYes_20 : decode cX5_countYes 20 = .ok (.istore_n 2, 1) := by decide +kernel
theorem dX5_countYes_21 : decode cX5_countYes 21 = .ok (.iconst 0, 1) := by decide +kernel
theorem dX5_countYes_22 : decode cX5_countYes 22 = .ok (.istore_n 3, 1) := by decide +kernel
theorem dX5_countYes_23 : decode cX5_countYes 23 = .ok (.iconst 0, 1) := by decide +kernel
theorem dX5_countYes_24 : decode cX5_countYes 24 = .ok (.istore 4, 2) := by decide +kernel
theorem dX5_countYes_26 : decode cX5_countYes 26 = .ok (.iload 4, 2) := by decide +kernel
theorem dX5_countYes_28 : decode cX5_countYes 28 = .ok (.aload_n 0, 1) := by decide +kernel
theorem dX5_countYes_29 : decode cX5_countYes 29 = .ok (.getfield 12, 3) := by decide +kernel
theorem dX5_countYes_32 : decode cX5_countYes 32 = .ok (.invokevirtual 41, 3) := by decide +kernel
theorem dX5_countYes_35 : decode cX5_countYes 35 = .ok (.if_icmp .ge 36, 3) := by decide +kernel
theorem dX5_countYes_38 : decode cX5_countYes 38 = .ok (.iload_n 2, 1) := by decide +kernel
theorem dX5_countYes_39 : decode cX5_countYes 39 = .ok (.ifCond .ne 23, 3) := by decide +kernel
theorem dX5_countYes_42 : decode cX5_countYes 42 = .ok (.aload_n 0, 1) := by decide +kernel
theorem dX5_countYes_43 : decode cX5_countYes 43 = .ok (.getfield 12, 3) := by decide +kernel
theorem dX5_countYes_46 : decode cX5_countYes 46 = .ok (.iload 4, 2) := by decide +kernel
theorem dX5_countYes_48 : decode cX5_countYes 48 = .ok (.invokevirtual 45, 3) := by decide +kernel
theorem dX5_countYes_51 : decode cX5_countYes 51 = .ok (.checkcast 49, 3) := by decide +kernel
theorem dX5_countYes_54 : decode cX5_countYes 54 = .ok (.getfield 136, 3) := by decide +kernel
theorem dX5_countYes_57 : decode cX5_countYes 57 = .ok (.bipush 30, 2) := by decide +kernel
theorem dX5_countYes_59 : decode cX5_countYes 59 = .ok (.if_icmp .le 6, 3) := by decide +kernel
theorem dX5_countYes_62 : decode cX5_countYes 62 = .ok (.iinc 3 1, 3) := by decide +kernel
theorem dX5_countYes_65 : decode cX5_countYes 65 = .ok (.iinc 4 1, 3) := by decide +kernel
theorem dX5_countYes_68 : decode cX5_countYes 68 = .ok (.goto (-42), 3) := by decide +kernel
theorem dX5_countYes_71 : decode cX5_countYes 71 = .ok (.iload_n 3, 1) := by decide +kernel
theorem dX5_countYes_72 : decode cX5_countYes 72 = .ok (.ireturn, 1) := by decide +kernel
theorem dX5_plantAll_0 : decode cX5_plantAll 0 = .ok (.iconst 0, 1) := by decide +kernel
theorem dX5_plantAll_1 : decode cX5_plantAll 1 = .ok (.istore_n 2, 1) := by decide +kernel
theorem dX5_plantAll_2 : decode cX5_plantAll 2 = .ok (.iload_n 2, 1) := by decide +kernel
theorem dX5_plantAll_3 : decode cX5_plantAll 3 = .ok (.aload_n 0, 1) := by decide +kernel
theorem dX5_plantAll_4 : decode cX5_plantAll 4 = .ok (.getfield 12, 3) := by decide +kernel
theorem dX5_plantAll_7 : decode cX5_plantAll 7 = .ok (.invokevirtual 41, 3) := by decide +kernel
theorem dX5_plantAll_10 : decode cX5_plantAll 10 = .ok (.if_icmp .ge 55, 3) := by decide +kernel
theorem dX5_plantAll_13 : decode cX5_plantAll 13 = .ok (.aload_n 0, 1) := by decide +kernel
theorem dX5_plantAll_14 : decode cX5_plantAll 14 = .ok (.getfield 12, 3) := by decide +kernel
theorem dX5_plantAll_17 : decode cX5_plantAll 17 = .ok (.iload_n 2, 1) := by decide +kernel
theorem dX5_plantAll_18 : decode cX5_plantAll 18 = .ok (.invokevirtual 45, 3) := by decide +kernel
theorem dX5_plantAll_21 : decode cX5_plantAll 21 = .ok (.checkcast 49, 3) := by decide +kernel
theorem dX5_plantAll_24 : decode cX5_plantAll 24 = .ok (.astore_n 3, 1) := by decide +kernel
theorem dX5_plantAll_25 : decode cX5_plantAll 25 = .ok (.aload_n 3, 1) := by decide +kernel
theorem dX5_plantAll_26 : decode cX5_plantAll 26 = .ok (.getfield 139, 3) := by decide +kernel
theorem dX5_plantAll_29 : decode cX5_plantAll 29 = .ok (.getfield 142, 3) := by decide +kernel
theorem dX5_plantAll_32 : decode cX5_plantAll 32 = .ok (.ifCond .eq 14, 3) := by decide +kernel
theorem dX5_plantAll_35 : decode cX5_plantAll 35 = .ok (.aload_n 3, 1) := by decide +kernel
theorem dX5_plantAll_36 : decode cX5_plantAll 36 = .ok (.getfield 139, 3) := by decide +kernel
theorem dX5_plantAll_39 : decode cX5_plantAll 39 = .ok (.getfield 142, 3) := by decide +kernel
theorem dX5_plantAll_42 : decode cX5_plantAll 42 = .ok (.iconst 1, 1) := by decide +kernel
theorem dX5_plantAll_43 : decode cX5_plantAll 43 = .ok (.if_icmp .ne 16, 3) := by decide +kernel
theorem dX5_plantAll_46 : decode cX5_plantAll 46 = .ok (.aload_n 3, 1) := by decide +kernel
theorem dX5_plantAll_47 : decode cX5_plantAll 47 = .ok (.getfield 139, 3) := by decide +kernel
theorem dX5_plantAll_50 : decode cX5_plantAll 50 = .ok (.iload_n 1, 1) := by decide +kernel
theorem dX5_plantAll_51 : decode cX5_plantAll 51 = .ok (.invokevirtual 147, 3) := by decide +kernel
theorem dX5_plantAll_54 : decode cX5_plantAll 54 = .ok (.aload_n 3, 1) := by decide +kernel
theorem dX5_plantAll_55 : decode cX5_plantAll 55 = .ok (.iconst 0, 1) := by decide +kernel
theorem dX5_plantAll_56 : decode cX5_plantAll 56 = .ok (.putfield 151, 3) := by decide +kernel
theorem dX5_plantAll_59 : decode cX5_plantAll 59 = .ok (.iinc 2 1, 3) := by decide +kernel
theorem dX5_plantAll_62 : decode cX5_plantAll 62 = .ok (.goto (-60), 3) := by decide +kernel
theorem dX5_plantAll_65 : decode cX5_plantAll 65 = .ok (.return_, 1) := by decide +kernel
theorem dX5_copyFrom_0 : decode cX5_copyFrom 0 = .ok (.aload_n 0, 1) := by decide +kernel
theorem dX5_copyFrom_1 : decode cX5_copyFrom 1 = .ok (.aload_n 1, 1) := by decide +kernel
theorem dX5_copyFrom_2 : decode cX5_copyFrom 2 = .ok (.getfield 31, 3) := by decide +kernel
theorem dX5_copyFrom_5 : decode cX5_copyFrom 5 = .ok (.putfield 31, 3) := by decide +kernel
theorem dX5_copyFrom_8 : decode cX5_copyFrom 8 = .ok (.aload_n 0, 1) := by decide +kernel
theorem dX5_copyFrom_9 : decode cX5_copyFrom 9 = .ok (.aload_n 1, 1) := by decide +kernel
theorem dX5_copyFrom_10 : decode cX5_copyFrom 10 = .ok (.getfield 34, 3) := by decide +kernel
theorem dX5_copyFrom_13 : decode cX5_copyFrom 13 = .ok (.putfield 34, 3) := by decide +kernel
theorem dX5_copyFrom_16 : decode cX5_copyFrom 16 = .ok (.aload_n 0, 1) := by decide +kernel
theorem dX5_copyFrom_17 : decode cX5_copyFrom 17 = .ok (.aload_n 1, 1) := by decide +kernel
theorem dX5_copyFrom_18 : decode cX5_copyFrom 18 = .ok (.getfield 76, 3) := by decide +kernel
theorem dX5_copyFrom_21 : decode cX5_copyFrom 21 = .ok (.putfield 76, 3) := by decide +kernel
theorem dX5_copyFrom_24 : decode cX5_copyFrom 24 = .ok (.aload_n 0, 1) := by decide +kernel
theorem dX5_copyFrom_25 : decode cX5_copyFrom 25 = .ok (.aload_n 1, 1) := by decide +kernel
theorem dX5_copyFrom_26 : decode cX5_copyFrom 26 = .ok (.getfield 86, 3) := by decide +kernel
theorem dX5_copyFrom_29 : decode cX5_copyFrom 29 = .ok (.putfield 86, 3) := by decide +kernel
theorem dX5_copyFrom_32 : decode cX5_copyFrom 32 = .ok (.aload_n 0, 1) := by decide +kernel
theorem dX5_copyFrom_33 : decode cX5_copyFrom 33 = .ok (.aload_n 1, 1) := by decide +kernel
theorem dX5_copyFrom_34 : decode cX5_copyFrom 34 = .ok (.getfield 18, 3) := by decide +kernel
theorem dX5_copyFrom_37 : decode cX5_copyFrom 37 = .ok (.putfield 18, 3) := by decide +kernel
theorem dX5_copyFrom_40 : decode cX5_copyFrom 40 = .ok (.return_, 1) := by decide +kernel
theorem dX6_init_0 : decode cX6_init 0 = .ok (.aload_n 0, 1) := by decide +kernel
theorem dX6_init_1 : decode cX6_init 1 = .ok (.invokespecial 1, 3) := by decide +kernel
theorem dX6_init_4 : decode cX6_init 4 = .ok (.aload_n 0, 1) := by decide +kernel
theorem dX6_init_5 : decode cX6_init 5 = .ok (.new 7, 3) := by decide +kernel
theorem dX6_init_8 : decode cX6_init 8 = .ok (.dup, 1) := by decide +kernel
theorem dX6_init_9 : decode cX6_init 9 = .ok (.invokespecial 9, 3) := by decide +kernel
theorem dX6_init_12 : decode cX6_init 12 = .ok (.putfield 10, 3) := by decide +kernel
theorem dX6_init_15 : decode cX6_init 15 = .ok (.aload_n 0, 1) := by decide +kernel
theorem dX6_init_16 : decode cX6_init 16 = .ok (.new 7, 3) := by decide +kernel
theorem dX6_init_19 : decode cX6_init 19 = .ok (.dup, 1) := by decide +kernel
theorem dX6_init_20 : decode cX6_init 20 = .ok (.invokespecial 9, 3) := by decide +kernel
theorem dX6_init_23 : decode cX6_init 23 = .ok (.putfield 16, 3) := by decide +kernel
theorem dX6_init_26 : decode cX6_init 26 = .ok (.return_, 1) := by decide +kernel
theorem dX6_society_0 : decode cX6_society 0 = .ok (.iload_n 1, 1) := by decide +kernel
theorem dX6_society_1 : decode cX6_society 1 = .ok (.iconst 1, 1) := by decide +kernel
theorem dX6_society_2 : decode cX6_society 2 = .ok (.bipush 9, 2) := by decide +kernel
theorem dX6_society_4 : decode cX6_society 4 = .ok (.invokestatic 19, 3) := by decide +kernel
theorem dX6_society_7 : decode cX6_society 7 = .ok (.ifCond .eq 36, 3) := by decide +kernel
theorem dX6_society_10 : decode cX6_society 10 = .ok (.iload_n 2, 1) := by decide +kernel
theorem dX6_society_11 : decode cX6_society 11 = .ok (.iconst 0, 1) := by decide +kernel
theorem dX6_society_12 : decode cX6_society 12 = .ok (.bipush 50, 2) := by decide +kernel
theorem dX6_society_14 : decode cX6_society 14 = .ok (.invokestatic 19, 3) := by decide +kernel
theorem dX6_society_17 : decode cX6_society 17 = .ok (.ifCond .eq 26, 3) := by decide +kernel
theorem dX6_society_20 : decode cX6_society 20 = .ok (.iload_n 3, 1) := by decide +kernel
theorem dX6_society_21 : decode cX6_society 21 = .ok (.iconst 0, 1) := by decide +kernel
theorem dX6_society_22 : decode cX6_society 22 = .ok (.sipush 209, 3) := by decide +kernel
theorem dX6_society_25 : decode cX6_society 25 = .ok (.invokestatic 19, 3) := by decide +kernel
theorem dX6_society_28 : decode cX6_society 28 = .ok (.ifCond .eq 15, 3) := by decide +kernel
theorem dX6_society_31 : decode cX6_society 31 = .ok (.iload 4, 2) := by decide +kernel
theorem dX6_society_33 : decode cX6_society 33 = .ok (.iconst 1, 1) := by decide +kernel
theorem dX6_society_34 : decode cX6_society 34 = .ok (.sipush 210, 3) := by decide +kernel
theorem dX6_society_37 : decode cX6_society 37 = .ok (.invokestatic 19, 3) := by decide +kernel
theorem dX6_society_40 : decode cX6_society 40 = .ok (.ifCond .ne 13, 3) := by decide +kernel
theorem dX6_society_43 : decode cX6_society 43 = .ok (.new 23, 3) := by decide +kernel
theorem dX6_society_46 : decode cX6_society 46 = .ok (.dup, 1) := by decide +kernel
theorem dX6_society_47 : decode cX6_society 47 = .ok (.ldc 25, 2) := by decide +kernel
theorem dX6_society_49 : decode cX6_society 49 = .ok (.invokespecial 27, 3) := by decide +kernel
theorem dX6_society_52 : decode cX6_society 52 = .ok (.athrow, 1) := by decide +kernel
theorem dX6_society_53 : decode cX6_society 53 = .ok (.aload_n 0, 1) := by decide +kernel
theorem dX6_society_54 : decode cX6_society 54 = .ok (.getfield 10, 3) := by decide +kernel
theorem dX6_society_57 : decode cX6_society 57 = .ok (.getfield 30, 3) := by decide +kernel
theorem dX6_society_60 : decode cX6_society 60 = .ok (.invokevirtual 34, 3) := by decide +kernel
theorem dX6_society_63 : decode cX6_society 63 = .ok (.iconst 3, 1) := by decide +kernel
theorem dX6_society_64 : decode cX6_society 64 = .ok (.if_icmp .lt 13, 3) := by decide +kernel
theorem dX6_society_67 : decode cX6_society 67 = .ok (.new 40, 3) := by decide +kernel
theorem dX6_society_70 : decode cX6_society 70 = .ok (.dup, 1) := by decide +kernel
theorem dX6_society_71 : decode cX6_society 71 = .ok (.ldc 42, 2) := by decide +kernel
theorem dX6_society_73 : decode cX6_society 73 = .ok (.invokespecial 44, 3) := by decide +kernel
theorem dX6_society_76 : decode cX6_society 76 = .ok (.athrow, 1) := by decide +kernel
theorem dX6_society_77 : decode cX6_society 77 = .ok (.aload_n 0, 1) := by decide +kernel
theorem dX6_society_78 : decode cX6_society 78 = .ok (.getfield 16, 3) := by decide +kernel
theorem dX6_society_81 : decode cX6_society 81 = .ok (.iload_n 1, 1) := by decide +kernel
theorem dX6_society_82 : decode cX6_society 82 = .ok (.iload_n 2, 1) := by decide +kernel
theorem dX6_society_83 : decode cX6_society 83 = .ok (.iload_n 3, 1) := by decide +kernel
theorem dX6_society_84 : decode cX6_society 84 = .ok (.iload 4, 2) := by decide +kernel
theorem dX6_society_86 : decode cX6_society 86 = .ok (.invokevirtual 45, 3) := by decide +kernel
theorem dX6_society_89 : decode cX6_society 89 = .ok (.pop, 1) := by decide +kernel
theorem dX6_society_90 : decode cX6_society 90 = .ok (.aload_n 0, 1) := by decide +kernel
theorem dX6_society_91 : decode cX6_society 91 = .ok (.getfield 10, 3) := by decide +kernel
theorem dX6_society_94 : decode cX6_society 94 = .ok (.iload_n 1, 1) := by decide +kernel
theorem dX6_society_95 : decode cX6_society 95 = .ok (.iload_n 2, 1) := by decide +kernel
theorem dX6_society_96 : decode cX6_society 96 = .ok (.iload_n 3, 1) := by decide +kernel
theorem dX6_society_97 : decode cX6_society 97 = .ok (.iload 4, 2) := by decide +kernel
theorem dX6_society_99 : decode cX6_society 99 = .ok (.invokevirtual 45, 3) := by decide +kernel
theorem dX6_society_102 : decode cX6_society 102 = .ok (.ireturn, 1) := by decide +kernel
theorem dX6_field_0 : decode cX6_field 0 = .ok (.aload_n 0, 1) := by decide +kernel
theorem dX6_field_1 : decode cX6_field 1 = .ok (.iload_n 1, 1) := by decide +kernel
theorem dX6_field_2 : decode cX6_field 2 = .ok (.invokevirtual 49, 3) := by decide +kernel
theorem dX6_field_5 : decode cX6_field 5 = .ok (.pop, 1) := by decide +kernel
theorem dX6_field_6 : decode cX6_field 6 = .ok (.iload_n 2, 1) := by decide +kernel
theorem dX6_field_7 : decode cX6_field 7 = .ok (.iconst 1, 1) := by decide +kernel
theorem dX6_field_8 : decode cX6_field 8 = .ok (.bipush 9, 2) := by decide +kernel
theorem dX6_field_10 : decode cX6_field 10 = .ok (.invokestatic 19, 3) := by decide +kernel
theorem dX6_field_13 : decode cX6_field 13 = .ok (.ifCond .eq 13, 3) := by decide +kernel
theorem dX6_field_16 : decode cX6_field 16 = .ok (.iload_n 3, 1) := by decide +kernel
theorem dX6_field_17 : decode cX6_field 17 = .ok (.iconst 5, 1) := by decide +kernel
theorem dX6_field_18 : decode cX6_field 18 = .ok (.bipush 60, 2) := by decide +kernel
theorem dX6_field_20 : decode cX6_field 20 = .ok (.invokestatic 19, 3) := by decide +kernel
theorem dX6_field_23 : decode cX6_field 23 = .ok (.ifCond .ne 13, 3) := by decide +kernel
theorem dX6_field_26 : decode cX6_field 26 = .ok (.new 23, 3) := by decide +kernel
theorem dX6_field_29 : decode cX6_field 29 = .ok (.dup, 1) := by decide +kernel
theorem dX6_field_30 : decode cX6_field 30 = .ok (.ldc 53, 2) := by decide +kernel
theorem dX6_field_32 : decode cX6_field 32 = .ok (.invokespecial 27, 3) := by decide +kernel
theorem dX6_field_35 : decode cX6_field 35 = .ok (.athrow, 1) := by decide +kernel
theorem dX6_field_36 : decode cX6_field 36 = .ok (.aload_n 0, 1) := by decide +kernel
theorem dX6_field_37 : decode cX6_field 37 = .ok (.getfield 10, 3) := by decide +kernel
theorem dX6_field_40 : decode cX6_field 40 = .ok (.getfield 55, 3) := by decide +kernel
theorem dX6_field_43 : decode cX6_field 43 = .ok (.invokevirtual 34, 3) := by decide +kernel
theorem dX6_field_46 : decode cX6_field 46 = .ok (.bipush 12, 2) := by decide +kernel
theorem dX6_field_48 : decode cX6_field 48 = .ok (.if_icmp .lt 13, 3) := by decide +kernel
theorem dX6_field_51 : decode cX6_field 51 = .ok (.new 40, 3) := by decide +kernel
theorem dX6_field_54 : decode cX6_field 54 = .ok (.dup, 1) := by decide +kernel
theorem dX6_field_55 : decode cX6_field 55 = .ok (.ldc 58, 2) := by decide +kernel
theorem dX6_field_57 : decode cX6_field 57 = .ok (.invokespecial 44, 3) := by decide +kernel
theorem dX6_field_60 : decode cX6_field 60 = .ok (.athrow, 1) := by decide +kernel
theorem dX6_field_61 : decode cX6_field 61 = .ok (.aload_n 0, 1) := by decide +kernel
theorem dX6_field_62 : decode cX6_field 62 = .ok (.getfield 16, 3) := by decide +kernel
theorem dX6_field_65 : decode cX6_field 65 = .ok (.iload_n 1, 1) := by decide +kernel
theorem dX6_field_66 : decode cX6_field 66 = .ok (.iload_n 2, 1) := by decide +kernel
theorem dX6_field_67 : decode cX6_field 67 = .ok (.iload_n 3, 1) := by decide +kernel
theorem dX6_field_68 : decode cX6_field 68 = .ok (.invokevirtual 60, 3) := by decide +kernel
theorem dX6_field_71 : decode cX6_field 71 = .ok (.pop, 1) := by decide +kernel
theorem dX6_field_72 : decode cX6_field 72 = .ok (.aload_n 0, 1) := by decide +kernel
theorem dX6_field_73 : decode cX6_field 73 = .ok (.getfield 10, 3) := by decide +kernel
theorem dX6_field_76 : decode cX6_field 76 = .ok (.iload_n 1, 1) := by decide +kernel
theorem dX6_field_77 : decode cX6_field 77 = .ok (.iload_n 2, 1) := by decide +kernel
theorem dX6_field_78 : decode cX6_field 78 = .ok (.iload_n 3, 1) := by decide +kernel
theorem dX6_field_79 : decode cX6_field 79 = .ok (.invokevirtual 60, 3) := by decide +kernel
theorem dX6_field_82 : decode cX6_field 82 = .ok (.ireturn, 1) := by decide +kernel
theorem dX6_gate_0 : decode cX6_gate 0 = .ok (.aload_n 0, 1) := by decide +kernel
theorem dX6_gate_1 : decode cX6_gate 1 = .ok (.iload_n 1, 1) := by decide +kernel
theorem dX6_gate_2 : decode cX6_gate 2 = .ok (.invokevirtual 64, 3) := by decide +kernel
theorem dX6_gate_5 : decode cX6_gate 5 = .ok (.astore_n 3, 1) := by decide +kernel
theorem dX6_gate_6 : decode cX6_gate 6 = .ok (.aload_n 3, 1) := by decide +kernel
theorem dX6_gate_7 : decode cX6_gate 7 = .ok (.getfield 68, 3) := by decide +kernel
theorem dX6_gate_10 : decode cX6_gate 10 = .ok (.istore 4, 2) := by decide +kernel
theorem dX6_gate_12 : decode cX6_gate 12 = .ok (.aload_n 3, 1) := by decide +kernel
theorem dX6_gate_13 : decode cX6_gate 13 = .ok (.iload_n 2, 1) := by decide +kernel
theorem dX6_gate_14 : decode cX6_gate 14 = .ok (.putfield 68, 3) := by decide +kernel
theorem dX6_gate_17 : decode cX6_gate 17 = .ok (.iload 4, 2) := by decide +kernel
theorem dX6_gate_19 : decode cX6_gate 19 = .ok (.ireturn, 1) := by decide +kernel
theorem dX6_stones_0 : decode cX6_stones 0 = .ok (.aload_n 0, 1) := by decide +kernel
theorem dX6_stones_1 : decode cX6_stones 1 = .ok (.iload_n 1, 1) := by decide +kernel
theorem dX6_stones_2 : decode cX6_stones 2 = .ok (.invokevirtual 64, 3) := by decide +kernel
theorem dX6_stones_5 : decode cX6_stones 5 = .ok (.astore_n 3, 1) := by decide +kernel
theorem dX6_stones_6 : decode cX6_stones 6 = .ok (.iload_n 2, 1) := by decide +kernel
theorem dX6_stones_7 : decode cX6_stones 7 = .ok (.iconst 0, 1) := by decide +kernel
theorem dX6_stones_8 : decode cX6_stones 8 = .ok (.iconst 5, 1) := by decide +kernel
theorem dX6_stones_9 : decode cX6_stones 9 = .ok (.invokestatic 19, 3) := by decide +kernel
theorem dX6_stones_12 : decode cX6_stones 12 = .ok (.ifCond .ne 13, 3) := by decide +kernel
theorem dX6_stones_15 : decode cX6_stones 15 = .ok (.new 23, 3) := by decide +kernel
theorem dX6_stones_18 : decode cX6_stones 18 = .ok (.dup, 1) := by decide +kernel
theorem dX6_stones_19 : decode cX6_stones 19 = .ok (.ldc 74, 2) := by decide +kernel
theorem dX6_stones_21 : decode cX6_stones 21 = .ok (.invokespecial 27, 3) := by decide +kernel
theorem dX6_stones_24 : decode cX6_stones 24 = .ok (.athrow, 1) := by decide +kernel
theorem dX6_stones_25 : decode cX6_stones 25 = .ok (.aload_n 3, 1) := by decide +kernel
theorem dX6_stones_26 : decode cX6_stones 26 = .ok (.getfield 76, 3) := by decide +kernel
theorem dX6_stones_29 : decode cX6_stones 29 = .ok (.istore 4, 2) := by decide +kernel
theorem dX6_stones_31 : decode cX6_stones 31 = .ok (.aload_n 3, 1) := by decide +kernel
theorem dX6_stones_32 : decode cX6_stones 32 = .ok (.iload_n 2, 1) := by decide +kernel
theorem dX6_stones_33 : decode cX6_stones 33 = .ok (.putfield 76, 3) := by decide +kernel
theorem dX6_stones_36 : decode cX6_stones 36 = .ok (.iload 4, 2) := by decide +kernel
theorem dX6_stones_38 : decode cX6_stones 38 = .ok (.ireturn, 1) := by decide +kernel
theorem dX6_rotate_0 : decode cX6_rotate 0 = .ok (.aload_n 0, 1) := by decide +kernel
theorem dX6_rotate_1 : decode cX6_rotate 1 = .ok (.iload_n 1, 1) := by decide +kernel
theorem dX6_rotate_2 : decode cX6_rotate 2 = .ok (.invokevirtual 49, 3) := by decide +kernel
theorem dX6_rotate_5 : decode cX6_rotate 5 = .ok (.astore_n 3, 1) := by decide +kernel
theorem dX6_rotate_6 : decode cX6_rotate 6 = .ok (.aload_n 3, 1) := by decide +kernel
theorem dX6_rotate_7 : decode cX6_rotate 7 = .ok (.getfield 80, 3) := by decide +kernel
theorem dX6_rotate_10 : decode cX6_rotate 10 = .ok (.istore 4, 2) := by decide +kernel
theorem dX6_rotate_12 : decode cX6_rotate 12 = .ok (.aload_n 3, 1) := by decide +kernel
theorem dX6_rotate_13 : decode cX6_rotate 13 = .ok (.iload_n 2, 1) := by decide +kernel
theorem dX6_rotate_14 : decode cX6_rotate 14 = .ok (.putfield 80, 3) := by decide +kernel
theorem dX6_rotate_17 : decode cX6_rotate 17 = .ok (.iload 4, 2) := by decide +kernel
theorem dX6_rotate_19 : decode cX6_rotate 19 = .ok (.ireturn, 1) := by decide +kernel
theorem dX6_puddle_0 : decode cX6_puddle 0 = .ok (.aload_n 0, 1) := by decide +kernel
theorem dX6_puddle_1 : decode cX6_puddle 1 = .ok (.iload_n 1, 1) := by decide +kernel
theorem dX6_puddle_2 : decode cX6_puddle 2 = .ok (.invokevirtual 64, 3) := by decide +kernel
theorem dX6_puddle_5 : decode cX6_puddle 5 = .ok (.astore_n 2, 1) := by decide +kernel
theorem dX6_puddle_6 : decode cX6_puddle 6 = .ok (.aload_n 2, 1) := by decide +kernel
theorem dX6_puddle_7 : decode cX6_puddle 7 = .ok (.getfield 85, 3) := by decide +kernel
theorem dX6_puddle_10 : decode cX6_puddle 10 = .ok (.getfield 89, 3) := by decide +kernel
theorem dX6_puddle_13 : decode cX6_puddle 13 = .ok (.ifCond .ne 12, 3) := by decide +kernel
theorem dX6_puddle_16 : decode cX6_puddle 16 = .ok (.aload_n 2, 1) := by decide +kernel
theorem dX6_puddle_17 : decode cX6_puddle 17 = .ok (.getfield 94, 3) := by decide +kernel
theorem dX6_puddle_20 : decode cX6_puddle 20 = .ok (.bipush 10, 2) := by decide +kernel
theorem dX6_puddle_22 : decode cX6_puddle 22 = .ok (.if_icmp .ge 13, 3) := by decide +kernel
theorem dX6_puddle_25 : decode cX6_puddle 25 = .ok (.new 40, 3) := by decide +kernel
theorem dX6_puddle_28 : decode cX6_puddle 28 = .ok (.dup, 1) := by decide +kernel
theorem dX6_puddle_29 : decode cX6_puddle 29 = .ok (.ldc 97, 2) := by decide +kernel
theorem dX6_puddle_31 : decode cX6_puddle 31 = .ok (.invokespecial 44, 3) := by decide +kernel
theorem dX6_puddle_34 : decode cX6_puddle 34 = .ok (.athrow, 1) := by decide +kernel
theorem dX6_puddle_35 : decode cX6_puddle 35 = .ok (.aload_n 2, 1) := by decide +kernel
theorem dX6_puddle_36 : decode cX6_puddle 36 = .ok (.getfield 85, 3) := by decide +kernel
theorem dX6_puddle_39 : decode cX6_puddle 39 = .ok (.iconst 1, 1) := by decide +kernel
theorem dX6_puddle_40 : decode cX6_puddle 40 = .ok (.putfield 89, 3) := by decide +kernel
theorem dX6_puddle_43 : decode cX6_puddle 43 = .ok (.aload_n 2, 1) := by decide +kernel
theorem dX6_puddle_44 : decode cX6_puddle 44 = .ok (.iconst 0, 1) := by decide +kernel
theorem dX6_puddle_45 : decode cX6_puddle 45 = .ok (.putfield 99, 3) := by decide +kernel
theorem dX6_puddle_48 : decode cX6_puddle 48 = .ok (.aload_n 2, 1) := by decide +kernel
theorem dX6_puddle_49 : decode cX6_puddle 49 = .ok (.getfield 94, 3) := by decide +kernel
theorem dX6_puddle_52 : decode cX6_puddle 52 = .ok (.ireturn, 1) := by decide +kernel
theorem dX6_plant_0 : decode cX6_plant 0 = .ok (.aload_n 0, 1) := by decide +kernel
theorem dX6_plant_1 : decode cX6_plant 1 = .ok (.iload_n 1, 1) := by decide +kernel
theorem dX6_plant_2 : decode cX6_plant 2 = .ok (.invokevirtual 64, 3) := by decide +kernel
theorem dX6_plant_5 : decode cX6_plant 5 = .ok (.astore_n 3, 1) := by decide +kernel
theorem dX6_plant_6 : decode cX6_plant 6 = .ok (.iload_n 2, 1) := by decide +kernel
theorem dX6_plant_7 : decode cX6_plant 7 = .ok (.invokestatic 102, 3) := by decide +kernel
theorem dX6_plant_10 : decode cX6_plant 10 = .ok (.aload_n 3, 1) := by decide +kernel
theorem dX6_plant_11 : decode cX6_plant 11 = .ok (.getfield 85, 3) := by decide +kernel
theorem dX6_plant_14 : decode cX6_plant 14 = .ok (.getfield 89, 3) := by decide +kernel
theorem dX6_plant_17 : decode cX6_plant 17 = .ok (.iconst 1, 1) := by decide +kernel
theorem dX6_plant_18 : decode cX6_plant 18 = .ok (.if_icmp .ne 24, 3) := by decide +kernel
theorem dX6_plant_21 : decode cX6_plant 21 = .ok (.aload_n 0, 1) := by decide +kernel
theorem dX6_plant_22 : decode cX6_plant 22 = .ok (.getfield 10, 3) := by decide +kernel
theorem dX6_plant_25 : decode cX6_plant 25 = .ok (.invokevirtual 106, 3) := by decide +kernel
theorem dX6_plant_28 : decode cX6_plant 28 = .ok (.ifCond .ne 14, 3) := by decide +kernel
theorem dX6_plant_31 : decode cX6_plant 31 = .ok (.aload_n 3, 1) := by decide +kernel
theorem dX6_plant_32 : decode cX6_plant 32 = .ok (.getfield 85, 3) := by decide +kernel
theorem dX6_plant_35 : decode cX6_plant 35 = .ok (.getfield 110, 3) := by decide +kernel
theorem dX6_plant_38 : decode cX6_plant 38 = .ok (.iconst 3, 1) := by decide +kernel
theorem dX6_plant_39 : decode cX6_plant 39 = .ok (.if_icmp .ge 13, 3) := by decide +kernel
theorem dX6_plant_42 : decode cX6_plant 42 = .ok (.new 40, 3) := by decide +kernel
theorem dX6_plant_45 : decode cX6_plant 45 = .ok (.dup, 1) := by decide +kernel
theorem dX6_plant_46 : decode cX6_plant 46 = .ok (.ldc 113, 2) := by decide +kernel
theorem dX6_plant_48 : decode cX6_plant 48 = .ok (.invokespecial 44, 3) := by decide +kernel
theorem dX6_plant_51 : decode cX6_plant 51 = .ok (.athrow, 1) := by decide +kernel
theorem dX6_plant_52 : decode cX6_plant 52 = .ok (.aload_n 3, 1) := by decide +kernel
theorem dX6_plant_53 : decode cX6_plant 53 = .ok (.getfield 85, 3) := by decide +kernel
theorem dX6_plant_56 : decode cX6_plant 56 = .ok (.iload_n 2, 1) := by decide +kernel
theorem dX6_plant_57 : decode cX6_plant 57 = .ok (.invokevirtual 115, 3) := by decide +kernel
theorem dX6_plant_60 : decode cX6_plant 60 = .ok (.aload_n 0, 1) := by decide +kernel
theorem dX6_plant_61 : decode cX6_plant 61 = .ok (.getfield 10, 3) := by decide +kernel
theorem dX6_plant_64 : decode cX6_plant 64 = .ok (.getfield 118, 3) := by decide +kernel
theorem dX6_plant_67 : decode cX6_plant 67 = .ok (.ireturn, 1) := by decide +kernel
theorem dX6_help_0 : decode cX6_help 0 = .ok (.aload_n 0, 1) := by decide +kernel
theorem dX6_help_1 : decode cX6_help 1 = .ok (.iload_n 1, 1) := by decide +kernel
theorem dX6_help_2 : decode cX6_help 2 = .ok (.invokevirtual 64, 3) := by decide +kernel
theorem dX6_help_5 : decode cX6_help 5 = .ok (.getfield 121, 3) := by decide +kernel
theorem dX6_help_8 : decode cX6_help 8 = .ok (.astore_n 3, 1) := by decide +kernel
theorem dX6_help_9 : decode cX6_help 9 = .ok (.aload_n 0, 1) := by decide +kernel
theorem dX6_help_10 : decode cX6_help 10 = .ok (.iload_n 2, 1) := by decide +kernel
theorem dX6_help_11 : decode cX6_help 11 = .ok (.invokevirtual 64, 3) := by decide +kernel
theorem dX6_help_14 : decode cX6_help 14 = .ok (.astore 4, 2) := by decide +kernel
theorem dX6_help_16 : decode cX6_help 16 = .ok (.aload_n 3, 1) := by decide +kernel
theorem dX6_help_17 : decode cX6_help 17 = .ok (.dup, 1) := by decide +kernel
theorem dX6_help_18 : decode cX6_help 18 = .ok (.getfield 125, 3) := by decide +kernel
theorem dX6_help_21 : decode cX6_help 21 = .ok (.iconst 1, 1) := by decide +kernel
theorem dX6_help_22 : decode cX6_help 22 = .ok (.iadd, 1) := by decide +kernel
theorem dX6_help_23 : decode cX6_help 23 = .ok (.putfield 125, 3) := by decide +kernel
theorem dX6_help_26 : decode cX6_help 26 = .ok (.aload 4, 2) := by decide +kernel
theorem dX6_help_28 : decode cX6_help 28 = .ok (.getfield 121, 3) := by decide +kernel
theorem dX6_help_31 : decode cX6_help 31 = .ok (.dup, 1) := by decide +kernel
theorem dX6_help_32 : decode cX6_help 32 = .ok (.getfield 125, 3) := by decide +kernel
theorem dX6_help_35 : decode cX6_help 35 = .ok (.iconst 1, 1) := by decide +kernel
theorem dX6_help_36 : decode cX6_help 36 = .ok (.isub, 1) := by decide +kernel
theorem dX6_help_37 : decode cX6_help 37 = .ok (.putfield 125, 3) := by decide +kernel
theorem dX6_help_40 : decode cX6_help 40 = .ok (.aload 4, 2) := by decide +kernel
theorem dX6_help_42 : decode cX6_help 42 = .ok (.getfield 85, 3) := by decide +kernel
theorem dX6_help_45 : decode cX6_help 45 = .ok (.dup, 1) := by decide +kernel
theorem dX6_help_46 : decode cX6_help 46 = .ok (.getfield 110, 3) := by decide +kernel
theorem dX6_help_49 : decode cX6_help 49 = .ok (.iconst 1, 1) := by decide +kernel
theorem dX6_help_50 : decode cX6_help 50 = .ok (.iadd, 1) := by decide +kernel
theorem dX6_help_51 : decode cX6_help 51 = .ok (.putfield 110, 3) := by decide +kernel
theorem dX6_help_54 : decode cX6_help 54 = .ok (.aload 4, 2) := by decide +kernel
theorem dX6_help_56 : decode cX6_help 56 = .ok (.getfield 85, 3) := by decide +kernel
theorem dX6_help_59 : decode cX6_help 59 = .ok (.getfield 110, 3) := by decide +kernel
theorem dX6_help_62 : decode cX6_help 62 = .ok (.ireturn, 1) := by decide +kernel
theorem dX6_ducks_0 : decode cX6_ducks 0 = .ok (.aload_n 0, 1) := by decide +kernel
theorem dX6_ducks_1 : decode cX6_ducks 1 = .ok (.iload_n 1, 1) := by decide +kernel
theorem dX6_ducks_2 : decode cX6_ducks 2 = .ok (.invokevirtual 64, 3) := by decide +kernel
theorem dX6_ducks_5 : decode cX6_ducks 5 = .ok (.astore_n 3, 1) := by decide +kernel
theorem dX6_ducks_6 : decode cX6_ducks 6 = .ok (.aload_n 3, 1) := by decide +kernel
theorem dX6_ducks_7 : decode cX6_ducks 7 = .ok (.iload_n 2, 1) := by decide +kernel
theorem dX6_ducks_8 : decode cX6_ducks 8 = .ok (.putfield 130, 3) := by decide +kernel
theorem dX6_ducks_11 : decode cX6_ducks 11 = .ok (.aload_n 3, 1) := by decide +kernel
theorem dX6_ducks_12 : decode cX6_ducks 12 = .ok (.getfield 133, 3) := by decide +kernel
theorem dX6_ducks_15 : decode cX6_ducks 15 = .ok (.ireturn, 1) := by decide +kernel
theorem dX6_harvest_0 : decode cX6_harvest 0 = .ok (.aload_n 0, 1) := by decide +kernel
theorem dX6_harvest_1 : decode cX6_harvest 1 = .ok (.iload_n 1, 1) := by decide +kernel
theorem dX6_harvest_2 : decode cX6_harvest 2 = .ok (.invokevirtual 136, 3) := by decide +kernel
theorem dX6_harvest_5 : decode cX6_harvest 5 = .ok (.astore_n 3, 1) := by decide +kernel
theorem dX6_harvest_6 : decode cX6_harvest 6 = .ok (.aload_n 3, 1) := by decide +kernel
theorem dX6_harvest_7 : decode cX6_harvest 7 = .ok (.getfield 85, 3) := by decide +kernel
theorem dX6_harvest_10 : decode cX6_harvest 10 = .ok (.invokevirtual 139, 3) := by decide +kernel
theorem dX6_harvest_13 : decode cX6_harvest 13 = .ok (.istore 4, 2) := by decide +kernel
theorem dX6_harvest_15 : decode cX6_harvest 15 = .ok (.iload 4, 2) := by decide +kernel
theorem dX6_harvest_17 : decode cX6_harvest 17 = .ok (.bipush 10, 2) := by decide +kernel
theorem dX6_harvest_19 : decode cX6_harvest 19 = .ok (.idiv, 1) := by decide +kernel
theorem dX6_harvest_20 : decode cX6_harvest 20 = .ok (.istore 5, 2) := by decide +kernel
theorem dX6_harvest_22 : decode cX6_harvest 22 = .ok (.aload_n 3, 1) := by decide +kernel
theorem dX6_harvest_23 : decode cX6_harvest 23 = .ok (.getfield 142, 3) := by decide +kernel
theorem dX6_harvest_26 : decode cX6_harvest 26 = .ok (.dup, 1) := by decide +kernel
theorem dX6_harvest_27 : decode cX6_harvest 27 = .ok (.getfield 146, 3) := by decide +kernel
theorem dX6_harvest_30 : decode cX6_harvest 30 = .ok (.iload 5, 2) := by decide +kernel
theorem dX6_harvest_32 : decode cX6_harvest 32 = .ok (.iadd, 1) := by decide +kernel
theorem dX6_harvest_33 : decode cX6_harvest 33 = .ok (.putfield 146, 3) := by decide +kernel
theorem dX6_harvest_36 : decode cX6_harvest 36 = .ok (.aload_n 3, 1) := by decide +kernel
theorem dX6_harvest_37 : decode cX6_harvest 37 = .ok (.getfield 142, 3) := by decide +kernel
theorem dX6_harvest_40 : decode cX6_harvest 40 = .ok (.dup, 1) := by decide +kernel
theorem dX6_harvest_41 : decode cX6_harvest 41 = .ok (.getfield 149, 3) := by decide +kernel
theorem dX6_harvest_44 : decode cX6_harvest 44 = .ok (.iload 4, 2) := by decide +kernel
theorem dX6_harvest_46 : decode cX6_harvest 46 = .ok (.iadd, 1) := by decide +kernel
theorem dX6_harvest_47 : decode cX6_harvest 47 = .ok (.putfield 149, 3) := by decide +kernel
theorem dX6_harvest_50 : decode cX6_harvest 50 = .ok (.aload_n 3, 1) := by decide +kernel
theorem dX6_harvest_51 : decode cX6_harvest 51 = .ok (.getfield 121, 3) := by decide +kernel
theorem dX6_harvest_54 : decode cX6_harvest 54 = .ok (.dup, 1) := by decide +kernel
theorem dX6_harvest_55 : decode cX6_harvest 55 = .ok (.getfield 151, 3) := by decide +kernel
theorem dX6_harvest_58 : decode cX6_harvest 58 = .ok (.iload 4, 2) := by decide +kernel
theorem dX6_harvest_60 : decode cX6_harvest 60 = .ok (.iload 5, 2) := by decide +kernel
theorem dX6_harvest_62 : decode cX6_harvest 62 = .ok (.isub, 1) := by decide +kernel
theorem dX6_harvest_63 : decode cX6_harvest 63 = .ok (.iadd, 1) := by decide +kernel
theorem dX6_harvest_64 : decode cX6_harvest 64 = .ok (.putfield 151, 3) := by decide +kernel
theorem dX6_harvest_67 : decode cX6_harvest 67 = .ok (.aload_n 0, 1) := by decide +kernel
theorem dX6_harvest_68 : decode cX6_harvest 68 = .ok (.getfield 10, 3) := by decide +kernel
theorem dX6_harvest_71 : decode cX6_harvest 71 = .ok (.dup, 1) := by decide +kernel
theorem dX6_harvest_72 : decode cX6_harvest 72 = .ok (.getfield 154, 3) := by decide +kernel
theorem dX6_harvest_75 : decode cX6_harvest 75 = .ok (.iload 4, 2) := by decide +kernel
theorem dX6_harvest_77 : decode cX6_harvest 77 = .ok (.iadd, 1) := by decide +kernel
theorem dX6_harvest_78 : decode cX6_harvest 78 = .ok (.putfield 154, 3) := by decide +kernel
theorem dX6_harvest_81 : decode cX6_harvest 81 = .ok (.aload_n 3, 1) := by decide +kernel
theorem dX6_harvest_82 : decode cX6_harvest 82 = .ok (.iload_n 2, 1) := by decide +kernel
theorem dX6_harvest_83 : decode cX6_harvest 83 = .ok (.invokevirtual 157, 3) := by decide +kernel
theorem dX6_harvest_86 : decode cX6_harvest 86 = .ok (.iload 4, 2) := by decide +kernel
theorem dX6_harvest_88 : decode cX6_harvest 88 = .ok (.ireturn, 1) := by decide +kernel
theorem dX6_cut_0 : decode cX6_cut 0 = .ok (.aload_n 0, 1) := by decide +kernel
theorem dX6_cut_1 : decode cX6_cut 1 = .ok (.iload_n 1, 1) := by decide +kernel
theorem dX6_cut_2 : decode cX6_cut 2 = .ok (.invokevirtual 136, 3) := by decide +kernel
theorem dX6_cut_5 : decode cX6_cut 5 = .ok (.astore_n 2, 1) := by decide +kernel
theorem dX6_cut_6 : decode cX6_cut 6 = .ok (.bipush 7, 2) := by decide +kernel
theorem dX6_cut_8 : decode cX6_cut 8 = .ok (.aload_n 0, 1) := by decide +kernel
theorem dX6_cut_9 : decode cX6_cut 9 = .ok (.getfield 10, 3) := by decide +kernel
theorem dX6_cut_12 : decode cX6_cut 12 = .ok (.getfield 118, 3) := by decide +kernel
theorem dX6_cut_15 : decode cX6_cut 15 = .ok (.imul, 1) := by decide +kernel
theorem dX6_cut_16 : decode cX6_cut 16 = .ok (.bipush 13, 2) := by decide +kernel
theorem dX6_cut_18 : decode cX6_cut 18 = .ok (.aload_n 2, 1) := by decide +kernel
theorem dX6_cut_19 : decode cX6_cut 19 = .ok (.getfield 161, 3) := by decide +kernel
theorem dX6_cut_22 : decode cX6_cut 22 = .ok (.imul, 1) := by decide +kernel
theorem dX6_cut_23 : decode cX6_cut 23 = .ok (.iadd, 1) := by decide +kernel
theorem dX6_cut_24 : decode cX6_cut 24 = .ok (.iconst 5, 1) := by decide +kernel
theorem dX6_cut_25 : decode cX6_cut 25 = .ok (.aload_n 0, 1) := by decide +kernel
theorem dX6_cut_26 : decode cX6_cut 26 = .ok (.getfield 10, 3) := by decide +kernel
theorem dX6_cut_29 : decode cX6_cut 29 = .ok (.getfield 164, 3) := by decide +kernel
theorem dX6_cut_32 : decode cX6_cut 32 = .ok (.imul, 1) := by decide +kernel
theorem dX6_cut_33 : decode cX6_cut 33 = .ok (.iadd, 1) := by decide +kernel
theorem dX6_cut_34 : decode cX6_cut 34 = .ok (.bipush 21, 2) := by decide +kernel
theorem dX6_cut_36 : decode cX6_cut 36 = .ok (.invokestatic 167, 3) := by decide +kernel
theorem dX6_cut_39 : decode cX6_cut 39 = .ok (.istore_n 3, 1) := by decide +kernel
theorem dX6_cut_40 : decode cX6_cut 40 = .ok (.aload_n 2, 1) := by decide +kernel
theorem dX6_cut_41 : decode cX6_cut 41 = .ok (.getfield 85, 3) := by decide +kernel
theorem dX6_cut_44 : decode cX6_cut 44 = .ok (.invokevirtual 139, 3) := by decide +kernel
theorem dX6_cut_47 : decode cX6_cut 47 = .ok (.bipush 90, 2) := by decide +kernel
theorem dX6_cut_49 : decode cX6_cut 49 = .ok (.iload_n 3, 1) := by decide +kernel
theorem dX6_cut_50 : decode cX6_cut 50 = .ok (.iadd, 1) := by decide +kernel
theorem dX6_cut_51 : decode cX6_cut 51 = .ok (.imul, 1) := by decide +kernel
theorem dX6_cut_52 : decode cX6_cut 52 = .ok (.bipush 100, 2) := by decide +kernel
theorem dX6_cut_54 : decode cX6_cut 54 = .ok (.idiv, 1) := by decide +kernel
theorem dX6_cut_55 : decode cX6_cut 55 = .ok (.istore 4, 2) := by decide +kernel
theorem dX6_cut_57 : decode cX6_cut 57 = .ok (.aload_n 2, 1) := by decide +kernel
theorem dX6_cut_58 : decode cX6_cut 58 = .ok (.getfield 85, 3) := by decide +kernel
theorem dX6_cut_61 : decode cX6_cut 61 = .ok (.iload 4, 2) := by decide +kernel
theorem dX6_cut_63 : decode cX6_cut 63 = .ok (.invokevirtual 173, 3) := by decide +kernel
theorem dX6_cut_66 : decode cX6_cut 66 = .ok (.aload_n 0, 1) := by decide +kernel
theorem dX6_cut_67 : decode cX6_cut 67 = .ok (.getfield 10, 3) := by decide +kernel
theorem dX6_cut_70 : decode cX6_cut 70 = .ok (.dup, 1) := by decide +kernel
theorem dX6_cut_71 : decode cX6_cut 71 = .ok (.getfield 164, 3) := by decide +kernel
theorem dX6_cut_74 : decode cX6_cut 74 = .ok (.iconst 1, 1) := by decide +kernel
theorem dX6_cut_75 : decode cX6_cut 75 = .ok (.iadd, 1) := by decide +kernel
theorem dX6_cut_76 : decode cX6_cut 76 = .ok (.putfield 164, 3) := by decide +kernel
theorem dX6_cut_79 : decode cX6_cut 79 = .ok (.iload 4, 2) := by decide +kernel
theorem dX6_cut_81 : decode cX6_cut 81 = .ok (.ireturn, 1) := by decide +kernel
theorem dX6_day_0 : decode cX6_day 0 = .ok (.iload_n 1, 1) := by decide +kernel
theorem dX6_day_1 : decode cX6_day 1 = .ok (.iconst 0, 1) := by decide +kernel
theorem dX6_day_2 : decode cX6_day 2 = .ok (.sipush 200, 3) := by decide +kernel
theorem dX6_day_5 : decode cX6_day 5 = .ok (.invokestatic 19, 3) := by decide +kernel
theorem dX6_day_8 : decode cX6_day 8 = .ok (.ifCond .eq 23, 3) := by decide +kernel
theorem dX6_day_11 : decode cX6_day 11 = .ok (.iload_n 2, 1) := by decide +kernel
theorem dX6_day_12 : decode cX6_day 12 = .ok (.iconst 0, 1) := by decide +kernel
theorem dX6_day_13 : decode cX6_day 13 = .ok (.bipush 40, 2) := by decide +kernel
theorem dX6_day_15 : decode cX6_day 15 = .ok (.invokestatic 19, 3) := by decide +kernel
theorem dX6_day_18 : decode cX6_day 18 = .ok (.ifCond .eq 13, 3) := by decide +kernel
theorem dX6_day_21 : decode cX6_day 21 = .ok (.iload_n 3, 1) := by decide +kernel
theorem dX6_day_22 : decode cX6_day 22 = .ok (.iconst 0, 1) := by decide +kernel
theorem dX6_day_23 : decode cX6_day 23 = .ok (.bipush 30, 2) := by decide +kernel
theorem dX6_day_25 : decode cX6_day 25 = .ok (.invokestatic 19, 3) := by decide +kernel
theorem dX6_day_28 : decode cX6_day 28 = .ok (.ifCond .ne 13, 3) := by decide +kernel
theorem dX6_day_31 : decode cX6_day 31 = .ok (.new 23, 3) := by decide +kernel
theorem dX6_day_34 : decode cX6_day 34 = .ok (.dup, 1) := by decide +kernel
theorem dX6_day_35 : decode cX6_day 35 = .ok (.ldc 176, 2) := by decide +kernel
theorem dX6_day_37 : decode cX6_day 37 = .ok (.invokespecial 27, 3) := by decide +kernel
theorem dX6_day_40 : decode cX6_day 40 = .ok (.athrow, 1) := by decide +kernel
theorem dX6_day_41 : decode cX6_day 41 = .ok (.aload_n 0, 1) := by decide +kernel
theorem dX6_day_42 : decode cX6_day 42 = .ok (.getfield 10, 3) := by decide +kernel
theorem dX6_day_45 : decode cX6_day 45 = .ok (.iload_n 1, 1) := by decide +kernel
theorem dX6_day_46 : decode cX6_day 46 = .ok (.iload_n 2, 1) := by decide +kernel
theorem dX6_day_47 : decode cX6_day 47 = .ok (.iload_n 3, 1) := by decide +kernel
theorem dX6_day_48 : decode cX6_day 48 = .ok (.invokevirtual 178, 3) := by decide +kernel
theorem dX6_day_51 : decode cX6_day 51 = .ok (.aload_n 0, 1) := by decide +kernel
theorem dX6_day_52 : decode cX6_day 52 = .ok (.getfield 10, 3) := by decide +kernel
theorem dX6_day_55 : decode cX6_day 55 = .ok (.getfield 118, 3) := by decide +kernel
theorem dX6_day_58 : decode cX6_day 58 = .ok (.ireturn, 1) := by decide +kernel
theorem dX6_inspect_0 : decode cX6_inspect 0 = .ok (.aload_n 0, 1) := by decide +kernel
theorem dX6_inspect_1 : decode cX6_inspect 1 = .ok (.iload_n 1, 1) := by decide +kernel
theorem dX6_inspect_2 : decode cX6_inspect 2 = .ok (.invokevirtual 49, 3) := by decide +kernel
theorem dX6_inspect_5 : decode cX6_inspect 5 = .ok (.invokevirtual 182, 3) := by decide +kernel
theorem dX6_inspect_8 : decode cX6_inspect 8 = .ok (.ireturn, 1) := by decide +kernel
theorem dX6_sell_0 : decode cX6_sell 0 = .ok (.aload_n 0, 1) := by decide +kernel
theorem dX6_sell_1 : decode cX6_sell 1 = .ok (.iload_n 1, 1) := by decide +kernel
theorem dX6_sell_2 : decode cX6_sell 2 = .ok (.invokevirtual 64, 3) := by decide +kernel
theorem dX6_sell_5 : decode cX6_sell 5 = .ok (.getfield 121, 3) := by decide +kernel
theorem dX6_sell_8 : decode cX6_sell 8 = .ok (.astore_n 3, 1) := by decide +kernel
theorem dX6_sell_9 : decode cX6_sell 9 = .ok (.iload_n 2, 1) := by decide +kernel
theorem dX6_sell_10 : decode cX6_sell 10 = .ok (.iconst 1, 1) := by decide +kernel
theorem dX6_sell_11 : decode cX6_sell 11 = .ok (.if_icmp .ge 13, 3) := by decide +kernel
theorem dX6_sell_14 : decode cX6_sell 14 = .ok (.new 23, 3) := by decide +kernel
theorem dX6_sell_17 : decode cX6_sell 17 = .ok (.dup, 1) := by decide +kernel
theorem dX6_sell_18 : decode cX6_sell 18 = .ok (.ldc 185, 2) := by decide +kernel
theorem dX6_sell_20 : decode cX6_sell 20 = .ok (.invokespecial 27, 3) := by decide +kernel
theorem dX6_sell_23 : decode cX6_sell 23 = .ok (.athrow, 1) := by decide +kernel
theorem dX6_sell_24 : decode cX6_sell 24 = .ok (.aload_n 3, 1) := by decide +kernel
theorem dX6_sell_25 : decode cX6_sell 25 = .ok (.getfield 151, 3) := by decide +kernel
theorem dX6_sell_28 : decode cX6_sell 28 = .ok (.iload_n 2, 1) := by decide +kernel
theorem dX6_sell_29 : decode cX6_sell 29 = .ok (.if_icmp .ge 13, 3) := by decide +kernel
theorem dX6_sell_32 : decode cX6_sell 32 = .ok (.new 40, 3) := by decide +kernel
theorem dX6_sell_35 : decode cX6_sell 35 = .ok (.dup, 1) := by decide +kernel
theorem dX6_sell_36 : decode cX6_sell 36 = .ok (.ldc 187, 2) := by decide +kernel
theorem dX6_sell_38 : decode cX6_sell 38 = .ok (.invokespecial 44, 3) := by decide +kernel
theorem dX6_sell_41 : decode cX6_sell 41 = .ok (.athrow, 1) := by decide +kernel
theorem dX6_sell_42 : decode cX6_sell 42 = .ok (.aload_n 3, 1) := by decide +kernel
theorem dX6_sell_43 : decode cX6_sell 43 = .ok (.dup, 1) := by decide +kernel
theorem dX6_sell_44 : decode cX6_sell 44 = .ok (.getfield 151, 3) := by decide +kernel
theorem dX6_sell_47 : decode cX6_sell 47 = .ok (.iload_n 2, 1) := by decide +kernel
theorem dX6_sell_48 : decode cX6_sell 48 = .ok (.isub, 1) := by decide +kernel
theorem dX6_sell_49 : decode cX6_sell 49 = .ok (.putfield 151, 3) := by decide +kernel
theorem dX6_sell_52 : decode cX6_sell 52 = .ok (.aload_n 3, 1) := by decide +kernel
theorem dX6_sell_53 : decode cX6_sell 53 = .ok (.dup, 1) := by decide +kernel
theorem dX6_sell_54 : decode cX6_sell 54 = .ok (.getfield 189, 3) := by decide +kernel
theorem dX6_sell_57 : decode cX6_sell 57 = .ok (.iload_n 2, 1) := by decide +kernel
theorem dX6_sell_58 : decode cX6_sell 58 = .ok (.iadd, 1) := by decide +kernel
theorem dX6_sell_59 : decode cX6_sell 59 = .ok (.putfield 189, 3) := by decide +kernel
theorem dX6_sell_62 : decode cX6_sell 62 = .ok (.aload_n 3, 1) := by decide +kernel
theorem dX6_sell_63 : decode cX6_sell 63 = .ok (.getfield 189, 3) := by decide +kernel
theorem dX6_sell_66 : decode cX6_sell 66 = .ok (.ireturn, 1) := by decide +kernel
theorem dX6_vote_0 : decode cX6_vote 0 = .ok (.aload_n 0, 1) := by decide +kernel
theorem dX6_vote_1 : decode cX6_vote 1 = .ok (.iload_n 1, 1) := by decide +kernel
theorem dX6_vote_2 : decode cX6_vote 2 = .ok (.invokevirtual 49, 3) := by decide +kernel
theorem dX6_vote_5 : decode cX6_vote 5 = .ok (.astore_n 2, 1) := by decide +kernel
theorem dX6_vote_6 : decode cX6_vote 6 = .ok (.aload_n 0, 1) := by decide +kernel
theorem dX6_vote_7 : decode cX6_vote 7 = .ok (.getfield 10, 3) := by decide +kernel
theorem dX6_vote_10 : decode cX6_vote 10 = .ok (.iload_n 1, 1) := by decide +kernel
theorem dX6_vote_11 : decode cX6_vote 11 = .ok (.invokevirtual 192, 3) := by decide +kernel
theorem dX6_vote_14 : decode cX6_vote 14 = .ok (.astore_n 3, 1) := by decide +kernel
theorem dX6_vote_15 : decode cX6_vote 15 = .ok (.aload_n 2, 1) := by decide +kernel
theorem dX6_vote_16 : decode cX6_vote 16 = .ok (.aload_n 3, 1) := by decide +kernel
theorem dX6_vote_17 : decode cX6_vote 17 = .ok (.invokevirtual 195, 3) := by decide +kernel
theorem dX6_vote_20 : decode cX6_vote 20 = .ok (.istore 4, 2) := by decide +kernel
theorem dX6_vote_22 : decode cX6_vote 22 = .ok (.aload_n 3, 1) := by decide +kernel
theorem dX6_vote_23 : decode cX6_vote 23 = .ok (.ifnull 33, 3) := by decide +kernel
theorem dX6_vote_26 : decode cX6_vote 26 = .ok (.iconst 2, 1) := by decide +kernel
theorem dX6_vote_27 : decode cX6_vote 27 = .ok (.iload 4, 2) := by decide +kernel
theorem dX6_vote_29 : decode cX6_vote 29 = .ok (.imul, 1) := by decide +kernel
theorem dX6_vote_30 : decode cX6_vote 30 = .ok (.aload_n 2, 1) := by decide +kernel
theorem dX6_vote_31 : decode cX6_vote 31 = .ok (.getfield 199, 3) := by decide +kernel
theorem dX6_vote_34 : decode cX6_vote 34 = .ok (.invokevirtual 34, 3) := by decide +kernel
theorem dX6_vote_37 : decode cX6_vote 37 = .ok (.if_icmp .le 19, 3) := by decide +kernel
theorem dX6_vote_40 : decode cX6_vote 40 = .ok (.aload_n 2, 1) := by decide +kernel
theorem dX6_vote_41 : decode cX6_vote 41 = .ok (.aload_n 3, 1) := by decide +kernel
theorem dX6_vote_42 : decode cX6_vote 42 = .ok (.getfield 200, 3) := by decide +kernel
theorem dX6_vote_45 : decode cX6_vote 45 = .ok (.putfield 200, 3) := by decide +kernel
theorem dX6_vote_48 : decode cX6_vote 48 = .ok (.aload_n 2, 1) := by decide +kernel
theorem dX6_vote_49 : decode cX6_vote 49 = .ok (.aload_n 3, 1) := by decide +kernel
theorem dX6_vote_50 : decode cX6_vote 50 = .ok (.getfield 203, 3) := by decide +kernel
theorem dX6_vote_53 : decode cX6_vote 53 = .ok (.putfield 203, 3) := by decide +kernel
theorem dX6_vote_56 : decode cX6_vote 56 = .ok (.aload_n 2, 1) := by decide +kernel
theorem dX6_vote_57 : decode cX6_vote 57 = .ok (.iconst 0, 1) := by decide +kernel
theorem dX6_vote_58 : decode cX6_vote 58 = .ok (.putfield 149, 3) := by decide +kernel
theorem dX6_vote_61 : decode cX6_vote 61 = .ok (.iload 4, 2) := by decide +kernel
theorem dX6_vote_63 : decode cX6_vote 63 = .ok (.ireturn, 1) := by decide +kernel
theorem dX6_ofField_0 : decode cX6_ofField 0 = .ok (.aload_n 0, 1) := by decide +kernel
theorem dX6_ofField_1 : decode cX6_ofField 1 = .ok (.iload_n 1, 1) := by decide +kernel
theorem dX6_ofField_2 : decode cX6_ofField 2 = .ok (.invokevirtual 64, 3) := by decide +kernel
theorem dX6_ofField_5 : decode cX6_ofField 5 = .ok (.astore_n 3, 1) := by decide +kernel
theorem dX6_ofField_6 : decode cX6_ofField 6 = .ok (.iload_n 2, 1) := by decide +kernel
theorem dX6_ofField_7 : decode cX6_ofField 7 = .ok (.tableswitch 166 0 13 #[69, 77, 82, 87, 92, 100, 108, 116, 124, 129, 137, 145, 153, 158], 69) := by decide +kernel
theorem dX6_ofField_76 : decode cX6_ofField 76 = .ok (.aload_n 3, 1) := by decide +kernel
theorem dX6_ofField_77 : decode cX6_ofField 77 = .ok (.getfield 142, 3) := by decide +kernel
theorem dX6_ofField_80 : decode cX6_ofField 80 = .ok (.getfield 206, 3) := by decide +kernel
theorem dX6_ofField_83 : decode cX6_ofField 83 = .ok (.ireturn, 1) := by decide +kernel
theorem dX6_ofField_84 : decode cX6_ofField 84 = .ok (.aload_n 3, 1) := by decide +kernel
theorem dX6_ofField_85 : decode cX6_ofField 85 = .ok (.getfield 94, 3) := by decide +kernel
theorem dX6_ofField_88 : decode cX6_ofField 88 = .ok (.ireturn, 1) := by decide +kernel
theorem dX6_ofField_89 : decode cX6_ofField 89 = .ok (.aload_n 3, 1) := by decide +kernel
theorem dX6_ofField_90 : decode cX6_ofField 90 = .ok (.getfield 99, 3) := by decide +kernel
theorem dX6_ofField_93 : decode cX6_ofField 93 = .ok (.ireturn, 1) := by decide +kernel
theorem dX6_ofField_94 : decode cX6_ofField 94 = .ok (.aload_n 3, 1) := by decide +kernel
theorem dX6_ofField_95 : decode cX6_ofField 95 = .ok (.getfield 207, 3) := by decide +kernel
theorem dX6_ofField_98 : decode cX6_ofField 98 = .ok (.ireturn, 1) := by decide +kernel
theorem dX6_ofField_99 : decode cX6_ofField 99 = .ok (.aload_n 3, 1) := by decide +kernel
theorem dX6_ofField_100 : decode cX6_ofField 100 = .ok (.getfield 85, 3) := by decide +kernel
theorem dX6_ofField_103 : decode cX6_ofField 103 = .ok (.getfield 89, 3) := by decide +kernel
theorem dX6_ofField_106 : decode cX6_ofField 106 = .ok (.ireturn, 1) := by decide +kernel
theorem dX6_ofField_107 : decode cX6_ofField 107 = .ok (.aload_n 3, 1) := by decide +kernel
theorem dX6_ofField_108 : decode cX6_ofField 108 = .ok (.getfield 85, 3) := by decide +kernel
theorem dX6_ofField_111 : decode cX6_ofField 111 = .ok (.getfield 210, 3) := by decide +kernel
theorem dX6_ofField_114 : decode cX6_ofField 114 = .ok (.ireturn, 1) := by decide +kernel
theorem dX6_ofField_115 : decode cX6_ofField 115 = .ok (.aload_n 3, 1) := by decide +kernel
theorem dX6_ofField_116 : decode cX6_ofField 116 = .ok (.getfield 85, 3) := by decide +kernel
theorem dX6_ofField_119 : decode cX6_ofField 119 = .ok (.getfield 213, 3) := by decide +kernel
theorem dX6_ofField_122 : decode cX6_ofField 122 = .ok (.ireturn, 1) := by decide +kernel
theorem dX6_ofField_123 : decode cX6_ofField 123 = .ok (.aload_n 3, 1) := by decide +kernel
theorem dX6_ofField_124 : decode cX6_ofField 124 = .ok (.getfield 85, 3) := by decide +kernel
theorem dX6_ofField_127 : decode cX6_ofField 127 = .ok (.getfield 216, 3) := by decide +kernel
theorem dX6_ofField_130 : decode cX6_ofField 130 = .ok (.ireturn, 1) := by decide +kernel
theorem dX6_ofField_131 : decode cX6_ofField 131 = .ok (.aload_n 3, 1) := by decide +kernel
theorem dX6_ofField_132 : decode cX6_ofField 132 = .ok (.getfield 133, 3) := by decide +kernel
theorem dX6_ofField_135 : decode cX6_ofField 135 = .ok (.ireturn, 1) := by decide +kernel
theorem dX6_ofField_136 : decode cX6_ofField 136 = .ok (.aload_n 3, 1) := by decide +kernel
theorem dX6_ofField_137 : decode cX6_ofField 137 = .ok (.getfield 85, 3) := by decide +kernel
theorem dX6_ofField_140 : decode cX6_ofField 140 = .ok (.getfield 219, 3) := by decide +kernel
theorem dX6_ofField_143 : decode cX6_ofField 143 = .ok (.ireturn, 1) := by decide +kernel
theorem dX6_ofField_144 : decode cX6_ofField 144 = .ok (.aload_n 3, 1) := by decide +kernel
theorem dX6_ofField_145 : decode cX6_ofField 145 = .ok (.getfield 85, 3) := by decide +kernel
theorem dX6_ofField_148 : decode cX6_ofField 148 = .ok (.invokevirtual 139, 3) := by decide +kernel
theorem dX6_ofField_151 : decode cX6_ofField 151 = .ok (.ireturn, 1) := by decide +kernel
theorem dX6_ofField_152 : decode cX6_ofField 152 = .ok (.aload_n 3, 1) := by decide +kernel
theorem dX6_ofField_153 : decode cX6_ofField 153 = .ok (.getfield 85, 3) := by decide +kernel
theorem dX6_ofField_156 : decode cX6_ofField 156 = .ok (.getfield 110, 3) := by decide +kernel
theorem dX6_ofField_159 : decode cX6_ofField 159 = .ok (.ireturn, 1) := by decide +kernel
theorem dX6_ofField_160 : decode cX6_ofField 160 = .ok (.aload_n 3, 1) := by decide +kernel
theorem dX6_ofField_161 : decode cX6_ofField 161 = .ok (.getfield 222, 3) := by decide +kernel
theorem dX6_ofField_164 : decode cX6_ofField 164 = .ok (.ireturn, 1) := by decide +kernel
theorem dX6_ofField_165 : decode cX6_ofField 165 = .ok (.aload_n 3, 1) := by decide +kernel
theorem dX6_ofField_166 : decode cX6_ofField 166 = .ok (.getfield 68, 3) := by decide +kernel
theorem dX6_ofField_169 : decode cX6_ofField 169 = .ok (.invokestatic 225, 3) := by decide +kernel
theorem dX6_ofField_172 : decode cX6_ofField 172 = .ok (.ireturn, 1) := by decide +kernel
theorem dX6_ofField_173 : decode cX6_ofField 173 = .ok (.new 23, 3) := by decide +kernel
theorem dX6_ofField_176 : decode cX6_ofField 176 = .ok (.dup, 1) := by decide +kernel
theorem dX6_ofField_177 : decode cX6_ofField 177 = .ok (.ldc 229, 2) := by decide +kernel
theorem dX6_ofField_179 : decode cX6_ofField 179 = .ok (.invokespecial 27, 3) := by decide +kernel
theorem dX6_ofField_182 : decode cX6_ofField 182 = .ok (.athrow, 1) := by decide +kernel
theorem dX6_ofOwner_0 : decode cX6_ofOwner 0 = .ok (.aload_n 0, 1) := by decide +kernel
theorem dX6_ofOwner_1 : decode cX6_ofOwner 1 = .ok (.iload_n 1, 1) := by decide +kernel
theorem dX6_ofOwner_2 : decode cX6_ofOwner 2 = .ok (.invokevirtual 64, 3) := by decide +kernel
theorem dX6_ofOwner_5 : decode cX6_ofOwner 5 = .ok (.getfield 121, 3) := by decide +kernel
theorem dX6_ofOwner_8 : decode cX6_ofOwner 8 = .ok (.astore_n 3, 1) := by decide +kernel
theorem dX6_ofOwner_9 : decode cX6_ofOwner 9 = .ok (.iload_n 2, 1) := by decide +kernel
theorem dX6_ofOwner_10 : decode cX6_ofOwner 10 = .ok (.tableswitch 53 0 3 #[30, 35, 40, 45], 30) := by decide +kernel
theorem dX6_ofOwner_40 : decode cX6_ofOwner 40 = .ok (.aload_n 3, 1) := by decide +kernel
theorem dX6_ofOwner_41 : decode cX6_ofOwner 41 = .ok (.getfield 189, 3) := by decide +kernel
theorem dX6_ofOwner_44 : decode cX6_ofOwner 44 = .ok (.ireturn, 1) := by decide +kernel
theorem dX6_ofOwner_45 : decode cX6_ofOwner 45 = .ok (.aload_n 3, 1) := by decide +kernel
theorem dX6_ofOwner_46 : decode cX6_ofOwner 46 = .ok (.getfield 125, 3) := by decide +kernel
theorem dX6_ofOwner_49 : decode cX6_ofOwner 49 = .ok (.ireturn, 1) := by decide +kernel
theorem dX6_ofOwner_50 : decode cX6_ofOwner 50 = .ok (.aload_n 3, 1) := by decide +kernel
theorem dX6_ofOwner_51 : decode cX6_ofOwner 51 = .ok (.getfield 151, 3) := by decide +kernel
theorem dX6_ofOwner_54 : decode cX6_ofOwner 54 = .ok (.ireturn, 1) := by decide +kernel
theorem dX6_ofOwner_55 : decode cX6_ofOwner 55 = .ok (.aload_n 3, 1) := by decide +kernel
theorem dX6_ofOwner_56 : decode cX6_ofOwner 56 = .ok (.invokevirtual 231, 3) := by decide +kernel
theorem dX6_ofOwner_59 : decode cX6_ofOwner 59 = .ok (.invokestatic 225, 3) := by decide +kernel
theorem dX6_ofOwner_62 : decode cX6_ofOwner 62 = .ok (.ireturn, 1) := by decide +kernel
theorem dX6_ofOwner_63 : decode cX6_ofOwner 63 = .ok (.new 23, 3) := by decide +kernel
theorem dX6_ofOwner_66 : decode cX6_ofOwner 66 = .ok (.dup, 1) := by decide +kernel
theorem dX6_ofOwner_67 : decode cX6_ofOwner 67 = .ok (.ldc 234, 2) := by decide +kernel
theorem dX6_ofOwner_69 : decode cX6_ofOwner 69 = .ok (.invokespecial 27, 3) := by decide +kernel
theorem dX6_ofOwner_72 : decode cX6_ofOwner 72 = .ok (.athrow, 1) := by decide +kernel
theorem dX6_ofSociety_0 : decode cX6_ofSociety 0 = .ok (.aload_n 0, 1) := by decide +kernel
theorem dX6_ofSociety_1 : decode cX6_ofSociety 1 = .ok (.iload_n 1, 1) := by decide +kernel
theorem dX6_ofSociety_2 : decode cX6_ofSociety 2 = .ok (.invokevirtual 49, 3) := by decide +kernel
theorem dX6_ofSociety_5 : decode cX6_ofSociety 5 = .ok (.astore_n 3, 1) := by decide +kernel
theorem dX6_ofSociety_6 : decode cX6_ofSociety 6 = .ok (.iload_n 2, 1) := by decide +kernel
theorem dX6_ofSociety_7 : decode cX6_ofSociety 7 = .ok (.tableswitch 110 0 8 #[49, 54, 59, 64, 69, 84, 89, 97, 102], 49) := by decide +kernel
theorem dX6_ofSociety_56 : decode cX6_ofSociety 56 = .ok (.aload_n 3, 1) := by decide +kernel
theorem dX6_ofSociety_57 : decode cX6_ofSociety 57 = .ok (.getfield 200, 3) := by decide +kernel
theorem dX6_ofSociety_60 : decode cX6_ofSociety 60 = .ok (.ireturn, 1) := by decide +kernel
theorem dX6_ofSociety_61 : decode cX6_ofSociety 61 = .ok (.aload_n 3, 1) := by decide +kernel
theorem dX6_ofSociety_62 : decode cX6_ofSociety 62 = .ok (.getfield 203, 3) := by decide +kernel
theorem dX6_ofSociety_65 : decode cX6_ofSociety 65 = .ok (.ireturn, 1) := by decide +kernel
theorem dX6_ofSociety_66 : decode cX6_ofSociety 66 = .ok (.aload_n 3, 1) := by decide +kernel
theorem dX6_ofSociety_67 : decode cX6_ofSociety 67 = .ok (.getfield 146, 3) := by decide +kernel
theorem dX6_ofSociety_70 : decode cX6_ofSociety 70 = .ok (.ireturn, 1) := by decide +kernel
theorem dX6_ofSociety_71 : decode cX6_ofSociety 71 = .ok (.aload_n 3, 1) := by decide +kernel
theorem dX6_ofSociety_72 : decode cX6_ofSociety 72 = .ok (.getfield 236, 3) := by decide +kernel
theorem dX6_ofSociety_75 : decode cX6_ofSociety 75 = .ok (.ireturn, 1) := by decide +kernel
theorem dX6_ofSociety_76 : decode cX6_ofSociety 76 = .ok (.aload_n 3, 1) := by decide +kernel
theorem dX6_ofSociety_77 : decode cX6_ofSociety 77 = .ok (.aload_n 0, 1) := by decide +kernel
theorem dX6_ofSociety_78 : decode cX6_ofSociety 78 = .ok (.getfield 10, 3) := by decide +kernel
theorem dX6_ofSociety_81 : decode cX6_ofSociety 81 = .ok (.invokevirtual 239, 3) := by decide +kernel
theorem dX6_ofSociety_84 : decode cX6_ofSociety 84 = .ok (.invokevirtual 242, 3) := by decide +kernel
theorem dX6_ofSociety_87 : decode cX6_ofSociety 87 = .ok (.invokestatic 225, 3) := by decide +kernel
theorem dX6_ofSociety_90 : decode cX6_ofSociety 90 = .ok (.ireturn, 1) := by decide +kernel
theorem dX6_ofSociety_91 : decode cX6_ofSociety 91 = .ok (.aload_n 3, 1) := by decide +kernel
theorem dX6_ofSociety_92 : decode cX6_ofSociety 92 = .ok (.getfield 149, 3) := by decide +kernel
theorem dX6_ofSociety_95 : decode cX6_ofSociety 95 = .ok (.ireturn, 1) := by decide +kernel
theorem dX6_ofSociety_96 : decode cX6_ofSociety 96 = .ok (.aload_n 3, 1) := by decide +kernel
theorem dX6_ofSociety_97 : decode cX6_ofSociety 97 = .ok (.getfield 199, 3) := by decide +kernel
theorem dX6_ofSociety_100 : decode cX6_ofSociety 100 = .ok (.invokevirtual 34, 3) := by decide +kernel
theorem dX6_ofSociety_103 : decode cX6_ofSociety 103 = .ok (.ireturn, 1) := by decide +kernel
theorem dX6_ofSociety_104 : decode cX6_ofSociety 104 = .ok (.aload_n 3, 1) := by decide +kernel
theorem dX6_ofSociety_105 : decode cX6_ofSociety 105 = .ok (.getfield 246, 3) := by decide +kernel
theorem dX6_ofSociety_108 : decode cX6_ofSociety 108 = .ok (.ireturn, 1) := by decide +kernel
theorem dX6_ofSociety_109 : decode cX6_ofSociety 109 = .ok (.aload_n 3, 1) := by decide +kernel
theorem dX6_ofSociety_110 : decode cX6_ofSociety 110 = .ok (.invokevirtual 249, 3) := by decide +kernel
theorem dX6_ofSociety_113 : decode cX6_ofSociety 113 = .ok (.invokestatic 253, 3) := by decide +kernel
theorem dX6_ofSociety_116 : decode cX6_ofSociety 116 = .ok (.ireturn, 1) := by decide +kernel
theorem dX6_ofSociety_117 : decode cX6_ofSociety 117 = .ok (.new 23, 3) := by decide +kernel
theorem dX6_ofSociety_120 : decode cX6_ofSociety 120 = .ok (.dup, 1) := by decide +kernel
theorem dX6_ofSociety_121 : decode cX6_ofSociety 121 = .ok (.ldc_w 257, 3) := by decide +kernel
theorem dX6_ofSociety_124 : decode cX6_ofSociety 124 = .ok (.invokespecial 27, 3) := by decide +kernel
theorem dX6_ofSociety_127 : decode cX6_ofSociety 127 = .ok (.athrow, 1) := by decide +kernel
theorem dX6_water_0 : decode cX6_water 0 = .ok (.iload_n 1, 1) := by decide +kernel
theorem dX6_water_1 : decode cX6_water 1 = .ok (.tableswitch 107 0 6 #[43, 54, 60, 68, 74, 85, 96], 43) := by decide +kernel
theorem dX6_water_44 : decode cX6_water 44 = .ok (.aload_n 0, 1) := by decide +kernel
theorem dX6_water_45 : decode cX6_water 45 = .ok (.getfield 10, 3) := by decide +kernel
theorem dX6_water_48 : decode cX6_water 48 = .ok (.getfield 259, 3) := by decide +kernel
theorem dX6_water_51 : decode cX6_water 51 = .ok (.getfield 263, 3) := by decide +kernel
theorem dX6_water_54 : decode cX6_water 54 = .ok (.ireturn, 1) := by decide +kernel
theorem dX6_water_55 : decode cX6_water 55 = .ok (.aload_n 0, 1) := by decide +kernel
theorem dX6_water_56 : decode cX6_water 56 = .ok (.iconst 1, 1) := by decide +kernel
theorem dX6_water_57 : decode cX6_water 57 = .ok (.invokevirtual 268, 3) := by decide +kernel
theorem dX6_water_60 : decode cX6_water 60 = .ok (.ireturn, 1) := by decide +kernel
theorem dX6_water_61 : decode cX6_water 61 = .ok (.aload_n 0, 1) := by decide +kernel
theorem dX6_water_62 : decode cX6_water 62 = .ok (.getfield 10, 3) := by decide +kernel
theorem dX6_water_65 : decode cX6_water 65 = .ok (.getfield 272, 3) := by decide +kernel
theorem dX6_water_68 : decode cX6_water 68 = .ok (.ireturn, 1) := by decide +kernel
theorem dX6_water_69 : decode cX6_water 69 = .ok (.aload_n 0, 1) := by decide +kernel
theorem dX6_water_70 : decode cX6_water 70 = .ok (.iconst 3, 1) := by decide +kernel
theorem dX6_water_71 : decode cX6_water 71 = .ok (.invokevirtual 275, 3) := by decide +kernel
theorem dX6_water_74 : decode cX6_water 74 = .ok (.ireturn, 1) := by decide +kernel
theorem dX6_water_75 : decode cX6_water 75 = .ok (.aload_n 0, 1) := by decide +kernel
theorem dX6_water_76 : decode cX6_water 76 = .ok (.getfield 10, 3) := by decide +kernel
theorem dX6_water_79 : decode cX6_water 79 = .ok (.getfield 259, 3) := by decide +kernel
theorem dX6_water_82 : decode cX6_water 82 = .ok (.getfield 278, 3) := by decide +kernel
theorem dX6_water_85 : decode cX6_water 85 = .ok (.ireturn, 1) := by decide +kernel
theorem dX6_water_86 : decode cX6_water 86 = .ok (.aload_n 0, 1) := by decide +kernel
theorem dX6_water_87 : decode cX6_water 87 = .ok (.getfield 10, 3) := by decide +kernel
theorem dX6_water_90 : decode cX6_water 90 = .ok (.getfield 259, 3) := by decide +kernel
theorem dX6_water_93 : decode cX6_water 93 = .ok (.getfield 281, 3) := by decide +kernel
theorem dX6_water_96 : decode cX6_water 96 = .ok (.ireturn, 1) := by decide +kernel
theorem dX6_water_97 : decode cX6_water 97 = .ok (.aload_n 0, 1) := by decide +kernel
theorem dX6_water_98 : decode cX6_water 98 = .ok (.getfield 10, 3) := by decide +kernel
theorem dX6_water_101 : decode cX6_water 101 = .ok (.getfield 259, 3) := by decide +kernel
theorem dX6_water_104 : decode cX6_water 104 = .ok (.getfield 284, 3) := by decide +kernel
theorem dX6_water_107 : decode cX6_water 107 = .ok (.ireturn, 1) := by decide +kernel
theorem dX6_water_108 : decode cX6_water 108 = .ok (.new 23, 3) := by decide +kernel
theorem dX6_water_111 : decode cX6_water 111 = .ok (.dup, 1) := by decide +kernel
theorem dX6_water_112 : decode cX6_water 112 = .ok (.ldc_w 287, 3) := by decide +kernel
theorem dX6_water_115 : decode cX6_water 115 = .ok (.invokespecial 27, 3) := by decide +kernel
theorem dX6_water_118 : decode cX6_water 118 = .ok (.athrow, 1) := by decide +kernel
theorem dX6_isClosed_0 : decode cX6_isClosed 0 = .ok (.aload_n 0, 1) := by decide +kernel
theorem dX6_isClosed_1 : decode cX6_isClosed 1 = .ok (.iconst 1, 1) := by decide +kernel
theorem dX6_isClosed_2 : decode cX6_isClosed 2 = .ok (.invokevirtual 268, 3) := by decide +kernel
theorem dX6_isClosed_5 : decode cX6_isClosed 5 = .ok (.aload_n 0, 1) := by decide +kernel
theorem dX6_isClosed_6 : decode cX6_isClosed 6 = .ok (.getfield 10, 3) := by decide +kernel
theorem dX6_isClosed_9 : decode cX6_isClosed 9 = .ok (.getfield 272, 3) := by decide +kernel
theorem dX6_isClosed_12 : decode cX6_isClosed 12 = .ok (.iadd, 1) := by decide +kernel
theorem dX6_isClosed_13 : decode cX6_isClosed 13 = .ok (.aload_n 0, 1) := by decide +kernel
theorem dX6_isClosed_14 : decode cX6_isClosed 14 = .ok (.iconst 3, 1) := by decide +kernel
theorem dX6_isClosed_15 : decode cX6_isClosed 15 = .ok (.invokevirtual 275, 3) := by decide +kernel
theorem dX6_isClosed_18 : decode cX6_isClosed 18 = .ok (.iadd, 1) := by decide +kernel
theorem dX6_isClosed_19 : decode cX6_isClosed 19 = .ok (.istore_n 1, 1) := by decide +kernel
theorem dX6_isClosed_20 : decode cX6_isClosed 20 = .ok (.aload_n 0, 1) := by decide +kernel
theorem dX6_isClosed_21 : decode cX6_isClosed 21 = .ok (.getfield 10, 3) := by decide +kernel
theorem dX6_isClosed_24 : decode cX6_isClosed 24 = .ok (.getfield 259, 3) := by decide +kernel
theorem dX6_isClosed_27 : decode cX6_isClosed 27 = .ok (.getfield 263, 3) := by decide +kernel
theorem dX6_isClosed_30 : decode cX6_isClosed 30 = .ok (.iload_n 1, 1) := by decide +kernel
theorem dX6_isClosed_31 : decode cX6_isClosed 31 = .ok (.aload_n 0, 1) := by decide +kernel
theorem dX6_isClosed_32 : decode cX6_isClosed 32 = .ok (.getfield 10, 3) := by decide +kernel
theorem dX6_isClosed_35 : decode cX6_isClosed 35 = .ok (.getfield 259, 3) := by decide +kernel
theorem dX6_isClosed_38 : decode cX6_isClosed 38 = .ok (.invokevirtual 289, 3) := by decide +kernel
theorem dX6_isClosed_41 : decode cX6_isClosed 41 = .ok (.iadd, 1) := by decide +kernel
theorem dX6_isClosed_42 : decode cX6_isClosed 42 = .ok (.if_icmp .ne 7, 3) := by decide +kernel
theorem dX6_isClosed_45 : decode cX6_isClosed 45 = .ok (.iconst 1, 1) := by decide +kernel
theorem dX6_isClosed_46 : decode cX6_isClosed 46 = .ok (.goto 4, 3) := by decide +kernel
theorem dX6_isClosed_49 : decode cX6_isClosed 49 = .ok (.iconst 0, 1) := by decide +kernel
theorem dX6_isClosed_50 : decode cX6_isClosed 50 = .ok (.ireturn, 1) := by decide +kernel
theorem dX6_thought_0 : decode cX6_thought 0 = .ok (.aload_n 0, 1) := by decide +kernel
theorem dX6_thought_1 : decode cX6_thought 1 = .ok (.iload_n 1, 1) := by decide +kernel
theorem dX6_thought_2 : decode cX6_thought 2 = .ok (.invokevirtual 64, 3) := by decide +kernel
theorem dX6_thought_5 : decode cX6_thought 5 = .ok (.getfield 85, 3) := by decide +kernel
theorem dX6_thought_8 : decode cX6_thought 8 = .ok (.astore_n 3, 1) := by decide +kernel
theorem dX6_thought_9 : decode cX6_thought 9 = .ok (.iload_n 2, 1) := by decide +kernel
theorem dX6_thought_10 : decode cX6_thought 10 = .ok (.ifCond .eq 10, 3) := by decide +kernel
theorem dX6_thought_13 : decode cX6_thought 13 = .ok (.aload_n 3, 1) := by decide +kernel
theorem dX6_thought_14 : decode cX6_thought 14 = .ok (.getfield 292, 3) := by decide +kernel
theorem dX6_thought_17 : decode cX6_thought 17 = .ok (.goto 7, 3) := by decide +kernel
theorem dX6_thought_20 : decode cX6_thought 20 = .ok (.aload_n 3, 1) := by decide +kernel
theorem dX6_thought_21 : decode cX6_thought 21 = .ok (.getfield 295, 3) := by decide +kernel
theorem dX6_thought_24 : decode cX6_thought 24 = .ok (.ireturn, 1) := by decide +kernel
theorem dX6_many_0 : decode cX6_many 0 = .ok (.iload_n 1, 1) := by decide +kernel
theorem dX6_many_1 : decode cX6_many 1 = .ok (.tableswitch 158 0 11 #[63, 74, 85, 93, 101, 112, 119, 125, 131, 137, 145, 153], 63) := by decide +kernel
theorem dX6_many_64 : decode cX6_many 64 = .ok (.aload_n 0, 1) := by decide +kernel
theorem dX6_many_65 : decode cX6_many 65 = .ok (.getfield 10, 3) := by decide +kernel
theorem dX6_many_68 : decode cX6_many 68 = .ok (.getfield 30, 3) := by decide +kernel
theorem dX6_many_71 : decode cX6_many 71 = .ok (.invokevirtual 34, 3) := by decide +kernel
theorem dX6_many_74 : decode cX6_many 74 = .ok (.ireturn, 1) := by decide +kernel
theorem dX6_many_75 : decode cX6_many 75 = .ok (.aload_n 0, 1) := by decide +kernel
theorem dX6_many_76 : decode cX6_many 76 = .ok (.getfield 10, 3) := by decide +kernel
theorem dX6_many_79 : decode cX6_many 79 = .ok (.getfield 55, 3) := by decide +kernel
theorem dX6_many_82 : decode cX6_many 82 = .ok (.invokevirtual 34, 3) := by decide +kernel
theorem dX6_many_85 : decode cX6_many 85 = .ok (.ireturn, 1) := by decide +kernel
theorem dX6_many_86 : decode cX6_many 86 = .ok (.aload_n 0, 1) := by decide +kernel
theorem dX6_many_87 : decode cX6_many 87 = .ok (.getfield 10, 3) := by decide +kernel
theorem dX6_many_90 : decode cX6_many 90 = .ok (.getfield 118, 3) := by decide +kernel
theorem dX6_many_93 : decode cX6_many 93 = .ok (.ireturn, 1) := by decide +kernel
theorem dX6_many_94 : decode cX6_many 94 = .ok (.aload_n 0, 1) := by decide +kernel
theorem dX6_many_95 : decode cX6_many 95 = .ok (.getfield 10, 3) := by decide +kernel
theorem dX6_many_98 : decode cX6_many 98 = .ok (.invokevirtual 239, 3) := by decide +kernel
theorem dX6_many_101 : decode cX6_many 101 = .ok (.ireturn, 1) := by decide +kernel
theorem dX6_many_102 : decode cX6_many 102 = .ok (.aload_n 0, 1) := by decide +kernel
theorem dX6_many_103 : decode cX6_many 103 = .ok (.getfield 10, 3) := by decide +kernel
theorem dX6_many_106 : decode cX6_many 106 = .ok (.invokevirtual 106, 3) := by decide +kernel
theorem dX6_many_109 : decode cX6_many 109 = .ok (.invokestatic 225, 3) := by decide +kernel
theorem dX6_many_112 : decode cX6_many 112 = .ok (.ireturn, 1) := by decide +kernel
theorem dX6_many_113 : decode cX6_many 113 = .ok (.aload_n 0, 1) := by decide +kernel
theorem dX6_many_114 : decode cX6_many 114 = .ok (.bipush 8, 2) := by decide +kernel
theorem dX6_many_116 : decode cX6_many 116 = .ok (.invokevirtual 268, 3) := by decide +kernel
theorem dX6_many_119 : decode cX6_many 119 = .ok (.ireturn, 1) := by decide +kernel
theorem dX6_many_120 : decode cX6_many 120 = .ok (.aload_n 0, 1) := by decide +kernel
theorem dX6_many_121 : decode cX6_many 121 = .ok (.iconst 0, 1) := by decide +kernel
theorem dX6_many_122 : decode cX6_many 122 = .ok (.invokevirtual 298, 3) := by decide +kernel
theorem dX6_many_125 : decode cX6_many 125 = .ok (.ireturn, 1) := by decide +kernel
theorem dX6_many_126 : decode cX6_many 126 = .ok (.aload_n 0, 1) := by decide +kernel
theorem dX6_many_127 : decode cX6_many 127 = .ok (.iconst 2, 1) := by decide +kernel
theorem dX6_many_128 : decode cX6_many 128 = .ok (.invokevirtual 275, 3) := by decide +kernel
theorem dX6_many_131 : decode cX6_many 131 = .ok (.ireturn, 1) := by decide +kernel
theorem dX6_many_132 : decode cX6_many 132 = .ok (.aload_n 0, 1) := by decide +kernel
theorem dX6_many_133 : decode cX6_many 133 = .ok (.iconst 3, 1) := by decide +kernel
theorem dX6_many_134 : decode cX6_many 134 = .ok (.invokevirtual 298, 3) := by decide +kernel
theorem dX6_many_137 : decode cX6_many 137 = .ok (.ireturn, 1) := by decide +kernel
theorem dX6_many_138 : decode cX6_many 138 = .ok (.aload_n 0, 1) := by decide +kernel
theorem dX6_many_139 : decode cX6_many 139 = .ok (.getfield 10, 3) := by decide +kernel
theorem dX6_many_142 : decode cX6_many 142 = .ok (.getfield 164, 3) := by decide +kernel
theorem dX6_many_145 : decode cX6_many 145 = .ok (.ireturn, 1) := by decide +kernel
theorem dX6_many_146 : decode cX6_many 146 = .ok (.aload_n 0, 1) := by decide +kernel
theorem dX6_many_147 : decode cX6_many 147 = .ok (.getfield 10, 3) := by decide +kernel
theorem dX6_many_150 : decode cX6_many 150 = .ok (.getfield 154, 3) := by decide +kernel
theorem dX6_many_153 : decode cX6_many 153 = .ok (.ireturn, 1) := by decide +kernel
theorem dX6_many_154 : decode cX6_many 154 = .ok (.aload_n 0, 1) := by decide +kernel
theorem dX6_many_155 : decode cX6_many 155 = .ok (.invokevirtual 301, 3) := by decide +kernel
theorem dX6_many_158 : decode cX6_many 158 = .ok (.ireturn, 1) := by decide +kernel
theorem dX6_many_159 : decode cX6_many 159 = .ok (.new 23, 3) := by decide +kernel
theorem dX6_many_162 : decode cX6_many 162 = .ok (.dup, 1) := by decide +kernel
theorem dX6_many_163 : decode cX6_many 163 = .ok (.ldc_w 304, 3) := by decide +kernel
theorem dX6_many_166 : decode cX6_many 166 = .ok (.invokespecial 27, 3) := by decide +kernel
theorem dX6_many_169 : decode cX6_many 169 = .ok (.athrow, 1) := by decide +kernel
theorem dX6_suspect_0 : decode cX6_suspect 0 = .ok (.aload_n 0, 1) := by decide +kernel
theorem dX6_suspect_1 : decode cX6_suspect 1 = .ok (.iload_n 1, 1) := by decide +kernel
theorem dX6_suspect_2 : decode cX6_suspect 2 = .ok (.invokevirtual 49, 3) := by decide +kernel
theorem dX6_suspect_5 : decode cX6_suspect 5 = .ok (.invokevirtual 310, 3) := by decide +kernel
theorem dX6_suspect_8 : decode cX6_suspect 8 = .ok (.invokestatic 253, 3) := by decide +kernel
theorem dX6_suspect_11 : decode cX6_suspect 11 = .ok (.ireturn, 1) := by decide +kernel
theorem dX6_ripeIn_0 : decode cX6_ripeIn 0 = .ok (.iload_n 1, 1) := by decide +kernel
theorem dX6_ripeIn_1 : decode cX6_ripeIn 1 = .ok (.bipush 40, 2) := by decide +kernel
theorem dX6_ripeIn_3 : decode cX6_ripeIn 3 = .ok (.invokestatic 313, 3) := by decide +kernel
theorem dX6_ripeIn_6 : decode cX6_ripeIn 6 = .ok (.aload_n 0, 1) := by decide +kernel
theorem dX6_ripeIn_7 : decode cX6_ripeIn 7 = .ok (.getfield 16, 3) := by decide +kernel
theorem dX6_ripeIn_10 : decode cX6_ripeIn 10 = .ok (.aload_n 0, 1) := by decide +kernel
theorem dX6_ripeIn_11 : decode cX6_ripeIn 11 = .ok (.getfield 10, 3) := by decide +kernel
theorem dX6_ripeIn_14 : decode cX6_ripeIn 14 = .ok (.invokevirtual 323, 3) := by decide +kernel
theorem dX6_ripeIn_17 : decode cX6_ripeIn 17 = .ok (.aload_n 0, 1) := by decide +kernel
theorem dX6_ripeIn_18 : decode cX6_ripeIn 18 = .ok (.getfield 10, 3) := by decide +kernel
theorem dX6_ripeIn_21 : decode cX6_ripeIn 21 = .ok (.invokevirtual 327, 3) := by decide +kernel
theorem dX6_ripeIn_24 : decode cX6_ripeIn 24 = .ok (.istore_n 2, 1) := by decide +kernel
theorem dX6_ripeIn_25 : decode cX6_ripeIn 25 = .ok (.iconst 1, 1) := by decide +kernel
theorem dX6_ripeIn_26 : decode cX6_ripeIn 26 = .ok (.istore_n 3, 1) := by decide +kernel
theorem dX6_ripeIn_27 : decode cX6_ripeIn 27 = .ok (.iload_n 3, 1) := by decide +kernel
theorem dX6_ripeIn_28 : decode cX6_ripeIn 28 = .ok (.iload_n 1, 1) := by decide +kernel
theorem dX6_ripeIn_29 : decode cX6_ripeIn 29 = .ok (.if_icmp .gt 50, 3) := by decide +kernel
theorem dX6_ripeIn_32 : decode cX6_ripeIn 32 = .ok (.aload_n 0, 1) := by decide +kernel
theorem dX6_ripeIn_33 : decode cX6_ripeIn 33 = .ok (.getfield 16, 3) := by decide +kernel
theorem dX6_ripeIn_36 : decode cX6_ripeIn 36 = .ok (.aload_n 0, 1) := by decide +kernel
theorem dX6_ripeIn_37 : decode cX6_ripeIn 37 = .ok (.getfield 10, 3) := by decide +kernel
theorem dX6_ripeIn_40 : decode cX6_ripeIn 40 = .ok (.getfield 330, 3) := by decide +kernel
theorem dX6_ripeIn_43 : decode cX6_ripeIn 43 = .ok (.aload_n 0, 1) := by decide +kernel
theorem dX6_ripeIn_44 : decode cX6_ripeIn 44 = .ok (.getfield 10, 3) := by decide +kernel
theorem dX6_ripeIn_47 : decode cX6_ripeIn 47 = .ok (.getfield 333, 3) := by decide +kernel
theorem dX6_ripeIn_50 : decode cX6_ripeIn 50 = .ok (.aload_n 0, 1) := by decide +kernel
theorem dX6_ripeIn_51 : decode cX6_ripeIn 51 = .ok (.getfield 10, 3) := by decide +kernel
theorem dX6_ripeIn_54 : decode cX6_ripeIn 54 = .ok (.getfield 336, 3) := by decide +kernel
theorem dX6_ripeIn_57 : decode cX6_ripeIn 57 = .ok (.invokevirtual 178, 3) := by decide +kernel
theorem dX6_ripeIn_60 : decode cX6_ripeIn 60 = .ok (.aload_n 0, 1) := by decide +kernel
theorem dX6_ripeIn_61 : decode cX6_ripeIn 61 = .ok (.getfield 16, 3) := by decide +kernel
theorem dX6_ripeIn_64 : decode cX6_ripeIn 64 = .ok (.invokevirtual 327, 3) := by decide +kernel
theorem dX6_ripeIn_67 : decode cX6_ripeIn 67 = .ok (.iload_n 2, 1) := by decide +kernel
theorem dX6_ripeIn_68 : decode cX6_ripeIn 68 = .ok (.if_icmp .le 5, 3) := by decide +kernel
theorem dX6_ripeIn_71 : decode cX6_ripeIn 71 = .ok (.iload_n 3, 1) := by decide +kernel
theorem dX6_ripeIn_72 : decode cX6_ripeIn 72 = .ok (.ireturn, 1) := by decide +kernel
theorem dX6_ripeIn_73 : decode cX6_ripeIn 73 = .ok (.iinc 3 1, 3) := by decide +kernel
theorem dX6_ripeIn_76 : decode cX6_ripeIn 76 = .ok (.goto (-49), 3) := by decide +kernel
theorem dX6_ripeIn_79 : decode cX6_ripeIn 79 = .ok (.iconst (-1), 1) := by decide +kernel
theorem dX6_ripeIn_80 : decode cX6_ripeIn 80 = .ok (.ireturn, 1) := by decide +kernel
theorem dX6_plan_0 : decode cX6_plan 0 = .ok (.iload_n 1, 1) := by decide +kernel
theorem dX6_plan_1 : decode cX6_plan 1 = .ok (.invokestatic 102, 3) := by decide +kernel
theorem dX6_plan_4 : decode cX6_plan 4 = .ok (.iload_n 2, 1) := by decide +kernel
theorem dX6_plan_5 : decode cX6_plan 5 = .ok (.bipush 30, 2) := by decide +kernel
theorem dX6_plan_7 : decode cX6_plan 7 = .ok (.invokestatic 313, 3) := by decide +kernel
theorem dX6_plan_10 : decode cX6_plan 10 = .ok (.iconst 1, 1) := by decide +kernel
theorem dX6_plan_11 : decode cX6_plan 11 = .ok (.istore_n 3, 1) := by decide +kernel
theorem dX6_plan_12 : decode cX6_plan 12 = .ok (.iconst 0, 1) := by decide +kernel
theorem dX6_plan_13 : decode cX6_plan 13 = .ok (.istore 4, 2) := by decide +kernel
theorem dX6_plan_15 : decode cX6_plan 15 = .ok (.iload 4, 2) := by decide +kernel
theorem dX6_plan_17 : decode cX6_plan 17 = .ok (.aload_n 0, 1) := by decide +kernel
theorem dX6_plan_18 : decode cX6_plan 18 = .ok (.getfield 10, 3) := by decide +kernel
theorem dX6_plan_21 : decode cX6_plan 21 = .ok (.getfield 30, 3) := by decide +kernel
theorem dX6_plan_24 : decode cX6_plan 24 = .ok (.invokevirtual 34, 3) := by decide +kernel
theorem dX6_plan_27 : decode cX6_plan 27 = .ok (.if_icmp .ge 13, 3) := by decide +kernel
theorem dX6_plan_30 : decode cX6_plan 30 = .ok (.iload_n 3, 1) := by decide +kernel
theorem dX6_plan_31 : decode cX6_plan 31 = .ok (.iconst 3, 1) := by decide +kernel
theorem dX6_plan_32 : decode cX6_plan 32 = .ok (.imul, 1) := by decide +kernel
theorem dX6_plan_33 : decode cX6_plan 33 = .ok (.istore_n 3, 1) := by decide +kernel
theorem dX6_plan_34 : decode cX6_plan 34 = .ok (.iinc 4 1, 3) := by decide +kernel
theorem dX6_plan_37 : decode cX6_plan 37 = .ok (.goto (-22), 3) := by decide +kernel
theorem dX6_plan_40 : decode cX6_plan 40 = .ok (.iconst 0, 1) := by decide +kernel
theorem dX6_plan_41 : decode cX6_plan 41 = .ok (.istore 4, 2) := by decide +kernel
theorem dX6_plan_43 : decode cX6_plan 43 = .ok (.iconst (-1), 1) := by decide +kernel
theorem dX6_plan_44 : decode cX6_plan 44 = .ok (.istore 5, 2) := by decide +kernel
theorem dX6_plan_46 : decode cX6_plan 46 = .ok (.iconst 0, 1) := by decide +kernel
theorem dX6_plan_47 : decode cX6_plan 47 = .ok (.istore 6, 2) := by decide +kernel
theorem dX6_plan_49 : decode cX6_plan 49 = .ok (.iload 6, 2) := by decide +kernel
theorem dX6_plan_51 : decode cX6_plan 51 = .ok (.iload_n 3, 1) := by decide +kernel
theorem dX6_plan_52 : decode cX6_plan 52 = .ok (.if_icmp .ge 34, 3) := by decide +kernel
theorem dX6_plan_55 : decode cX6_plan 55 = .ok (.aload_n 0, 1) := by decide +kernel
theorem dX6_plan_56 : decode cX6_plan 56 = .ok (.iload 6, 2) := by decide +kernel
theorem dX6_plan_58 : decode cX6_plan 58 = .ok (.iload_n 1, 1) := by decide +kernel
theorem dX6_plan_59 : decode cX6_plan 59 = .ok (.iload_n 2, 1) := by decide +kernel
theorem dX6_plan_60 : decode cX6_plan 60 = .ok (.invokevirtual 339, 3) := by decide +kernel
theorem dX6_plan_63 : decode cX6_plan 63 = .ok (.istore 7, 2) := by decide +kernel
theorem dX6_plan_65 : decode cX6_plan 65 = .ok (.iload 7, 2) := by decide +kernel
theorem dX6_plan_67 : decode cX6_plan 67 = .ok (.iload 5, 2) := by decide +kernel
theorem dX6_plan_69 : decode cX6_plan 69 = .ok (.if_icmp .le 11, 3) := by decide +kernel
theorem dX6_plan_72 : decode cX6_plan 72 = .ok (.iload 7, 2) := by decide +kernel
theorem dX6_plan_74 : decode cX6_plan 74 = .ok (.istore 5, 2) := by decide +kernel
theorem dX6_plan_76 : decode cX6_plan 76 = .ok (.iload 6, 2) := by decide +kernel
theorem dX6_plan_78 : decode cX6_plan 78 = .ok (.istore 4, 2) := by decide +kernel
theorem dX6_plan_80 : decode cX6_plan 80 = .ok (.iinc 6 1, 3) := by decide +kernel
theorem dX6_plan_83 : decode cX6_plan 83 = .ok (.goto (-34), 3) := by decide +kernel
theorem dX6_plan_86 : decode cX6_plan 86 = .ok (.iload 4, 2) := by decide +kernel
theorem dX6_plan_88 : decode cX6_plan 88 = .ok (.ireturn, 1) := by decide +kernel
theorem dX6_digest_0 : decode cX6_digest 0 = .ok (.ldc2_w 342, 3) := by decide +kernel
theorem dX6_digest_3 : decode cX6_digest 3 = .ok (.lstore_n 1, 1) := by decide +kernel
theorem dX6_digest_4 : decode cX6_digest 4 = .ok (.iconst 0, 1) := by decide +kernel
theorem dX6_digest_5 : decode cX6_digest 5 = .ok (.istore_n 3, 1) := by decide +kernel
theorem dX6_digest_6 : decode cX6_digest 6 = .ok (.iload_n 3, 1) := by decide +kernel
theorem dX6_digest_7 : decode cX6_digest 7 = .ok (.bipush 11, 2) := by decide +kernel
theorem dX6_digest_9 : decode cX6_digest 9 = .ok (.if_icmp .gt 19, 3) := by decide +kernel
theorem dX6_digest_12 : decode cX6_digest 12 = .ok (.lload_n 1, 1) := by decide +kernel
theorem dX6_digest_13 : decode cX6_digest 13 = .ok (.aload_n 0, 1) := by decide +kernel
theorem dX6_digest_14 : decode cX6_digest 14 = .ok (.iload_n 3, 1) := by decide +kernel
theorem dX6_digest_15 : decode cX6_digest 15 = .ok (.invokevirtual 344, 3) := by decide +kernel
theorem dX6_digest_18 : decode cX6_digest 18 = .ok (.invokestatic 347, 3) := by decide +kernel
theorem dX6_digest_21 : decode cX6_digest 21 = .ok (.lstore_n 1, 1) := by decide +kernel
theorem dX6_digest_22 : decode cX6_digest 22 = .ok (.iinc 3 1, 3) := by decide +kernel
theorem dX6_digest_25 : decode cX6_digest 25 = .ok (.goto (-19), 3) := by decide +kernel
theorem dX6_digest_28 : decode cX6_digest 28 = .ok (.iconst 0, 1) := by decide +kernel
theorem dX6_digest_29 : decode cX6_digest 29 = .ok (.istore_n 3, 1) := by decide +kernel
theorem dX6_digest_30 : decode cX6_digest 30 = .ok (.iload_n 3, 1) := by decide +kernel
theorem dX6_digest_31 : decode cX6_digest 31 = .ok (.bipush 6, 2) := by decide +kernel
theorem dX6_digest_33 : decode cX6_digest 33 = .ok (.if_icmp .gt 19, 3) := by decide +kernel
theorem dX6_digest_36 : decode cX6_digest 36 = .ok (.lload_n 1, 1) := by decide +kernel
theorem dX6_digest_37 : decode cX6_digest 37 = .ok (.aload_n 0, 1) := by decide +kernel
theorem dX6_digest_38 : decode cX6_digest 38 = .ok (.iload_n 3, 1) := by decide +kernel
theorem dX6_digest_39 : decode cX6_digest 39 = .ok (.invokevirtual 351, 3) := by decide +kernel
theorem dX6_digest_42 : decode cX6_digest 42 = .ok (.invokestatic 347, 3) := by decide +kernel
theorem dX6_digest_45 : decode cX6_digest 45 = .ok (.lstore_n 1, 1) := by decide +kernel
theorem dX6_digest_46 : decode cX6_digest 46 = .ok (.iinc 3 1, 3) := by decide +kernel
theorem dX6_digest_49 : decode cX6_digest 49 = .ok (.goto (-19), 3) := by decide +kernel
theorem dX6_digest_52 : decode cX6_digest 52 = .ok (.lload_n 1, 1) := by decide +kernel
theorem dX6_digest_53 : decode cX6_digest 53 = .ok (.aload_n 0, 1) := by decide +kernel
theorem dX6_digest_54 : decode cX6_digest 54 = .ok (.invokevirtual 353, 3) := by decide +kernel
theorem dX6_digest_57 : decode cX6_digest 57 = .ok (.invokestatic 225, 3) := by decide +kernel
theorem dX6_digest_60 : decode cX6_digest 60 = .ok (.invokestatic 347, 3) := by decide +kernel
theorem dX6_digest_63 : decode cX6_digest 63 = .ok (.lstore_n 1, 1) := by decide +kernel
theorem dX6_digest_64 : decode cX6_digest 64 = .ok (.iconst 0, 1) := by decide +kernel
theorem dX6_digest_65 : decode cX6_digest 65 = .ok (.istore_n 3, 1) := by decide +kernel
theorem dX6_digest_66 : decode cX6_digest 66 = .ok (.iload_n 3, 1) := by decide +kernel
theorem dX6_digest_67 : decode cX6_digest 67 = .ok (.aload_n 0, 1) := by decide +kernel
theorem dX6_digest_68 : decode cX6_digest 68 = .ok (.getfield 10, 3) := by decide +kernel
theorem dX6_digest_71 : decode cX6_digest 71 = .ok (.getfield 30, 3) := by decide +kernel
theorem dX6_digest_74 : decode cX6_digest 74 = .ok (.invokevirtual 34, 3) := by decide +kernel
theorem dX6_digest_77 : decode cX6_digest 77 = .ok (.if_icmp .ge 16, 3) := by decide +kernel
theorem dX6_digest_80 : decode cX6_digest 80 = .ok (.aload_n 0, 1) := by decide +kernel
theorem dX6_digest_81 : decode cX6_digest 81 = .ok (.lload_n 1, 1) := by decide +kernel
theorem dX6_digest_82 : decode cX6_digest 82 = .ok (.iload_n 3, 1) := by decide +kernel
theorem dX6_digest_83 : decode cX6_digest 83 = .ok (.invokevirtual 356, 3) := by decide +kernel
theorem dX6_digest_86 : decode cX6_digest 86 = .ok (.lstore_n 1, 1) := by decide +kernel
theorem dX6_digest_87 : decode cX6_digest 87 = .ok (.iinc 3 1, 3) := by decide +kernel
theorem dX6_digest_90 : decode cX6_digest 90 = .ok (.goto (-24), 3) := by decide +kernel
theorem dX6_digest_93 : decode cX6_digest 93 = .ok (.aload_n 0, 1) := by decide +kernel
theorem dX6_digest_94 : decode cX6_digest 94 = .ok (.iconst 5, 1) := by decide +kernel
theorem dX6_digest_95 : decode cX6_digest 95 = .ok (.invokevirtual 317, 3) := by decide +kernel
theorem dX6_digest_98 : decode cX6_digest 98 = .ok (.iconst 0, 1) := by decide +kernel
theorem dX6_digest_99 : decode cX6_digest 99 = .ok (.istore_n 3, 1) := by decide +kernel
theorem dX6_digest_100 : decode cX6_digest 100 = .ok (.iload_n 3, 1) := by decide +kernel
theorem dX6_digest_101 : decode cX6_digest 101 = .ok (.aload_n 0, 1) := by decide +kernel
theorem dX6_digest_102 : decode cX6_digest 102 = .ok (.getfield 10, 3) := by decide +kernel
theorem dX6_digest_105 : decode cX6_digest 105 = .ok (.getfield 55, 3) := by decide +kernel
theorem dX6_digest_108 : decode cX6_digest 108 = .ok (.invokevirtual 34, 3) := by decide +kernel
theorem dX6_digest_111 : decode cX6_digest 111 = .ok (.if_icmp .ge 16, 3) := by decide +kernel
theorem dX6_digest_114 : decode cX6_digest 114 = .ok (.aload_n 0, 1) := by decide +kernel
theorem dX6_digest_115 : decode cX6_digest 115 = .ok (.lload_n 1, 1) := by decide +kernel
theorem dX6_digest_116 : decode cX6_digest 116 = .ok (.iload_n 3, 1) := by decide +kernel
theorem dX6_digest_117 : decode cX6_digest 117 = .ok (.invokevirtual 359, 3) := by decide +kernel
theorem dX6_digest_120 : decode cX6_digest 120 = .ok (.lstore_n 1, 1) := by decide +kernel
theorem dX6_digest_121 : decode cX6_digest 121 = .ok (.iinc 3 1, 3) := by decide +kernel
theorem dX6_digest_124 : decode cX6_digest 124 = .ok (.goto (-24), 3) := by decide +kernel
theorem dX6_digest_127 : decode cX6_digest 127 = .ok (.lload_n 1, 1) := by decide +kernel
theorem dX6_digest_128 : decode cX6_digest 128 = .ok (.aload_n 0, 1) := by decide +kernel
theorem dX6_digest_129 : decode cX6_digest 129 = .ok (.bipush 10, 2) := by decide +kernel
theorem dX6_digest_131 : decode cX6_digest 131 = .ok (.invokevirtual 362, 3) := by decide +kernel
theorem dX6_digest_134 : decode cX6_digest 134 = .ok (.invokestatic 347, 3) := by decide +kernel
theorem dX6_digest_137 : decode cX6_digest 137 = .ok (.lstore_n 1, 1) := by decide +kernel
theorem dX6_digest_138 : decode cX6_digest 138 = .ok (.lload_n 1, 1) := by decide +kernel
theorem dX6_digest_139 : decode cX6_digest 139 = .ok (.aload_n 0, 1) := by decide +kernel
theorem dX6_digest_140 : decode cX6_digest 140 = .ok (.iconst 0, 1) := by decide +kernel
theorem dX6_digest_141 : decode cX6_digest 141 = .ok (.bipush 12, 2) := by decide +kernel
theorem dX6_digest_143 : decode cX6_digest 143 = .ok (.invokevirtual 365, 3) := by decide +kernel
theorem dX6_digest_146 : decode cX6_digest 146 = .ok (.invokestatic 347, 3) := by decide +kernel
theorem dX6_digest_149 : decode cX6_digest 149 = .ok (.lreturn, 1) := by decide +kernel
theorem dX6_societyAt_0 : decode cX6_societyAt 0 = .ok (.iload_n 1, 1) := by decide +kernel
theorem dX6_societyAt_1 : decode cX6_societyAt 1 = .ok (.ifCond .lt 17, 3) := by decide +kernel
theorem dX6_societyAt_4 : decode cX6_societyAt 4 = .ok (.iload_n 1, 1) := by decide +kernel
theorem dX6_societyAt_5 : decode cX6_societyAt 5 = .ok (.aload_n 0, 1) := by decide +kernel
theorem dX6_societyAt_6 : decode cX6_societyAt 6 = .ok (.getfield 10, 3) := by decide +kernel
theorem dX6_societyAt_9 : decode cX6_societyAt 9 = .ok (.getfield 30, 3) := by decide +kernel
theorem dX6_societyAt_12 : decode cX6_societyAt 12 = .ok (.invokevirtual 34, 3) := by decide +kernel
theorem dX6_societyAt_15 : decode cX6_societyAt 15 = .ok (.if_icmp .lt 14, 3) := by decide +kernel
theorem dX6_societyAt_18 : decode cX6_societyAt 18 = .ok (.new 368, 3) := by decide +kernel
theorem dX6_societyAt_21 : decode cX6_societyAt 21 = .ok (.dup, 1) := by decide +kernel
theorem dX6_societyAt_22 : decode cX6_societyAt 22 = .ok (.ldc_w 370, 3) := by decide +kernel
theorem dX6_societyAt_25 : decode cX6_societyAt 25 = .ok (.invokespecial 372, 3) := by decide +kernel
theorem dX6_societyAt_28 : decode cX6_societyAt 28 = .ok (.athrow, 1) := by decide +kernel
theorem dX6_societyAt_29 : decode cX6_societyAt 29 = .ok (.aload_n 0, 1) := by decide +kernel
theorem dX6_societyAt_30 : decode cX6_societyAt 30 = .ok (.getfield 10, 3) := by decide +kernel
theorem dX6_societyAt_33 : decode cX6_societyAt 33 = .ok (.getfield 30, 3) := by decide +kernel
theorem dX6_societyAt_36 : decode cX6_societyAt 36 = .ok (.iload_n 1, 1) := by decide +kernel
theorem dX6_societyAt_37 : decode cX6_societyAt 37 = .ok (.invokevirtual 373, 3) := by decide +kernel
theorem dX6_societyAt_40 : decode cX6_societyAt 40 = .ok (.checkcast 81, 3) := by decide +kernel
theorem dX6_societyAt_43 : decode cX6_societyAt 43 = .ok (.areturn, 1) := by decide +kernel
theorem dX6_fieldAt_0 : decode cX6_fieldAt 0 = .ok (.iload_n 1, 1) := by decide +kernel
theorem dX6_fieldAt_1 : decode cX6_fieldAt 1 = .ok (.ifCond .lt 17, 3) := by decide +kernel
theorem dX6_fieldAt_4 : decode cX6_fieldAt 4 = .ok (.iload_n 1, 1) := by decide +kernel
theorem dX6_fieldAt_5 : decode cX6_fieldAt 5 = .ok (.aload_n 0, 1) := by decide +kernel
theorem dX6_fieldAt_6 : decode cX6_fieldAt 6 = .ok (.getfield 10, 3) := by decide +kernel
theorem dX6_fieldAt_9 : decode cX6_fieldAt 9 = .ok (.getfield 55, 3) := by decide +kernel
theorem dX6_fieldAt_12 : decode cX6_fieldAt 12 = .ok (.invokevirtual 34, 3) := by decide +kernel
theorem dX6_fieldAt_15 : decode cX6_fieldAt 15 = .ok (.if_icmp .lt 14, 3) := by decide +kernel
theorem dX6_fieldAt_18 : decode cX6_fieldAt 18 = .ok (.new 368, 3) := by decide +kernel
theorem dX6_fieldAt_21 : decode cX6_fieldAt 21 = .ok (.dup, 1) := by decide +kernel
theorem dX6_fieldAt_22 : decode cX6_fieldAt 22 = .ok (.ldc_w 377, 3) := by decide +kernel
theorem dX6_fieldAt_25 : decode cX6_fieldAt 25 = .ok (.invokespecial 372, 3) := by decide +kernel
theorem dX6_fieldAt_28 : decode cX6_fieldAt 28 = .ok (.athrow, 1) := by decide +kernel
theorem dX6_fieldAt_29 : decode cX6_fieldAt 29 = .ok (.aload_n 0, 1) := by decide +kernel
theorem dX6_fieldAt_30 : decode cX6_fieldAt 30 = .ok (.getfield 10, 3) := by decide +kernel
theorem dX6_fieldAt_33 : decode cX6_fieldAt 33 = .ok (.getfield 55, 3) := by decide +kernel
theorem dX6_fieldAt_36 : decode cX6_fieldAt 36 = .ok (.iload_n 1, 1) := by decide +kernel
theorem dX6_fieldAt_37 : decode cX6_fieldAt 37 = .ok (.invokevirtual 373, 3) := by decide +kernel
theorem dX6_fieldAt_40 : decode cX6_fieldAt 40 = .ok (.checkcast 69, 3) := by decide +kernel
theorem dX6_fieldAt_43 : decode cX6_fieldAt 43 = .ok (.areturn, 1) := by decide +kernel
theorem dX6_ripeFieldAt_0 : decode cX6_ripeFieldAt 0 = .ok (.aload_n 0, 1) := by decide +kernel
theorem dX6_ripeFieldAt_1 : decode cX6_ripeFieldAt 1 = .ok (.iload_n 1, 1) := by decide +kernel
theorem dX6_ripeFieldAt_2 : decode cX6_ripeFieldAt 2 = .ok (.invokevirtual 64, 3) := by decide +kernel
theorem dX6_ripeFieldAt_5 : decode cX6_ripeFieldAt 5 = .ok (.astore_n 2, 1) := by decide +kernel
theorem dX6_ripeFieldAt_6 : decode cX6_ripeFieldAt 6 = .ok (.aload_n 2, 1) := by decide +kernel
theorem dX6_ripeFieldAt_7 : decode cX6_ripeFieldAt 7 = .ok (.getfield 85, 3) := by decide +kernel
theorem dX6_ripeFieldAt_10 : decode cX6_ripeFieldAt 10 = .ok (.getfield 89, 3) := by decide +kernel
theorem dX6_ripeFieldAt_13 : decode cX6_ripeFieldAt 13 = .ok (.iconst 5, 1) := by decide +kernel
theorem dX6_ripeFieldAt_14 : decode cX6_ripeFieldAt 14 = .ok (.if_icmp .eq 14, 3) := by decide +kernel
theorem dX6_ripeFieldAt_17 : decode cX6_ripeFieldAt 17 = .ok (.new 40, 3) := by decide +kernel
theorem dX6_ripeFieldAt_20 : decode cX6_ripeFieldAt 20 = .ok (.dup, 1) := by decide +kernel
theorem dX6_ripeFieldAt_21 : decode cX6_ripeFieldAt 21 = .ok (.ldc_w 379, 3) := by decide +kernel
theorem dX6_ripeFieldAt_24 : decode cX6_ripeFieldAt 24 = .ok (.invokespecial 44, 3) := by decide +kernel
theorem dX6_ripeFieldAt_27 : decode cX6_ripeFieldAt 27 = .ok (.athrow, 1) := by decide +kernel
theorem dX6_ripeFieldAt_28 : decode cX6_ripeFieldAt 28 = .ok (.aload_n 2, 1) := by decide +kernel
theorem dX6_ripeFieldAt_29 : decode cX6_ripeFieldAt 29 = .ok (.areturn, 1) := by decide +kernel
theorem dX6_checkKind_0 : decode cX6_checkKind 0 = .ok (.iload_n 0, 1) := by decide +kernel
theorem dX6_checkKind_1 : decode cX6_checkKind 1 = .ok (.iconst 0, 1) := by decide +kernel
theorem dX6_checkKind_2 : decode cX6_checkKind 2 = .ok (.iconst 2, 1) := by decide +kernel
theorem dX6_checkKind_3 : decode cX6_checkKind 3 = .ok (.invokestatic 19, 3) := by decide +kernel
theorem dX6_checkKind_6 : decode cX6_checkKind 6 = .ok (.ifCond .ne 14, 3) := by decide +kernel
theorem dX6_checkKind_9 : decode cX6_checkKind 9 = .ok (.new 23, 3) := by decide +kernel
theorem dX6_checkKind_12 : decode cX6_checkKind 12 = .ok (.dup, 1) := by decide +kernel
theorem dX6_checkKind_13 : decode cX6_checkKind 13 = .ok (.ldc_w 381, 3) := by decide +kernel
theorem dX6_checkKind_16 : decode cX6_checkKind 16 = .ok (.invokespecial 27, 3) := by decide +kernel
theorem dX6_checkKind_19 : decode cX6_checkKind 19 = .ok (.athrow, 1) := by decide +kernel
theorem dX6_checkKind_20 : decode cX6_checkKind 20 = .ok (.return_, 1) := by decide +kernel
theorem dX6_checkDays_0 : decode cX6_checkDays 0 = .ok (.iload_n 0, 1) := by decide +kernel
theorem dX6_checkDays_1 : decode cX6_checkDays 1 = .ok (.iconst 1, 1) := by decide +kernel
theorem dX6_checkDays_2 : decode cX6_checkDays 2 = .ok (.iload_n 1, 1) := by decide +kernel
theorem dX6_checkDays_3 : decode cX6_checkDays 3 = .ok (.invokestatic 19, 3) := by decide +kernel
theorem dX6_checkDays_6 : decode cX6_checkDays 6 = .ok (.ifCond .ne 14, 3) := by decide +kernel
theorem dX6_checkDays_9 : decode cX6_checkDays 9 = .ok (.new 23, 3) := by decide +kernel
theorem dX6_checkDays_12 : decode cX6_checkDays 12 = .ok (.dup, 1) := by decide +kernel
theorem dX6_checkDays_13 : decode cX6_checkDays 13 = .ok (.ldc_w 383, 3) := by decide +kernel
theorem dX6_checkDays_16 : decode cX6_checkDays 16 = .ok (.invokespecial 27, 3) := by decide +kernel
theorem dX6_checkDays_19 : decode cX6_checkDays 19 = .ok (.athrow, 1) := by decide +kernel
theorem dX6_checkDays_20 : decode cX6_checkDays 20 = .ok (.return_, 1) := by decide +kernel
theorem dX6_sumOfFields_0 : decode cX6_sumOfFields 0 = .ok (.iconst 0, 1) := by decide +kernel
theorem dX6_sumOfFields_1 : decode cX6_sumOfFields 1 = .ok (.istore_n 2, 1) := by decide +kernel
theorem dX6_sumOfFields_2 : decode cX6_sumOfFields 2 = .ok (.iconst 0, 1) := by decide +kernel
theorem dX6_sumOfFields_3 : decode cX6_sumOfFields 3 = .ok (.istore_n 3, 1) := by decide +kernel
theorem dX6_sumOfFields_4 : decode cX6_sumOfFields 4 = .ok (.iload_n 3, 1) := by decide +kernel
theorem dX6_sumOfFields_5 : decode cX6_sumOfFields 5 = .ok (.aload_n 0, 1) := by decide +kernel
theorem dX6_sumOfFields_6 : decode cX6_sumOfFields 6 = .ok (.getfield 10, 3) := by decide +kernel
theorem dX6_sumOfFields_9 : decode cX6_sumOfFields 9 = .ok (.getfield 55, 3) := by decide +kernel
theorem dX6_sumOfFields_12 : decode cX6_sumOfFields 12 = .ok (.invokevirtual 34, 3) := by decide +kernel
theorem dX6_sumOfFields_15 : decode cX6_sumOfFields 15 = .ok (.if_icmp .ge 18, 3) := by decide +kernel
theorem dX6_sumOfFields_18 : decode cX6_sumOfFields 18 = .ok (.iload_n 2, 1) := by decide +kernel
theorem dX6_sumOfFields_19 : decode cX6_sumOfFields 19 = .ok (.aload_n 0, 1) := by decide +kernel
theorem dX6_sumOfFields_20 : decode cX6_sumOfFields 20 = .ok (.iload_n 3, 1) := by decide +kernel
theorem dX6_sumOfFields_21 : decode cX6_sumOfFields 21 = .ok (.iload_n 1, 1) := by decide +kernel
theorem dX6_sumOfFields_22 : decode cX6_sumOfFields 22 = .ok (.invokevirtual 385, 3) := by decide +kernel
theorem dX6_sumOfFields_25 : decode cX6_sumOfFields 25 = .ok (.iadd, 1) := by decide +kernel
theorem dX6_sumOfFields_26 : decode cX6_sumOfFields 26 = .ok (.istore_n 2, 1) := by decide +kernel
theorem dX6_sumOfFields_27 : decode cX6_sumOfFields 27 = .ok (.iinc 3 1, 3) := by decide +kernel
theorem dX6_sumOfFields_30 : decode cX6_sumOfFields 30 = .ok (.goto (-26), 3) := by decide +kernel
theorem dX6_sumOfFields_33 : decode cX6_sumOfFields 33 = .ok (.iload_n 2, 1) := by decide +kernel
theorem dX6_sumOfFields_34 : decode cX6_sumOfFields 34 = .ok (.ireturn, 1) := by decide +kernel
theorem dX6_sumOfOwners_0 : decode cX6_sumOfOwners 0 = .ok (.iconst 0, 1) := by decide +kernel
theorem dX6_sumOfOwners_1 : decode cX6_sumOfOwners 1 = .ok (.istore_n 2, 1) := by decide +kernel
theorem dX6_sumOfOwners_2 : decode cX6_sumOfOwners 2 = .ok (.iconst 0, 1) := by decide +kernel
theorem dX6_sumOfOwners_3 : decode cX6_sumOfOwners 3 = .ok (.istore_n 3, 1) := by decide +kernel
theorem dX6_sumOfOwners_4 : decode cX6_sumOfOwners 4 = .ok (.iload_n 3, 1) := by decide +kernel
theorem dX6_sumOfOwners_5 : decode cX6_sumOfOwners 5 = .ok (.aload_n 0, 1) := by decide +kernel
theorem dX6_sumOfOwners_6 : decode cX6_sumOfOwners 6 = .ok (.getfield 10, 3) := by decide +kernel
theorem dX6_sumOfOwners_9 : decode cX6_sumOfOwners 9 = .ok (.getfield 55, 3) := by decide +kernel
theorem dX6_sumOfOwners_12 : decode cX6_sumOfOwners 12 = .ok (.invokevirtual 34, 3) := by decide +kernel
theorem dX6_sumOfOwners_15 : decode cX6_sumOfOwners 15 = .ok (.if_icmp .ge 18, 3) := by decide +kernel
theorem dX6_sumOfOwners_18 : decode cX6_sumOfOwners 18 = .ok (.iload_n 2, 1) := by decide +kernel
theorem dX6_sumOfOwners_19 : decode cX6_sumOfOwners 19 = .ok (.aload_n 0, 1) := by decide +kernel
theorem dX6_sumOfOwners_20 : decode cX6_sumOfOwners 20 = .ok (.iload_n 3, 1) := by decide +kernel
theorem dX6_sumOfOwners_21 : decode cX6_sumOfOwners 21 = .ok (.iload_n 1, 1) := by decide +kernel
theorem dX6_sumOfOwners_22 : decode cX6_sumOfOwners 22 = .ok (.invokevirtual 388, 3) := by decide +kernel
theorem dX6_sumOfOwners_25 : decode cX6_sumOfOwners 25 = .ok (.iadd, 1) := by decide +kernel
theorem dX6_sumOfOwners_26 : decode cX6_sumOfOwners 26 = .ok (.istore_n 2, 1) := by decide +kernel
theorem dX6_sumOfOwners_27 : decode cX6_sumOfOwners 27 = .ok (.iinc 3 1, 3) := by decide +kernel
theorem dX6_sumOfOwners_30 : decode cX6_sumOfOwners 30 = .ok (.goto (-26), 3) := by decide +kernel
theorem dX6_sumOfOwners_33 : decode cX6_sumOfOwners 33 = .ok (.iload_n 2, 1) := by decide +kernel
theorem dX6_sumOfOwners_34 : decode cX6_sumOfOwners 34 = .ok (.ireturn, 1) := by decide +kernel
theorem dX6_sumOfSocieties_0 : decode cX6_sumOfSocieties 0 = .ok (.iconst 0, 1) := by decide +kernel
theorem dX6_sumOfSocieties_1 : decode cX6_sumOfSocieties 1 = .ok (.istore_n 2, 1) := by decide +kernel
theorem dX6_sumOfSocieties_2 : decode cX6_sumOfSocieties 2 = .ok (.iconst 0, 1) := by decide +kernel
theorem dX6_sumOfSocieties_3 : decode cX6_sumOfSocieties 3 = .ok (.istore_n 3, 1) := by decide +kernel
theorem dX6_sumOfSocieties_4 : decode cX6_sumOfSocieties 4 = .ok (.iload_n 3, 1) := by decide +kernel
theorem dX6_sumOfSocieties_5 : decode cX6_sumOfSocieties 5 = .ok (.aload_n 0, 1) := by decide +kernel
theorem dX6_sumOfSocieties_6 : decode cX6_sumOfSocieties 6 = .ok (.getfield 10, 3) := by decide +kernel
theorem dX6_sumOfSocieties_9 : decode cX6_sumOfSocieties 9 = .ok (.getfield 30, 3) := by decide +kernel
theorem dX6_sumOfSocieties_12 : decode cX6_sumOfSocieties 12 = .ok (.invokevirtual 34, 3) := by decide +kernel
theorem dX6_sumOfSocieties_15 : decode cX6_sumOfSocieties 15 = .ok (.if_icmp .ge 18, 3) := by decide +kernel
theorem dX6_sumOfSocieties_18 : decode cX6_sumOfSocieties 18 = .ok (.iload_n 2, 1) := by decide +kernel
theorem dX6_sumOfSocieties_19 : decode cX6_sumOfSocieties 19 = .ok (.aload_n 0, 1) := by decide +kernel
theorem dX6_sumOfSocieties_20 : decode cX6_sumOfSocieties 20 = .ok (.iload_n 3, 1) := by decide +kernel
theorem dX6_sumOfSocieties_21 : decode cX6_sumOfSocieties 21 = .ok (.iload_n 1, 1) := by decide +kernel
theorem dX6_sumOfSocieties_22 : decode cX6_sumOfSocieties 22 = .ok (.invokevirtual 391, 3) := by decide +kernel
theorem dX6_sumOfSocieties_25 : decode cX6_sumOfSocieties 25 = .ok (.iadd, 1) := by decide +kernel
theorem dX6_sumOfSocieties_26 : decode cX6_sumOfSocieties 26 = .ok (.istore_n 2, 1) := by decide +kernel
theorem dX6_sumOfSocieties_27 : decode cX6_sumOfSocieties 27 = .ok (.iinc 3 1, 3) := by decide +kernel
theorem dX6_sumOfSocieties_30 : decode cX6_sumOfSocieties 30 = .ok (.goto (-26), 3) := by decide +kernel
theorem dX6_sumOfSocieties_33 : decode cX6_sumOfSocieties 33 = .ok (.iload_n 2, 1) := by decide +kernel
theorem dX6_sumOfSocieties_34 : decode cX6_sumOfSocieties 34 = .ok (.ireturn, 1) := by decide +kernel
theorem dX6_sumOfStones_0 : decode cX6_sumOfStones 0 = .ok (.iconst 0, 1) := by decide +kernel
theorem dX6_sumOfStones_1 : decode cX6_sumOfStones 1 = .ok (.istore_n 1, 1) := by decide +kernel
theorem dX6_sumOfStones_2 : decode cX6_sumOfStones 2 = .ok (.iconst 0, 1) := by decide +kernel
theorem dX6_sumOfStones_3 : decode cX6_sumOfStones 3 = .ok (.istore_n 2, 1) := by decide +kernel
theorem dX6_sumOfStones_4 : decode cX6_sumOfStones 4 = .ok (.iload_n 2, 1) := by decide +kernel
theorem dX6_sumOfStones_5 : decode cX6_sumOfStones 5 = .ok (.aload_n 0, 1) := by decide +kernel
theorem dX6_sumOfStones_6 : decode cX6_sumOfStones 6 = .ok (.getfield 10, 3) := by decide +kernel
theorem dX6_sumOfStones_9 : decode cX6_sumOfStones 9 = .ok (.getfield 55, 3) := by decide +kernel
theorem dX6_sumOfStones_12 : decode cX6_sumOfStones 12 = .ok (.invokevirtual 34, 3) := by decide +kernel
theorem dX6_sumOfStones_15 : decode cX6_sumOfStones 15 = .ok (.if_icmp .ge 29, 3) := by decide +kernel
theorem dX6_sumOfStones_18 : decode cX6_sumOfStones 18 = .ok (.iload_n 1, 1) := by decide +kernel
theorem dX6_sumOfStones_19 : decode cX6_sumOfStones 19 = .ok (.aload_n 0, 1) := by decide +kernel
theorem dX6_sumOfStones_20 : decode cX6_sumOfStones 20 = .ok (.getfield 10, 3) := by decide +kernel
theorem dX6_sumOfStones_23 : decode cX6_sumOfStones 23 = .ok (.getfield 55, 3) := by decide +kernel
theorem dX6_sumOfStones_26 : decode cX6_sumOfStones 26 = .ok (.iload_n 2, 1) := by decide +kernel
theorem dX6_sumOfStones_27 : decode cX6_sumOfStones 27 = .ok (.invokevirtual 373, 3) := by decide +kernel
theorem dX6_sumOfStones_30 : decode cX6_sumOfStones 30 = .ok (.checkcast 69, 3) := by decide +kernel
theorem dX6_sumOfStones_33 : decode cX6_sumOfStones 33 = .ok (.getfield 76, 3) := by decide +kernel
theorem dX6_sumOfStones_36 : decode cX6_sumOfStones 36 = .ok (.iadd, 1) := by decide +kernel
theorem dX6_sumOfStones_37 : decode cX6_sumOfStones 37 = .ok (.istore_n 1, 1) := by decide +kernel
theorem dX6_sumOfStones_38 : decode cX6_sumOfStones 38 = .ok (.iinc 2 1, 3) := by decide +kernel
theorem dX6_sumOfStones_41 : decode cX6_sumOfStones 41 = .ok (.goto (-37), 3) := by decide +kernel
theorem dX6_sumOfStones_44 : decode cX6_sumOfStones 44 = .ok (.iload_n 1, 1) := by decide +kernel
theorem dX6_sumOfStones_45 : decode cX6_sumOfStones 45 = .ok (.ireturn, 1) := by decide +kernel
theorem dX6_tryDays_0 : decode cX6_tryDays 0 = .ok (.aload_n 0, 1) := by decide +kernel
theorem dX6_tryDays_1 : decode cX6_tryDays 1 = .ok (.getfield 16, 3) := by decide +kernel
theorem dX6_tryDays_4 : decode cX6_tryDays 4 = .ok (.aload_n 0, 1) := by decide +kernel
theorem dX6_tryDays_5 : decode cX6_tryDays 5 = .ok (.getfield 10, 3) := by decide +kernel
theorem dX6_tryDays_8 : decode cX6_tryDays 8 = .ok (.invokevirtual 323, 3) := by decide +kernel
theorem dX6_tryDays_11 : decode cX6_tryDays 11 = .ok (.iconst 0, 1) := by decide +kernel
theorem dX6_tryDays_12 : decode cX6_tryDays 12 = .ok (.istore_n 2, 1) := by decide +kernel
theorem dX6_tryDays_13 : decode cX6_tryDays 13 = .ok (.iload_n 2, 1) := by decide +kernel
theorem dX6_tryDays_14 : decode cX6_tryDays 14 = .ok (.iload_n 1, 1) := by decide +kernel
theorem dX6_tryDays_15 : decode cX6_tryDays 15 = .ok (.if_icmp .ge 37, 3) := by decide +kernel
theorem dX6_tryDays_18 : decode cX6_tryDays 18 = .ok (.aload_n 0, 1) := by decide +kernel
theorem dX6_tryDays_19 : decode cX6_tryDays 19 = .ok (.getfield 16, 3) := by decide +kernel
theorem dX6_tryDays_22 : decode cX6_tryDays 22 = .ok (.aload_n 0, 1) := by decide +kernel
theorem dX6_tryDays_23 : decode cX6_tryDays 23 = .ok (.getfield 10, 3) := by decide +kernel
theorem dX6_tryDays_26 : decode cX6_tryDays 26 = .ok (.getfield 330, 3) := by decide +kernel
theorem dX6_tryDays_29 : decode cX6_tryDays 29 = .ok (.aload_n 0, 1) := by decide +kernel
theorem dX6_tryDays_30 : decode cX6_tryDays 30 = .ok (.getfield 10, 3) := by decide +kernel
theorem dX6_tryDays_33 : decode cX6_tryDays 33 = .ok (.getfield 333, 3) := by decide +kernel
theorem dX6_tryDays_36 : decode cX6_tryDays 36 = .ok (.aload_n 0, 1) := by decide +kernel
theorem dX6_tryDays_37 : decode cX6_tryDays 37 = .ok (.getfield 10, 3) := by decide +kernel
theorem dX6_tryDays_40 : decode cX6_tryDays 40 = .ok (.getfield 336, 3) := by decide +kernel
theorem dX6_tryDays_43 : decode cX6_tryDays 43 = .ok (.invokevirtual 178, 3) := by decide +kernel
theorem dX6_tryDays_46 : decode cX6_tryDays 46 = .ok (.iinc 2 1, 3) := by decide +kernel
theorem dX6_tryDays_49 : decode cX6_tryDays 49 = .ok (.goto (-36), 3) := by decide +kernel
theorem dX6_tryDays_52 : decode cX6_tryDays 52 = .ok (.return_, 1) := by decide +kernel
theorem dX6_yieldByPlan_0 : decode cX6_yieldByPlan 0 = .ok (.aload_n 0, 1) := by decide +kernel
theorem dX6_yieldByPlan_1 : decode cX6_yieldByPlan 1 = .ok (.getfield 16, 3) := by decide +kernel
theorem dX6_yieldByPlan_4 : decode cX6_yieldByPlan 4 = .ok (.aload_n 0, 1) := by decide +kernel
theorem dX6_yieldByPlan_5 : decode cX6_yieldByPlan 5 = .ok (.getfield 10, 3) := by decide +kernel
theorem dX6_yieldByPlan_8 : decode cX6_yieldByPlan 8 = .ok (.invokevirtual 323, 3) := by decide +kernel
theorem dX6_yieldByPlan_11 : decode cX6_yieldByPlan 11 = .ok (.iconst 0, 1) := by decide +kernel
theorem dX6_yieldByPlan_12 : decode cX6_yieldByPlan 12 = .ok (.istore 4, 2) := by decide +kernel
theorem dX6_yieldByPlan_14 : decode cX6_yieldByPlan 14 = .ok (.iload 4, 2) := by decide +kernel
theorem dX6_yieldByPlan_16 : decode cX6_yieldByPlan 16 = .ok (.iload_n 3, 1) := by decide +kernel
theorem dX6_yieldByPlan_17 : decode cX6_yieldByPlan 17 = .ok (.if_icmp .ge 48, 3) := by decide +kernel
theorem dX6_yieldByPlan_20 : decode cX6_yieldByPlan 20 = .ok (.aload_n 0, 1) := by decide +kernel
theorem dX6_yieldByPlan_21 : decode cX6_yieldByPlan 21 = .ok (.getfield 16, 3) := by decide +kernel
theorem dX6_yieldByPlan_24 : decode cX6_yieldByPlan 24 = .ok (.iload_n 1, 1) := by decide +kernel
theorem dX6_yieldByPlan_25 : decode cX6_yieldByPlan 25 = .ok (.iload_n 2, 1) := by decide +kernel
theorem dX6_yieldByPlan_26 : decode cX6_yieldByPlan 26 = .ok (.iload 4, 2) := by decide +kernel
theorem dX6_yieldByPlan_28 : decode cX6_yieldByPlan 28 = .ok (.invokevirtual 394, 3) := by decide +kernel
theorem dX6_yieldByPlan_31 : decode cX6_yieldByPlan 31 = .ok (.aload_n 0, 1) := by decide +kernel
theorem dX6_yieldByPlan_32 : decode cX6_yieldByPlan 32 = .ok (.getfield 16, 3) := by decide +kernel
theorem dX6_yieldByPlan_35 : decode cX6_yieldByPlan 35 = .ok (.aload_n 0, 1) := by decide +kernel
theorem dX6_yieldByPlan_36 : decode cX6_yieldByPlan 36 = .ok (.getfield 10, 3) := by decide +kernel
theorem dX6_yieldByPlan_39 : decode cX6_yieldByPlan 39 = .ok (.getfield 330, 3) := by decide +kernel
theorem dX6_yieldByPlan_42 : decode cX6_yieldByPlan 42 = .ok (.aload_n 0, 1) := by decide +kernel
theorem dX6_yieldByPlan_43 : decode cX6_yieldByPlan 43 = .ok (.getfield 10, 3) := by decide +kernel
theorem dX6_yieldByPlan_46 : decode cX6_yieldByPlan 46 = .ok (.getfield 333, 3) := by decide +kernel
theorem dX6_yieldByPlan_49 : decode cX6_yieldByPlan 49 = .ok (.aload_n 0, 1) := by decide +kernel
theorem dX6_yieldByPlan_50 : decode cX6_yieldByPlan 50 = .ok (.getfield 10, 3) := by decide +kernel
theorem dX6_yieldByPlan_53 : decode cX6_yieldByPlan 53 = .ok (.getfield 336, 3) := by decide +kernel
theorem dX6_yieldByPlan_56 : decode cX6_yieldByPlan 56 = .ok (.invokevirtual 178, 3) := by decide +kernel
theorem dX6_yieldByPlan_59 : decode cX6_yieldByPlan 59 = .ok (.iinc 4 1, 3) := by decide +kernel
theorem dX6_yieldByPlan_62 : decode cX6_yieldByPlan 62 = .ok (.goto (-48), 3) := by decide +kernel
theorem dX6_yieldByPlan_65 : decode cX6_yieldByPlan 65 = .ok (.aload_n 0, 1) := by decide +kernel
theorem dX6_yieldByPlan_66 : decode cX6_yieldByPlan 66 = .ok (.getfield 16, 3) := by decide +kernel
theorem dX6_yieldByPlan_69 : decode cX6_yieldByPlan 69 = .ok (.invokevirtual 397, 3) := by decide +kernel
theorem dX6_yieldByPlan_72 : decode cX6_yieldByPlan 72 = .ok (.ireturn, 1) := by decide +kernel
theorem dX6_mixSociety_0 : decode cX6_mixSociety 0 = .ok (.lload_n 1, 1) := by decide +kernel
theorem dX6_mixSociety_1 : decode cX6_mixSociety 1 = .ok (.lstore 4, 2) := by decide +kernel
theorem dX6_mixSociety_3 : decode cX6_mixSociety 3 = .ok (.iconst 0, 1) := by decide +kernel
theorem dX6_mixSociety_4 : decode cX6_mixSociety 4 = .ok (.istore 6, 2) := by decide +kernel
theorem dX6_mixSociety_6 : decode cX6_mixSociety 6 = .ok (.iload 6, 2) := by decide +kernel
theorem dX6_mixSociety_8 : decode cX6_mixSociety 8 = .ok (.bipush 8, 2) := by decide +kernel
theorem dX6_mixSociety_10 : decode cX6_mixSociety 10 = .ok (.if_icmp .gt 23, 3) := by decide +kernel
theorem dX6_mixSociety_13 : decode cX6_mixSociety 13 = .ok (.lload 4, 2) := by decide +kernel
theorem dX6_mixSociety_15 : decode cX6_mixSociety 15 = .ok (.aload_n 0, 1) := by decide +kernel
theorem dX6_mixSociety_16 : decode cX6_mixSociety 16 = .ok (.iload_n 3, 1) := by decide +kernel
theorem dX6_mixSociety_17 : decode cX6_mixSociety 17 = .ok (.iload 6, 2) := by decide +kernel
theorem dX6_mixSociety_19 : decode cX6_mixSociety 19 = .ok (.invokevirtual 391, 3) := by decide +kernel
theorem dX6_mixSociety_22 : decode cX6_mixSociety 22 = .ok (.invokestatic 347, 3) := by decide +kernel
theorem dX6_mixSociety_25 : decode cX6_mixSociety 25 = .ok (.lstore 4, 2) := by decide +kernel
theorem dX6_mixSociety_27 : decode cX6_mixSociety 27 = .ok (.iinc 6 1, 3) := by decide +kernel
theorem dX6_mixSociety_30 : decode cX6_mixSociety 30 = .ok (.goto (-24), 3) := by decide +kernel
theorem dX6_mixSociety_33 : decode cX6_mixSociety 33 = .ok (.lload 4, 2) := by decide +kernel
theorem dX6_mixSociety_35 : decode cX6_mixSociety 35 = .ok (.aload_n 0, 1) := by decide +kernel
theorem dX6_mixSociety_36 : decode cX6_mixSociety 36 = .ok (.iload_n 3, 1) := by decide +kernel
theorem dX6_mixSociety_37 : decode cX6_mixSociety 37 = .ok (.invokevirtual 400, 3) := by decide +kernel
theorem dX6_mixSociety_40 : decode cX6_mixSociety 40 = .ok (.invokestatic 347, 3) := by decide +kernel
theorem dX6_mixSociety_43 : decode cX6_mixSociety 43 = .ok (.lreturn, 1) := by decide +kernel
theorem dX6_mixField_0 : decode cX6_mixField 0 = .ok (.lload_n 1, 1) := by decide +kernel
theorem dX6_mixField_1 : decode cX6_mixField 1 = .ok (.lstore 4, 2) := by decide +kernel
theorem dX6_mixField_3 : decode cX6_mixField 3 = .ok (.iconst 0, 1) := by decide +kernel
theorem dX6_mixField_4 : decode cX6_mixField 4 = .ok (.istore 6, 2) := by decide +kernel
theorem dX6_mixField_6 : decode cX6_mixField 6 = .ok (.iload 6, 2) := by decide +kernel
theorem dX6_mixField_8 : decode cX6_mixField 8 = .ok (.bipush 13, 2) := by decide +kernel
theorem dX6_mixField_10 : decode cX6_mixField 10 = .ok (.if_icmp .gt 23, 3) := by decide +kernel
theorem dX6_mixField_13 : decode cX6_mixField 13 = .ok (.lload 4, 2) := by decide +kernel
theorem dX6_mixField_15 : decode cX6_mixField 15 = .ok (.aload_n 0, 1) := by decide +kernel
theorem dX6_mixField_16 : decode cX6_mixField 16 = .ok (.iload_n 3, 1) := by decide +kernel
theorem dX6_mixField_17 : decode cX6_mixField 17 = .ok (.iload 6, 2) := by decide +kernel
theorem dX6_mixField_19 : decode cX6_mixField 19 = .ok (.invokevirtual 385, 3) := by decide +kernel
theorem dX6_mixField_22 : decode cX6_mixField 22 = .ok (.invokestatic 347, 3) := by decide +kernel
theorem dX6_mixField_25 : decode cX6_mixField 25 = .ok (.lstore 4, 2) := by decide +kernel
theorem dX6_mixField_27 : decode cX6_mixField 27 = .ok (.iinc 6 1, 3) := by decide +kernel
theorem dX6_mixField_30 : decode cX6_mixField 30 = .ok (.goto (-24), 3) := by decide +kernel
theorem dX6_mixField_33 : decode cX6_mixField 33 = .ok (.iconst 0, 1) := by decide +kernel
theorem dX6_mixField_34 : decode cX6_mixField 34 = .ok (.istore 6, 2) := by decide +kernel
theorem dX6_mixField_36 : decode cX6_mixField 36 = .ok (.iload 6, 2) := by decide +kernel
theorem dX6_mixField_38 : decode cX6_mixField 38 = .ok (.iconst 3, 1) := by decide +kernel
theorem dX6_mixField_39 : decode cX6_mixField 39 = .ok (.if_icmp .gt 23, 3) := by decide +kernel
theorem dX6_mixField_42 : decode cX6_mixField 42 = .ok (.lload 4, 2) := by decide +kernel
theorem dX6_mixField_44 : decode cX6_mixField 44 = .ok (.aload_n 0, 1) := by decide +kernel
theorem dX6_mixField_45 : decode cX6_mixField 45 = .ok (.iload_n 3, 1) := by decide +kernel
theorem dX6_mixField_46 : decode cX6_mixField 46 = .ok (.iload 6, 2) := by decide +kernel
theorem dX6_mixField_48 : decode cX6_mixField 48 = .ok (.invokevirtual 388, 3) := by decide +kernel
theorem dX6_mixField_51 : decode cX6_mixField 51 = .ok (.invokestatic 347, 3) := by decide +kernel
theorem dX6_mixField_54 : decode cX6_mixField 54 = .ok (.lstore 4, 2) := by decide +kernel
theorem dX6_mixField_56 : decode cX6_mixField 56 = .ok (.iinc 6 1, 3) := by decide +kernel
theorem dX6_mixField_59 : decode cX6_mixField 59 = .ok (.goto (-23), 3) := by decide +kernel
theorem dX6_mixField_62 : decode cX6_mixField 62 = .ok (.lload 4, 2) := by decide +kernel
theorem dX6_mixField_64 : decode cX6_mixField 64 = .ok (.aload_n 0, 1) := by decide +kernel
theorem dX6_mixField_65 : decode cX6_mixField 65 = .ok (.iload_n 3, 1) := by decide +kernel
theorem dX6_mixField_66 : decode cX6_mixField 66 = .ok (.iconst 0, 1) := by decide +kernel
theorem dX6_mixField_67 : decode cX6_mixField 67 = .ok (.invokevirtual 403, 3) := by decide +kernel
theorem dX6_mixField_70 : decode cX6_mixField 70 = .ok (.invokestatic 347, 3) := by decide +kernel
theorem dX6_mixField_73 : decode cX6_mixField 73 = .ok (.lstore 4, 2) := by decide +kernel
theorem dX6_mixField_75 : decode cX6_mixField 75 = .ok (.lload 4, 2) := by decide +kernel
theorem dX6_mixField_77 : decode cX6_mixField 77 = .ok (.aload_n 0, 1) := by decide +kernel
theorem dX6_mixField_78 : decode cX6_mixField 78 = .ok (.iload_n 3, 1) := by decide +kernel
theorem dX6_mixField_79 : decode cX6_mixField 79 = .ok (.iconst 1, 1) := by decide +kernel
theorem dX6_mixField_80 : decode cX6_mixField 80 = .ok (.invokevirtual 403, 3) := by decide +kernel
theorem dX6_mixField_83 : decode cX6_mixField 83 = .ok (.invokestatic 347, 3) := by decide +kernel
theorem dX6_mixField_86 : decode cX6_mixField 86 = .ok (.lstore 4, 2) := by decide +kernel
theorem dX6_mixField_88 : decode cX6_mixField 88 = .ok (.lload 4, 2) := by decide +kernel
theorem dX6_mixField_90 : decode cX6_mixField 90 = .ok (.aload_n 0, 1) := by decide +kernel
theorem dX6_mixField_91 : decode cX6_mixField 91 = .ok (.getfield 16, 3) := by decide +kernel
theorem dX6_mixField_94 : decode cX6_mixField 94 = .ok (.iload_n 3, 1) := by decide +kernel
theorem dX6_mixField_95 : decode cX6_mixField 95 = .ok (.invokevirtual 320, 3) := by decide +kernel
theorem dX6_mixField_98 : decode cX6_mixField 98 = .ok (.invokestatic 347, 3) := by decide +kernel
theorem dX6_mixField_101 : decode cX6_mixField 101 = .ok (.lreturn, 1) := by decide +kernel
theorem dX6_mix_0 : decode cX6_mix 0 = .ok (.lload_n 0, 1) := by decide +kernel
theorem dX6_mix_1 : decode cX6_mix 1 = .ok (.ldc2_w 407, 3) := by decide +kernel
theorem dX6_mix_4 : decode cX6_mix 4 = .ok (.lmul, 1) := by decide +kernel
theorem dX6_mix_5 : decode cX6_mix 5 = .ok (.iload_n 2, 1) := by decide +kernel
theorem dX6_mix_6 : decode cX6_mix 6 = .ok (.i2l, 1) := by decide +kernel
theorem dX6_mix_7 : decode cX6_mix 7 = .ok (.ladd, 1) := by decide +kernel
theorem dX6_mix_8 : decode cX6_mix 8 = .ok (.lreturn, 1) := by decide +kernel
theorem dX6_oneIf_0 : decode cX6_oneIf 0 = .ok (.iload_n 0, 1) := by decide +kernel
theorem dX6_oneIf_1 : decode cX6_oneIf 1 = .ok (.ifCond .eq 7, 3) := by decide +kernel
theorem dX6_oneIf_4 : decode cX6_oneIf 4 = .ok (.iconst 1, 1) := by decide +kernel
theorem dX6_oneIf_5 : decode cX6_oneIf 5 = .ok (.goto 4, 3) := by decide +kernel
theorem dX6_oneIf_8 : decode cX6_oneIf 8 = .ok (.iconst 0, 1) := by decide +kernel
theorem dX6_oneIf_9 : decode cX6_oneIf 9 = .ok (.ireturn, 1) := by decide +kernel
theorem dX6_numberOf_0 : decode cX6_numberOf 0 = .ok (.aload_n 0, 1) := by decide +kernel
theorem dX6_numberOf_1 : decode cX6_numberOf 1 = .ok (.ifnonnull 7, 3) := by decide +kernel
theorem dX6_numberOf_4 : decode cX6_numberOf 4 = .ok (.iconst (-1), 1) := by decide +kernel
theorem dX6_numberOf_5 : decode cX6_numberOf 5 = .ok (.goto 7, 3) := by decide +kernel
theorem dX6_numberOf_8 : decode cX6_numberOf 8 = .ok (.aload_n 0, 1) := by decide +kernel
theorem dX6_numberOf_9 : decode cX6_numberOf 9 = .ok (.getfield 161, 3) := by decide +kernel
theorem dX6_numberOf_12 : decode cX6_numberOf 12 = .ok (.ireturn, 1) := by decide +kernel
theorem dX6_isWithin_0 : decode cX6_isWithin 0 = .ok (.iload_n 0, 1) := by decide +kernel
theorem dX6_isWithin_1 : decode cX6_isWithin 1 = .ok (.iload_n 1, 1) := by decide +kernel
theorem dX6_isWithin_2 : decode cX6_isWithin 2 = .ok (.if_icmp .lt 12, 3) := by decide +kernel
theorem dX6_isWithin_5 : decode cX6_isWithin 5 = .ok (.iload_n 0, 1) := by decide +kernel
theorem dX6_isWithin_6 : decode cX6_isWithin 6 = .ok (.iload_n 2, 1) := by decide +kernel
theorem dX6_isWithin_7 : decode cX6_isWithin 7 = .ok (.if_icmp .gt 7, 3) := by decide +kernel
theorem dX6_isWithin_10 : decode cX6_isWithin 10 = .ok (.iconst 1, 1) := by decide +kernel
theorem dX6_isWithin_11 : decode cX6_isWithin 11 = .ok (.goto 4, 3) := by decide +kernel
theorem dX6_isWithin_14 : decode cX6_isWithin 14 = .ok (.iconst 0, 1) := by decide +kernel
theorem dX6_isWithin_15 : decode cX6_isWithin 15 = .ok (.ireturn, 1) := by decide +kernel
theorem dX6_isOnTheStalk_0 : decode cX6_isOnTheStalk 0 = .ok (.iload_n 0, 1) := by decide +kernel
theorem dX6_isOnTheStalk_1 : decode cX6_isOnTheStalk 1 = .ok (.iconst 2, 1) := by decide +kernel
theorem dX6_isOnTheStalk_2 : decode cX6_isOnTheStalk 2 = .ok (.if_icmp .lt 12, 3) := by decide +kernel
theorem dX6_isOnTheStalk_5 : decode cX6_isOnTheStalk 5 = .ok (.iload_n 0, 1) := by decide +kernel
theorem dX6_isOnTheStalk_6 : decode cX6_isOnTheStalk 6 = .ok (.iconst 4, 1) := by decide +kernel
theorem dX6_isOnTheStalk_7 : decode cX6_isOnTheStalk 7 = .ok (.if_icmp .gt 7, 3) := by decide +kernel
theorem dX6_isOnTheStalk_10 : decode cX6_isOnTheStalk 10 = .ok (.iconst 1, 1) := by decide +kernel
theorem dX6_isOnTheStalk_11 : decode cX6_isOnTheStalk 11 = .ok (.goto 4, 3) := by decide +kernel
theorem dX6_isOnTheStalk_14 : decode cX6_isOnTheStalk 14 = .ok (.iconst 0, 1) := by decide +kernel
theorem dX6_isOnTheStalk_15 : decode cX6_isOnTheStalk 15 = .ok (.ireturn, 1) := by decide +kernel
theorem dX6_inRow_0 : decode cX6_inRow 0 = .ok (.iload_n 1, 1) := by decide +kernel
theorem dX6_inRow_1 : decode cX6_inRow 1 = .ok (.ifCond .lt 15, 3) := by decide +kernel
theorem dX6_inRow_4 : decode cX6_inRow 4 = .ok (.iload_n 1, 1) := by decide +kernel
theorem dX6_inRow_5 : decode cX6_inRow 5 = .ok (.aload_n 0, 1) := by decide +kernel
theorem dX6_inRow_6 : decode cX6_inRow 6 = .ok (.arraylength, 1) := by decide +kernel
theorem dX6_inRow_7 : decode cX6_inRow 7 = .ok (.if_icmp .ge 9, 3) := by decide +kernel
theorem dX6_inRow_10 : decode cX6_inRow 10 = .ok (.aload_n 0, 1) := by decide +kernel
theorem dX6_inRow_11 : decode cX6_inRow 11 = .ok (.iload_n 1, 1) := by decide +kernel
theorem dX6_inRow_12 : decode cX6_inRow 12 = .ok (.iaload, 1) := by decide +kernel
theorem dX6_inRow_13 : decode cX6_inRow 13 = .ok (.goto 4, 3) := by decide +kernel
theorem dX6_inRow_16 : decode cX6_inRow 16 = .ok (.iconst 0, 1) := by decide +kernel
theorem dX6_inRow_17 : decode cX6_inRow 17 = .ok (.ireturn, 1) := by decide +kernel
theorem dJ9_floorMod_7cf53_0 : decode cJ9_floorMod_7cf53 0 = .ok (.iload_n 0, 1) := by decide +kernel
theorem dJ9_floorMod_7cf53_1 : decode cJ9_floorMod_7cf53 1 = .ok (.iload_n 1, 1) := by decide +kernel
theorem dJ9_floorMod_7cf53_2 : decode cJ9_floorMod_7cf53 2 = .ok (.irem, 1) := by decide +kernel
theorem dJ9_floorMod_7cf53_3 : decode cJ9_floorMod_7cf53 3 = .ok (.istore_n 2, 1) := by decide +kernel
theorem dJ9_floorMod_7cf53_4 : decode cJ9_floorMod_7cf53 4 = .ok (.iload_n 0, 1) := by decide +kernel
theorem dJ9_floorMod_7cf53_5 : decode cJ9_floorMod_7cf53 5 = .ok (.iload_n 1, 1) := by decide +kernel
theorem dJ9_floorMod_7cf53_6 : decode cJ9_floorMod_7cf53 6 = .ok (.ixor, 1) := by decide +kernel
theorem dJ9_floorMod_7cf53_7 : decode cJ9_floorMod_7cf53 7 = .ok (.ifCond .ge 11, 3) := by decide +kernel
theorem dJ9_floorMod_7cf53_10 : decode cJ9_floorMod_7cf53 10 = .ok (.iload_n 2, 1) := by decide +kernel
theorem dJ9_floorMod_7cf53_11 : decode cJ9_floorMod_7cf53 11 = .ok (.ifCond .eq 7, 3) := by decide +kernel
theorem dJ9_floorMod_7cf53_14 : decode cJ9_floorMod_7cf53 14 = .ok (.iload_n 2, 1) := by decide +kernel
theorem dJ9_floorMod_7cf53_15 : decode cJ9_floorMod_7cf53 15 = .ok (.iload_n 1, 1) := by decide +kernel
theorem dJ9_floorMod_7cf53_16 : decode cJ9_floorMod_7cf53 16 = .ok (.iadd, 1) := by decide +kernel
theorem dJ9_floorMod_7cf53_17 : decode cJ9_floorMod_7cf53 17 = .ok (.ireturn, 1) := by decide +kernel
theorem dJ9_floorMod_7cf53_18 : decode cJ9_floorMod_7cf53 18 = .ok (.iload_n 2, 1) := by decide +kernel
theorem dJ9_floorMod_7cf53_19 : decode cJ9_floorMod_7cf53 19 = .ok (.ireturn, 1) := by decide +kernel
theorem dJ9_max_7cf53_0 : decode cJ9_max_7cf53 0 = .ok (.iload_n 0, 1) := by decide +kernel
theorem dJ9_max_7cf53_1 : decode cJ9_max_7cf53 1 = .ok (.iload_n 1, 1) := by decide +kernel
theorem dJ9_max_7cf53_2 : decode cJ9_max_7cf53 2 = .ok (.if_icmp .lt 7, 3) := by decide +kernel
theorem dJ9_max_7cf53_5 : decode cJ9_max_7cf53 5 = .ok (.iload_n 0, 1) := by decide +kernel
theorem dJ9_max_7cf53_6 : decode cJ9_max_7cf53 6 = .ok (.goto 4, 3) := by decide +kernel
theorem dJ9_max_7cf53_9 : decode cJ9_max_7cf53 9 = .ok (.iload_n 1, 1) := by decide +kernel
theorem dJ9_max_7cf53_10 : decode cJ9_max_7cf53 10 = .ok (.ireturn, 1) := by decide +kernel
theorem dJ9_min_7cf53_0 : decode cJ9_min_7cf53 0 = .ok (.iload_n 0, 1) := by decide +kernel
theorem dJ9_min_7cf53_1 : decode cJ9_min_7cf53 1 = .ok (.iload_n 1, 1) := by decide +kernel
theorem dJ9_min_7cf53_2 : decode cJ9_min_7cf53 2 = .ok (.if_icmp .gt 7, 3) := by decide +kernel
theorem dJ9_min_7cf53_5 : decode cJ9_min_7cf53 5 = .ok (.iload_n 0, 1) := by decide +kernel
theorem dJ9_min_7cf53_6 : decode cJ9_min_7cf53 6 = .ok (.goto 4, 3) := by decide +kernel
theorem dJ9_min_7cf53_9 : decode cJ9_min_7cf53 9 = .ok (.iload_n 1, 1) := by decide +kernel
theorem dJ9_min_7cf53_10 : decode cJ9_min_7cf53 10 = .ok (.ireturn, 1) := by decide +kernel
theorem dJxa1e45_init_da8c8_0 : decode cJxa1e45_init_da8c8 0 = .ok (.aload_n 0, 1) := by decide +kernel
theorem dJxa1e45_init_da8c8_1 : decode cJxa1e45_init_da8c8 1 = .ok (.invokespecial 1, 3) := by decide +kernel
theorem dJxa1e45_init_da8c8_4 : decode cJxa1e45_init_da8c8 4 = .ok (.return_, 1) := by decide +kernel
theorem dJxc12de_init_da8c8_0 : decode cJxc12de_init_da8c8 0 = .ok (.aload_n 0, 1) := by decide +kernel
theorem dJxc12de_init_da8c8_1 : decode cJxc12de_init_da8c8 1 = .ok (.invokespecial 1, 3) := by decide +kernel
theorem dJxc12de_init_da8c8_4 : decode cJxc12de_init_da8c8 4 = .ok (.aload_n 0, 1) := by decide +kernel
theorem dJxc12de_init_da8c8_5 : decode cJxc12de_init_da8c8 5 = .ok (.iconst 0, 1) := by decide +kernel
theorem dJxc12de_init_da8c8_6 : decode cJxc12de_init_da8c8 6 = .ok (.putfield 7, 3) := by decide +kernel
theorem dJxc12de_init_da8c8_9 : decode cJxc12de_init_da8c8 9 = .ok (.return_, 1) := by decide +kernel
theorem dJx4a65c_init_da8c8_0 : decode cJx4a65c_init_da8c8 0 = .ok (.aload_n 0, 1) := by decide +kernel
theorem dJx4a65c_init_da8c8_1 : decode cJx4a65c_init_da8c8 1 = .ok (.invokespecial 1, 3) := by decide +kernel
theorem dJx4a65c_init_da8c8_4 : decode cJx4a65c_init_da8c8 4 = .ok (.aload_n 0, 1) := by decide +kernel
theorem dJx4a65c_init_da8c8_5 : decode cJx4a65c_init_da8c8 5 = .ok (.getstatic 39, 3) := by decide +kernel
theorem dJx4a65c_init_da8c8_8 : decode cJx4a65c_init_da8c8 8 = .ok (.putfield 9, 3) := by decide +kernel
theorem dJx4a65c_init_da8c8_11 : decode cJx4a65c_init_da8c8 11 = .ok (.return_, 1) := by decide +kernel
theorem dJx4a65c_grow_92f84_0 : decode cJx4a65c_grow_92f84 0 = .ok (.aload_n 0, 1) := by decide +kernel
theorem dJx4a65c_grow_92f84_1 : decode cJx4a65c_grow_92f84 1 = .ok (.getfield 9, 3) := by decide +kernel
theorem dJx4a65c_grow_92f84_4 : decode cJx4a65c_grow_92f84 4 = .ok (.arraylength, 1) := by decide +kernel
theorem dJx4a65c_grow_92f84_5 : decode cJx4a65c_grow_92f84 5 = .ok (.istore_n 2, 1) := by decide +kernel
theorem dJx4a65c_grow_92f84_6 : decode cJx4a65c_grow_92f84 6 = .ok (.iload_n 2, 1) := by decide +kernel
theorem dJx4a65c_grow_92f84_7 : decode cJx4a65c_grow_92f84 7 = .ok (.ifCond .gt 13, 3) := by decide +kernel
theorem dJx4a65c_grow_92f84_10 : decode cJx4a65c_grow_92f84 10 = .ok (.aload_n 0, 1) := by decide +kernel
theorem dJx4a65c_grow_92f84_11 : decode cJx4a65c_grow_92f84 11 = .ok (.getfield 9, 3) := by decide +kernel
theorem dJx4a65c_grow_92f84_14 : decode cJx4a65c_grow_92f84 14 = .ok (.getstatic 39, 3) := by decide +kernel
theorem dJx4a65c_grow_92f84_17 : decode cJx4a65c_grow_92f84 17 = .ok (.if_acmp .eq 28, 3) := by decide +kernel
theorem dJx4a65c_grow_92f84_20 : decode cJx4a65c_grow_92f84 20 = .ok (.iload_n 2, 1) := by decide +kernel
theorem dJx4a65c_grow_92f84_21 : decode cJx4a65c_grow_92f84 21 = .ok (.iload_n 1, 1) := by decide +kernel
theorem dJx4a65c_grow_92f84_22 : decode cJx4a65c_grow_92f84 22 = .ok (.iload_n 2, 1) := by decide +kernel
theorem dJx4a65c_grow_92f84_23 : decode cJx4a65c_grow_92f84 23 = .ok (.isub, 1) := by decide +kernel
theorem dJx4a65c_grow_92f84_24 : decode cJx4a65c_grow_92f84 24 = .ok (.iload_n 2, 1) := by decide +kernel
theorem dJx4a65c_grow_92f84_25 : decode cJx4a65c_grow_92f84 25 = .ok (.iconst 1, 1) := by decide +kernel
theorem dJx4a65c_grow_92f84_26 : decode cJx4a65c_grow_92f84 26 = .ok (.ishr, 1) := by decide +kernel
theorem dJx4a65c_grow_92f84_27 : decode cJx4a65c_grow_92f84 27 = .ok (.invokestatic 73, 3) := by decide +kernel
theorem dJx4a65c_grow_92f84_30 : decode cJx4a65c_grow_92f84 30 = .ok (.istore_n 3, 1) := by decide +kernel
theorem dJx4a65c_grow_92f84_31 : decode cJx4a65c_grow_92f84 31 = .ok (.aload_n 0, 1) := by decide +kernel
theorem dJx4a65c_grow_92f84_32 : decode cJx4a65c_grow_92f84 32 = .ok (.aload_n 0, 1) := by decide +kernel
theorem dJx4a65c_grow_92f84_33 : decode cJx4a65c_grow_92f84 33 = .ok (.getfield 9, 3) := by decide +kernel
theorem dJx4a65c_grow_92f84_36 : decode cJx4a65c_grow_92f84 36 = .ok (.iload_n 3, 1) := by decide +kernel
theorem dJx4a65c_grow_92f84_37 : decode cJx4a65c_grow_92f84 37 = .ok (.invokestatic 66, 3) := by decide +kernel
theorem dJx4a65c_grow_92f84_40 : decode cJx4a65c_grow_92f84 40 = .ok (.dup_x1, 1) := by decide +kernel
theorem dJx4a65c_grow_92f84_41 : decode cJx4a65c_grow_92f84 41 = .ok (.putfield 9, 3) := by decide +kernel
theorem dJx4a65c_grow_92f84_44 : decode cJx4a65c_grow_92f84 44 = .ok (.areturn, 1) := by decide +kernel
theorem dJx4a65c_grow_92f84_45 : decode cJx4a65c_grow_92f84 45 = .ok (.aload_n 0, 1) := by decide +kernel
theorem dJx4a65c_grow_92f84_46 : decode cJx4a65c_grow_92f84 46 = .ok (.bipush 10, 2) := by decide +kernel
theorem dJx4a65c_grow_92f84_48 : decode cJx4a65c_grow_92f84 48 = .ok (.iload_n 1, 1) := by decide +kernel
theorem dJx4a65c_grow_92f84_49 : decode cJx4a65c_grow_92f84 49 = .ok (.invokestatic 79, 3) := by decide +kernel
theorem dJx4a65c_grow_92f84_52 : decode cJx4a65c_grow_92f84 52 = .ok (.anewarray 7, 3) := by decide +kernel
theorem dJx4a65c_grow_92f84_55 : decode cJx4a65c_grow_92f84 55 = .ok (.dup_x1, 1) := by decide +kernel
theorem dJx4a65c_grow_92f84_56 : decode cJx4a65c_grow_92f84 56 = .ok (.putfield 9, 3) := by decide +kernel
theorem dJx4a65c_grow_92f84_59 : decode cJx4a65c_grow_92f84 59 = .ok (.areturn, 1) := by decide +kernel
theorem dJx4a65c_grow_d5877_0 : decode cJx4a65c_grow_d5877 0 = .ok (.aload_n 0, 1) := by decide +kernel
theorem dJx4a65c_grow_d5877_1 : decode cJx4a65c_grow_d5877 1 = .ok (.aload_n 0, 1) := by decide +kernel
theorem dJx4a65c_grow_d5877_2 : decode cJx4a65c_grow_d5877 2 = .ok (.getfield 48, 3) := by decide +kernel
theorem dJx4a65c_grow_d5877_5 : decode cJx4a65c_grow_d5877 5 = .ok (.iconst 1, 1) := by decide +kernel
theorem dJx4a65c_grow_d5877_6 : decode cJx4a65c_grow_d5877 6 = .ok (.iadd, 1) := by decide +kernel
theorem dJx4a65c_grow_d5877_7 : decode cJx4a65c_grow_d5877 7 = .ok (.invokevirtual 69, 3) := by decide +kernel
theorem dJx4a65c_grow_d5877_10 : decode cJx4a65c_grow_d5877 10 = .ok (.areturn, 1) := by decide +kernel
theorem dJx4a65c_size_8abf5_0 : decode cJx4a65c_size_8abf5 0 = .ok (.aload_n 0, 1) := by decide +kernel
theorem dJx4a65c_size_8abf5_1 : decode cJx4a65c_size_8abf5 1 = .ok (.getfield 48, 3) := by decide +kernel
theorem dJx4a65c_size_8abf5_4 : decode cJx4a65c_size_8abf5 4 = .ok (.ireturn, 1) := by decide +kernel
theorem dJx4a65c_isEmpty_aae02_0 : decode cJx4a65c_isEmpty_aae02 0 = .ok (.aload_n 0, 1) := by decide +kernel
theorem dJx4a65c_isEmpty_aae02_1 : decode cJx4a65c_isEmpty_aae02 1 = .ok (.getfield 48, 3) := by decide +kernel
theorem dJx4a65c_isEmpty_aae02_4 : decode cJx4a65c_isEmpty_aae02 4 = .ok (.ifCond .ne 7, 3) := by decide +kernel
theorem dJx4a65c_isEmpty_aae02_7 : decode cJx4a65c_isEmpty_aae02 7 = .ok (.iconst 1, 1) := by decide +kernel
theorem dJx4a65c_isEmpty_aae02_8 : decode cJx4a65c_isEmpty_aae02 8 = .ok (.goto 4, 3) := by decide +kernel
theorem dJx4a65c_isEmpty_aae02_11 : decode cJx4a65c_isEmpty_aae02 11 = .ok (.iconst 0, 1) := by decide +kernel
theorem dJx4a65c_isEmpty_aae02_12 : decode cJx4a65c_isEmpty_aae02 12 = .ok (.ireturn, 1) := by decide +kernel
theorem dJx4a65c_elementData_915e3_0 : decode cJx4a65c_elementData_915e3 0 = .ok (.aload_n 0, 1) := by decide +kernel
theorem dJx4a65c_elementData_915e3_1 : decode cJx4a65c_elementData_915e3 1 = .ok (.getfield 9, 3) := by decide +kernel
theorem dJx4a65c_elementData_915e3_4 : decode cJx4a65c_elementData_915e3 4 = .ok (.iload_n 1, 1) := by decide +kernel
theorem dJx4a65c_elementData_915e3_5 : decode cJx4a65c_elementData_915e3 5 = .ok (.aaload, 1) := by decide +kernel
theorem dJx4a65c_elementData_915e3_6 : decode cJx4a65c_elementData_915e3 6 = .ok (.areturn, 1) := by decide +kernel
theorem dJx4a65c_get_915e3_0 : decode cJx4a65c_get_915e3 0 = .ok (.iload_n 1, 1) := by decide +kernel
theorem dJx4a65c_get_915e3_1 : decode cJx4a65c_get_915e3 1 = .ok (.aload_n 0, 1) := by decide +kernel
theorem dJx4a65c_get_915e3_2 : decode cJx4a65c_get_915e3 2 = .ok (.getfield 48, 3) := by decide +kernel
theorem dJx4a65c_get_915e3_5 : decode cJx4a65c_get_915e3 5 = .ok (.invokestatic 118, 3) := by decide +kernel
theorem dJx4a65c_get_915e3_8 : decode cJx4a65c_get_915e3 8 = .ok (.pop, 1) := by decide +kernel
theorem dJx4a65c_get_915e3_9 : decode cJx4a65c_get_915e3 9 = .ok (.aload_n 0, 1) := by decide +kernel
theorem dJx4a65c_get_915e3_10 : decode cJx4a65c_get_915e3 10 = .ok (.iload_n 1, 1) := by decide +kernel
theorem dJx4a65c_get_915e3_11 : decode cJx4a65c_get_915e3 11 = .ok (.invokevirtual 123, 3) := by decide +kernel
theorem dJx4a65c_get_915e3_14 : decode cJx4a65c_get_915e3 14 = .ok (.areturn, 1) := by decide +kernel
theorem dJx4a65c_add_72be8_0 : decode cJx4a65c_add_72be8 0 = .ok (.iload_n 3, 1) := by decide +kernel
theorem dJx4a65c_add_72be8_1 : decode cJx4a65c_add_72be8 1 = .ok (.aload_n 2, 1) := by decide +kernel
theorem dJx4a65c_add_72be8_2 : decode cJx4a65c_add_72be8 2 = .ok (.arraylength, 1) := by decide +kernel
theorem dJx4a65c_add_72be8_3 : decode cJx4a65c_add_72be8 3 = .ok (.if_icmp .ne 8, 3) := by decide +kernel
theorem dJx4a65c_add_72be8_6 : decode cJx4a65c_add_72be8 6 = .ok (.aload_n 0, 1) := by decide +kernel
theorem dJx4a65c_add_72be8_7 : decode cJx4a65c_add_72be8 7 = .ok (.invokevirtual 129, 3) := by decide +kernel
theorem dJx4a65c_add_72be8_10 : decode cJx4a65c_add_72be8 10 = .ok (.astore_n 2, 1) := by decide +kernel
theorem dJx4a65c_add_72be8_11 : decode cJx4a65c_add_72be8 11 = .ok (.aload_n 2, 1) := by decide +kernel
theorem dJx4a65c_add_72be8_12 : decode cJx4a65c_add_72be8 12 = .ok (.iload_n 3, 1) := by decide +kernel
theorem dJx4a65c_add_72be8_13 : decode cJx4a65c_add_72be8 13 = .ok (.aload_n 1, 1) := by decide +kernel
theorem dJx4a65c_add_72be8_14 : decode cJx4a65c_add_72be8 14 = .ok (.aastore, 1) := by decide +kernel
theorem dJx4a65c_add_72be8_15 : decode cJx4a65c_add_72be8 15 = .ok (.aload_n 0, 1) := by decide +kernel
theorem dJx4a65c_add_72be8_16 : decode cJx4a65c_add_72be8 16 = .ok (.iload_n 3, 1) := by decide +kernel
theorem dJx4a65c_add_72be8_17 : decode cJx4a65c_add_72be8 17 = .ok (.iconst 1, 1) := by decide +kernel
theorem dJx4a65c_add_72be8_18 : decode cJx4a65c_add_72be8 18 = .ok (.iadd, 1) := by decide +kernel
theorem dJx4a65c_add_72be8_19 : decode cJx4a65c_add_72be8 19 = .ok (.putfield 48, 3) := by decide +kernel
theorem dJx4a65c_add_72be8_22 : decode cJx4a65c_add_72be8 22 = .ok (.return_, 1) := by decide +kernel
theorem dJx4a65c_add_9ea2d_0 : decode cJx4a65c_add_9ea2d 0 = .ok (.aload_n 0, 1) := by decide +kernel
theorem dJx4a65c_add_9ea2d_1 : decode cJx4a65c_add_9ea2d 1 = .ok (.dup, 1) := by decide +kernel
theorem dJx4a65c_add_9ea2d_2 : decode cJx4a65c_add_9ea2d 2 = .ok (.getfield 63, 3) := by decide +kernel
theorem dJx4a65c_add_9ea2d_5 : decode cJx4a65c_add_9ea2d 5 = .ok (.iconst 1, 1) := by decide +kernel
theorem dJx4a65c_add_9ea2d_6 : decode cJx4a65c_add_9ea2d 6 = .ok (.iadd, 1) := by decide +kernel
theorem dJx4a65c_add_9ea2d_7 : decode cJx4a65c_add_9ea2d 7 = .ok (.putfield 63, 3) := by decide +kernel
theorem dJx4a65c_add_9ea2d_10 : decode cJx4a65c_add_9ea2d 10 = .ok (.aload_n 0, 1) := by decide +kernel
theorem dJx4a65c_add_9ea2d_11 : decode cJx4a65c_add_9ea2d 11 = .ok (.aload_n 1, 1) := by decide +kernel
theorem dJx4a65c_add_9ea2d_12 : decode cJx4a65c_add_9ea2d 12 = .ok (.aload_n 0, 1) := by decide +kernel
theorem dJx4a65c_add_9ea2d_13 : decode cJx4a65c_add_9ea2d 13 = .ok (.getfield 9, 3) := by decide +kernel
theorem dJx4a65c_add_9ea2d_16 : decode cJx4a65c_add_9ea2d 16 = .ok (.aload_n 0, 1) := by decide +kernel
theorem dJx4a65c_add_9ea2d_17 : decode cJx4a65c_add_9ea2d 17 = .ok (.getfield 48, 3) := by decide +kernel
theorem dJx4a65c_add_9ea2d_20 : decode cJx4a65c_add_9ea2d 20 = .ok (.invokevirtual 131, 3) := by decide +kernel
theorem dJx4a65c_add_9ea2d_23 : decode cJx4a65c_add_9ea2d 23 = .ok (.iconst 1, 1) := by decide +kernel
theorem dJx4a65c_add_9ea2d_24 : decode cJx4a65c_add_9ea2d 24 = .ok (.ireturn, 1) := by decide +kernel
theorem dJ7_copyOf_1904c_0 : decode cJ7_copyOf_1904c 0 = .ok (.aload_n 0, 1) := by decide +kernel
theorem dJ7_copyOf_1904c_1 : decode cJ7_copyOf_1904c 1 = .ok (.iload_n 1, 1) := by decide +kernel
theorem dJ7_copyOf_1904c_2 : decode cJ7_copyOf_1904c 2 = .ok (.aload_n 0, 1) := by decide +kernel
theorem dJ7_copyOf_1904c_3 : decode cJ7_copyOf_1904c 3 = .ok (.invokevirtual 86, 3) := by decide +kernel
theorem dJ7_copyOf_1904c_6 : decode cJ7_copyOf_1904c 6 = .ok (.invokestatic 300, 3) := by decide +kernel
theorem dJ7_copyOf_1904c_9 : decode cJ7_copyOf_1904c 9 = .ok (.areturn, 1) := by decide +kernel
theorem dJ7_copyOf_6403c_0 : decode cJ7_copyOf_6403c 0 = .ok (.aload_n 2, 1) := by decide +kernel
theorem dJ7_copyOf_6403c_1 : decode cJ7_copyOf_6403c 1 = .ok (.ldc 110, 2) := by decide +kernel
theorem dJ7_copyOf_6403c_3 : decode cJ7_copyOf_6403c 3 = .ok (.if_acmp .ne 10, 3) := by decide +kernel
theorem dJ7_copyOf_6403c_6 : decode cJ7_copyOf_6403c 6 = .ok (.iload_n 1, 1) := by decide +kernel
theorem dJ7_copyOf_6403c_7 : decode cJ7_copyOf_6403c 7 = .ok (.anewarray 2, 3) := by decide +kernel
theorem dJ7_copyOf_6403c_10 : decode cJ7_copyOf_6403c 10 = .ok (.goto 14, 3) := by decide +kernel
theorem dJ7_copyOf_6403c_13 : decode cJ7_copyOf_6403c 13 = .ok (.aload_n 2, 1) := by decide +kernel
theorem dJ7_copyOf_6403c_14 : decode cJ7_copyOf_6403c 14 = .ok (.invokevirtual 90, 3) := by decide +kernel
theorem dJ7_copyOf_6403c_17 : decode cJ7_copyOf_6403c 17 = .ok (.iload_n 1, 1) := by decide +kernel
theorem dJ7_copyOf_6403c_18 : decode cJ7_copyOf_6403c 18 = .ok (.invokestatic 95, 3) := by decide +kernel
theorem dJ7_copyOf_6403c_21 : decode cJ7_copyOf_6403c 21 = .ok (.checkcast 110, 3) := by decide +kernel
theorem dJ7_copyOf_6403c_24 : decode cJ7_copyOf_6403c 24 = .ok (.astore_n 3, 1) := by decide +kernel
theorem dJ7_copyOf_6403c_25 : decode cJ7_copyOf_6403c 25 = .ok (.aload_n 0, 1) := by decide +kernel
theorem dJ7_copyOf_6403c_26 : decode cJ7_copyOf_6403c 26 = .ok (.iconst 0, 1) := by decide +kernel
theorem dJ7_copyOf_6403c_27 : decode cJ7_copyOf_6403c 27 = .ok (.aload_n 3, 1) := by decide +kernel
theorem dJ7_copyOf_6403c_28 : decode cJ7_copyOf_6403c 28 = .ok (.iconst 0, 1) := by decide +kernel
theorem dJ7_copyOf_6403c_29 : decode cJ7_copyOf_6403c 29 = .ok (.aload_n 0, 1) := by decide +kernel
theorem dJ7_copyOf_6403c_30 : decode cJ7_copyOf_6403c 30 = .ok (.arraylength, 1) := by decide +kernel
theorem dJ7_copyOf_6403c_31 : decode cJ7_copyOf_6403c 31 = .ok (.iload_n 1, 1) := by decide +kernel
theorem dJ7_copyOf_6403c_32 : decode cJ7_copyOf_6403c 32 = .ok (.invokestatic 304, 3) := by decide +kernel
theorem dJ7_copyOf_6403c_35 : decode cJ7_copyOf_6403c 35 = .ok (.invokestatic 150, 3) := by decide +kernel
theorem dJ7_copyOf_6403c_38 : decode cJ7_copyOf_6403c 38 = .ok (.aload_n 3, 1) := by decide +kernel
theorem dJ7_copyOf_6403c_39 : decode cJ7_copyOf_6403c 39 = .ok (.areturn, 1) := by decide +kernel
theorem dJ15_checkIndex_7cf53_0 : decode cJ15_checkIndex_7cf53 0 = .ok (.iload_n 0, 1) := by decide +kernel
theorem dJ15_checkIndex_7cf53_1 : decode cJ15_checkIndex_7cf53 1 = .ok (.iload_n 1, 1) := by decide +kernel
theorem dJ15_checkIndex_7cf53_2 : decode cJ15_checkIndex_7cf53 2 = .ok (.aconst_null, 1) := by decide +kernel
theorem dJ15_checkIndex_7cf53_3 : decode cJ15_checkIndex_7cf53 3 = .ok (.invokestatic 105, 3) := by decide +kernel
theorem dJ15_checkIndex_7cf53_6 : decode cJ15_checkIndex_7cf53 6 = .ok (.ireturn, 1) := by decide +kernel
theorem dJ8_newLength_cabcc_0 : decode cJ8_newLength_cabcc 0 = .ok (.iload_n 0, 1) := by decide +kernel
theorem dJ8_newLength_cabcc_1 : decode cJ8_newLength_cabcc 1 = .ok (.iload_n 1, 1) := by decide +kernel
theorem dJ8_newLength_cabcc_2 : decode cJ8_newLength_cabcc 2 = .ok (.iload_n 2, 1) := by decide +kernel
theorem dJ8_newLength_cabcc_3 : decode cJ8_newLength_cabcc 3 = .ok (.invokestatic 194, 3) := by decide +kernel
theorem dJ8_newLength_cabcc_6 : decode cJ8_newLength_cabcc 6 = .ok (.iadd, 1) := by decide +kernel
theorem dJ8_newLength_cabcc_7 : decode cJ8_newLength_cabcc 7 = .ok (.istore_n 3, 1) := by decide +kernel
theorem dJ8_newLength_cabcc_8 : decode cJ8_newLength_cabcc 8 = .ok (.iconst 0, 1) := by decide +kernel
theorem dJ8_newLength_cabcc_9 : decode cJ8_newLength_cabcc 9 = .ok (.iload_n 3, 1) := by decide +kernel
theorem dJ8_newLength_cabcc_10 : decode cJ8_newLength_cabcc 10 = .ok (.if_icmp .ge 11, 3) := by decide +kernel
theorem dJ8_newLength_cabcc_13 : decode cJ8_newLength_cabcc 13 = .ok (.iload_n 3, 1) := by decide +kernel
theorem dJ8_newLength_cabcc_14 : decode cJ8_newLength_cabcc 14 = .ok (.ldc 200, 2) := by decide +kernel
theorem dJ8_newLength_cabcc_16 : decode cJ8_newLength_cabcc 16 = .ok (.if_icmp .gt 5, 3) := by decide +kernel
theorem dJ8_newLength_cabcc_19 : decode cJ8_newLength_cabcc 19 = .ok (.iload_n 3, 1) := by decide +kernel
theorem dJ8_newLength_cabcc_20 : decode cJ8_newLength_cabcc 20 = .ok (.ireturn, 1) := by decide +kernel
theorem dJ8_newLength_cabcc_21 : decode cJ8_newLength_cabcc 21 = .ok (.iload_n 0, 1) := by decide +kernel
theorem dJ8_newLength_cabcc_22 : decode cJ8_newLength_cabcc 22 = .ok (.iload_n 1, 1) := by decide +kernel
theorem dJ8_newLength_cabcc_23 : decode cJ8_newLength_cabcc 23 = .ok (.invokestatic 201, 3) := by decide +kernel
theorem dJ8_newLength_cabcc_26 : decode cJ8_newLength_cabcc 26 = .ok (.ireturn, 1) := by decide +kernel
theorem dJ8_hugeLength_7cf53_0 : decode cJ8_hugeLength_7cf53 0 = .ok (.iload_n 0, 1) := by decide +kernel
theorem dJ8_hugeLength_7cf53_1 : decode cJ8_hugeLength_7cf53 1 = .ok (.iload_n 1, 1) := by decide +kernel
theorem dJ8_hugeLength_7cf53_2 : decode cJ8_hugeLength_7cf53 2 = .ok (.iadd, 1) := by decide +kernel
theorem dJ8_hugeLength_7cf53_3 : decode cJ8_hugeLength_7cf53 3 = .ok (.istore_n 2, 1) := by decide +kernel
theorem dJ8_hugeLength_7cf53_4 : decode cJ8_hugeLength_7cf53 4 = .ok (.iload_n 2, 1) := by decide +kernel
theorem dJ8_hugeLength_7cf53_5 : decode cJ8_hugeLength_7cf53 5 = .ok (.ifCond .ge 44, 3) := by decide +kernel
theorem dJ8_hugeLength_7cf53_8 : decode cJ8_hugeLength_7cf53 8 = .ok (.new 204, 3) := by decide +kernel
theorem dJ8_hugeLength_7cf53_11 : decode cJ8_hugeLength_7cf53 11 = .ok (.dup, 1) := by decide +kernel
theorem dJ8_hugeLength_7cf53_12 : decode cJ8_hugeLength_7cf53 12 = .ok (.new 89, 3) := by decide +kernel
theorem dJ8_hugeLength_7cf53_15 : decode cJ8_hugeLength_7cf53 15 = .ok (.dup, 1) := by decide +kernel
theorem dJ8_hugeLength_7cf53_16 : decode cJ8_hugeLength_7cf53 16 = .ok (.invokespecial 91, 3) := by decide +kernel
theorem dJ8_hugeLength_7cf53_19 : decode cJ8_hugeLength_7cf53 19 = .ok (.ldc 206, 2) := by decide +kernel
theorem dJ8_hugeLength_7cf53_21 : decode cJ8_hugeLength_7cf53 21 = .ok (.invokevirtual 94, 3) := by decide +kernel
theorem dJ8_hugeLength_7cf53_24 : decode cJ8_hugeLength_7cf53 24 = .ok (.iload_n 0, 1) := by decide +kernel
theorem dJ8_hugeLength_7cf53_25 : decode cJ8_hugeLength_7cf53 25 = .ok (.invokevirtual 98, 3) := by decide +kernel
theorem dJ8_hugeLength_7cf53_28 : decode cJ8_hugeLength_7cf53 28 = .ok (.ldc 208, 2) := by decide +kernel
theorem dJ8_hugeLength_7cf53_30 : decode cJ8_hugeLength_7cf53 30 = .ok (.invokevirtual 94, 3) := by decide +kernel
theorem dJ8_hugeLength_7cf53_33 : decode cJ8_hugeLength_7cf53 33 = .ok (.iload_n 1, 1) := by decide +kernel
theorem dJ8_hugeLength_7cf53_34 : decode cJ8_hugeLength_7cf53 34 = .ok (.invokevirtual 98, 3) := by decide +kernel
theorem dJ8_hugeLength_7cf53_37 : decode cJ8_hugeLength_7cf53 37 = .ok (.ldc 210, 2) := by decide +kernel
theorem dJ8_hugeLength_7cf53_39 : decode cJ8_hugeLength_7cf53 39 = .ok (.invokevirtual 94, 3) := by decide +kernel
theorem dJ8_hugeLength_7cf53_42 : decode cJ8_hugeLength_7cf53 42 = .ok (.invokevirtual 101, 3) := by decide +kernel
theorem dJ8_hugeLength_7cf53_45 : decode cJ8_hugeLength_7cf53 45 = .ok (.invokespecial 212, 3) := by decide +kernel
theorem dJ8_hugeLength_7cf53_48 : decode cJ8_hugeLength_7cf53 48 = .ok (.athrow, 1) := by decide +kernel
theorem dJ8_hugeLength_7cf53_49 : decode cJ8_hugeLength_7cf53 49 = .ok (.iload_n 2, 1) := by decide +kernel
theorem dJ8_hugeLength_7cf53_50 : decode cJ8_hugeLength_7cf53 50 = .ok (.ldc 200, 2) := by decide +kernel
theorem dJ8_hugeLength_7cf53_52 : decode cJ8_hugeLength_7cf53 52 = .ok (.if_icmp .gt 6, 3) := by decide +kernel
theorem dJ8_hugeLength_7cf53_55 : decode cJ8_hugeLength_7cf53 55 = .ok (.ldc 200, 2) := by decide +kernel
theorem dJ8_hugeLength_7cf53_57 : decode cJ8_hugeLength_7cf53 57 = .ok (.ireturn, 1) := by decide +kernel
theorem dJ8_hugeLength_7cf53_58 : decode cJ8_hugeLength_7cf53 58 = .ok (.iload_n 2, 1) := by decide +kernel
theorem dJ8_hugeLength_7cf53_59 : decode cJ8_hugeLength_7cf53 59 = .ok (.ireturn, 1) := by decide +kernel
theorem dJ3_checkIndex_8e157_0 : decode cJ3_checkIndex_8e157 0 = .ok (.iload_n 0, 1) := by decide +kernel
theorem dJ3_checkIndex_8e157_1 : decode cJ3_checkIndex_8e157 1 = .ok (.ifCond .lt 8, 3) := by decide +kernel
theorem dJ3_checkIndex_8e157_4 : decode cJ3_checkIndex_8e157 4 = .ok (.iload_n 0, 1) := by decide +kernel
theorem dJ3_checkIndex_8e157_5 : decode cJ3_checkIndex_8e157 5 = .ok (.iload_n 1, 1) := by decide +kernel
theorem dJ3_checkIndex_8e157_6 : decode cJ3_checkIndex_8e157 6 = .ok (.if_icmp .lt 10, 3) := by decide +kernel
theorem dJ3_checkIndex_8e157_9 : decode cJ3_checkIndex_8e157 9 = .ok (.aload_n 2, 1) := by decide +kernel
theorem dJ3_checkIndex_8e157_10 : decode cJ3_checkIndex_8e157 10 = .ok (.iload_n 0, 1) := by decide +kernel
theorem dJ3_checkIndex_8e157_11 : decode cJ3_checkIndex_8e157 11 = .ok (.iload_n 1, 1) := by decide +kernel
theorem dJ3_checkIndex_8e157_12 : decode cJ3_checkIndex_8e157 12 = .ok (.invokestatic 95, 3) := by decide +kernel
theorem dJ3_checkIndex_8e157_15 : decode cJ3_checkIndex_8e157 15 = .ok (.athrow, 1) := by decide +kernel
theorem dJ3_checkIndex_8e157_16 : decode cJ3_checkIndex_8e157 16 = .ok (.iload_n 0, 1) := by decide +kernel
theorem dJ3_checkIndex_8e157_17 : decode cJ3_checkIndex_8e157 17 = .ok (.ireturn, 1) := by decide +kernel
theorem dL_below_0 : decode cL_below 0 = .ok (.iload_n 0, 1) := by decide +kernel
theorem dL_below_1 : decode cL_below 1 = .ok (.ldc 7, 2) := by decide +kernel
theorem dL_below_3 : decode cL_below 3 = .ok (.iand, 1) := by decide +kernel
theorem dL_below_4 : decode cL_below 4 = .ok (.iload_n 1, 1) := by decide +kernel
theorem dL_below_5 : decode cL_below 5 = .ok (.irem, 1) := by decide +kernel
theorem dL_below_6 : decode cL_below 6 = .ok (.ireturn, 1) := by decide +kernel
theorem dL_cell_0 : decode cL_cell 0 = .ok (.iload_n 1, 1) := by decide +kernel
theorem dL_cell_1 : decode cL_cell 1 = .ok (.aload_n 0, 1) := by decide +kernel
theorem dL_cell_2 : decode cL_cell 2 = .ok (.arraylength, 1) := by decide +kernel
theorem dL_cell_3 : decode cL_cell 3 = .ok (.if_icmp .ge 9, 3) := by decide +kernel
theorem dL_cell_6 : decode cL_cell 6 = .ok (.aload_n 0, 1) := by decide +kernel
theorem dL_cell_7 : decode cL_cell 7 = .ok (.iload_n 1, 1) := by decide +kernel
theorem dL_cell_8 : decode cL_cell 8 = .ok (.iaload, 1) := by decide +kernel
theorem dL_cell_9 : decode cL_cell 9 = .ok (.goto 9, 3) := by decide +kernel
theorem dL_cell_12 : decode cL_cell 12 = .ok (.ldc 8, 2) := by decide +kernel
theorem dL_cell_14 : decode cL_cell 14 = .ok (.iload_n 1, 1) := by decide +kernel
theorem dL_cell_15 : decode cL_cell 15 = .ok (.iconst 3, 1) := by decide +kernel
theorem dL_cell_16 : decode cL_cell 16 = .ok (.iadd, 1) := by decide +kernel
theorem dL_cell_17 : decode cL_cell 17 = .ok (.imul, 1) := by decide +kernel
theorem dL_cell_18 : decode cL_cell 18 = .ok (.ireturn, 1) := by decide +kernel
theorem dL_law_0 : decode cL_law 0 = .ok (.new 9, 3) := by decide +kernel
theorem dL_law_3 : decode cL_law 3 = .ok (.dup, 1) := by decide +kernel
theorem dL_law_4 : decode cL_law 4 = .ok (.invokespecial 11, 3) := by decide +kernel
theorem dL_law_7 : decode cL_law 7 = .ok (.astore_n 1, 1) := by decide +kernel
theorem dL_law_8 : decode cL_law 8 = .ok (.iconst 1, 1) := by decide +kernel
theorem dL_law_9 : decode cL_law 9 = .ok (.aload_n 0, 1) := by decide +kernel
theorem dL_law_10 : decode cL_law 10 = .ok (.iconst 0, 1) := by decide +kernel
theorem dL_law_11 : decode cL_law 11 = .ok (.invokestatic 12, 3) := by decide +kernel
theorem dL_law_14 : decode cL_law 14 = .ok (.iconst 3, 1) := by decide +kernel
theorem dL_law_15 : decode cL_law 15 = .ok (.invokestatic 18, 3) := by decide +kernel
theorem dL_law_18 : decode cL_law 18 = .ok (.iadd, 1) := by decide +kernel
theorem dL_law_19 : decode cL_law 19 = .ok (.istore_n 2, 1) := by decide +kernel
theorem dL_law_20 : decode cL_law 20 = .ok (.iconst 0, 1) := by decide +kernel
theorem dL_law_21 : decode cL_law 21 = .ok (.istore_n 3, 1) := by decide +kernel
theorem dL_law_22 : decode cL_law 22 = .ok (.iload_n 3, 1) := by decide +kernel
theorem dL_law_23 : decode cL_law 23 = .ok (.iload_n 2, 1) := by decide +kernel
theorem dL_law_24 : decode cL_law 24 = .ok (.if_icmp .ge 80, 3) := by decide +kernel
theorem dL_law_27 : decode cL_law 27 = .ok (.aload_n 1, 1) := by decide +kernel
theorem dL_law_28 : decode cL_law 28 = .ok (.iconst 1, 1) := by decide +kernel
theorem dL_law_29 : decode cL_law 29 = .ok (.aload_n 0, 1) := by decide +kernel
theorem dL_law_30 : decode cL_law 30 = .ok (.iconst 1, 1) := by decide +kernel
theorem dL_law_31 : decode cL_law 31 = .ok (.invokestatic 12, 3) := by decide +kernel
theorem dL_law_34 : decode cL_law 34 = .ok (.iconst 3, 1) := by decide +kernel
theorem dL_law_35 : decode cL_law 35 = .ok (.iload_n 3, 1) := by decide +kernel
theorem dL_law_36 : decode cL_law 36 = .ok (.imul, 1) := by decide +kernel
theorem dL_law_37 : decode cL_law 37 = .ok (.ishr, 1) := by decide +kernel
theorem dL_law_38 : decode cL_law 38 = .ok (.bipush 9, 2) := by decide +kernel
theorem dL_law_40 : decode cL_law 40 = .ok (.invokestatic 18, 3) := by decide +kernel
theorem dL_law_43 : decode cL_law 43 = .ok (.iadd, 1) := by decide +kernel
theorem dL_law_44 : decode cL_law 44 = .ok (.aload_n 0, 1) := by decide +kernel
theorem dL_law_45 : decode cL_law 45 = .ok (.iconst 2, 1) := by decide +kernel
theorem dL_law_46 : decode cL_law 46 = .ok (.invokestatic 12, 3) := by decide +kernel
theorem dL_law_49 : decode cL_law 49 = .ok (.iconst 3, 1) := by decide +kernel
theorem dL_law_50 : decode cL_law 50 = .ok (.iload_n 3, 1) := by decide +kernel
theorem dL_law_51 : decode cL_law 51 = .ok (.imul, 1) := by decide +kernel
theorem dL_law_52 : decode cL_law 52 = .ok (.ishr, 1) := by decide +kernel
theorem dL_law_53 : decode cL_law 53 = .ok (.bipush 51, 2) := by decide +kernel
theorem dL_law_55 : decode cL_law 55 = .ok (.invokestatic 18, 3) := by decide +kernel
theorem dL_law_58 : decode cL_law 58 = .ok (.aload_n 0, 1) := by decide +kernel
theorem dL_law_59 : decode cL_law 59 = .ok (.iconst 3, 1) := by decide +kernel
theorem dL_law_60 : decode cL_law 60 = .ok (.invokestatic 12, 3) := by decide +kernel
theorem dL_law_63 : decode cL_law 63 = .ok (.iload_n 3, 1) := by decide +kernel
theorem dL_law_64 : decode cL_law 64 = .ok (.ishr, 1) := by decide +kernel
theorem dL_law_65 : decode cL_law 65 = .ok (.sipush 210, 3) := by decide +kernel
theorem dL_law_68 : decode cL_law 68 = .ok (.invokestatic 18, 3) := by decide +kernel
theorem dL_law_71 : decode cL_law 71 = .ok (.bipush 60, 2) := by decide +kernel
theorem dL_law_73 : decode cL_law 73 = .ok (.aload_n 0, 1) := by decide +kernel
theorem dL_law_74 : decode cL_law 74 = .ok (.iconst 3, 1) := by decide +kernel
theorem dL_law_75 : decode cL_law 75 = .ok (.invokestatic 12, 3) := by decide +kernel
theorem dL_law_78 : decode cL_law 78 = .ok (.iconst 3, 1) := by decide +kernel
theorem dL_law_79 : decode cL_law 79 = .ok (.iload_n 3, 1) := by decide +kernel
theorem dL_law_80 : decode cL_law 80 = .ok (.iadd, 1) := by decide +kernel
theorem dL_law_81 : decode cL_law 81 = .ok (.ishr, 1) := by decide +kernel
theorem dL_law_82 : decode cL_law 82 = .ok (.sipush 151, 3) := by decide +kernel
theorem dL_law_85 : decode cL_law 85 = .ok (.invokestatic 18, 3) := by decide +kernel
theorem dL_law_88 : decode cL_law 88 = .ok (.iadd, 1) := by decide +kernel
theorem dL_law_89 : decode cL_law 89 = .ok (.invokevirtual 22, 3) := by decide +kernel
theorem dL_law_92 : decode cL_law 92 = .ok (.iload_n 3, 1) := by decide +kernel
theorem dL_law_93 : decode cL_law 93 = .ok (.if_icmp .eq 5, 3) := by decide +kernel
theorem dL_law_96 : decode cL_law 96 = .ok (.iconst 0, 1) := by decide +kernel
theorem dL_law_97 : decode cL_law 97 = .ok (.ireturn, 1) := by decide +kernel
theorem dL_law_98 : decode cL_law 98 = .ok (.iinc 3 1, 3) := by decide +kernel
theorem dL_law_101 : decode cL_law 101 = .ok (.goto (-79), 3) := by decide +kernel
theorem dL_law_104 : decode cL_law 104 = .ok (.iconst 1, 1) := by decide +kernel
theorem dL_law_105 : decode cL_law 105 = .ok (.aload_n 0, 1) := by decide +kernel
theorem dL_law_106 : decode cL_law 106 = .ok (.iconst 4, 1) := by decide +kernel
theorem dL_law_107 : decode cL_law 107 = .ok (.invokestatic 12, 3) := by decide +kernel
theorem dL_law_110 : decode cL_law 110 = .ok (.bipush 9, 2) := by decide +kernel
theorem dL_law_112 : decode cL_law 112 = .ok (.invokestatic 18, 3) := by decide +kernel
theorem dL_law_115 : decode cL_law 115 = .ok (.iadd, 1) := by decide +kernel
theorem dL_law_116 : decode cL_law 116 = .ok (.istore_n 3, 1) := by decide +kernel
theorem dL_law_117 : decode cL_law 117 = .ok (.bipush 9, 2) := by decide +kernel
theorem dL_law_119 : decode cL_law 119 = .ok (.newarray .int, 2) := by decide +kernel
theorem dL_law_121 : decode cL_law 121 = .ok (.astore 4, 2) := by decide +kernel
theorem dL_law_123 : decode cL_law 123 = .ok (.bipush 9, 2) := by decide +kernel
theorem dL_law_125 : decode cL_law 125 = .ok (.newarray .int, 2) := by decide +kernel
theorem dL_law_127 : decode cL_law 127 = .ok (.astore 5, 2) := by decide +kernel
theorem dL_law_129 : decode cL_law 129 = .ok (.iconst 0, 1) := by decide +kernel
theorem dL_law_130 : decode cL_law 130 = .ok (.istore 6, 2) := by decide +kernel
theorem dL_law_132 : decode cL_law 132 = .ok (.iload 6, 2) := by decide +kernel
theorem dL_law_134 : decode cL_law 134 = .ok (.iload_n 3, 1) := by decide +kernel
theorem dL_law_135 : decode cL_law 135 = .ok (.if_icmp .ge 98, 3) := by decide +kernel
theorem dL_law_138 : decode cL_law 138 = .ok (.aload 4, 2) := by decide +kernel
theorem dL_law_140 : decode cL_law 140 = .ok (.iload 6, 2) := by decide +kernel
theorem dL_law_142 : decode cL_law 142 = .ok (.iconst 5, 1) := by decide +kernel
theorem dL_law_143 : decode cL_law 143 = .ok (.aload_n 0, 1) := by decide +kernel
theorem dL_law_144 : decode cL_law 144 = .ok (.iconst 5, 1) := by decide +kernel
theorem dL_law_145 : decode cL_law 145 = .ok (.invokestatic 12, 3) := by decide +kernel
theorem dL_law_148 : decode cL_law 148 = .ok (.iload 6, 2) := by decide +kernel
theorem dL_law_150 : decode cL_law 150 = .ok (.ishr, 1) := by decide +kernel
theorem dL_law_151 : decode cL_law 151 = .ok (.bipush 56, 2) := by decide +kernel
theorem dL_law_153 : decode cL_law 153 = .ok (.invokestatic 18, 3) := by decide +kernel
theorem dL_law_156 : decode cL_law 156 = .ok (.iadd, 1) := by decide +kernel
theorem dL_law_157 : decode cL_law 157 = .ok (.iastore, 1) := by decide +kernel
theorem dL_law_158 : decode cL_law 158 = .ok (.aload_n 1, 1) := by decide +kernel
theorem dL_law_159 : decode cL_law 159 = .ok (.aload_n 0, 1) := by decide +kernel
theorem dL_law_160 : decode cL_law 160 = .ok (.bipush 6, 2) := by decide +kernel
theorem dL_law_162 : decode cL_law 162 = .ok (.invokestatic 12, 3) := by decide +kernel
theorem dL_law_165 : decode cL_law 165 = .ok (.iload 6, 2) := by decide +kernel
theorem dL_law_167 : decode cL_law 167 = .ok (.ishr, 1) := by decide +kernel
theorem dL_law_168 : decode cL_law 168 = .ok (.iload_n 2, 1) := by decide +kernel
theorem dL_law_169 : decode cL_law 169 = .ok (.invokestatic 18, 3) := by decide +kernel
theorem dL_law_172 : decode cL_law 172 = .ok (.iconst 1, 1) := by decide +kernel
theorem dL_law_173 : decode cL_law 173 = .ok (.aload_n 0, 1) := by decide +kernel
theorem dL_law_174 : decode cL_law 174 = .ok (.bipush 7, 2) := by decide +kernel
theorem dL_law_176 : decode cL_law 176 = .ok (.invokestatic 12, 3) := by decide +kernel
theorem dL_law_179 : decode cL_law 179 = .ok (.iload 6, 2) := by decide +kernel
theorem dL_law_181 : decode cL_law 181 = .ok (.ishr, 1) := by decide +kernel
theorem dL_law_182 : decode cL_law 182 = .ok (.bipush 9, 2) := by decide +kernel
theorem dL_law_184 : decode cL_law 184 = .ok (.invokestatic 18, 3) := by decide +kernel
theorem dL_law_187 : decode cL_law 187 = .ok (.iadd, 1) := by decide +kernel
theorem dL_law_188 : decode cL_law 188 = .ok (.aload 4, 2) := by decide +kernel
theorem dL_law_190 : decode cL_law 190 = .ok (.iload 6, 2) := by decide +kernel
theorem dL_law_192 : decode cL_law 192 = .ok (.iaload, 1) := by decide +kernel
theorem dL_law_193 : decode cL_law 193 = .ok (.invokevirtual 26, 3) := by decide +kernel
theorem dL_law_196 : decode cL_law 196 = .ok (.iload 6, 2) := by decide +kernel
theorem dL_law_198 : decode cL_law 198 = .ok (.if_icmp .eq 5, 3) := by decide +kernel
theorem dL_law_201 : decode cL_law 201 = .ok (.iconst 0, 1) := by decide +kernel
theorem dL_law_202 : decode cL_law 202 = .ok (.ireturn, 1) := by decide +kernel
theorem dL_law_203 : decode cL_law 203 = .ok (.aload_n 0, 1) := by decide +kernel
theorem dL_law_204 : decode cL_law 204 = .ok (.bipush 8, 2) := by decide +kernel
theorem dL_law_206 : decode cL_law 206 = .ok (.invokestatic 12, 3) := by decide +kernel
theorem dL_law_209 : decode cL_law 209 = .ok (.iload 6, 2) := by decide +kernel
theorem dL_law_211 : decode cL_law 211 = .ok (.ishr, 1) := by decide +kernel
theorem dL_law_212 : decode cL_law 212 = .ok (.iconst 4, 1) := by decide +kernel
theorem dL_law_213 : decode cL_law 213 = .ok (.invokestatic 18, 3) := by decide +kernel
theorem dL_law_216 : decode cL_law 216 = .ok (.ifCond .le 11, 3) := by decide +kernel
theorem dL_law_219 : decode cL_law 219 = .ok (.aload_n 1, 1) := by decide +kernel
theorem dL_law_220 : decode cL_law 220 = .ok (.iload 6, 2) := by decide +kernel
theorem dL_law_222 : decode cL_law 222 = .ok (.iconst 1, 1) := by decide +kernel
theorem dL_law_223 : decode cL_law 223 = .ok (.invokevirtual 30, 3) := by decide +kernel
theorem dL_law_226 : decode cL_law 226 = .ok (.pop, 1) := by decide +kernel
theorem dL_law_227 : decode cL_law 227 = .ok (.iinc 6 1, 3) := by decide +kernel
theorem dL_law_230 : decode cL_law 230 = .ok (.goto (-98), 3) := by decide +kernel
theorem dL_law_233 : decode cL_law 233 = .ok (.iconst 0, 1) := by decide +kernel
theorem dL_law_234 : decode cL_law 234 = .ok (.istore 6, 2) := by decide +kernel
theorem dL_law_236 : decode cL_law 236 = .ok (.iconst 0, 1) := by decide +kernel
theorem dL_law_237 : decode cL_law 237 = .ok (.istore 7, 2) := by decide +kernel
theorem dL_law_239 : decode cL_law 239 = .ok (.iconst 0, 1) := by decide +kernel
theorem dL_law_240 : decode cL_law 240 = .ok (.istore 8, 2) := by decide +kernel
theorem dL_law_242 : decode cL_law 242 = .ok (.iload 8, 2) := by decide +kernel
theorem dL_law_244 : decode cL_law 244 = .ok (.bipush 76, 2) := by decide +kernel
theorem dL_law_246 : decode cL_law 246 = .ok (.if_icmp .ge 743, 3) := by decide +kernel
theorem dL_law_249 : decode cL_law 249 = .ok (.aload_n 0, 1) := by decide +kernel
theorem dL_law_250 : decode cL_law 250 = .ok (.bipush 9, 2) := by decide +kernel
theorem dL_law_252 : decode cL_law 252 = .ok (.iload 8, 2) := by decide +kernel
theorem dL_law_254 : decode cL_law 254 = .ok (.bipush 20, 2) := by decide +kernel
theorem dL_law_256 : decode cL_law 256 = .ok (.irem, 1) := by decide +kernel
theorem dL_law_257 : decode cL_law 257 = .ok (.iadd, 1) := by decide +kernel
theorem dL_law_258 : decode cL_law 258 = .ok (.invokestatic 12, 3) := by decide +kernel
theorem dL_law_261 : decode cL_law 261 = .ok (.iload 8, 2) := by decide +kernel
theorem dL_law_263 : decode cL_law 263 = .ok (.bipush 20, 2) := by decide +kernel
theorem dL_law_265 : decode cL_law 265 = .ok (.idiv, 1) := by decide +kernel
theorem dL_law_266 : decode cL_law 266 = .ok (.iconst 3, 1) := by decide +kernel
theorem dL_law_267 : decode cL_law 267 = .ok (.imul, 1) := by decide +kernel
theorem dL_law_268 : decode cL_law 268 = .ok (.ishr, 1) := by decide +kernel
theorem dL_law_269 : decode cL_law 269 = .ok (.istore 9, 2) := by decide +kernel
theorem dL_law_271 : decode cL_law 271 = .ok (.iload 9, 2) := by decide +kernel
theorem dL_law_273 : decode cL_law 273 = .ok (.iconst 4, 1) := by decide +kernel
theorem dL_law_274 : decode cL_law 274 = .ok (.ishr, 1) := by decide +kernel
theorem dL_law_275 : decode cL_law 275 = .ok (.iload_n 3, 1) := by decide +kernel
theorem dL_law_276 : decode cL_law 276 = .ok (.invokestatic 18, 3) := by decide +kernel
theorem dL_law_279 : decode cL_law 279 = .ok (.istore 10, 2) := by decide +kernel
theorem dL_law_281 : decode cL_law 281 = .ok (.iload 9, 2) := by decide +kernel
theorem dL_law_283 : decode cL_law 283 = .ok (.iconst 5, 1) := by decide +kernel
theorem dL_law_284 : decode cL_law 284 = .ok (.ishr, 1) := by decide +kernel
theorem dL_law_285 : decode cL_law 285 = .ok (.iload_n 2, 1) := by decide +kernel
theorem dL_law_286 : decode cL_law 286 = .ok (.invokestatic 18, 3) := by decide +kernel
theorem dL_law_289 : decode cL_law 289 = .ok (.istore 11, 2) := by decide +kernel
theorem dL_law_291 : decode cL_law 291 = .ok (.iload 9, 2) := by decide +kernel
theorem dL_law_293 : decode cL_law 293 = .ok (.bipush 16, 2) := by decide +kernel
theorem dL_law_295 : decode cL_law 295 = .ok (.invokestatic 18, 3) := by decide +kernel
theorem dL_law_298 : decode cL_law 298 = .ok (.tableswitch 525 0 11 #[62, 139, 160, 187, 200, 227, 256, 294, 294, 294, 389, 389], 62) := by decide +kernel
theorem dL_law_360 : decode cL_law 360 = .ok (.aload_n 1, 1) := by decide +kernel
theorem dL_law_361 : decode cL_law 361 = .ok (.iload 10, 2) := by decide +kernel
theorem dL_law_363 : decode cL_law 363 = .ok (.bipush 13, 2) := by decide +kernel
theorem dL_law_365 : decode cL_law 365 = .ok (.invokevirtual 34, 3) := by decide +kernel
theorem dL_law_368 : decode cL_law 368 = .ok (.iconst 1, 1) := by decide +kernel
theorem dL_law_369 : decode cL_law 369 = .ok (.if_icmp .ne 7, 3) := by decide +kernel
theorem dL_law_372 : decode cL_law 372 = .ok (.iconst 1, 1) := by decide +kernel
theorem dL_law_373 : decode cL_law 373 = .ok (.goto 4, 3) := by decide +kernel
theorem dL_law_376 : decode cL_law 376 = .ok (.iconst 0, 1) := by decide +kernel
theorem dL_law_377 : decode cL_law 377 = .ok (.istore 12, 2) := by decide +kernel
theorem dL_law_379 : decode cL_law 379 = .ok (.aload_n 1, 1) := by decide +kernel
theorem dL_law_380 : decode cL_law 380 = .ok (.iload 10, 2) := by decide +kernel
theorem dL_law_382 : decode cL_law 382 = .ok (.iload 9, 2) := by decide +kernel
theorem dL_law_384 : decode cL_law 384 = .ok (.bipush 6, 2) := by decide +kernel
theorem dL_law_386 : decode cL_law 386 = .ok (.ishr, 1) := by decide +kernel
theorem dL_law_387 : decode cL_law 387 = .ok (.iconst 3, 1) := by decide +kernel
theorem dL_law_388 : decode cL_law 388 = .ok (.invokestatic 18, 3) := by decide +kernel
theorem dL_law_391 : decode cL_law 391 = .ok (.ifCond .le 7, 3) := by decide +kernel
theorem dL_law_394 : decode cL_law 394 = .ok (.iconst 1, 1) := by decide +kernel
theorem dL_law_395 : decode cL_law 395 = .ok (.goto 4, 3) := by decide +kernel
theorem dL_law_398 : decode cL_law 398 = .ok (.iconst 0, 1) := by decide +kernel
theorem dL_law_399 : decode cL_law 399 = .ok (.invokevirtual 30, 3) := by decide +kernel
theorem dL_law_402 : decode cL_law 402 = .ok (.iload 12, 2) := by decide +kernel
theorem dL_law_404 : decode cL_law 404 = .ok (.if_icmp .ne 31, 3) := by decide +kernel
theorem dL_law_407 : decode cL_law 407 = .ok (.aload_n 1, 1) := by decide +kernel
theorem dL_law_408 : decode cL_law 408 = .ok (.iload 10, 2) := by decide +kernel
theorem dL_law_410 : decode cL_law 410 = .ok (.bipush 13, 2) := by decide +kernel
theorem dL_law_412 : decode cL_law 412 = .ok (.invokevirtual 34, 3) := by decide +kernel
theorem dL_law_415 : decode cL_law 415 = .ok (.iload 9, 2) := by decide +kernel
theorem dL_law_417 : decode cL_law 417 = .ok (.bipush 6, 2) := by decide +kernel
theorem dL_law_419 : decode cL_law 419 = .ok (.ishr, 1) := by decide +kernel
theorem dL_law_420 : decode cL_law 420 = .ok (.iconst 3, 1) := by decide +kernel
theorem dL_law_421 : decode cL_law 421 = .ok (.invokestatic 18, 3) := by decide +kernel
theorem dL_law_424 : decode cL_law 424 = .ok (.ifCond .le 7, 3) := by decide +kernel
theorem dL_law_427 : decode cL_law 427 = .ok (.iconst 1, 1) := by decide +kernel
theorem dL_law_428 : decode cL_law 428 = .ok (.goto 4, 3) := by decide +kernel
theorem dL_law_431 : decode cL_law 431 = .ok (.iconst 0, 1) := by decide +kernel
theorem dL_law_432 : decode cL_law 432 = .ok (.if_icmp .eq 452, 3) := by decide +kernel
theorem dL_law_435 : decode cL_law 435 = .ok (.iconst 0, 1) := by decide +kernel
theorem dL_law_436 : decode cL_law 436 = .ok (.ireturn, 1) := by decide +kernel
theorem dL_law_437 : decode cL_law 437 = .ok (.aload_n 1, 1) := by decide +kernel
theorem dL_law_438 : decode cL_law 438 = .ok (.iload 10, 2) := by decide +kernel
theorem dL_law_440 : decode cL_law 440 = .ok (.iload 9, 2) := by decide +kernel
theorem dL_law_442 : decode cL_law 442 = .ok (.bipush 6, 2) := by decide +kernel
theorem dL_law_444 : decode cL_law 444 = .ok (.ishr, 1) := by decide +kernel
theorem dL_law_445 : decode cL_law 445 = .ok (.bipush 6, 2) := by decide +kernel
theorem dL_law_447 : decode cL_law 447 = .ok (.invokestatic 18, 3) := by decide +kernel
theorem dL_law_450 : decode cL_law 450 = .ok (.invokevirtual 37, 3) := by decide +kernel
theorem dL_law_453 : decode cL_law 453 = .ok (.ifCond .ge 431, 3) := by decide +kernel
theorem dL_law_456 : decode cL_law 456 = .ok (.iconst 0, 1) := by decide +kernel
theorem dL_law_457 : decode cL_law 457 = .ok (.ireturn, 1) := by decide +kernel
theorem dL_law_458 : decode cL_law 458 = .ok (.aload_n 1, 1) := by decide +kernel
theorem dL_law_459 : decode cL_law 459 = .ok (.iload 11, 2) := by decide +kernel
theorem dL_law_461 : decode cL_law 461 = .ok (.iload 9, 2) := by decide +kernel
theorem dL_law_463 : decode cL_law 463 = .ok (.bipush 6, 2) := by decide +kernel
theorem dL_law_465 : decode cL_law 465 = .ok (.ishr, 1) := by decide +kernel
theorem dL_law_466 : decode cL_law 466 = .ok (.iconst 2, 1) := by decide +kernel
theorem dL_law_467 : decode cL_law 467 = .ok (.invokestatic 18, 3) := by decide +kernel
theorem dL_law_470 : decode cL_law 470 = .ok (.ifCond .ne 7, 3) := by decide +kernel
theorem dL_law_473 : decode cL_law 473 = .ok (.iconst 1, 1) := by decide +kernel
theorem dL_law_474 : decode cL_law 474 = .ok (.goto 4, 3) := by decide +kernel
theorem dL_law_477 : decode cL_law 477 = .ok (.iconst 0, 1) := by decide +kernel
theorem dL_law_478 : decode cL_law 478 = .ok (.invokevirtual 40, 3) := by decide +kernel
theorem dL_law_481 : decode cL_law 481 = .ok (.pop, 1) := by decide +kernel
theorem dL_law_482 : decode cL_law 482 = .ok (.goto 402, 3) := by decide +kernel
theorem dL_law_485 : decode cL_law 485 = .ok (.aload_n 1, 1) := by decide +kernel
theorem dL_law_486 : decode cL_law 486 = .ok (.iload 11, 2) := by decide +kernel
theorem dL_law_488 : decode cL_law 488 = .ok (.invokevirtual 43, 3) := by decide +kernel
theorem dL_law_491 : decode cL_law 491 = .ok (.iconst 5, 1) := by decide +kernel
theorem dL_law_492 : decode cL_law 492 = .ok (.irem, 1) := by decide +kernel
theorem dL_law_493 : decode cL_law 493 = .ok (.ifCond .eq 391, 3) := by decide +kernel
theorem dL_law_496 : decode cL_law 496 = .ok (.iconst 0, 1) := by decide +kernel
theorem dL_law_497 : decode cL_law 497 = .ok (.ireturn, 1) := by decide +kernel
theorem dL_law_498 : decode cL_law 498 = .ok (.aload_n 1, 1) := by decide +kernel
theorem dL_law_499 : decode cL_law 499 = .ok (.iload 10, 2) := by decide +kernel
theorem dL_law_501 : decode cL_law 501 = .ok (.iload 9, 2) := by decide +kernel
theorem dL_law_503 : decode cL_law 503 = .ok (.bipush 6, 2) := by decide +kernel
theorem dL_law_505 : decode cL_law 505 = .ok (.ishr, 1) := by decide +kernel
theorem dL_law_506 : decode cL_law 506 = .ok (.iconst 2, 1) := by decide +kernel
theorem dL_law_507 : decode cL_law 507 = .ok (.invokestatic 18, 3) := by decide +kernel
theorem dL_law_510 : decode cL_law 510 = .ok (.ifCond .ne 7, 3) := by decide +kernel
theorem dL_law_513 : decode cL_law 513 = .ok (.iconst 1, 1) := by decide +kernel
theorem dL_law_514 : decode cL_law 514 = .ok (.goto 4, 3) := by decide +kernel
theorem dL_law_517 : decode cL_law 517 = .ok (.iconst 0, 1) := by decide +kernel
theorem dL_law_518 : decode cL_law 518 = .ok (.invokevirtual 47, 3) := by decide +kernel
theorem dL_law_521 : decode cL_law 521 = .ok (.pop, 1) := by decide +kernel
theorem dL_law_522 : decode cL_law 522 = .ok (.goto 362, 3) := by decide +kernel
theorem dL_law_525 : decode cL_law 525 = .ok (.aload_n 1, 1) := by decide +kernel
theorem dL_law_526 : decode cL_law 526 = .ok (.iload 11, 2) := by decide +kernel
theorem dL_law_528 : decode cL_law 528 = .ok (.invokevirtual 51, 3) := by decide +kernel
theorem dL_law_531 : decode cL_law 531 = .ok (.aload_n 1, 1) := by decide +kernel
theorem dL_law_532 : decode cL_law 532 = .ok (.iload 11, 2) := by decide +kernel
theorem dL_law_534 : decode cL_law 534 = .ok (.bipush 6, 2) := by decide +kernel
theorem dL_law_536 : decode cL_law 536 = .ok (.invokevirtual 54, 3) := by decide +kernel
theorem dL_law_539 : decode cL_law 539 = .ok (.if_icmp .gt 13, 3) := by decide +kernel
theorem dL_law_542 : decode cL_law 542 = .ok (.aload_n 1, 1) := by decide +kernel
theorem dL_law_543 : decode cL_law 543 = .ok (.iload 11, 2) := by decide +kernel
theorem dL_law_545 : decode cL_law 545 = .ok (.iconst 5, 1) := by decide +kernel
theorem dL_law_546 : decode cL_law 546 = .ok (.invokevirtual 54, 3) := by decide +kernel
theorem dL_law_549 : decode cL_law 549 = .ok (.ifCond .eq 335, 3) := by decide +kernel
theorem dL_law_552 : decode cL_law 552 = .ok (.iconst 0, 1) := by decide +kernel
theorem dL_law_553 : decode cL_law 553 = .ok (.ireturn, 1) := by decide +kernel
theorem dL_law_554 : decode cL_law 554 = .ok (.aload_n 1, 1) := by decide +kernel
theorem dL_law_555 : decode cL_law 555 = .ok (.iload 10, 2) := by decide +kernel
theorem dL_law_557 : decode cL_law 557 = .ok (.iconst 2, 1) := by decide +kernel
theorem dL_law_558 : decode cL_law 558 = .ok (.invokevirtual 57, 3) := by decide +kernel
theorem dL_law_561 : decode cL_law 561 = .ok (.ifCond .ne 6, 3) := by decide +kernel
theorem dL_law_564 : decode cL_law 564 = .ok (.goto 320, 3) := by decide +kernel
theorem dL_law_567 : decode cL_law 567 = .ok (.aload_n 1, 1) := by decide +kernel
theorem dL_law_568 : decode cL_law 568 = .ok (.iload 10, 2) := by decide +kernel
theorem dL_law_570 : decode cL_law 570 = .ok (.iconst 1, 1) := by decide +kernel
theorem dL_law_571 : decode cL_law 571 = .ok (.invokevirtual 60, 3) := by decide +kernel
theorem dL_law_574 : decode cL_law 574 = .ok (.aload_n 1, 1) := by decide +kernel
theorem dL_law_575 : decode cL_law 575 = .ok (.iload 10, 2) := by decide +kernel
theorem dL_law_577 : decode cL_law 577 = .ok (.iconst 0, 1) := by decide +kernel
theorem dL_law_578 : decode cL_law 578 = .ok (.invokevirtual 57, 3) := by decide +kernel
theorem dL_law_581 : decode cL_law 581 = .ok (.if_icmp .eq 5, 3) := by decide +kernel
theorem dL_law_584 : decode cL_law 584 = .ok (.iconst 0, 1) := by decide +kernel
theorem dL_law_585 : decode cL_law 585 = .ok (.ireturn, 1) := by decide +kernel
theorem dL_law_586 : decode cL_law 586 = .ok (.iinc 6 1, 3) := by decide +kernel
theorem dL_law_589 : decode cL_law 589 = .ok (.goto 295, 3) := by decide +kernel
theorem dL_law_592 : decode cL_law 592 = .ok (.aload_n 1, 1) := by decide +kernel
theorem dL_law_593 : decode cL_law 593 = .ok (.iload 10, 2) := by decide +kernel
theorem dL_law_595 : decode cL_law 595 = .ok (.iconst 4, 1) := by decide +kernel
theorem dL_law_596 : decode cL_law 596 = .ok (.invokevirtual 34, 3) := by decide +kernel
theorem dL_law_599 : decode cL_law 599 = .ok (.ifCond .ne 22, 3) := by decide +kernel
theorem dL_law_602 : decode cL_law 602 = .ok (.aload_n 1, 1) := by decide +kernel
theorem dL_law_603 : decode cL_law 603 = .ok (.iload 10, 2) := by decide +kernel
theorem dL_law_605 : decode cL_law 605 = .ok (.iconst 1, 1) := by decide +kernel
theorem dL_law_606 : decode cL_law 606 = .ok (.invokevirtual 34, 3) := by decide +kernel
theorem dL_law_609 : decode cL_law 609 = .ok (.bipush 10, 2) := by decide +kernel
theorem dL_law_611 : decode cL_law 611 = .ok (.if_icmp .lt 10, 3) := by decide +kernel
theorem dL_law_614 : decode cL_law 614 = .ok (.aload_n 1, 1) := by decide +kernel
theorem dL_law_615 : decode cL_law 615 = .ok (.iload 10, 2) := by decide +kernel
theorem dL_law_617 : decode cL_law 617 = .ok (.invokevirtual 63, 3) := by decide +kernel
theorem dL_law_620 : decode cL_law 620 = .ok (.pop, 1) := by decide +kernel
theorem dL_law_621 : decode cL_law 621 = .ok (.aload_n 1, 1) := by decide +kernel
theorem dL_law_622 : decode cL_law 622 = .ok (.iload 9, 2) := by decide +kernel
theorem dL_law_624 : decode cL_law 624 = .ok (.bipush 6, 2) := by decide +kernel
theorem dL_law_626 : decode cL_law 626 = .ok (.ishr, 1) := by decide +kernel
theorem dL_law_627 : decode cL_law 627 = .ok (.iload_n 3, 1) := by decide +kernel
theorem dL_law_628 : decode cL_law 628 = .ok (.invokestatic 18, 3) := by decide +kernel
theorem dL_law_631 : decode cL_law 631 = .ok (.iload 10, 2) := by decide +kernel
theorem dL_law_633 : decode cL_law 633 = .ok (.invokevirtual 66, 3) := by decide +kernel
theorem dL_law_636 : decode cL_law 636 = .ok (.pop, 1) := by decide +kernel
theorem dL_law_637 : decode cL_law 637 = .ok (.aload_n 1, 1) := by decide +kernel
theorem dL_law_638 : decode cL_law 638 = .ok (.iload 10, 2) := by decide +kernel
theorem dL_law_640 : decode cL_law 640 = .ok (.iconst 4, 1) := by decide +kernel
theorem dL_law_641 : decode cL_law 641 = .ok (.invokevirtual 34, 3) := by decide +kernel
theorem dL_law_644 : decode cL_law 644 = .ok (.iconst 1, 1) := by decide +kernel
theorem dL_law_645 : decode cL_law 645 = .ok (.if_icmp .ne 239, 3) := by decide +kernel
theorem dL_law_648 : decode cL_law 648 = .ok (.aload_n 1, 1) := by decide +kernel
theorem dL_law_649 : decode cL_law 649 = .ok (.iconst 4, 1) := by decide +kernel
theorem dL_law_650 : decode cL_law 650 = .ok (.invokevirtual 69, 3) := by decide +kernel
theorem dL_law_653 : decode cL_law 653 = .ok (.ifCond .ne 231, 3) := by decide +kernel
theorem dL_law_656 : decode cL_law 656 = .ok (.aload_n 1, 1) := by decide +kernel
theorem dL_law_657 : decode cL_law 657 = .ok (.iload 10, 2) := by decide +kernel
theorem dL_law_659 : decode cL_law 659 = .ok (.bipush 11, 2) := by decide +kernel
theorem dL_law_661 : decode cL_law 661 = .ok (.invokevirtual 34, 3) := by decide +kernel
theorem dL_law_664 : decode cL_law 664 = .ok (.iconst 3, 1) := by decide +kernel
theorem dL_law_665 : decode cL_law 665 = .ok (.if_icmp .lt 219, 3) := by decide +kernel
theorem dL_law_668 : decode cL_law 668 = .ok (.aload_n 1, 1) := by decide +kernel
theorem dL_law_669 : decode cL_law 669 = .ok (.iload 10, 2) := by decide +kernel
theorem dL_law_671 : decode cL_law 671 = .ok (.iload 9, 2) := by decide +kernel
theorem dL_law_673 : decode cL_law 673 = .ok (.bipush 6, 2) := by decide +kernel
theorem dL_law_675 : decode cL_law 675 = .ok (.ishr, 1) := by decide +kernel
theorem dL_law_676 : decode cL_law 676 = .ok (.iconst 3, 1) := by decide +kernel
theorem dL_law_677 : decode cL_law 677 = .ok (.invokestatic 18, 3) := by decide +kernel
theorem dL_law_680 : decode cL_law 680 = .ok (.invokevirtual 72, 3) := by decide +kernel
theorem dL_law_683 : decode cL_law 683 = .ok (.pop, 1) := by decide +kernel
theorem dL_law_684 : decode cL_law 684 = .ok (.goto 200, 3) := by decide +kernel
theorem dL_law_687 : decode cL_law 687 = .ok (.aload_n 1, 1) := by decide +kernel
theorem dL_law_688 : decode cL_law 688 = .ok (.iload 10, 2) := by decide +kernel
theorem dL_law_690 : decode cL_law 690 = .ok (.iconst 4, 1) := by decide +kernel
theorem dL_law_691 : decode cL_law 691 = .ok (.invokevirtual 34, 3) := by decide +kernel
theorem dL_law_694 : decode cL_law 694 = .ok (.iconst 5, 1) := by decide +kernel
theorem dL_law_695 : decode cL_law 695 = .ok (.if_icmp .ge 6, 3) := by decide +kernel
theorem dL_law_698 : decode cL_law 698 = .ok (.goto 186, 3) := by decide +kernel
theorem dL_law_701 : decode cL_law 701 = .ok (.aload_n 1, 1) := by decide +kernel
theorem dL_law_702 : decode cL_law 702 = .ok (.iload 10, 2) := by decide +kernel
theorem dL_law_704 : decode cL_law 704 = .ok (.bipush 10, 2) := by decide +kernel
theorem dL_law_706 : decode cL_law 706 = .ok (.invokevirtual 34, 3) := by decide +kernel
theorem dL_law_709 : decode cL_law 709 = .ok (.istore 12, 2) := by decide +kernel
theorem dL_law_711 : decode cL_law 711 = .ok (.aload_n 1, 1) := by decide +kernel
theorem dL_law_712 : decode cL_law 712 = .ok (.iload 10, 2) := by decide +kernel
theorem dL_law_714 : decode cL_law 714 = .ok (.invokevirtual 75, 3) := by decide +kernel
theorem dL_law_717 : decode cL_law 717 = .ok (.istore 13, 2) := by decide +kernel
theorem dL_law_719 : decode cL_law 719 = .ok (.iload 13, 2) := by decide +kernel
theorem dL_law_721 : decode cL_law 721 = .ok (.iload 12, 2) := by decide +kernel
theorem dL_law_723 : decode cL_law 723 = .ok (.bipush 110, 2) := by decide +kernel
theorem dL_law_725 : decode cL_law 725 = .ok (.imul, 1) := by decide +kernel
theorem dL_law_726 : decode cL_law 726 = .ok (.bipush 100, 2) := by decide +kernel
theorem dL_law_728 : decode cL_law 728 = .ok (.idiv, 1) := by decide +kernel
theorem dL_law_729 : decode cL_law 729 = .ok (.if_icmp .gt 40, 3) := by decide +kernel
theorem dL_law_732 : decode cL_law 732 = .ok (.iload 13, 2) := by decide +kernel
theorem dL_law_734 : decode cL_law 734 = .ok (.iload 12, 2) := by decide +kernel
theorem dL_law_736 : decode cL_law 736 = .ok (.bipush 90, 2) := by decide +kernel
theorem dL_law_738 : decode cL_law 738 = .ok (.imul, 1) := by decide +kernel
theorem dL_law_739 : decode cL_law 739 = .ok (.bipush 100, 2) := by decide +kernel
theorem dL_law_741 : decode cL_law 741 = .ok (.idiv, 1) := by decide +kernel
theorem dL_law_742 : decode cL_law 742 = .ok (.if_icmp .lt 27, 3) := by decide +kernel
theorem dL_law_745 : decode cL_law 745 = .ok (.aload_n 1, 1) := by decide +kernel
theorem dL_law_746 : decode cL_law 746 = .ok (.iload 10, 2) := by decide +kernel
theorem dL_law_748 : decode cL_law 748 = .ok (.iconst 0, 1) := by decide +kernel
theorem dL_law_749 : decode cL_law 749 = .ok (.invokevirtual 78, 3) := by decide +kernel
theorem dL_law_752 : decode cL_law 752 = .ok (.iload 12, 2) := by decide +kernel
theorem dL_law_754 : decode cL_law 754 = .ok (.if_icmp .gt 15, 3) := by decide +kernel
theorem dL_law_757 : decode cL_law 757 = .ok (.aload_n 1, 1) := by decide +kernel
theorem dL_law_758 : decode cL_law 758 = .ok (.iload 10, 2) := by decide +kernel
theorem dL_law_760 : decode cL_law 760 = .ok (.iconst 1, 1) := by decide +kernel
theorem dL_law_761 : decode cL_law 761 = .ok (.invokevirtual 78, 3) := by decide +kernel
theorem dL_law_764 : decode cL_law 764 = .ok (.iload 12, 2) := by decide +kernel
theorem dL_law_766 : decode cL_law 766 = .ok (.if_icmp .ge 5, 3) := by decide +kernel
theorem dL_law_769 : decode cL_law 769 = .ok (.iconst 0, 1) := by decide +kernel
theorem dL_law_770 : decode cL_law 770 = .ok (.ireturn, 1) := by decide +kernel
theorem dL_law_771 : decode cL_law 771 = .ok (.iload 9, 2) := by decide +kernel
theorem dL_law_773 : decode cL_law 773 = .ok (.bipush 6, 2) := by decide +kernel
theorem dL_law_775 : decode cL_law 775 = .ok (.ishr, 1) := by decide +kernel
theorem dL_law_776 : decode cL_law 776 = .ok (.iconst 2, 1) := by decide +kernel
theorem dL_law_777 : decode cL_law 777 = .ok (.invokestatic 18, 3) := by decide +kernel
theorem dL_law_780 : decode cL_law 780 = .ok (.ifCond .ne 6, 3) := by decide +kernel
theorem dL_law_783 : decode cL_law 783 = .ok (.goto 101, 3) := by decide +kernel
theorem dL_law_786 : decode cL_law 786 = .ok (.iload 7, 2) := by decide +kernel
theorem dL_law_788 : decode cL_law 788 = .ok (.iload 12, 2) := by decide +kernel
theorem dL_law_790 : decode cL_law 790 = .ok (.iadd, 1) := by decide +kernel
theorem dL_law_791 : decode cL_law 791 = .ok (.istore 7, 2) := by decide +kernel
theorem dL_law_793 : decode cL_law 793 = .ok (.aload_n 1, 1) := by decide +kernel
theorem dL_law_794 : decode cL_law 794 = .ok (.iload 10, 2) := by decide +kernel
theorem dL_law_796 : decode cL_law 796 = .ok (.iload 9, 2) := by decide +kernel
theorem dL_law_798 : decode cL_law 798 = .ok (.bipush 7, 2) := by decide +kernel
theorem dL_law_800 : decode cL_law 800 = .ok (.ishr, 1) := by decide +kernel
theorem dL_law_801 : decode cL_law 801 = .ok (.iconst 2, 1) := by decide +kernel
theorem dL_law_802 : decode cL_law 802 = .ok (.invokestatic 18, 3) := by decide +kernel
theorem dL_law_805 : decode cL_law 805 = .ok (.ifCond .ne 7, 3) := by decide +kernel
theorem dL_law_808 : decode cL_law 808 = .ok (.iconst 1, 1) := by decide +kernel
theorem dL_law_809 : decode cL_law 809 = .ok (.goto 4, 3) := by decide +kernel
theorem dL_law_812 : decode cL_law 812 = .ok (.iconst 0, 1) := by decide +kernel
theorem dL_law_813 : decode cL_law 813 = .ok (.invokevirtual 81, 3) := by decide +kernel
theorem dL_law_816 : decode cL_law 816 = .ok (.iload 12, 2) := by decide +kernel
theorem dL_law_818 : decode cL_law 818 = .ok (.if_icmp .eq 66, 3) := by decide +kernel
theorem dL_law_821 : decode cL_law 821 = .ok (.iconst 0, 1) := by decide +kernel
theorem dL_law_822 : decode cL_law 822 = .ok (.ireturn, 1) := by decide +kernel
theorem dL_law_823 : decode cL_law 823 = .ok (.aload_n 1, 1) := by decide +kernel
theorem dL_law_824 : decode cL_law 824 = .ok (.iload 9, 2) := by decide +kernel
theorem dL_law_826 : decode cL_law 826 = .ok (.iconst 3, 1) := by decide +kernel
theorem dL_law_827 : decode cL_law 827 = .ok (.ishr, 1) := by decide +kernel
theorem dL_law_828 : decode cL_law 828 = .ok (.sipush 201, 3) := by decide +kernel
theorem dL_law_831 : decode cL_law 831 = .ok (.invokestatic 18, 3) := by decide +kernel
theorem dL_law_834 : decode cL_law 834 = .ok (.iconst 5, 1) := by decide +kernel
theorem dL_law_835 : decode cL_law 835 = .ok (.iload 9, 2) := by decide +kernel
theorem dL_law_837 : decode cL_law 837 = .ok (.iconst 5, 1) := by decide +kernel
theorem dL_law_838 : decode cL_law 838 = .ok (.ishr, 1) := by decide +kernel
theorem dL_law_839 : decode cL_law 839 = .ok (.bipush 36, 2) := by decide +kernel
theorem dL_law_841 : decode cL_law 841 = .ok (.invokestatic 18, 3) := by decide +kernel
theorem dL_law_844 : decode cL_law 844 = .ok (.iadd, 1) := by decide +kernel
theorem dL_law_845 : decode cL_law 845 = .ok (.iload 9, 2) := by decide +kernel
theorem dL_law_847 : decode cL_law 847 = .ok (.bipush 7, 2) := by decide +kernel
theorem dL_law_849 : decode cL_law 849 = .ok (.ishr, 1) := by decide +kernel
theorem dL_law_850 : decode cL_law 850 = .ok (.iconst 4, 1) := by decide +kernel
theorem dL_law_851 : decode cL_law 851 = .ok (.invokestatic 18, 3) := by decide +kernel
theorem dL_law_854 : decode cL_law 854 = .ok (.ifCond .ne 16, 3) := by decide +kernel
theorem dL_law_857 : decode cL_law 857 = .ok (.iload 9, 2) := by decide +kernel
theorem dL_law_859 : decode cL_law 859 = .ok (.bipush 6, 2) := by decide +kernel
theorem dL_law_861 : decode cL_law 861 = .ok (.ishr, 1) := by decide +kernel
theorem dL_law_862 : decode cL_law 862 = .ok (.bipush 31, 2) := by decide +kernel
theorem dL_law_864 : decode cL_law 864 = .ok (.invokestatic 18, 3) := by decide +kernel
theorem dL_law_867 : decode cL_law 867 = .ok (.goto 4, 3) := by decide +kernel
theorem dL_law_870 : decode cL_law 870 = .ok (.iconst 0, 1) := by decide +kernel
theorem dL_law_871 : decode cL_law 871 = .ok (.invokevirtual 84, 3) := by decide +kernel
theorem dL_law_874 : decode cL_law 874 = .ok (.aload_n 1, 1) := by decide +kernel
theorem dL_law_875 : decode cL_law 875 = .ok (.iconst 2, 1) := by decide +kernel
theorem dL_law_876 : decode cL_law 876 = .ok (.invokevirtual 69, 3) := by decide +kernel
theorem dL_law_879 : decode cL_law 879 = .ok (.if_icmp .eq 5, 3) := by decide +kernel
theorem dL_law_882 : decode cL_law 882 = .ok (.iconst 0, 1) := by decide +kernel
theorem dL_law_883 : decode cL_law 883 = .ok (.ireturn, 1) := by decide +kernel
theorem dL_law_884 : decode cL_law 884 = .ok (.iconst 0, 1) := by decide +kernel
theorem dL_law_885 : decode cL_law 885 = .ok (.istore 12, 2) := by decide +kernel
theorem dL_law_887 : decode cL_law 887 = .ok (.iload 12, 2) := by decide +kernel
theorem dL_law_889 : decode cL_law 889 = .ok (.iload_n 3, 1) := by decide +kernel
theorem dL_law_890 : decode cL_law 890 = .ok (.if_icmp .ge 67, 3) := by decide +kernel
theorem dL_law_893 : decode cL_law 893 = .ok (.aload_n 1, 1) := by decide +kernel
theorem dL_law_894 : decode cL_law 894 = .ok (.iload 12, 2) := by decide +kernel
theorem dL_law_896 : decode cL_law 896 = .ok (.iconst 4, 1) := by decide +kernel
theorem dL_law_897 : decode cL_law 897 = .ok (.invokevirtual 34, 3) := by decide +kernel
theorem dL_law_900 : decode cL_law 900 = .ok (.istore 13, 2) := by decide +kernel
theorem dL_law_902 : decode cL_law 902 = .ok (.iload 13, 2) := by decide +kernel
theorem dL_law_904 : decode cL_law 904 = .ok (.aload 5, 2) := by decide +kernel
theorem dL_law_906 : decode cL_law 906 = .ok (.iload 12, 2) := by decide +kernel
theorem dL_law_908 : decode cL_law 908 = .ok (.iaload, 1) := by decide +kernel
theorem dL_law_909 : decode cL_law 909 = .ok (.if_icmp .ge 8, 3) := by decide +kernel
theorem dL_law_912 : decode cL_law 912 = .ok (.iload 13, 2) := by decide +kernel
theorem dL_law_914 : decode cL_law 914 = .ok (.ifCond .gt 28, 3) := by decide +kernel
theorem dL_law_917 : decode cL_law 917 = .ok (.iload 13, 2) := by decide +kernel
theorem dL_law_919 : decode cL_law 919 = .ok (.aload 5, 2) := by decide +kernel
theorem dL_law_921 : decode cL_law 921 = .ok (.iload 12, 2) := by decide +kernel
theorem dL_law_923 : decode cL_law 923 = .ok (.iaload, 1) := by decide +kernel
theorem dL_law_924 : decode cL_law 924 = .ok (.if_icmp .le 20, 3) := by decide +kernel
theorem dL_law_927 : decode cL_law 927 = .ok (.aload 5, 2) := by decide +kernel
theorem dL_law_929 : decode cL_law 929 = .ok (.iload 12, 2) := by decide +kernel
theorem dL_law_931 : decode cL_law 931 = .ok (.iaload, 1) := by decide +kernel
theorem dL_law_932 : decode cL_law 932 = .ok (.iconst 2, 1) := by decide +kernel
theorem dL_law_933 : decode cL_law 933 = .ok (.if_icmp .ge 11, 3) := by decide +kernel
theorem dL_law_936 : decode cL_law 936 = .ok (.iload 13, 2) := by decide +kernel
theorem dL_law_938 : decode cL_law 938 = .ok (.iconst 2, 1) := by decide +kernel
theorem dL_law_939 : decode cL_law 939 = .ok (.if_icmp .le 5, 3) := by decide +kernel
theorem dL_law_942 : decode cL_law 942 = .ok (.iconst 0, 1) := by decide +kernel
theorem dL_law_943 : decode cL_law 943 = .ok (.ireturn, 1) := by decide +kernel
theorem dL_law_944 : decode cL_law 944 = .ok (.aload 5, 2) := by decide +kernel
theorem dL_law_946 : decode cL_law 946 = .ok (.iload 12, 2) := by decide +kernel
theorem dL_law_948 : decode cL_law 948 = .ok (.iload 13, 2) := by decide +kernel
theorem dL_law_950 : decode cL_law 950 = .ok (.iastore, 1) := by decide +kernel
theorem dL_law_951 : decode cL_law 951 = .ok (.iinc 12 1, 3) := by decide +kernel
theorem dL_law_954 : decode cL_law 954 = .ok (.goto (-67), 3) := by decide +kernel
theorem dL_law_957 : decode cL_law 957 = .ok (.aload_n 1, 1) := by decide +kernel
theorem dL_law_958 : decode cL_law 958 = .ok (.iload_n 2, 1) := by decide +kernel
theorem dL_law_959 : decode cL_law 959 = .ok (.iload_n 3, 1) := by decide +kernel
theorem dL_law_960 : decode cL_law 960 = .ok (.aload 4, 2) := by decide +kernel
theorem dL_law_962 : decode cL_law 962 = .ok (.iload 6, 2) := by decide +kernel
theorem dL_law_964 : decode cL_law 964 = .ok (.invokestatic 87, 3) := by decide +kernel
theorem dL_law_967 : decode cL_law 967 = .ok (.ifCond .eq 14, 3) := by decide +kernel
theorem dL_law_970 : decode cL_law 970 = .ok (.aload_n 1, 1) := by decide +kernel
theorem dL_law_971 : decode cL_law 971 = .ok (.bipush 10, 2) := by decide +kernel
theorem dL_law_973 : decode cL_law 973 = .ok (.invokevirtual 69, 3) := by decide +kernel
theorem dL_law_976 : decode cL_law 976 = .ok (.iload 7, 2) := by decide +kernel
theorem dL_law_978 : decode cL_law 978 = .ok (.if_icmp .eq 5, 3) := by decide +kernel
theorem dL_law_981 : decode cL_law 981 = .ok (.iconst 0, 1) := by decide +kernel
theorem dL_law_982 : decode cL_law 982 = .ok (.ireturn, 1) := by decide +kernel
theorem dL_law_983 : decode cL_law 983 = .ok (.iinc 8 1, 3) := by decide +kernel
theorem dL_law_986 : decode cL_law 986 = .ok (.goto (-744), 3) := by decide +kernel
theorem dL_law_989 : decode cL_law 989 = .ok (.aload_n 1, 1) := by decide +kernel
theorem dL_law_990 : decode cL_law 990 = .ok (.invokevirtual 91, 3) := by decide +kernel
theorem dL_law_993 : decode cL_law 993 = .ok (.lstore 8, 2) := by decide +kernel
theorem dL_law_995 : decode cL_law 995 = .ok (.aload_n 1, 1) := by decide +kernel
theorem dL_law_996 : decode cL_law 996 = .ok (.iload_n 2, 1) := by decide +kernel
theorem dL_law_997 : decode cL_law 997 = .ok (.iload_n 3, 1) := by decide +kernel
theorem dL_law_998 : decode cL_law 998 = .ok (.aload 4, 2) := by decide +kernel
theorem dL_law_1000 : decode cL_law 1000 = .ok (.iload 6, 2) := by decide +kernel
theorem dL_law_1002 : decode cL_law 1002 = .ok (.invokestatic 87, 3) := by decide +kernel
theorem dL_law_1005 : decode cL_law 1005 = .ok (.ifCond .eq 17, 3) := by decide +kernel
theorem dL_law_1008 : decode cL_law 1008 = .ok (.aload_n 1, 1) := by decide +kernel
theorem dL_law_1009 : decode cL_law 1009 = .ok (.invokevirtual 91, 3) := by decide +kernel
theorem dL_law_1012 : decode cL_law 1012 = .ok (.lload 8, 2) := by decide +kernel
theorem dL_law_1014 : decode cL_law 1014 = .ok (.lcmp, 1) := by decide +kernel
theorem dL_law_1015 : decode cL_law 1015 = .ok (.ifCond .ne 7, 3) := by decide +kernel
theorem dL_law_1018 : decode cL_law 1018 = .ok (.iconst 1, 1) := by decide +kernel
theorem dL_law_1019 : decode cL_law 1019 = .ok (.goto 4, 3) := by decide +kernel
theorem dL_law_1022 : decode cL_law 1022 = .ok (.iconst 0, 1) := by decide +kernel
theorem dL_law_1023 : decode cL_law 1023 = .ok (.ireturn, 1) := by decide +kernel
theorem dL_isSo_0 : decode cL_isSo 0 = .ok (.iconst 0, 1) := by decide +kernel
theorem dL_isSo_1 : decode cL_isSo 1 = .ok (.istore 5, 2) := by decide +kernel
theorem dL_isSo_3 : decode cL_isSo 3 = .ok (.iconst 0, 1) := by decide +kernel
theorem dL_isSo_4 : decode cL_isSo 4 = .ok (.istore 6, 2) := by decide +kernel
theorem dL_isSo_6 : decode cL_isSo 6 = .ok (.iconst 0, 1) := by decide +kernel
theorem dL_isSo_7 : decode cL_isSo 7 = .ok (.istore 7, 2) := by decide +kernel
theorem dL_isSo_9 : decode cL_isSo 9 = .ok (.iconst 0, 1) := by decide +kernel
theorem dL_isSo_10 : decode cL_isSo 10 = .ok (.istore 8, 2) := by decide +kernel
theorem dL_isSo_12 : decode cL_isSo 12 = .ok (.iconst 0, 1) := by decide +kernel
theorem dL_isSo_13 : decode cL_isSo 13 = .ok (.istore 9, 2) := by decide +kernel
theorem dL_isSo_15 : decode cL_isSo 15 = .ok (.iload 9, 2) := by decide +kernel
theorem dL_isSo_17 : decode cL_isSo 17 = .ok (.iload_n 2, 1) := by decide +kernel
theorem dL_isSo_18 : decode cL_isSo 18 = .ok (.if_icmp .ge 333, 3) := by decide +kernel
theorem dL_isSo_21 : decode cL_isSo 21 = .ok (.aload_n 0, 1) := by decide +kernel
theorem dL_isSo_22 : decode cL_isSo 22 = .ok (.iload 9, 2) := by decide +kernel
theorem dL_isSo_24 : decode cL_isSo 24 = .ok (.iconst 4, 1) := by decide +kernel
theorem dL_isSo_25 : decode cL_isSo 25 = .ok (.invokevirtual 34, 3) := by decide +kernel
theorem dL_isSo_28 : decode cL_isSo 28 = .ok (.istore 10, 2) := by decide +kernel
theorem dL_isSo_30 : decode cL_isSo 30 = .ok (.aload_n 0, 1) := by decide +kernel
theorem dL_isSo_31 : decode cL_isSo 31 = .ok (.iload 9, 2) := by decide +kernel
theorem dL_isSo_33 : decode cL_isSo 33 = .ok (.iconst 1, 1) := by decide +kernel
theorem dL_isSo_34 : decode cL_isSo 34 = .ok (.invokevirtual 34, 3) := by decide +kernel
theorem dL_isSo_37 : decode cL_isSo 37 = .ok (.istore 11, 2) := by decide +kernel
theorem dL_isSo_39 : decode cL_isSo 39 = .ok (.iload 5, 2) := by decide +kernel
theorem dL_isSo_41 : decode cL_isSo 41 = .ok (.iload 11, 2) := by decide +kernel
theorem dL_isSo_43 : decode cL_isSo 43 = .ok (.iadd, 1) := by decide +kernel
theorem dL_isSo_44 : decode cL_isSo 44 = .ok (.istore 5, 2) := by decide +kernel
theorem dL_isSo_46 : decode cL_isSo 46 = .ok (.iload 6, 2) := by decide +kernel
theorem dL_isSo_48 : decode cL_isSo 48 = .ok (.aload_n 0, 1) := by decide +kernel
theorem dL_isSo_49 : decode cL_isSo 49 = .ok (.iload 9, 2) := by decide +kernel
theorem dL_isSo_51 : decode cL_isSo 51 = .ok (.iconst 1, 1) := by decide +kernel
theorem dL_isSo_52 : decode cL_isSo 52 = .ok (.invokevirtual 57, 3) := by decide +kernel
theorem dL_isSo_55 : decode cL_isSo 55 = .ok (.iadd, 1) := by decide +kernel
theorem dL_isSo_56 : decode cL_isSo 56 = .ok (.istore 6, 2) := by decide +kernel
theorem dL_isSo_58 : decode cL_isSo 58 = .ok (.iload 7, 2) := by decide +kernel
theorem dL_isSo_60 : decode cL_isSo 60 = .ok (.aload_n 0, 1) := by decide +kernel
theorem dL_isSo_61 : decode cL_isSo 61 = .ok (.iload 9, 2) := by decide +kernel
theorem dL_isSo_63 : decode cL_isSo 63 = .ok (.iconst 0, 1) := by decide +kernel
theorem dL_isSo_64 : decode cL_isSo 64 = .ok (.invokevirtual 57, 3) := by decide +kernel
theorem dL_isSo_67 : decode cL_isSo 67 = .ok (.iadd, 1) := by decide +kernel
theorem dL_isSo_68 : decode cL_isSo 68 = .ok (.istore 7, 2) := by decide +kernel
theorem dL_isSo_70 : decode cL_isSo 70 = .ok (.iload 8, 2) := by decide +kernel
theorem dL_isSo_72 : decode cL_isSo 72 = .ok (.aload_n 0, 1) := by decide +kernel
theorem dL_isSo_73 : decode cL_isSo 73 = .ok (.iload 9, 2) := by decide +kernel
theorem dL_isSo_75 : decode cL_isSo 75 = .ok (.iconst 3, 1) := by decide +kernel
theorem dL_isSo_76 : decode cL_isSo 76 = .ok (.invokevirtual 57, 3) := by decide +kernel
theorem dL_isSo_79 : decode cL_isSo 79 = .ok (.iadd, 1) := by decide +kernel
theorem dL_isSo_80 : decode cL_isSo 80 = .ok (.istore 8, 2) := by decide +kernel
theorem dL_isSo_82 : decode cL_isSo 82 = .ok (.iload 11, 2) := by decide +kernel
theorem dL_isSo_84 : decode cL_isSo 84 = .ok (.ifCond .lt 62, 3) := by decide +kernel
theorem dL_isSo_87 : decode cL_isSo 87 = .ok (.iload 11, 2) := by decide +kernel
theorem dL_isSo_89 : decode cL_isSo 89 = .ok (.aload_n 3, 1) := by decide +kernel
theorem dL_isSo_90 : decode cL_isSo 90 = .ok (.iload 9, 2) := by decide +kernel
theorem dL_isSo_92 : decode cL_isSo 92 = .ok (.iaload, 1) := by decide +kernel
theorem dL_isSo_93 : decode cL_isSo 93 = .ok (.if_icmp .gt 53, 3) := by decide +kernel
theorem dL_isSo_96 : decode cL_isSo 96 = .ok (.aload_n 0, 1) := by decide +kernel
theorem dL_isSo_97 : decode cL_isSo 97 = .ok (.iload 9, 2) := by decide +kernel
theorem dL_isSo_99 : decode cL_isSo 99 = .ok (.iconst 2, 1) := by decide +kernel
theorem dL_isSo_100 : decode cL_isSo 100 = .ok (.invokevirtual 34, 3) := by decide +kernel
theorem dL_isSo_103 : decode cL_isSo 103 = .ok (.ifCond .lt 43, 3) := by decide +kernel
theorem dL_isSo_106 : decode cL_isSo 106 = .ok (.aload_n 0, 1) := by decide +kernel
theorem dL_isSo_107 : decode cL_isSo 107 = .ok (.iload 9, 2) := by decide +kernel
theorem dL_isSo_109 : decode cL_isSo 109 = .ok (.iconst 2, 1) := by decide +kernel
theorem dL_isSo_110 : decode cL_isSo 110 = .ok (.invokevirtual 34, 3) := by decide +kernel
theorem dL_isSo_113 : decode cL_isSo 113 = .ok (.iconst 3, 1) := by decide +kernel
theorem dL_isSo_114 : decode cL_isSo 114 = .ok (.if_icmp .gt 32, 3) := by decide +kernel
theorem dL_isSo_117 : decode cL_isSo 117 = .ok (.iload 11, 2) := by decide +kernel
theorem dL_isSo_119 : decode cL_isSo 119 = .ok (.ifCond .le 21, 3) := by decide +kernel
theorem dL_isSo_122 : decode cL_isSo 122 = .ok (.aload_n 0, 1) := by decide +kernel
theorem dL_isSo_123 : decode cL_isSo 123 = .ok (.iload 9, 2) := by decide +kernel
theorem dL_isSo_125 : decode cL_isSo 125 = .ok (.iconst 3, 1) := by decide +kernel
theorem dL_isSo_126 : decode cL_isSo 126 = .ok (.invokevirtual 34, 3) := by decide +kernel
theorem dL_isSo_129 : decode cL_isSo 129 = .ok (.ifCond .eq 11, 3) := by decide +kernel
theorem dL_isSo_132 : decode cL_isSo 132 = .ok (.aload_n 0, 1) := by decide +kernel
theorem dL_isSo_133 : decode cL_isSo 133 = .ok (.iconst 2, 1) := by decide +kernel
theorem dL_isSo_134 : decode cL_isSo 134 = .ok (.invokevirtual 69, 3) := by decide +kernel
theorem dL_isSo_137 : decode cL_isSo 137 = .ok (.ifCond .gt 9, 3) := by decide +kernel
theorem dL_isSo_140 : decode cL_isSo 140 = .ok (.iload 10, 2) := by decide +kernel
theorem dL_isSo_142 : decode cL_isSo 142 = .ok (.iconst 5, 1) := by decide +kernel
theorem dL_isSo_143 : decode cL_isSo 143 = .ok (.if_icmp .le 5, 3) := by decide +kernel
theorem dL_isSo_146 : decode cL_isSo 146 = .ok (.iconst 0, 1) := by decide +kernel
theorem dL_isSo_147 : decode cL_isSo 147 = .ok (.ireturn, 1) := by decide +kernel
theorem dL_isSo_148 : decode cL_isSo 148 = .ok (.aload_n 0, 1) := by decide +kernel
theorem dL_isSo_149 : decode cL_isSo 149 = .ok (.iload 9, 2) := by decide +kernel
theorem dL_isSo_151 : decode cL_isSo 151 = .ok (.bipush 7, 2) := by decide +kernel
theorem dL_isSo_153 : decode cL_isSo 153 = .ok (.invokevirtual 34, 3) := by decide +kernel
theorem dL_isSo_156 : decode cL_isSo 156 = .ok (.ifCond .lt 123, 3) := by decide +kernel
theorem dL_isSo_159 : decode cL_isSo 159 = .ok (.aload_n 0, 1) := by decide +kernel
theorem dL_isSo_160 : decode cL_isSo 160 = .ok (.iload 9, 2) := by decide +kernel
theorem dL_isSo_162 : decode cL_isSo 162 = .ok (.bipush 7, 2) := by decide +kernel
theorem dL_isSo_164 : decode cL_isSo 164 = .ok (.invokevirtual 34, 3) := by decide +kernel
theorem dL_isSo_167 : decode cL_isSo 167 = .ok (.bipush 100, 2) := by decide +kernel
theorem dL_isSo_169 : decode cL_isSo 169 = .ok (.if_icmp .gt 110, 3) := by decide +kernel
theorem dL_isSo_172 : decode cL_isSo 172 = .ok (.aload_n 0, 1) := by decide +kernel
theorem dL_isSo_173 : decode cL_isSo 173 = .ok (.iload 9, 2) := by decide +kernel
theorem dL_isSo_175 : decode cL_isSo 175 = .ok (.bipush 8, 2) := by decide +kernel
theorem dL_isSo_177 : decode cL_isSo 177 = .ok (.invokevirtual 34, 3) := by decide +kernel
theorem dL_isSo_180 : decode cL_isSo 180 = .ok (.ifCond .lt 99, 3) := by decide +kernel
theorem dL_isSo_183 : decode cL_isSo 183 = .ok (.aload_n 0, 1) := by decide +kernel
theorem dL_isSo_184 : decode cL_isSo 184 = .ok (.iload 9, 2) := by decide +kernel
theorem dL_isSo_186 : decode cL_isSo 186 = .ok (.bipush 8, 2) := by decide +kernel
theorem dL_isSo_188 : decode cL_isSo 188 = .ok (.invokevirtual 34, 3) := by decide +kernel
theorem dL_isSo_191 : decode cL_isSo 191 = .ok (.bipush 99, 2) := by decide +kernel
theorem dL_isSo_193 : decode cL_isSo 193 = .ok (.if_icmp .gt 86, 3) := by decide +kernel
theorem dL_isSo_196 : decode cL_isSo 196 = .ok (.aload_n 0, 1) := by decide +kernel
theorem dL_isSo_197 : decode cL_isSo 197 = .ok (.iload 9, 2) := by decide +kernel
theorem dL_isSo_199 : decode cL_isSo 199 = .ok (.bipush 9, 2) := by decide +kernel
theorem dL_isSo_201 : decode cL_isSo 201 = .ok (.invokevirtual 34, 3) := by decide +kernel
theorem dL_isSo_204 : decode cL_isSo 204 = .ok (.ifCond .lt 75, 3) := by decide +kernel
theorem dL_isSo_207 : decode cL_isSo 207 = .ok (.aload_n 0, 1) := by decide +kernel
theorem dL_isSo_208 : decode cL_isSo 208 = .ok (.iload 9, 2) := by decide +kernel
theorem dL_isSo_210 : decode cL_isSo 210 = .ok (.bipush 9, 2) := by decide +kernel
theorem dL_isSo_212 : decode cL_isSo 212 = .ok (.invokevirtual 34, 3) := by decide +kernel
theorem dL_isSo_215 : decode cL_isSo 215 = .ok (.bipush 50, 2) := by decide +kernel
theorem dL_isSo_217 : decode cL_isSo 217 = .ok (.if_icmp .gt 62, 3) := by decide +kernel
theorem dL_isSo_220 : decode cL_isSo 220 = .ok (.aload_n 0, 1) := by decide +kernel
theorem dL_isSo_221 : decode cL_isSo 221 = .ok (.iload 9, 2) := by decide +kernel
theorem dL_isSo_223 : decode cL_isSo 223 = .ok (.iconst 5, 1) := by decide +kernel
theorem dL_isSo_224 : decode cL_isSo 224 = .ok (.invokevirtual 34, 3) := by decide +kernel
theorem dL_isSo_227 : decode cL_isSo 227 = .ok (.ifCond .ge 7, 3) := by decide +kernel
theorem dL_isSo_230 : decode cL_isSo 230 = .ok (.iconst 1, 1) := by decide +kernel
theorem dL_isSo_231 : decode cL_isSo 231 = .ok (.goto 4, 3) := by decide +kernel
theorem dL_isSo_234 : decode cL_isSo 234 = .ok (.iconst 0, 1) := by decide +kernel
theorem dL_isSo_235 : decode cL_isSo 235 = .ok (.iload 10, 2) := by decide +kernel
theorem dL_isSo_237 : decode cL_isSo 237 = .ok (.iconst 2, 1) := by decide +kernel
theorem dL_isSo_238 : decode cL_isSo 238 = .ok (.if_icmp .ge 7, 3) := by decide +kernel
theorem dL_isSo_241 : decode cL_isSo 241 = .ok (.iconst 1, 1) := by decide +kernel
theorem dL_isSo_242 : decode cL_isSo 242 = .ok (.goto 4, 3) := by decide +kernel
theorem dL_isSo_245 : decode cL_isSo 245 = .ok (.iconst 0, 1) := by decide +kernel
theorem dL_isSo_246 : decode cL_isSo 246 = .ok (.if_icmp .ne 33, 3) := by decide +kernel
theorem dL_isSo_249 : decode cL_isSo 249 = .ok (.iload 10, 2) := by decide +kernel
theorem dL_isSo_251 : decode cL_isSo 251 = .ok (.iconst 5, 1) := by decide +kernel
theorem dL_isSo_252 : decode cL_isSo 252 = .ok (.if_icmp .ge 14, 3) := by decide +kernel
theorem dL_isSo_255 : decode cL_isSo 255 = .ok (.aload_n 0, 1) := by decide +kernel
theorem dL_isSo_256 : decode cL_isSo 256 = .ok (.iload 9, 2) := by decide +kernel
theorem dL_isSo_258 : decode cL_isSo 258 = .ok (.bipush 10, 2) := by decide +kernel
theorem dL_isSo_260 : decode cL_isSo 260 = .ok (.invokevirtual 34, 3) := by decide +kernel
theorem dL_isSo_263 : decode cL_isSo 263 = .ok (.ifCond .ne 16, 3) := by decide +kernel
theorem dL_isSo_266 : decode cL_isSo 266 = .ok (.aload_n 0, 1) := by decide +kernel
theorem dL_isSo_267 : decode cL_isSo 267 = .ok (.iload 9, 2) := by decide +kernel
theorem dL_isSo_269 : decode cL_isSo 269 = .ok (.bipush 10, 2) := by decide +kernel
theorem dL_isSo_271 : decode cL_isSo 271 = .ok (.invokevirtual 34, 3) := by decide +kernel
theorem dL_isSo_274 : decode cL_isSo 274 = .ok (.bipush 80, 2) := by decide +kernel
theorem dL_isSo_276 : decode cL_isSo 276 = .ok (.if_icmp .le 5, 3) := by decide +kernel
theorem dL_isSo_279 : decode cL_isSo 279 = .ok (.iconst 0, 1) := by decide +kernel
theorem dL_isSo_280 : decode cL_isSo 280 = .ok (.ireturn, 1) := by decide +kernel
theorem dL_isSo_281 : decode cL_isSo 281 = .ok (.aload_n 0, 1) := by decide +kernel
theorem dL_isSo_282 : decode cL_isSo 282 = .ok (.iload 9, 2) := by decide +kernel
theorem dL_isSo_284 : decode cL_isSo 284 = .ok (.iconst 0, 1) := by decide +kernel
theorem dL_isSo_285 : decode cL_isSo 285 = .ok (.invokevirtual 78, 3) := by decide +kernel
theorem dL_isSo_288 : decode cL_isSo 288 = .ok (.aload_n 0, 1) := by decide +kernel
theorem dL_isSo_289 : decode cL_isSo 289 = .ok (.iload 9, 2) := by decide +kernel
theorem dL_isSo_291 : decode cL_isSo 291 = .ok (.iconst 1, 1) := by decide +kernel
theorem dL_isSo_292 : decode cL_isSo 292 = .ok (.invokevirtual 78, 3) := by decide +kernel
theorem dL_isSo_295 : decode cL_isSo 295 = .ok (.if_icmp .gt 48, 3) := by decide +kernel
theorem dL_isSo_298 : decode cL_isSo 298 = .ok (.aload_n 0, 1) := by decide +kernel
theorem dL_isSo_299 : decode cL_isSo 299 = .ok (.iload 9, 2) := by decide +kernel
theorem dL_isSo_301 : decode cL_isSo 301 = .ok (.bipush 12, 2) := by decide +kernel
theorem dL_isSo_303 : decode cL_isSo 303 = .ok (.invokevirtual 34, 3) := by decide +kernel
theorem dL_isSo_306 : decode cL_isSo 306 = .ok (.ifCond .lt 37, 3) := by decide +kernel
theorem dL_isSo_309 : decode cL_isSo 309 = .ok (.aload_n 0, 1) := by decide +kernel
theorem dL_isSo_310 : decode cL_isSo 310 = .ok (.iload 9, 2) := by decide +kernel
theorem dL_isSo_312 : decode cL_isSo 312 = .ok (.iconst 0, 1) := by decide +kernel
theorem dL_isSo_313 : decode cL_isSo 313 = .ok (.invokevirtual 57, 3) := by decide +kernel
theorem dL_isSo_316 : decode cL_isSo 316 = .ok (.ifCond .ge 7, 3) := by decide +kernel
theorem dL_isSo_319 : decode cL_isSo 319 = .ok (.iconst 1, 1) := by decide +kernel
theorem dL_isSo_320 : decode cL_isSo 320 = .ok (.goto 4, 3) := by decide +kernel
theorem dL_isSo_323 : decode cL_isSo 323 = .ok (.iconst 0, 1) := by decide +kernel
theorem dL_isSo_324 : decode cL_isSo 324 = .ok (.aload_n 0, 1) := by decide +kernel
theorem dL_isSo_325 : decode cL_isSo 325 = .ok (.iload 9, 2) := by decide +kernel
theorem dL_isSo_327 : decode cL_isSo 327 = .ok (.iconst 3, 1) := by decide +kernel
theorem dL_isSo_328 : decode cL_isSo 328 = .ok (.invokevirtual 57, 3) := by decide +kernel
theorem dL_isSo_331 : decode cL_isSo 331 = .ok (.iconst 1, 1) := by decide +kernel
theorem dL_isSo_332 : decode cL_isSo 332 = .ok (.if_icmp .ne 7, 3) := by decide +kernel
theorem dL_isSo_335 : decode cL_isSo 335 = .ok (.iconst 1, 1) := by decide +kernel
theorem dL_isSo_336 : decode cL_isSo 336 = .ok (.goto 4, 3) := by decide +kernel
theorem dL_isSo_339 : decode cL_isSo 339 = .ok (.iconst 0, 1) := by decide +kernel
theorem dL_isSo_340 : decode cL_isSo 340 = .ok (.if_icmp .eq 5, 3) := by decide +kernel
theorem dL_isSo_343 : decode cL_isSo 343 = .ok (.iconst 0, 1) := by decide +kernel
theorem dL_isSo_344 : decode cL_isSo 344 = .ok (.ireturn, 1) := by decide +kernel
theorem dL_isSo_345 : decode cL_isSo 345 = .ok (.iinc 9 1, 3) := by decide +kernel
theorem dL_isSo_348 : decode cL_isSo 348 = .ok (.goto (-333), 3) := by decide +kernel
theorem dL_isSo_351 : decode cL_isSo 351 = .ok (.iconst 0, 1) := by decide +kernel
theorem dL_isSo_352 : decode cL_isSo 352 = .ok (.istore 9, 2) := by decide +kernel
theorem dL_isSo_354 : decode cL_isSo 354 = .ok (.iconst 0, 1) := by decide +kernel
theorem dL_isSo_355 : decode cL_isSo 355 = .ok (.istore 10, 2) := by decide +kernel
theorem dL_isSo_357 : decode cL_isSo 357 = .ok (.iload 10, 2) := by decide +kernel
theorem dL_isSo_359 : decode cL_isSo 359 = .ok (.iload_n 1, 1) := by decide +kernel
theorem dL_isSo_360 : decode cL_isSo 360 = .ok (.if_icmp .ge 131, 3) := by decide +kernel
theorem dL_isSo_363 : decode cL_isSo 363 = .ok (.aload_n 0, 1) := by decide +kernel
theorem dL_isSo_364 : decode cL_isSo 364 = .ok (.iload 10, 2) := by decide +kernel
theorem dL_isSo_366 : decode cL_isSo 366 = .ok (.bipush 8, 2) := by decide +kernel
theorem dL_isSo_368 : decode cL_isSo 368 = .ok (.invokevirtual 54, 3) := by decide +kernel
theorem dL_isSo_371 : decode cL_isSo 371 = .ok (.istore 11, 2) := by decide +kernel
theorem dL_isSo_373 : decode cL_isSo 373 = .ok (.iload 9, 2) := by decide +kernel
theorem dL_isSo_375 : decode cL_isSo 375 = .ok (.aload_n 0, 1) := by decide +kernel
theorem dL_isSo_376 : decode cL_isSo 376 = .ok (.iload 10, 2) := by decide +kernel
theorem dL_isSo_378 : decode cL_isSo 378 = .ok (.iconst 2, 1) := by decide +kernel
theorem dL_isSo_379 : decode cL_isSo 379 = .ok (.invokevirtual 54, 3) := by decide +kernel
theorem dL_isSo_382 : decode cL_isSo 382 = .ok (.iadd, 1) := by decide +kernel
theorem dL_isSo_383 : decode cL_isSo 383 = .ok (.istore 9, 2) := by decide +kernel
theorem dL_isSo_385 : decode cL_isSo 385 = .ok (.iload 11, 2) := by decide +kernel
theorem dL_isSo_387 : decode cL_isSo 387 = .ok (.ifCond .lt 37, 3) := by decide +kernel
theorem dL_isSo_390 : decode cL_isSo 390 = .ok (.aload_n 0, 1) := by decide +kernel
theorem dL_isSo_391 : decode cL_isSo 391 = .ok (.iload 11, 2) := by decide +kernel
theorem dL_isSo_393 : decode cL_isSo 393 = .ok (.iconst 0, 1) := by decide +kernel
theorem dL_isSo_394 : decode cL_isSo 394 = .ok (.invokevirtual 34, 3) := by decide +kernel
theorem dL_isSo_397 : decode cL_isSo 397 = .ok (.iload 10, 2) := by decide +kernel
theorem dL_isSo_399 : decode cL_isSo 399 = .ok (.if_icmp .ne 46, 3) := by decide +kernel
theorem dL_isSo_402 : decode cL_isSo 402 = .ok (.aload_n 0, 1) := by decide +kernel
theorem dL_isSo_403 : decode cL_isSo 403 = .ok (.iload 11, 2) := by decide +kernel
theorem dL_isSo_405 : decode cL_isSo 405 = .ok (.bipush 13, 2) := by decide +kernel
theorem dL_isSo_407 : decode cL_isSo 407 = .ok (.invokevirtual 34, 3) := by decide +kernel
theorem dL_isSo_410 : decode cL_isSo 410 = .ok (.ifCond .eq 35, 3) := by decide +kernel
theorem dL_isSo_413 : decode cL_isSo 413 = .ok (.aload_n 0, 1) := by decide +kernel
theorem dL_isSo_414 : decode cL_isSo 414 = .ok (.iload 11, 2) := by decide +kernel
theorem dL_isSo_416 : decode cL_isSo 416 = .ok (.iconst 3, 1) := by decide +kernel
theorem dL_isSo_417 : decode cL_isSo 417 = .ok (.invokevirtual 57, 3) := by decide +kernel
theorem dL_isSo_420 : decode cL_isSo 420 = .ok (.iconst 1, 1) := by decide +kernel
theorem dL_isSo_421 : decode cL_isSo 421 = .ok (.if_icmp .eq 24, 3) := by decide +kernel
theorem dL_isSo_424 : decode cL_isSo 424 = .ok (.aload_n 0, 1) := by decide +kernel
theorem dL_isSo_425 : decode cL_isSo 425 = .ok (.iload 10, 2) := by decide +kernel
theorem dL_isSo_427 : decode cL_isSo 427 = .ok (.iconst 3, 1) := by decide +kernel
theorem dL_isSo_428 : decode cL_isSo 428 = .ok (.invokevirtual 54, 3) := by decide +kernel
theorem dL_isSo_431 : decode cL_isSo 431 = .ok (.ifCond .lt 14, 3) := by decide +kernel
theorem dL_isSo_434 : decode cL_isSo 434 = .ok (.aload_n 0, 1) := by decide +kernel
theorem dL_isSo_435 : decode cL_isSo 435 = .ok (.iload 10, 2) := by decide +kernel
theorem dL_isSo_437 : decode cL_isSo 437 = .ok (.bipush 7, 2) := by decide +kernel
theorem dL_isSo_439 : decode cL_isSo 439 = .ok (.invokevirtual 54, 3) := by decide +kernel
theorem dL_isSo_442 : decode cL_isSo 442 = .ok (.ifCond .ge 5, 3) := by decide +kernel
theorem dL_isSo_445 : decode cL_isSo 445 = .ok (.iconst 0, 1) := by decide +kernel
theorem dL_isSo_446 : decode cL_isSo 446 = .ok (.ireturn, 1) := by decide +kernel
theorem dL_isSo_447 : decode cL_isSo 447 = .ok (.aload_n 0, 1) := by decide +kernel
theorem dL_isSo_448 : decode cL_isSo 448 = .ok (.iload 10, 2) := by decide +kernel
theorem dL_isSo_450 : decode cL_isSo 450 = .ok (.invokevirtual 95, 3) := by decide +kernel
theorem dL_isSo_453 : decode cL_isSo 453 = .ok (.istore 12, 2) := by decide +kernel
theorem dL_isSo_455 : decode cL_isSo 455 = .ok (.iload 12, 2) := by decide +kernel
theorem dL_isSo_457 : decode cL_isSo 457 = .ok (.ifCond .lt 28, 3) := by decide +kernel
theorem dL_isSo_460 : decode cL_isSo 460 = .ok (.aload_n 0, 1) := by decide +kernel
theorem dL_isSo_461 : decode cL_isSo 461 = .ok (.iload 12, 2) := by decide +kernel
theorem dL_isSo_463 : decode cL_isSo 463 = .ok (.iconst 0, 1) := by decide +kernel
theorem dL_isSo_464 : decode cL_isSo 464 = .ok (.invokevirtual 34, 3) := by decide +kernel
theorem dL_isSo_467 : decode cL_isSo 467 = .ok (.iload 10, 2) := by decide +kernel
theorem dL_isSo_469 : decode cL_isSo 469 = .ok (.if_icmp .ne 14, 3) := by decide +kernel
theorem dL_isSo_472 : decode cL_isSo 472 = .ok (.aload_n 0, 1) := by decide +kernel
theorem dL_isSo_473 : decode cL_isSo 473 = .ok (.iload 12, 2) := by decide +kernel
theorem dL_isSo_475 : decode cL_isSo 475 = .ok (.bipush 12, 2) := by decide +kernel
theorem dL_isSo_477 : decode cL_isSo 477 = .ok (.invokevirtual 34, 3) := by decide +kernel
theorem dL_isSo_480 : decode cL_isSo 480 = .ok (.ifCond .ne 5, 3) := by decide +kernel
theorem dL_isSo_483 : decode cL_isSo 483 = .ok (.iconst 0, 1) := by decide +kernel
theorem dL_isSo_484 : decode cL_isSo 484 = .ok (.ireturn, 1) := by decide +kernel
theorem dL_isSo_485 : decode cL_isSo 485 = .ok (.iinc 10 1, 3) := by decide +kernel
theorem dL_isSo_488 : decode cL_isSo 488 = .ok (.goto (-131), 3) := by decide +kernel
theorem dL_isSo_491 : decode cL_isSo 491 = .ok (.aload_n 0, 1) := by decide +kernel
theorem dL_isSo_492 : decode cL_isSo 492 = .ok (.invokevirtual 98, 3) := by decide +kernel
theorem dL_isSo_495 : decode cL_isSo 495 = .ok (.ifCond .eq 102, 3) := by decide +kernel
theorem dL_isSo_498 : decode cL_isSo 498 = .ok (.aload_n 0, 1) := by decide +kernel
theorem dL_isSo_499 : decode cL_isSo 499 = .ok (.iconst 1, 1) := by decide +kernel
theorem dL_isSo_500 : decode cL_isSo 500 = .ok (.invokevirtual 102, 3) := by decide +kernel
theorem dL_isSo_503 : decode cL_isSo 503 = .ok (.iload 5, 2) := by decide +kernel
theorem dL_isSo_505 : decode cL_isSo 505 = .ok (.if_icmp .ne 92, 3) := by decide +kernel
theorem dL_isSo_508 : decode cL_isSo 508 = .ok (.iload 6, 2) := by decide +kernel
theorem dL_isSo_510 : decode cL_isSo 510 = .ok (.ifCond .ne 87, 3) := by decide +kernel
theorem dL_isSo_513 : decode cL_isSo 513 = .ok (.aload_n 0, 1) := by decide +kernel
theorem dL_isSo_514 : decode cL_isSo 514 = .ok (.bipush 6, 2) := by decide +kernel
theorem dL_isSo_516 : decode cL_isSo 516 = .ok (.invokevirtual 69, 3) := by decide +kernel
theorem dL_isSo_519 : decode cL_isSo 519 = .ok (.iload 7, 2) := by decide +kernel
theorem dL_isSo_521 : decode cL_isSo 521 = .ok (.if_icmp .ne 76, 3) := by decide +kernel
theorem dL_isSo_524 : decode cL_isSo 524 = .ok (.aload_n 0, 1) := by decide +kernel
theorem dL_isSo_525 : decode cL_isSo 525 = .ok (.bipush 7, 2) := by decide +kernel
theorem dL_isSo_527 : decode cL_isSo 527 = .ok (.invokevirtual 69, 3) := by decide +kernel
theorem dL_isSo_530 : decode cL_isSo 530 = .ok (.iload 9, 2) := by decide +kernel
theorem dL_isSo_532 : decode cL_isSo 532 = .ok (.if_icmp .ne 65, 3) := by decide +kernel
theorem dL_isSo_535 : decode cL_isSo 535 = .ok (.aload_n 0, 1) := by decide +kernel
theorem dL_isSo_536 : decode cL_isSo 536 = .ok (.bipush 8, 2) := by decide +kernel
theorem dL_isSo_538 : decode cL_isSo 538 = .ok (.invokevirtual 69, 3) := by decide +kernel
theorem dL_isSo_541 : decode cL_isSo 541 = .ok (.iload 8, 2) := by decide +kernel
theorem dL_isSo_543 : decode cL_isSo 543 = .ok (.if_icmp .ne 54, 3) := by decide +kernel
theorem dL_isSo_546 : decode cL_isSo 546 = .ok (.iload 7, 2) := by decide +kernel
theorem dL_isSo_548 : decode cL_isSo 548 = .ok (.bipush 20, 2) := by decide +kernel
theorem dL_isSo_550 : decode cL_isSo 550 = .ok (.iload_n 2, 1) := by decide +kernel
theorem dL_isSo_551 : decode cL_isSo 551 = .ok (.imul, 1) := by decide +kernel
theorem dL_isSo_552 : decode cL_isSo 552 = .ok (.isub, 1) := by decide +kernel
theorem dL_isSo_553 : decode cL_isSo 553 = .ok (.iload 4, 2) := by decide +kernel
theorem dL_isSo_555 : decode cL_isSo 555 = .ok (.isub, 1) := by decide +kernel
theorem dL_isSo_556 : decode cL_isSo 556 = .ok (.ifCond .gt 41, 3) := by decide +kernel
theorem dL_isSo_559 : decode cL_isSo 559 = .ok (.iload 9, 2) := by decide +kernel
theorem dL_isSo_561 : decode cL_isSo 561 = .ok (.iload 7, 2) := by decide +kernel
theorem dL_isSo_563 : decode cL_isSo 563 = .ok (.bipush 20, 2) := by decide +kernel
theorem dL_isSo_565 : decode cL_isSo 565 = .ok (.iload_n 2, 1) := by decide +kernel
theorem dL_isSo_566 : decode cL_isSo 566 = .ok (.imul, 1) := by decide +kernel
theorem dL_isSo_567 : decode cL_isSo 567 = .ok (.isub, 1) := by decide +kernel
theorem dL_isSo_568 : decode cL_isSo 568 = .ok (.iload 4, 2) := by decide +kernel
theorem dL_isSo_570 : decode cL_isSo 570 = .ok (.isub, 1) := by decide +kernel
theorem dL_isSo_571 : decode cL_isSo 571 = .ok (.ineg, 1) := by decide +kernel
theorem dL_isSo_572 : decode cL_isSo 572 = .ok (.if_icmp .lt 25, 3) := by decide +kernel
theorem dL_isSo_575 : decode cL_isSo 575 = .ok (.aload_n 0, 1) := by decide +kernel
theorem dL_isSo_576 : decode cL_isSo 576 = .ok (.iconst 2, 1) := by decide +kernel
theorem dL_isSo_577 : decode cL_isSo 577 = .ok (.invokevirtual 102, 3) := by decide +kernel
theorem dL_isSo_580 : decode cL_isSo 580 = .ok (.ifCond .lt 17, 3) := by decide +kernel
theorem dL_isSo_583 : decode cL_isSo 583 = .ok (.aload_n 0, 1) := by decide +kernel
theorem dL_isSo_584 : decode cL_isSo 584 = .ok (.iconst 2, 1) := by decide +kernel
theorem dL_isSo_585 : decode cL_isSo 585 = .ok (.invokevirtual 102, 3) := by decide +kernel
theorem dL_isSo_588 : decode cL_isSo 588 = .ok (.bipush 27, 2) := by decide +kernel
theorem dL_isSo_590 : decode cL_isSo 590 = .ok (.if_icmp .ge 7, 3) := by decide +kernel
theorem dL_isSo_593 : decode cL_isSo 593 = .ok (.iconst 1, 1) := by decide +kernel
theorem dL_isSo_594 : decode cL_isSo 594 = .ok (.goto 4, 3) := by decide +kernel
theorem dL_isSo_597 : decode cL_isSo 597 = .ok (.iconst 0, 1) := by decide +kernel
theorem dL_isSo_598 : decode cL_isSo 598 = .ok (.ireturn, 1) := by decide +kernel
