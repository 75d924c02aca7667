theorem dX0_init_0 : decode cX0_init 0 = .ok (.aload_n 0, 1) := by decide +kernel
theorem dX0_init_1 : decode cX0_init 1 = .ok (.invokespecial 3, 3) := by decide +kernel
theorem dX0_init_4 : decode cX0_init 4 = .ok (.aload_n 0, 1) := by decide +kernel
theorem dX0_init_5 : decode cX0_init 5 = .ok (.iconst 0, 1) := by decide +kernel
theorem dX0_init_6 : decode cX0_init 6 = .ok (.putfield 9, 3) := by decide +kernel
theorem dX0_init_9 : decode cX0_init 9 = .ok (.aload_n 0, 1) := by decide +kernel
theorem dX0_init_10 : decode cX0_init 10 = .ok (.iconst (-1), 1) := by decide +kernel
theorem dX0_init_11 : decode cX0_init 11 = .ok (.putfield 15, 3) := by decide +kernel
theorem dX0_init_14 : decode cX0_init 14 = .ok (.aload_n 0, 1) := by decide +kernel
theorem dX0_init_15 : decode cX0_init 15 = .ok (.bipush 20, 2) := by decide +kernel
theorem dX0_init_17 : decode cX0_init 17 = .ok (.putfield 18, 3) := by decide +kernel
theorem dX0_init_20 : decode cX0_init 20 = .ok (.aload_n 0, 1) := by decide +kernel
theorem dX0_init_21 : decode cX0_init 21 = .ok (.bipush 120, 2) := by decide +kernel
theorem dX0_init_23 : decode cX0_init 23 = .ok (.putfield 21, 3) := by decide +kernel
theorem dX0_init_26 : decode cX0_init 26 = .ok (.return_, 1) := by decide +kernel
theorem dX0_begin_0 : decode cX0_begin 0 = .ok (.aload_n 0, 1) := by decide +kernel
theorem dX0_begin_1 : decode cX0_begin 1 = .ok (.iconst 2, 1) := by decide +kernel
theorem dX0_begin_2 : decode cX0_begin 2 = .ok (.putfield 9, 3) := by decide +kernel
theorem dX0_begin_5 : decode cX0_begin 5 = .ok (.aload_n 0, 1) := by decide +kernel
theorem dX0_begin_6 : decode cX0_begin 6 = .ok (.iload_n 1, 1) := by decide +kernel
theorem dX0_begin_7 : decode cX0_begin 7 = .ok (.putfield 15, 3) := by decide +kernel
theorem dX0_begin_10 : decode cX0_begin 10 = .ok (.aload_n 0, 1) := by decide +kernel
theorem dX0_begin_11 : decode cX0_begin 11 = .ok (.iconst 0, 1) := by decide +kernel
theorem dX0_begin_12 : decode cX0_begin 12 = .ok (.putfield 24, 3) := by decide +kernel
theorem dX0_begin_15 : decode cX0_begin 15 = .ok (.aload_n 0, 1) := by decide +kernel
theorem dX0_begin_16 : decode cX0_begin 16 = .ok (.bipush 100, 2) := by decide +kernel
theorem dX0_begin_18 : decode cX0_begin 18 = .ok (.putfield 27, 3) := by decide +kernel
theorem dX0_begin_21 : decode cX0_begin 21 = .ok (.aload_n 0, 1) := by decide +kernel
theorem dX0_begin_22 : decode cX0_begin 22 = .ok (.iconst 0, 1) := by decide +kernel
theorem dX0_begin_23 : decode cX0_begin 23 = .ok (.putfield 30, 3) := by decide +kernel
theorem dX0_begin_26 : decode cX0_begin 26 = .ok (.aload_n 0, 1) := by decide +kernel
theorem dX0_begin_27 : decode cX0_begin 27 = .ok (.iconst 0, 1) := by decide +kernel
theorem dX0_begin_28 : decode cX0_begin 28 = .ok (.putfield 33, 3) := by decide +kernel
theorem dX0_begin_31 : decode cX0_begin 31 = .ok (.aload_n 0, 1) := by decide +kernel
theorem dX0_begin_32 : decode cX0_begin 32 = .ok (.bipush 120, 2) := by decide +kernel
theorem dX0_begin_34 : decode cX0_begin 34 = .ok (.putfield 21, 3) := by decide +kernel
theorem dX0_begin_37 : decode cX0_begin 37 = .ok (.return_, 1) := by decide +kernel
theorem dX0_end_0 : decode cX0_end 0 = .ok (.aload_n 0, 1) := by decide +kernel
theorem dX0_end_1 : decode cX0_end 1 = .ok (.iconst 0, 1) := by decide +kernel
theorem dX0_end_2 : decode cX0_end 2 = .ok (.putfield 9, 3) := by decide +kernel
theorem dX0_end_5 : decode cX0_end 5 = .ok (.aload_n 0, 1) := by decide +kernel
theorem dX0_end_6 : decode cX0_end 6 = .ok (.iconst (-1), 1) := by decide +kernel
theorem dX0_end_7 : decode cX0_end 7 = .ok (.putfield 15, 3) := by decide +kernel
theorem dX0_end_10 : decode cX0_end 10 = .ok (.aload_n 0, 1) := by decide +kernel
theorem dX0_end_11 : decode cX0_end 11 = .ok (.iconst 0, 1) := by decide +kernel
theorem dX0_end_12 : decode cX0_end 12 = .ok (.putfield 24, 3) := by decide +kernel
theorem dX0_end_15 : decode cX0_end 15 = .ok (.aload_n 0, 1) := by decide +kernel
theorem dX0_end_16 : decode cX0_end 16 = .ok (.iconst 0, 1) := by decide +kernel
theorem dX0_end_17 : decode cX0_end 17 = .ok (.putfield 27, 3) := by decide +kernel
theorem dX0_end_20 : decode cX0_end 20 = .ok (.return_, 1) := by decide +kernel
theorem dX0_thirst_0 : decode cX0_thirst 0 = .ok (.aload_n 0, 1) := by decide +kernel
theorem dX0_thirst_1 : decode cX0_thirst 1 = .ok (.getfield 9, 3) := by decide +kernel
theorem dX0_thirst_4 : decode cX0_thirst 4 = .ok (.invokestatic 36, 3) := by decide +kernel
theorem dX0_thirst_7 : decode cX0_thirst 7 = .ok (.ifCond .eq 7, 3) := by decide +kernel
theorem dX0_thirst_10 : decode cX0_thirst 10 = .ok (.iconst 2, 1) := by decide +kernel
theorem dX0_thirst_11 : decode cX0_thirst 11 = .ok (.goto 4, 3) := by decide +kernel
theorem dX0_thirst_14 : decode cX0_thirst 14 = .ok (.iconst 1, 1) := by decide +kernel
theorem dX0_thirst_15 : decode cX0_thirst 15 = .ok (.ireturn, 1) := by decide +kernel
theorem dX0_grow_0 : decode cX0_grow 0 = .ok (.aload_n 0, 1) := by decide +kernel
theorem dX0_grow_1 : decode cX0_grow 1 = .ok (.getfield 9, 3) := by decide +kernel
theorem dX0_grow_4 : decode cX0_grow 4 = .ok (.invokestatic 36, 3) := by decide +kernel
theorem dX0_grow_7 : decode cX0_grow 7 = .ok (.ifCond .ne 4, 3) := by decide +kernel
theorem dX0_grow_10 : decode cX0_grow 10 = .ok (.return_, 1) := by decide +kernel
theorem dX0_grow_11 : decode cX0_grow 11 = .ok (.aload_n 0, 1) := by decide +kernel
theorem dX0_grow_12 : decode cX0_grow 12 = .ok (.iload_n 1, 1) := by decide +kernel
theorem dX0_grow_13 : decode cX0_grow 13 = .ok (.iload_n 2, 1) := by decide +kernel
theorem dX0_grow_14 : decode cX0_grow 14 = .ok (.invokevirtual 40, 3) := by decide +kernel
theorem dX0_grow_17 : decode cX0_grow 17 = .ok (.aload_n 0, 1) := by decide +kernel
theorem dX0_grow_18 : decode cX0_grow 18 = .ok (.dup, 1) := by decide +kernel
theorem dX0_grow_19 : decode cX0_grow 19 = .ok (.getfield 24, 3) := by decide +kernel
theorem dX0_grow_22 : decode cX0_grow 22 = .ok (.iload_n 3, 1) := by decide +kernel
theorem dX0_grow_23 : decode cX0_grow 23 = .ok (.iadd, 1) := by decide +kernel
theorem dX0_grow_24 : decode cX0_grow 24 = .ok (.putfield 24, 3) := by decide +kernel
theorem dX0_grow_27 : decode cX0_grow 27 = .ok (.aload_n 0, 1) := by decide +kernel
theorem dX0_grow_28 : decode cX0_grow 28 = .ok (.invokevirtual 44, 3) := by decide +kernel
theorem dX0_grow_31 : decode cX0_grow 31 = .ok (.aload_n 0, 1) := by decide +kernel
theorem dX0_grow_32 : decode cX0_grow 32 = .ok (.getfield 9, 3) := by decide +kernel
theorem dX0_grow_35 : decode cX0_grow 35 = .ok (.invokestatic 36, 3) := by decide +kernel
theorem dX0_grow_38 : decode cX0_grow 38 = .ok (.ifCond .eq 20, 3) := by decide +kernel
theorem dX0_grow_41 : decode cX0_grow 41 = .ok (.aload_n 0, 1) := by decide +kernel
theorem dX0_grow_42 : decode cX0_grow 42 = .ok (.getfield 18, 3) := by decide +kernel
theorem dX0_grow_45 : decode cX0_grow 45 = .ok (.ifCond .le 13, 3) := by decide +kernel
theorem dX0_grow_48 : decode cX0_grow 48 = .ok (.aload_n 0, 1) := by decide +kernel
theorem dX0_grow_49 : decode cX0_grow 49 = .ok (.dup, 1) := by decide +kernel
theorem dX0_grow_50 : decode cX0_grow 50 = .ok (.getfield 18, 3) := by decide +kernel
theorem dX0_grow_53 : decode cX0_grow 53 = .ok (.iconst 1, 1) := by decide +kernel
theorem dX0_grow_54 : decode cX0_grow 54 = .ok (.isub, 1) := by decide +kernel
theorem dX0_grow_55 : decode cX0_grow 55 = .ok (.putfield 18, 3) := by decide +kernel
theorem dX0_grow_58 : decode cX0_grow 58 = .ok (.return_, 1) := by decide +kernel
theorem dX0_suffer_0 : decode cX0_suffer 0 = .ok (.iload_n 2, 1) := by decide +kernel
theorem dX0_suffer_1 : decode cX0_suffer 1 = .ok (.bipush 20, 2) := by decide +kernel
theorem dX0_suffer_3 : decode cX0_suffer 3 = .ok (.idiv, 1) := by decide +kernel
theorem dX0_suffer_4 : decode cX0_suffer 4 = .ok (.istore_n 3, 1) := by decide +kernel
theorem dX0_suffer_5 : decode cX0_suffer 5 = .ok (.iload_n 1, 1) := by decide +kernel
theorem dX0_suffer_6 : decode cX0_suffer 6 = .ok (.iconst 2, 1) := by decide +kernel
theorem dX0_suffer_7 : decode cX0_suffer 7 = .ok (.if_icmp .ge 19, 3) := by decide +kernel
theorem dX0_suffer_10 : decode cX0_suffer 10 = .ok (.iload_n 3, 1) := by decide +kernel
theorem dX0_suffer_11 : decode cX0_suffer 11 = .ok (.getstatic 47, 3) := by decide +kernel
theorem dX0_suffer_14 : decode cX0_suffer 14 = .ok (.aload_n 0, 1) := by decide +kernel
theorem dX0_suffer_15 : decode cX0_suffer 15 = .ok (.getfield 9, 3) := by decide +kernel
theorem dX0_suffer_18 : decode cX0_suffer 18 = .ok (.invokestatic 51, 3) := by decide +kernel
theorem dX0_suffer_21 : decode cX0_suffer 21 = .ok (.iadd, 1) := by decide +kernel
theorem dX0_suffer_22 : decode cX0_suffer 22 = .ok (.istore_n 3, 1) := by decide +kernel
theorem dX0_suffer_23 : decode cX0_suffer 23 = .ok (.goto 22, 3) := by decide +kernel
theorem dX0_suffer_26 : decode cX0_suffer 26 = .ok (.iload_n 1, 1) := by decide +kernel
theorem dX0_suffer_27 : decode cX0_suffer 27 = .ok (.bipush 20, 2) := by decide +kernel
theorem dX0_suffer_29 : decode cX0_suffer 29 = .ok (.if_icmp .le 16, 3) := by decide +kernel
theorem dX0_suffer_32 : decode cX0_suffer 32 = .ok (.iload_n 3, 1) := by decide +kernel
theorem dX0_suffer_33 : decode cX0_suffer 33 = .ok (.getstatic 55, 3) := by decide +kernel
theorem dX0_suffer_36 : decode cX0_suffer 36 = .ok (.aload_n 0, 1) := by decide +kernel
theorem dX0_suffer_37 : decode cX0_suffer 37 = .ok (.getfield 9, 3) := by decide +kernel
theorem dX0_suffer_40 : decode cX0_suffer 40 = .ok (.invokestatic 51, 3) := by decide +kernel
theorem dX0_suffer_43 : decode cX0_suffer 43 = .ok (.iadd, 1) := by decide +kernel
theorem dX0_suffer_44 : decode cX0_suffer 44 = .ok (.istore_n 3, 1) := by decide +kernel
theorem dX0_suffer_45 : decode cX0_suffer 45 = .ok (.aload_n 0, 1) := by decide +kernel
theorem dX0_suffer_46 : decode cX0_suffer 46 = .ok (.iconst 0, 1) := by decide +kernel
theorem dX0_suffer_47 : decode cX0_suffer 47 = .ok (.aload_n 0, 1) := by decide +kernel
theorem dX0_suffer_48 : decode cX0_suffer 48 = .ok (.getfield 27, 3) := by decide +kernel
theorem dX0_suffer_51 : decode cX0_suffer 51 = .ok (.iload_n 3, 1) := by decide +kernel
theorem dX0_suffer_52 : decode cX0_suffer 52 = .ok (.isub, 1) := by decide +kernel
theorem dX0_suffer_53 : decode cX0_suffer 53 = .ok (.invokestatic 58, 3) := by decide +kernel
theorem dX0_suffer_56 : decode cX0_suffer 56 = .ok (.putfield 27, 3) := by decide +kernel
theorem dX0_suffer_59 : decode cX0_suffer 59 = .ok (.return_, 1) := by decide +kernel
theorem dX0_ripen_0 : decode cX0_ripen 0 = .ok (.aload_n 0, 1) := by decide +kernel
theorem dX0_ripen_1 : decode cX0_ripen 1 = .ok (.getfield 24, 3) := by decide +kernel
theorem dX0_ripen_4 : decode cX0_ripen 4 = .ok (.getstatic 64, 3) := by decide +kernel
theorem dX0_ripen_7 : decode cX0_ripen 7 = .ok (.aload_n 0, 1) := by decide +kernel
theorem dX0_ripen_8 : decode cX0_ripen 8 = .ok (.getfield 15, 3) := by decide +kernel
theorem dX0_ripen_11 : decode cX0_ripen 11 = .ok (.invokestatic 51, 3) := by decide +kernel
theorem dX0_ripen_14 : decode cX0_ripen 14 = .ok (.if_icmp .lt 11, 3) := by decide +kernel
theorem dX0_ripen_17 : decode cX0_ripen 17 = .ok (.aload_n 0, 1) := by decide +kernel
theorem dX0_ripen_18 : decode cX0_ripen 18 = .ok (.iconst 5, 1) := by decide +kernel
theorem dX0_ripen_19 : decode cX0_ripen 19 = .ok (.putfield 9, 3) := by decide +kernel
theorem dX0_ripen_22 : decode cX0_ripen 22 = .ok (.goto 50, 3) := by decide +kernel
theorem dX0_ripen_25 : decode cX0_ripen 25 = .ok (.aload_n 0, 1) := by decide +kernel
theorem dX0_ripen_26 : decode cX0_ripen 26 = .ok (.getfield 24, 3) := by decide +kernel
theorem dX0_ripen_29 : decode cX0_ripen 29 = .ok (.getstatic 67, 3) := by decide +kernel
theorem dX0_ripen_32 : decode cX0_ripen 32 = .ok (.aload_n 0, 1) := by decide +kernel
theorem dX0_ripen_33 : decode cX0_ripen 33 = .ok (.getfield 15, 3) := by decide +kernel
theorem dX0_ripen_36 : decode cX0_ripen 36 = .ok (.invokestatic 51, 3) := by decide +kernel
theorem dX0_ripen_39 : decode cX0_ripen 39 = .ok (.if_icmp .lt 11, 3) := by decide +kernel
theorem dX0_ripen_42 : decode cX0_ripen 42 = .ok (.aload_n 0, 1) := by decide +kernel
theorem dX0_ripen_43 : decode cX0_ripen 43 = .ok (.iconst 4, 1) := by decide +kernel
theorem dX0_ripen_44 : decode cX0_ripen 44 = .ok (.putfield 9, 3) := by decide +kernel
theorem dX0_ripen_47 : decode cX0_ripen 47 = .ok (.goto 25, 3) := by decide +kernel
theorem dX0_ripen_50 : decode cX0_ripen 50 = .ok (.aload_n 0, 1) := by decide +kernel
theorem dX0_ripen_51 : decode cX0_ripen 51 = .ok (.getfield 24, 3) := by decide +kernel
theorem dX0_ripen_54 : decode cX0_ripen 54 = .ok (.getstatic 70, 3) := by decide +kernel
theorem dX0_ripen_57 : decode cX0_ripen 57 = .ok (.aload_n 0, 1) := by decide +kernel
theorem dX0_ripen_58 : decode cX0_ripen 58 = .ok (.getfield 15, 3) := by decide +kernel
theorem dX0_ripen_61 : decode cX0_ripen 61 = .ok (.invokestatic 51, 3) := by decide +kernel
theorem dX0_ripen_64 : decode cX0_ripen 64 = .ok (.if_icmp .lt 8, 3) := by decide +kernel
theorem dX0_ripen_67 : decode cX0_ripen 67 = .ok (.aload_n 0, 1) := by decide +kernel
theorem dX0_ripen_68 : decode cX0_ripen 68 = .ok (.iconst 3, 1) := by decide +kernel
theorem dX0_ripen_69 : decode cX0_ripen 69 = .ok (.putfield 9, 3) := by decide +kernel
theorem dX0_ripen_72 : decode cX0_ripen 72 = .ok (.return_, 1) := by decide +kernel
theorem dX0_ripeYield_0 : decode cX0_ripeYield 0 = .ok (.aload_n 0, 1) := by decide +kernel
theorem dX0_ripeYield_1 : decode cX0_ripeYield 1 = .ok (.getfield 9, 3) := by decide +kernel
theorem dX0_ripeYield_4 : decode cX0_ripeYield 4 = .ok (.iconst 5, 1) := by decide +kernel
theorem dX0_ripeYield_5 : decode cX0_ripeYield 5 = .ok (.if_icmp .eq 5, 3) := by decide +kernel
theorem dX0_ripeYield_8 : decode cX0_ripeYield 8 = .ok (.iconst 0, 1) := by decide +kernel
theorem dX0_ripeYield_9 : decode cX0_ripeYield 9 = .ok (.ireturn, 1) := by decide +kernel
theorem dX0_ripeYield_10 : decode cX0_ripeYield 10 = .ok (.getstatic 73, 3) := by decide +kernel
theorem dX0_ripeYield_13 : decode cX0_ripeYield 13 = .ok (.aload_n 0, 1) := by decide +kernel
theorem dX0_ripeYield_14 : decode cX0_ripeYield 14 = .ok (.getfield 15, 3) := by decide +kernel
theorem dX0_ripeYield_17 : decode cX0_ripeYield 17 = .ok (.invokestatic 51, 3) := by decide +kernel
theorem dX0_ripeYield_20 : decode cX0_ripeYield 20 = .ok (.aload_n 0, 1) := by decide +kernel
theorem dX0_ripeYield_21 : decode cX0_ripeYield 21 = .ok (.getfield 27, 3) := by decide +kernel
theorem dX0_ripeYield_24 : decode cX0_ripeYield 24 = .ok (.imul, 1) := by decide +kernel
theorem dX0_ripeYield_25 : decode cX0_ripeYield 25 = .ok (.bipush 100, 2) := by decide +kernel
theorem dX0_ripeYield_27 : decode cX0_ripeYield 27 = .ok (.idiv, 1) := by decide +kernel
theorem dX0_ripeYield_28 : decode cX0_ripeYield 28 = .ok (.istore_n 1, 1) := by decide +kernel
theorem dX0_ripeYield_29 : decode cX0_ripeYield 29 = .ok (.iload_n 1, 1) := by decide +kernel
theorem dX0_ripeYield_30 : decode cX0_ripeYield 30 = .ok (.bipush 50, 2) := by decide +kernel
theorem dX0_ripeYield_32 : decode cX0_ripeYield 32 = .ok (.aload_n 0, 1) := by decide +kernel
theorem dX0_ripeYield_33 : decode cX0_ripeYield 33 = .ok (.getfield 18, 3) := by decide +kernel
theorem dX0_ripeYield_36 : decode cX0_ripeYield 36 = .ok (.iadd, 1) := by decide +kernel
theorem dX0_ripeYield_37 : decode cX0_ripeYield 37 = .ok (.imul, 1) := by decide +kernel
theorem dX0_ripeYield_38 : decode cX0_ripeYield 38 = .ok (.bipush 100, 2) := by decide +kernel
theorem dX0_ripeYield_40 : decode cX0_ripeYield 40 = .ok (.idiv, 1) := by decide +kernel
theorem dX0_ripeYield_41 : decode cX0_ripeYield 41 = .ok (.ireturn, 1) := by decide +kernel
theorem dX0_learn_0 : decode cX0_learn 0 = .ok (.bipush 100, 2) := by decide +kernel
theorem dX0_learn_2 : decode cX0_learn 2 = .ok (.iload_n 1, 1) := by decide +kernel
theorem dX0_learn_3 : decode cX0_learn 3 = .ok (.imul, 1) := by decide +kernel
theorem dX0_learn_4 : decode cX0_learn 4 = .ok (.bipush 109, 2) := by decide +kernel
theorem dX0_learn_6 : decode cX0_learn 6 = .ok (.iadd, 1) := by decide +kernel
theorem dX0_learn_7 : decode cX0_learn 7 = .ok (.bipush 110, 2) := by decide +kernel
theorem dX0_learn_9 : decode cX0_learn 9 = .ok (.idiv, 1) := by decide +kernel
theorem dX0_learn_10 : decode cX0_learn 10 = .ok (.istore_n 2, 1) := by decide +kernel
theorem dX0_learn_11 : decode cX0_learn 11 = .ok (.bipush 100, 2) := by decide +kernel
theorem dX0_learn_13 : decode cX0_learn 13 = .ok (.iload_n 1, 1) := by decide +kernel
theorem dX0_learn_14 : decode cX0_learn 14 = .ok (.iconst 1, 1) := by decide +kernel
theorem dX0_learn_15 : decode cX0_learn 15 = .ok (.iadd, 1) := by decide +kernel
theorem dX0_learn_16 : decode cX0_learn 16 = .ok (.imul, 1) := by decide +kernel
theorem dX0_learn_17 : decode cX0_learn 17 = .ok (.iconst 1, 1) := by decide +kernel
theorem dX0_learn_18 : decode cX0_learn 18 = .ok (.isub, 1) := by decide +kernel
theorem dX0_learn_19 : decode cX0_learn 19 = .ok (.bipush 90, 2) := by decide +kernel
theorem dX0_learn_21 : decode cX0_learn 21 = .ok (.idiv, 1) := by decide +kernel
theorem dX0_learn_22 : decode cX0_learn 22 = .ok (.istore_n 3, 1) := by decide +kernel
theorem dX0_learn_23 : decode cX0_learn 23 = .ok (.aload_n 0, 1) := by decide +kernel
theorem dX0_learn_24 : decode cX0_learn 24 = .ok (.aload_n 0, 1) := by decide +kernel
theorem dX0_learn_25 : decode cX0_learn 25 = .ok (.getfield 33, 3) := by decide +kernel
theorem dX0_learn_28 : decode cX0_learn 28 = .ok (.iload_n 2, 1) := by decide +kernel
theorem dX0_learn_29 : decode cX0_learn 29 = .ok (.invokestatic 58, 3) := by decide +kernel
theorem dX0_learn_32 : decode cX0_learn 32 = .ok (.putfield 33, 3) := by decide +kernel
theorem dX0_learn_35 : decode cX0_learn 35 = .ok (.aload_n 0, 1) := by decide +kernel
theorem dX0_learn_36 : decode cX0_learn 36 = .ok (.aload_n 0, 1) := by decide +kernel
theorem dX0_learn_37 : decode cX0_learn 37 = .ok (.getfield 21, 3) := by decide +kernel
theorem dX0_learn_40 : decode cX0_learn 40 = .ok (.iload_n 3, 1) := by decide +kernel
theorem dX0_learn_41 : decode cX0_learn 41 = .ok (.invokestatic 76, 3) := by decide +kernel
theorem dX0_learn_44 : decode cX0_learn 44 = .ok (.putfield 21, 3) := by decide +kernel
theorem dX0_learn_47 : decode cX0_learn 47 = .ok (.return_, 1) := by decide +kernel
theorem dX0_copyFrom_0 : decode cX0_copyFrom 0 = .ok (.aload_n 0, 1) := by decide +kernel
theorem dX0_copyFrom_1 : decode cX0_copyFrom 1 = .ok (.aload_n 1, 1) := by decide +kernel
theorem dX0_copyFrom_2 : decode cX0_copyFrom 2 = .ok (.getfield 9, 3) := by decide +kernel
theorem dX0_copyFrom_5 : decode cX0_copyFrom 5 = .ok (.putfield 9, 3) := by decide +kernel
theorem dX0_copyFrom_8 : decode cX0_copyFrom 8 = .ok (.aload_n 0, 1) := by decide +kernel
theorem dX0_copyFrom_9 : decode cX0_copyFrom 9 = .ok (.aload_n 1, 1) := by decide +kernel
theorem dX0_copyFrom_10 : decode cX0_copyFrom 10 = .ok (.getfield 15, 3) := by decide +kernel
theorem dX0_copyFrom_13 : decode cX0_copyFrom 13 = .ok (.putfield 15, 3) := by decide +kernel
theorem dX0_copyFrom_16 : decode cX0_copyFrom 16 = .ok (.aload_n 0, 1) := by decide +kernel
theorem dX0_copyFrom_17 : decode cX0_copyFrom 17 = .ok (.aload_n 1, 1) := by decide +kernel
theorem dX0_copyFrom_18 : decode cX0_copyFrom 18 = .ok (.getfield 24, 3) := by decide +kernel
theorem dX0_copyFrom_21 : decode cX0_copyFrom 21 = .ok (.putfield 24, 3) := by decide +kernel
theorem dX0_copyFrom_24 : decode cX0_copyFrom 24 = .ok (.aload_n 0, 1) := by decide +kernel
theorem dX0_copyFrom_25 : decode cX0_copyFrom 25 = .ok (.aload_n 1, 1) := by decide +kernel
theorem dX0_copyFrom_26 : decode cX0_copyFrom 26 = .ok (.getfield 27, 3) := by decide +kernel
theorem dX0_copyFrom_29 : decode cX0_copyFrom 29 = .ok (.putfield 27, 3) := by decide +kernel
theorem dX0_copyFrom_32 : decode cX0_copyFrom 32 = .ok (.aload_n 0, 1) := by decide +kernel
theorem dX0_copyFrom_33 : decode cX0_copyFrom 33 = .ok (.aload_n 1, 1) := by decide +kernel
theorem dX0_copyFrom_34 : decode cX0_copyFrom 34 = .ok (.getfield 18, 3) := by decide +kernel
theorem dX0_copyFrom_37 : decode cX0_copyFrom 37 = .ok (.putfield 18, 3) := by decide +kernel
theorem dX0_copyFrom_40 : decode cX0_copyFrom 40 = .ok (.return_, 1) := by decide +kernel
theorem dX1_init_0 : decode cX1_init 0 = .ok (.aload_n 0, 1) := by decide +kernel
theorem dX1_init_1 : decode cX1_init 1 = .ok (.invokespecial 3, 3) := by decide +kernel
theorem dX1_init_4 : decode cX1_init 4 = .ok (.aload_n 0, 1) := by decide +kernel
theorem dX1_init_5 : decode cX1_init 5 = .ok (.new 9, 3) := by decide +kernel
theorem dX1_init_8 : decode cX1_init 8 = .ok (.dup, 1) := by decide +kernel
theorem dX1_init_9 : decode cX1_init 9 = .ok (.invokespecial 11, 3) := by decide +kernel
theorem dX1_init_12 : decode cX1_init 12 = .ok (.putfield 12, 3) := by decide +kernel
theorem dX1_init_15 : decode cX1_init 15 = .ok (.aload_n 0, 1) := by decide +kernel
theorem dX1_init_16 : decode cX1_init 16 = .ok (.new 18, 3) := by decide +kernel
theorem dX1_init_19 : decode cX1_init 19 = .ok (.dup, 1) := by decide +kernel
theorem dX1_init_20 : decode cX1_init 20 = .ok (.invokespecial 20, 3) := by decide +kernel
theorem dX1_init_23 : decode cX1_init 23 = .ok (.putfield 21, 3) := by decide +kernel
theorem dX1_init_26 : decode cX1_init 26 = .ok (.aload_n 0, 1) := by decide +kernel
theorem dX1_init_27 : decode cX1_init 27 = .ok (.iload_n 1, 1) := by decide +kernel
theorem dX1_init_28 : decode cX1_init 28 = .ok (.putfield 25, 3) := by decide +kernel
theorem dX1_init_31 : decode cX1_init 31 = .ok (.aload_n 0, 1) := by decide +kernel
theorem dX1_init_32 : decode cX1_init 32 = .ok (.aload_n 2, 1) := by decide +kernel
theorem dX1_init_33 : decode cX1_init 33 = .ok (.putfield 29, 3) := by decide +kernel
theorem dX1_init_36 : decode cX1_init 36 = .ok (.aload_n 0, 1) := by decide +kernel
theorem dX1_init_37 : decode cX1_init 37 = .ok (.iload_n 3, 1) := by decide +kernel
theorem dX1_init_38 : decode cX1_init 38 = .ok (.putfield 33, 3) := by decide +kernel
theorem dX1_init_41 : decode cX1_init 41 = .ok (.aload_n 0, 1) := by decide +kernel
theorem dX1_init_42 : decode cX1_init 42 = .ok (.iload 4, 2) := by decide +kernel
theorem dX1_init_44 : decode cX1_init 44 = .ok (.putfield 36, 3) := by decide +kernel
theorem dX1_init_47 : decode cX1_init 47 = .ok (.return_, 1) := by decide +kernel
theorem dX1_takesWater_0 : decode cX1_takesWater 0 = .ok (.aload_n 0, 1) := by decide +kernel
theorem dX1_takesWater_1 : decode cX1_takesWater 1 = .ok (.getfield 39, 3) := by decide +kernel
theorem dX1_takesWater_4 : decode cX1_takesWater 4 = .ok (.ifCond .eq 17, 3) := by decide +kernel
theorem dX1_takesWater_7 : decode cX1_takesWater 7 = .ok (.aload_n 0, 1) := by decide +kernel
theorem dX1_takesWater_8 : decode cX1_takesWater 8 = .ok (.getfield 12, 3) := by decide +kernel
theorem dX1_takesWater_11 : decode cX1_takesWater 11 = .ok (.getfield 43, 3) := by decide +kernel
theorem dX1_takesWater_14 : decode cX1_takesWater 14 = .ok (.ifCond .lt 7, 3) := by decide +kernel
theorem dX1_takesWater_17 : decode cX1_takesWater 17 = .ok (.iconst 1, 1) := by decide +kernel
theorem dX1_takesWater_18 : decode cX1_takesWater 18 = .ok (.goto 4, 3) := by decide +kernel
theorem dX1_takesWater_21 : decode cX1_takesWater 21 = .ok (.iconst 0, 1) := by decide +kernel
theorem dX1_takesWater_22 : decode cX1_takesWater 22 = .ok (.ireturn, 1) := by decide +kernel
theorem dX1_part_0 : decode cX1_part 0 = .ok (.aload_n 0, 1) := by decide +kernel
theorem dX1_part_1 : decode cX1_part 1 = .ok (.getfield 33, 3) := by decide +kernel
theorem dX1_part_4 : decode cX1_part 4 = .ok (.aload_n 0, 1) := by decide +kernel
theorem dX1_part_5 : decode cX1_part 5 = .ok (.getfield 46, 3) := by decide +kernel
theorem dX1_part_8 : decode cX1_part 8 = .ok (.iadd, 1) := by decide +kernel
theorem dX1_part_9 : decode cX1_part 9 = .ok (.ireturn, 1) := by decide +kernel
theorem dX1_clear_0 : decode cX1_clear 0 = .ok (.aload_n 0, 1) := by decide +kernel
theorem dX1_clear_1 : decode cX1_clear 1 = .ok (.getfield 21, 3) := by decide +kernel
theorem dX1_clear_4 : decode cX1_clear 4 = .ok (.invokevirtual 49, 3) := by decide +kernel
theorem dX1_clear_7 : decode cX1_clear 7 = .ok (.iload_n 1, 1) := by decide +kernel
theorem dX1_clear_8 : decode cX1_clear 8 = .ok (.ifCond .eq 16, 3) := by decide +kernel
theorem dX1_clear_11 : decode cX1_clear 11 = .ok (.aload_n 0, 1) := by decide +kernel
theorem dX1_clear_12 : decode cX1_clear 12 = .ok (.dup, 1) := by decide +kernel
theorem dX1_clear_13 : decode cX1_clear 13 = .ok (.getfield 52, 3) := by decide +kernel
theorem dX1_clear_16 : decode cX1_clear 16 = .ok (.iconst 2, 1) := by decide +kernel
theorem dX1_clear_17 : decode cX1_clear 17 = .ok (.idiv, 1) := by decide +kernel
theorem dX1_clear_18 : decode cX1_clear 18 = .ok (.putfield 52, 3) := by decide +kernel
theorem dX1_clear_21 : decode cX1_clear 21 = .ok (.goto 25, 3) := by decide +kernel
theorem dX1_clear_24 : decode cX1_clear 24 = .ok (.aload_n 0, 1) := by decide +kernel
theorem dX1_clear_25 : decode cX1_clear 25 = .ok (.getfield 21, 3) := by decide +kernel
theorem dX1_clear_28 : decode cX1_clear 28 = .ok (.bipush 50, 2) := by decide +kernel
theorem dX1_clear_30 : decode cX1_clear 30 = .ok (.aload_n 0, 1) := by decide +kernel
theorem dX1_clear_31 : decode cX1_clear 31 = .ok (.getfield 21, 3) := by decide +kernel
theorem dX1_clear_34 : decode cX1_clear 34 = .ok (.getfield 55, 3) := by decide +kernel
theorem dX1_clear_37 : decode cX1_clear 37 = .ok (.bipush 10, 2) := by decide +kernel
theorem dX1_clear_39 : decode cX1_clear 39 = .ok (.iadd, 1) := by decide +kernel
theorem dX1_clear_40 : decode cX1_clear 40 = .ok (.invokestatic 58, 3) := by decide +kernel
theorem dX1_clear_43 : decode cX1_clear 43 = .ok (.putfield 55, 3) := by decide +kernel
theorem dX1_clear_46 : decode cX1_clear 46 = .ok (.return_, 1) := by decide +kernel
theorem dX1_passWater_0 : decode cX1_passWater 0 = .ok (.aload_n 0, 1) := by decide +kernel
theorem dX1_passWater_1 : decode cX1_passWater 1 = .ok (.dup, 1) := by decide +kernel
theorem dX1_passWater_2 : decode cX1_passWater 2 = .ok (.getfield 64, 3) := by decide +kernel
theorem dX1_passWater_5 : decode cX1_passWater 5 = .ok (.aload_n 0, 1) := by decide +kernel
theorem dX1_passWater_6 : decode cX1_passWater 6 = .ok (.getfield 67, 3) := by decide +kernel
theorem dX1_passWater_9 : decode cX1_passWater 9 = .ok (.iload_n 1, 1) := by decide +kernel
theorem dX1_passWater_10 : decode cX1_passWater 10 = .ok (.iadd, 1) := by decide +kernel
theorem dX1_passWater_11 : decode cX1_passWater 11 = .ok (.aload_n 0, 1) := by decide +kernel
theorem dX1_passWater_12 : decode cX1_passWater 12 = .ok (.getfield 70, 3) := by decide +kernel
theorem dX1_passWater_15 : decode cX1_passWater 15 = .ok (.iadd, 1) := by decide +kernel
theorem dX1_passWater_16 : decode cX1_passWater 16 = .ok (.iadd, 1) := by decide +kernel
theorem dX1_passWater_17 : decode cX1_passWater 17 = .ok (.putfield 64, 3) := by decide +kernel
theorem dX1_passWater_20 : decode cX1_passWater 20 = .ok (.aload_n 0, 1) := by decide +kernel
theorem dX1_passWater_21 : decode cX1_passWater 21 = .ok (.iconst 0, 1) := by decide +kernel
theorem dX1_passWater_22 : decode cX1_passWater 22 = .ok (.putfield 70, 3) := by decide +kernel
theorem dX1_passWater_25 : decode cX1_passWater 25 = .ok (.iconst 0, 1) := by decide +kernel
theorem dX1_passWater_26 : decode cX1_passWater 26 = .ok (.aload_n 0, 1) := by decide +kernel
theorem dX1_passWater_27 : decode cX1_passWater 27 = .ok (.getfield 64, 3) := by decide +kernel
theorem dX1_passWater_30 : decode cX1_passWater 30 = .ok (.aload_n 0, 1) := by decide +kernel
theorem dX1_passWater_31 : decode cX1_passWater 31 = .ok (.getfield 36, 3) := by decide +kernel
theorem dX1_passWater_34 : decode cX1_passWater 34 = .ok (.isub, 1) := by decide +kernel
theorem dX1_passWater_35 : decode cX1_passWater 35 = .ok (.invokestatic 73, 3) := by decide +kernel
theorem dX1_passWater_38 : decode cX1_passWater 38 = .ok (.istore_n 3, 1) := by decide +kernel
theorem dX1_passWater_39 : decode cX1_passWater 39 = .ok (.aload_n 0, 1) := by decide +kernel
theorem dX1_passWater_40 : decode cX1_passWater 40 = .ok (.dup, 1) := by decide +kernel
theorem dX1_passWater_41 : decode cX1_passWater 41 = .ok (.getfield 64, 3) := by decide +kernel
theorem dX1_passWater_44 : decode cX1_passWater 44 = .ok (.iload_n 3, 1) := by decide +kernel
theorem dX1_passWater_45 : decode cX1_passWater 45 = .ok (.isub, 1) := by decide +kernel
theorem dX1_passWater_46 : decode cX1_passWater 46 = .ok (.putfield 64, 3) := by decide +kernel
theorem dX1_passWater_49 : decode cX1_passWater 49 = .ok (.iconst 1, 1) := by decide +kernel
theorem dX1_passWater_50 : decode cX1_passWater 50 = .ok (.aload_n 0, 1) := by decide +kernel
theorem dX1_passWater_51 : decode cX1_passWater 51 = .ok (.getfield 76, 3) := by decide +kernel
theorem dX1_passWater_54 : decode cX1_passWater 54 = .ok (.iadd, 1) := by decide +kernel
theorem dX1_passWater_55 : decode cX1_passWater 55 = .ok (.aload_n 0, 1) := by decide +kernel
theorem dX1_passWater_56 : decode cX1_passWater 56 = .ok (.getfield 64, 3) := by decide +kernel
theorem dX1_passWater_59 : decode cX1_passWater 59 = .ok (.invokestatic 58, 3) := by decide +kernel
theorem dX1_passWater_62 : decode cX1_passWater 62 = .ok (.istore 4, 2) := by decide +kernel
theorem dX1_passWater_64 : decode cX1_passWater 64 = .ok (.aload_n 0, 1) := by decide +kernel
theorem dX1_passWater_65 : decode cX1_passWater 65 = .ok (.dup, 1) := by decide +kernel
theorem dX1_passWater_66 : decode cX1_passWater 66 = .ok (.getfield 64, 3) := by decide +kernel
theorem dX1_passWater_69 : decode cX1_passWater 69 = .ok (.iload 4, 2) := by decide +kernel
theorem dX1_passWater_71 : decode cX1_passWater 71 = .ok (.isub, 1) := by decide +kernel
theorem dX1_passWater_72 : decode cX1_passWater 72 = .ok (.putfield 64, 3) := by decide +kernel
theorem dX1_passWater_75 : decode cX1_passWater 75 = .ok (.iload 4, 2) := by decide +kernel
theorem dX1_passWater_77 : decode cX1_passWater 77 = .ok (.iconst 2, 1) := by decide +kernel
theorem dX1_passWater_78 : decode cX1_passWater 78 = .ok (.idiv, 1) := by decide +kernel
theorem dX1_passWater_79 : decode cX1_passWater 79 = .ok (.istore 5, 2) := by decide +kernel
theorem dX1_passWater_81 : decode cX1_passWater 81 = .ok (.aload_n 2, 1) := by decide +kernel
theorem dX1_passWater_82 : decode cX1_passWater 82 = .ok (.dup, 1) := by decide +kernel
theorem dX1_passWater_83 : decode cX1_passWater 83 = .ok (.getfield 79, 3) := by decide +kernel
theorem dX1_passWater_86 : decode cX1_passWater 86 = .ok (.iload 4, 2) := by decide +kernel
theorem dX1_passWater_88 : decode cX1_passWater 88 = .ok (.iload 5, 2) := by decide +kernel
theorem dX1_passWater_90 : decode cX1_passWater 90 = .ok (.isub, 1) := by decide +kernel
theorem dX1_passWater_91 : decode cX1_passWater 91 = .ok (.iadd, 1) := by decide +kernel
theorem dX1_passWater_92 : decode cX1_passWater 92 = .ok (.putfield 79, 3) := by decide +kernel
theorem dX1_passWater_95 : decode cX1_passWater 95 = .ok (.aload_n 0, 1) := by decide +kernel
theorem dX1_passWater_96 : decode cX1_passWater 96 = .ok (.iload_n 3, 1) := by decide +kernel
theorem dX1_passWater_97 : decode cX1_passWater 97 = .ok (.iload 5, 2) := by decide +kernel
theorem dX1_passWater_99 : decode cX1_passWater 99 = .ok (.iadd, 1) := by decide +kernel
theorem dX1_passWater_100 : decode cX1_passWater 100 = .ok (.aload_n 2, 1) := by decide +kernel
theorem dX1_passWater_101 : decode cX1_passWater 101 = .ok (.invokevirtual 84, 3) := by decide +kernel
theorem dX1_passWater_104 : decode cX1_passWater 104 = .ok (.aload_n 0, 1) := by decide +kernel
theorem dX1_passWater_105 : decode cX1_passWater 105 = .ok (.getfield 21, 3) := by decide +kernel
theorem dX1_passWater_108 : decode cX1_passWater 108 = .ok (.invokevirtual 88, 3) := by decide +kernel
theorem dX1_passWater_111 : decode cX1_passWater 111 = .ok (.aload_n 0, 1) := by decide +kernel
theorem dX1_passWater_112 : decode cX1_passWater 112 = .ok (.getfield 64, 3) := by decide +kernel
theorem dX1_passWater_115 : decode cX1_passWater 115 = .ok (.invokestatic 58, 3) := by decide +kernel
theorem dX1_passWater_118 : decode cX1_passWater 118 = .ok (.istore 6, 2) := by decide +kernel
theorem dX1_passWater_120 : decode cX1_passWater 120 = .ok (.aload_n 0, 1) := by decide +kernel
theorem dX1_passWater_121 : decode cX1_passWater 121 = .ok (.dup, 1) := by decide +kernel
theorem dX1_passWater_122 : decode cX1_passWater 122 = .ok (.getfield 64, 3) := by decide +kernel
theorem dX1_passWater_125 : decode cX1_passWater 125 = .ok (.iload 6, 2) := by decide +kernel
theorem dX1_passWater_127 : decode cX1_passWater 127 = .ok (.isub, 1) := by decide +kernel
theorem dX1_passWater_128 : decode cX1_passWater 128 = .ok (.putfield 64, 3) := by decide +kernel
theorem dX1_passWater_131 : decode cX1_passWater 131 = .ok (.aload_n 2, 1) := by decide +kernel
theorem dX1_passWater_132 : decode cX1_passWater 132 = .ok (.dup, 1) := by decide +kernel
theorem dX1_passWater_133 : decode cX1_passWater 133 = .ok (.getfield 92, 3) := by decide +kernel
theorem dX1_passWater_136 : decode cX1_passWater 136 = .ok (.iload 6, 2) := by decide +kernel
theorem dX1_passWater_138 : decode cX1_passWater 138 = .ok (.iadd, 1) := by decide +kernel
theorem dX1_passWater_139 : decode cX1_passWater 139 = .ok (.putfield 92, 3) := by decide +kernel
theorem dX1_passWater_142 : decode cX1_passWater 142 = .ok (.return_, 1) := by decide +kernel
theorem dX1_sendBelow_0 : decode cX1_sendBelow 0 = .ok (.aload_n 0, 1) := by decide +kernel
theorem dX1_sendBelow_1 : decode cX1_sendBelow 1 = .ok (.getfield 95, 3) := by decide +kernel
theorem dX1_sendBelow_4 : decode cX1_sendBelow 4 = .ok (.ifnonnull 16, 3) := by decide +kernel
theorem dX1_sendBelow_7 : decode cX1_sendBelow 7 = .ok (.aload_n 2, 1) := by decide +kernel
theorem dX1_sendBelow_8 : decode cX1_sendBelow 8 = .ok (.dup, 1) := by decide +kernel
theorem dX1_sendBelow_9 : decode cX1_sendBelow 9 = .ok (.getfield 99, 3) := by decide +kernel
theorem dX1_sendBelow_12 : decode cX1_sendBelow 12 = .ok (.iload_n 1, 1) := by decide +kernel
theorem dX1_sendBelow_13 : decode cX1_sendBelow 13 = .ok (.iadd, 1) := by decide +kernel
theorem dX1_sendBelow_14 : decode cX1_sendBelow 14 = .ok (.putfield 99, 3) := by decide +kernel
theorem dX1_sendBelow_17 : decode cX1_sendBelow 17 = .ok (.goto 16, 3) := by decide +kernel
theorem dX1_sendBelow_20 : decode cX1_sendBelow 20 = .ok (.aload_n 0, 1) := by decide +kernel
theorem dX1_sendBelow_21 : decode cX1_sendBelow 21 = .ok (.getfield 95, 3) := by decide +kernel
theorem dX1_sendBelow_24 : decode cX1_sendBelow 24 = .ok (.dup, 1) := by decide +kernel
theorem dX1_sendBelow_25 : decode cX1_sendBelow 25 = .ok (.getfield 70, 3) := by decide +kernel
theorem dX1_sendBelow_28 : decode cX1_sendBelow 28 = .ok (.iload_n 1, 1) := by decide +kernel
theorem dX1_sendBelow_29 : decode cX1_sendBelow 29 = .ok (.iadd, 1) := by decide +kernel
theorem dX1_sendBelow_30 : decode cX1_sendBelow 30 = .ok (.putfield 70, 3) := by decide +kernel
theorem dX1_sendBelow_33 : decode cX1_sendBelow 33 = .ok (.return_, 1) := by decide +kernel
theorem dX1_dryOut_0 : decode cX1_dryOut 0 = .ok (.aload_n 0, 1) := by decide +kernel
theorem dX1_dryOut_1 : decode cX1_dryOut 1 = .ok (.getfield 64, 3) := by decide +kernel
theorem dX1_dryOut_4 : decode cX1_dryOut 4 = .ok (.ifCond .le 9, 3) := by decide +kernel
theorem dX1_dryOut_7 : decode cX1_dryOut 7 = .ok (.aload_n 0, 1) := by decide +kernel
theorem dX1_dryOut_8 : decode cX1_dryOut 8 = .ok (.iconst 0, 1) := by decide +kernel
theorem dX1_dryOut_9 : decode cX1_dryOut 9 = .ok (.putfield 102, 3) := by decide +kernel
theorem dX1_dryOut_12 : decode cX1_dryOut 12 = .ok (.return_, 1) := by decide +kernel
theorem dX1_dryOut_13 : decode cX1_dryOut 13 = .ok (.aload_n 0, 1) := by decide +kernel
theorem dX1_dryOut_14 : decode cX1_dryOut 14 = .ok (.dup, 1) := by decide +kernel
theorem dX1_dryOut_15 : decode cX1_dryOut 15 = .ok (.getfield 102, 3) := by decide +kernel
theorem dX1_dryOut_18 : decode cX1_dryOut 18 = .ok (.iconst 1, 1) := by decide +kernel
theorem dX1_dryOut_19 : decode cX1_dryOut 19 = .ok (.iadd, 1) := by decide +kernel
theorem dX1_dryOut_20 : decode cX1_dryOut 20 = .ok (.putfield 102, 3) := by decide +kernel
theorem dX1_dryOut_23 : decode cX1_dryOut 23 = .ok (.aload_n 0, 1) := by decide +kernel
theorem dX1_dryOut_24 : decode cX1_dryOut 24 = .ok (.getfield 102, 3) := by decide +kernel
theorem dX1_dryOut_27 : decode cX1_dryOut 27 = .ok (.iconst 3, 1) := by decide +kernel
theorem dX1_dryOut_28 : decode cX1_dryOut 28 = .ok (.irem, 1) := by decide +kernel
theorem dX1_dryOut_29 : decode cX1_dryOut 29 = .ok (.ifCond .ne 17, 3) := by decide +kernel
theorem dX1_dryOut_32 : decode cX1_dryOut 32 = .ok (.aload_n 0, 1) := by decide +kernel
theorem dX1_dryOut_33 : decode cX1_dryOut 33 = .ok (.iconst 3, 1) := by decide +kernel
theorem dX1_dryOut_34 : decode cX1_dryOut 34 = .ok (.aload_n 0, 1) := by decide +kernel
theorem dX1_dryOut_35 : decode cX1_dryOut 35 = .ok (.getfield 76, 3) := by decide +kernel
theorem dX1_dryOut_38 : decode cX1_dryOut 38 = .ok (.iconst 1, 1) := by decide +kernel
theorem dX1_dryOut_39 : decode cX1_dryOut 39 = .ok (.iadd, 1) := by decide +kernel
theorem dX1_dryOut_40 : decode cX1_dryOut 40 = .ok (.invokestatic 58, 3) := by decide +kernel
theorem dX1_dryOut_43 : decode cX1_dryOut 43 = .ok (.putfield 76, 3) := by decide +kernel
theorem dX1_dryOut_46 : decode cX1_dryOut 46 = .ok (.return_, 1) := by decide +kernel
theorem dX1_breedPests_0 : decode cX1_breedPests 0 = .ok (.aload_n 0, 1) := by decide +kernel
theorem dX1_breedPests_1 : decode cX1_breedPests 1 = .ok (.getfield 21, 3) := by decide +kernel
theorem dX1_breedPests_4 : decode cX1_breedPests 4 = .ok (.getfield 105, 3) := by decide +kernel
theorem dX1_breedPests_7 : decode cX1_breedPests 7 = .ok (.invokestatic 108, 3) := by decide +kernel
theorem dX1_breedPests_10 : decode cX1_breedPests 10 = .ok (.ifCond .eq 23, 3) := by decide +kernel
theorem dX1_breedPests_13 : decode cX1_breedPests 13 = .ok (.aload_n 0, 1) := by decide +kernel
theorem dX1_breedPests_14 : decode cX1_breedPests 14 = .ok (.dup, 1) := by decide +kernel
theorem dX1_breedPests_15 : decode cX1_breedPests 15 = .ok (.getfield 52, 3) := by decide +kernel
theorem dX1_breedPests_18 : decode cX1_breedPests 18 = .ok (.iconst 1, 1) := by decide +kernel
theorem dX1_breedPests_19 : decode cX1_breedPests 19 = .ok (.aload_n 0, 1) := by decide +kernel
theorem dX1_breedPests_20 : decode cX1_breedPests 20 = .ok (.getfield 52, 3) := by decide +kernel
theorem dX1_breedPests_23 : decode cX1_breedPests 23 = .ok (.iconst 4, 1) := by decide +kernel
theorem dX1_breedPests_24 : decode cX1_breedPests 24 = .ok (.idiv, 1) := by decide +kernel
theorem dX1_breedPests_25 : decode cX1_breedPests 25 = .ok (.iadd, 1) := by decide +kernel
theorem dX1_breedPests_26 : decode cX1_breedPests 26 = .ok (.iadd, 1) := by decide +kernel
theorem dX1_breedPests_27 : decode cX1_breedPests 27 = .ok (.putfield 52, 3) := by decide +kernel
theorem dX1_breedPests_30 : decode cX1_breedPests 30 = .ok (.goto 24, 3) := by decide +kernel
theorem dX1_breedPests_33 : decode cX1_breedPests 33 = .ok (.aload_n 0, 1) := by decide +kernel
theorem dX1_breedPests_34 : decode cX1_breedPests 34 = .ok (.getfield 21, 3) := by decide +kernel
theorem dX1_breedPests_37 : decode cX1_breedPests 37 = .ok (.getfield 105, 3) := by decide +kernel
theorem dX1_breedPests_40 : decode cX1_breedPests 40 = .ok (.iconst 5, 1) := by decide +kernel
theorem dX1_breedPests_41 : decode cX1_breedPests 41 = .ok (.if_icmp .eq 13, 3) := by decide +kernel
theorem dX1_breedPests_44 : decode cX1_breedPests 44 = .ok (.aload_n 0, 1) := by decide +kernel
theorem dX1_breedPests_45 : decode cX1_breedPests 45 = .ok (.dup, 1) := by decide +kernel
theorem dX1_breedPests_46 : decode cX1_breedPests 46 = .ok (.getfield 52, 3) := by decide +kernel
theorem dX1_breedPests_49 : decode cX1_breedPests 49 = .ok (.iconst 2, 1) := by decide +kernel
theorem dX1_breedPests_50 : decode cX1_breedPests 50 = .ok (.idiv, 1) := by decide +kernel
theorem dX1_breedPests_51 : decode cX1_breedPests 51 = .ok (.putfield 52, 3) := by decide +kernel
theorem dX1_breedPests_54 : decode cX1_breedPests 54 = .ok (.aload_n 0, 1) := by decide +kernel
theorem dX1_breedPests_55 : decode cX1_breedPests 55 = .ok (.getfield 112, 3) := by decide +kernel
theorem dX1_breedPests_58 : decode cX1_breedPests 58 = .ok (.ifCond .eq 13, 3) := by decide +kernel
theorem dX1_breedPests_61 : decode cX1_breedPests 61 = .ok (.aload_n 0, 1) := by decide +kernel
theorem dX1_breedPests_62 : decode cX1_breedPests 62 = .ok (.dup, 1) := by decide +kernel
theorem dX1_breedPests_63 : decode cX1_breedPests 63 = .ok (.getfield 52, 3) := by decide +kernel
theorem dX1_breedPests_66 : decode cX1_breedPests 66 = .ok (.iconst 4, 1) := by decide +kernel
theorem dX1_breedPests_67 : decode cX1_breedPests 67 = .ok (.isub, 1) := by decide +kernel
theorem dX1_breedPests_68 : decode cX1_breedPests 68 = .ok (.putfield 52, 3) := by decide +kernel
theorem dX1_breedPests_71 : decode cX1_breedPests 71 = .ok (.aload_n 0, 1) := by decide +kernel
theorem dX1_breedPests_72 : decode cX1_breedPests 72 = .ok (.iconst 0, 1) := by decide +kernel
theorem dX1_breedPests_73 : decode cX1_breedPests 73 = .ok (.bipush 99, 2) := by decide +kernel
theorem dX1_breedPests_75 : decode cX1_breedPests 75 = .ok (.aload_n 0, 1) := by decide +kernel
theorem dX1_breedPests_76 : decode cX1_breedPests 76 = .ok (.getfield 52, 3) := by decide +kernel
theorem dX1_breedPests_79 : decode cX1_breedPests 79 = .ok (.invokestatic 58, 3) := by decide +kernel
theorem dX1_breedPests_82 : decode cX1_breedPests 82 = .ok (.invokestatic 73, 3) := by decide +kernel
theorem dX1_breedPests_85 : decode cX1_breedPests 85 = .ok (.putfield 52, 3) := by decide +kernel
theorem dX1_breedPests_88 : decode cX1_breedPests 88 = .ok (.return_, 1) := by decide +kernel
theorem dX1_settlePests_0 : decode cX1_settlePests 0 = .ok (.aload_n 0, 1) := by decide +kernel
theorem dX1_settlePests_1 : decode cX1_settlePests 1 = .ok (.bipush 99, 2) := by decide +kernel
theorem dX1_settlePests_3 : decode cX1_settlePests 3 = .ok (.aload_n 0, 1) := by decide +kernel
theorem dX1_settlePests_4 : decode cX1_settlePests 4 = .ok (.getfield 52, 3) := by decide +kernel
theorem dX1_settlePests_7 : decode cX1_settlePests 7 = .ok (.aload_n 0, 1) := by decide +kernel
theorem dX1_settlePests_8 : decode cX1_settlePests 8 = .ok (.getfield 115, 3) := by decide +kernel
theorem dX1_settlePests_11 : decode cX1_settlePests 11 = .ok (.iadd, 1) := by decide +kernel
theorem dX1_settlePests_12 : decode cX1_settlePests 12 = .ok (.invokestatic 58, 3) := by decide +kernel
theorem dX1_settlePests_15 : decode cX1_settlePests 15 = .ok (.putfield 52, 3) := by decide +kernel
theorem dX1_settlePests_18 : decode cX1_settlePests 18 = .ok (.aload_n 0, 1) := by decide +kernel
theorem dX1_settlePests_19 : decode cX1_settlePests 19 = .ok (.iconst 0, 1) := by decide +kernel
theorem dX1_settlePests_20 : decode cX1_settlePests 20 = .ok (.putfield 115, 3) := by decide +kernel
theorem dX1_settlePests_23 : decode cX1_settlePests 23 = .ok (.return_, 1) := by decide +kernel
theorem dX1_copyFrom_0 : decode cX1_copyFrom 0 = .ok (.aload_n 0, 1) := by decide +kernel
theorem dX1_copyFrom_1 : decode cX1_copyFrom 1 = .ok (.aload_n 1, 1) := by decide +kernel
theorem dX1_copyFrom_2 : decode cX1_copyFrom 2 = .ok (.getfield 46, 3) := by decide +kernel
theorem dX1_copyFrom_5 : decode cX1_copyFrom 5 = .ok (.putfield 46, 3) := by decide +kernel
theorem dX1_copyFrom_8 : decode cX1_copyFrom 8 = .ok (.aload_n 0, 1) := by decide +kernel
theorem dX1_copyFrom_9 : decode cX1_copyFrom 9 = .ok (.aload_n 1, 1) := by decide +kernel
theorem dX1_copyFrom_10 : decode cX1_copyFrom 10 = .ok (.getfield 39, 3) := by decide +kernel
theorem dX1_copyFrom_13 : decode cX1_copyFrom 13 = .ok (.putfield 39, 3) := by decide +kernel
theorem dX1_copyFrom_16 : decode cX1_copyFrom 16 = .ok (.aload_n 0, 1) := by decide +kernel
theorem dX1_copyFrom_17 : decode cX1_copyFrom 17 = .ok (.aload_n 1, 1) := by decide +kernel
theorem dX1_copyFrom_18 : decode cX1_copyFrom 18 = .ok (.getfield 64, 3) := by decide +kernel
theorem dX1_copyFrom_21 : decode cX1_copyFrom 21 = .ok (.putfield 64, 3) := by decide +kernel
theorem dX1_copyFrom_24 : decode cX1_copyFrom 24 = .ok (.aload_n 0, 1) := by decide +kernel
theorem dX1_copyFrom_25 : decode cX1_copyFrom 25 = .ok (.aload_n 1, 1) := by decide +kernel
theorem dX1_copyFrom_26 : decode cX1_copyFrom 26 = .ok (.getfield 76, 3) := by decide +kernel
theorem dX1_copyFrom_29 : decode cX1_copyFrom 29 = .ok (.putfield 76, 3) := by decide +kernel
theorem dX1_copyFrom_32 : decode cX1_copyFrom 32 = .ok (.aload_n 0, 1) := by decide +kernel
theorem dX1_copyFrom_33 : decode cX1_copyFrom 33 = .ok (.aload_n 1, 1) := by decide +kernel
theorem dX1_copyFrom_34 : decode cX1_copyFrom 34 = .ok (.getfield 102, 3) := by decide +kernel
theorem dX1_copyFrom_37 : decode cX1_copyFrom 37 = .ok (.putfield 102, 3) := by decide +kernel
theorem dX1_copyFrom_40 : decode cX1_copyFrom 40 = .ok (.aload_n 0, 1) := by decide +kernel
theorem dX1_copyFrom_41 : decode cX1_copyFrom 41 = .ok (.aload_n 1, 1) := by decide +kernel
theorem dX1_copyFrom_42 : decode cX1_copyFrom 42 = .ok (.getfield 52, 3) := by decide +kernel
theorem dX1_copyFrom_45 : decode cX1_copyFrom 45 = .ok (.putfield 52, 3) := by decide +kernel
theorem dX1_copyFrom_48 : decode cX1_copyFrom 48 = .ok (.aload_n 0, 1) := by decide +kernel
theorem dX1_copyFrom_49 : decode cX1_copyFrom 49 = .ok (.aload_n 1, 1) := by decide +kernel
theorem dX1_copyFrom_50 : decode cX1_copyFrom 50 = .ok (.getfield 112, 3) := by decide +kernel
theorem dX1_copyFrom_53 : decode cX1_copyFrom 53 = .ok (.putfield 112, 3) := by decide +kernel
theorem dX1_copyFrom_56 : decode cX1_copyFrom 56 = .ok (.aload_n 0, 1) := by decide +kernel
theorem dX1_copyFrom_57 : decode cX1_copyFrom 57 = .ok (.getfield 12, 3) := by decide +kernel
theorem dX1_copyFrom_60 : decode cX1_copyFrom 60 = .ok (.aload_n 1, 1) := by decide +kernel
theorem dX1_copyFrom_61 : decode cX1_copyFrom 61 = .ok (.getfield 12, 3) := by decide +kernel
theorem dX1_copyFrom_64 : decode cX1_copyFrom 64 = .ok (.getfield 43, 3) := by decide +kernel
theorem dX1_copyFrom_67 : decode cX1_copyFrom 67 = .ok (.putfield 43, 3) := by decide +kernel
theorem dX1_copyFrom_70 : decode cX1_copyFrom 70 = .ok (.aload_n 0, 1) := by decide +kernel
theorem dX1_copyFrom_71 : decode cX1_copyFrom 71 = .ok (.getfield 21, 3) := by decide +kernel
theorem dX1_copyFrom_74 : decode cX1_copyFrom 74 = .ok (.aload_n 1, 1) := by decide +kernel
theorem dX1_copyFrom_75 : decode cX1_copyFrom 75 = .ok (.getfield 21, 3) := by decide +kernel
theorem dX1_copyFrom_78 : decode cX1_copyFrom 78 = .ok (.invokevirtual 118, 3) := by decide +kernel
theorem dX1_copyFrom_81 : decode cX1_copyFrom 81 = .ok (.return_, 1) := by decide +kernel
theorem dX2_init_0 : decode cX2_init 0 = .ok (.aload_n 0, 1) := by decide +kernel
theorem dX2_init_1 : decode cX2_init 1 = .ok (.invokespecial 3, 3) := by decide +kernel
theorem dX2_init_4 : decode cX2_init 4 = .ok (.aload_n 0, 1) := by decide +kernel
theorem dX2_init_5 : decode cX2_init 5 = .ok (.new 9, 3) := by decide +kernel
theorem dX2_init_8 : decode cX2_init 8 = .ok (.dup, 1) := by decide +kernel
theorem dX2_init_9 : decode cX2_init 9 = .ok (.invokespecial 11, 3) := by decide +kernel
theorem dX2_init_12 : decode cX2_init 12 = .ok (.putfield 12, 3) := by decide +kernel
theorem dX2_init_15 : decode cX2_init 15 = .ok (.aload_n 0, 1) := by decide +kernel
theorem dX2_init_16 : decode cX2_init 16 = .ok (.new 9, 3) := by decide +kernel
theorem dX2_init_19 : decode cX2_init 19 = .ok (.dup, 1) := by decide +kernel
theorem dX2_init_20 : decode cX2_init 20 = .ok (.invokespecial 11, 3) := by decide +kernel
theorem dX2_init_23 : decode cX2_init 23 = .ok (.putfield 18, 3) := by decide +kernel
theorem dX2_init_26 : decode cX2_init 26 = .ok (.aload_n 0, 1) := by decide +kernel
theorem dX2_init_27 : decode cX2_init 27 = .ok (.new 21, 3) := by decide +kernel
theorem dX2_init_30 : decode cX2_init 30 = .ok (.dup, 1) := by decide +kernel
theorem dX2_init_31 : decode cX2_init 31 = .ok (.invokespecial 23, 3) := by decide +kernel
theorem dX2_init_34 : decode cX2_init 34 = .ok (.putfield 24, 3) := by decide +kernel
theorem dX2_init_37 : decode cX2_init 37 = .ok (.return_, 1) := by decide +kernel
theorem dX2_addSociety_0 : decode cX2_addSociety 0 = .ok (.new 28, 3) := by decide +kernel
theorem dX2_addSociety_3 : decode cX2_addSociety 3 = .ok (.dup, 1) := by decide +kernel
theorem dX2_addSociety_4 : decode cX2_addSociety 4 = .ok (.aload_n 0, 1) := by decide +kernel
theorem dX2_addSociety_5 : decode cX2_addSociety 5 = .ok (.getfield 12, 3) := by decide +kernel
theorem dX2_addSociety_8 : decode cX2_addSociety 8 = .ok (.invokevirtual 30, 3) := by decide +kernel
theorem dX2_addSociety_11 : decode cX2_addSociety 11 = .ok (.iload_n 1, 1) := by decide +kernel
theorem dX2_addSociety_12 : decode cX2_addSociety 12 = .ok (.iload_n 2, 1) := by decide +kernel
theorem dX2_addSociety_13 : decode cX2_addSociety 13 = .ok (.iload_n 3, 1) := by decide +kernel
theorem dX2_addSociety_14 : decode cX2_addSociety 14 = .ok (.iload 4, 2) := by decide +kernel
theorem dX2_addSociety_16 : decode cX2_addSociety 16 = .ok (.invokespecial 34, 3) := by decide +kernel
theorem dX2_addSociety_19 : decode cX2_addSociety 19 = .ok (.astore 5, 2) := by decide +kernel
theorem dX2_addSociety_21 : decode cX2_addSociety 21 = .ok (.aload_n 0, 1) := by decide +kernel
theorem dX2_addSociety_22 : decode cX2_addSociety 22 = .ok (.getfield 12, 3) := by decide +kernel
theorem dX2_addSociety_25 : decode cX2_addSociety 25 = .ok (.aload 5, 2) := by decide +kernel
theorem dX2_addSociety_27 : decode cX2_addSociety 27 = .ok (.invokevirtual 37, 3) := by decide +kernel
theorem dX2_addSociety_30 : decode cX2_addSociety 30 = .ok (.pop, 1) := by decide +kernel
theorem dX2_addSociety_31 : decode cX2_addSociety 31 = .ok (.aload 5, 2) := by decide +kernel
theorem dX2_addSociety_33 : decode cX2_addSociety 33 = .ok (.getfield 41, 3) := by decide +kernel
theorem dX2_addSociety_36 : decode cX2_addSociety 36 = .ok (.ireturn, 1) := by decide +kernel
theorem dX2_addField_0 : decode cX2_addField 0 = .ok (.iload_n 1, 1) := by decide +kernel
theorem dX2_addField_1 : decode cX2_addField 1 = .ok (.ifCond .lt 14, 3) := by decide +kernel
theorem dX2_addField_4 : decode cX2_addField 4 = .ok (.iload_n 1, 1) := by decide +kernel
theorem dX2_addField_5 : decode cX2_addField 5 = .ok (.aload_n 0, 1) := by decide +kernel
theorem dX2_addField_6 : decode cX2_addField 6 = .ok (.getfield 12, 3) := by decide +kernel
theorem dX2_addField_9 : decode cX2_addField 9 = .ok (.invokevirtual 30, 3) := by decide +kernel
theorem dX2_addField_12 : decode cX2_addField 12 = .ok (.if_icmp .lt 5, 3) := by decide +kernel
theorem dX2_addField_15 : decode cX2_addField 15 = .ok (.iconst (-1), 1) := by decide +kernel
theorem dX2_addField_16 : decode cX2_addField 16 = .ok (.ireturn, 1) := by decide +kernel
theorem dX2_addField_17 : decode cX2_addField 17 = .ok (.aload_n 0, 1) := by decide +kernel
theorem dX2_addField_18 : decode cX2_addField 18 = .ok (.getfield 12, 3) := by decide +kernel
theorem dX2_addField_21 : decode cX2_addField 21 = .ok (.iload_n 1, 1) := by decide +kernel
theorem dX2_addField_22 : decode cX2_addField 22 = .ok (.invokevirtual 45, 3) := by decide +kernel
theorem dX2_addField_25 : decode cX2_addField 25 = .ok (.checkcast 28, 3) := by decide +kernel
theorem dX2_addField_28 : decode cX2_addField 28 = .ok (.astore 4, 2) := by decide +kernel
theorem dX2_addField_30 : decode cX2_addField 30 = .ok (.new 49, 3) := by decide +kernel
theorem dX2_addField_33 : decode cX2_addField 33 = .ok (.dup, 1) := by decide +kernel
theorem dX2_addField_34 : decode cX2_addField 34 = .ok (.aload_n 0, 1) := by decide +kernel
theorem dX2_addField_35 : decode cX2_addField 35 = .ok (.getfield 18, 3) := by decide +kernel
theorem dX2_addField_38 : decode cX2_addField 38 = .ok (.invokevirtual 30, 3) := by decide +kernel
theorem dX2_addField_41 : decode cX2_addField 41 = .ok (.aload 4, 2) := by decide +kernel
theorem dX2_addField_43 : decode cX2_addField 43 = .ok (.iload_n 2, 1) := by decide +kernel
theorem dX2_addField_44 : decode cX2_addField 44 = .ok (.iload_n 3, 1) := by decide +kernel
theorem dX2_addField_45 : decode cX2_addField 45 = .ok (.invokespecial 51, 3) := by decide +kernel
theorem dX2_addField_48 : decode cX2_addField 48 = .ok (.astore 5, 2) := by decide +kernel
theorem dX2_addField_50 : decode cX2_addField 50 = .ok (.aload 4, 2) := by decide +kernel
theorem dX2_addField_52 : decode cX2_addField 52 = .ok (.aload 5, 2) := by decide +kernel
theorem dX2_addField_54 : decode cX2_addField 54 = .ok (.invokevirtual 54, 3) := by decide +kernel
theorem dX2_addField_57 : decode cX2_addField 57 = .ok (.aload_n 0, 1) := by decide +kernel
theorem dX2_addField_58 : decode cX2_addField 58 = .ok (.getfield 18, 3) := by decide +kernel
theorem dX2_addField_61 : decode cX2_addField 61 = .ok (.aload 5, 2) := by decide +kernel
theorem dX2_addField_63 : decode cX2_addField 63 = .ok (.invokevirtual 37, 3) := by decide +kernel
theorem dX2_addField_66 : decode cX2_addField 66 = .ok (.pop, 1) := by decide +kernel
theorem dX2_addField_67 : decode cX2_addField 67 = .ok (.aload 5, 2) := by decide +kernel
theorem dX2_addField_69 : decode cX2_addField 69 = .ok (.getfield 58, 3) := by decide +kernel
theorem dX2_addField_72 : decode cX2_addField 72 = .ok (.ireturn, 1) := by decide +kernel
theorem dX2_templeDay_0 : decode cX2_templeDay 0 = .ok (.aload_n 0, 1) := by decide +kernel
theorem dX2_templeDay_1 : decode cX2_templeDay 1 = .ok (.getfield 59, 3) := by decide +kernel
theorem dX2_templeDay_4 : decode cX2_templeDay 4 = .ok (.sipush 210, 3) := by decide +kernel
theorem dX2_templeDay_7 : decode cX2_templeDay 7 = .ok (.invokestatic 62, 3) := by decide +kernel
theorem dX2_templeDay_10 : decode cX2_templeDay 10 = .ok (.ireturn, 1) := by decide +kernel
theorem dX2_isDark_0 : decode cX2_isDark 0 = .ok (.aload_n 0, 1) := by decide +kernel
theorem dX2_isDark_1 : decode cX2_isDark 1 = .ok (.getfield 59, 3) := by decide +kernel
theorem dX2_isDark_4 : decode cX2_isDark 4 = .ok (.bipush 30, 2) := by decide +kernel
theorem dX2_isDark_6 : decode cX2_isDark 6 = .ok (.irem, 1) := by decide +kernel
theorem dX2_isDark_7 : decode cX2_isDark 7 = .ok (.ifCond .ne 7, 3) := by decide +kernel
theorem dX2_isDark_10 : decode cX2_isDark 10 = .ok (.iconst 1, 1) := by decide +kernel
theorem dX2_isDark_11 : decode cX2_isDark 11 = .ok (.goto 4, 3) := by decide +kernel
theorem dX2_isDark_14 : decode cX2_isDark 14 = .ok (.iconst 0, 1) := by decide +kernel
theorem dX2_isDark_15 : decode cX2_isDark 15 = .ok (.ireturn, 1) := by decide +kernel
theorem dX2_passDay_0 : decode cX2_passDay 0 = .ok (.aload_n 0, 1) := by decide +kernel
theorem dX2_passDay_1 : decode cX2_passDay 1 = .ok (.dup, 1) := by decide +kernel
theorem dX2_passDay_2 : decode cX2_passDay 2 = .ok (.getfield 59, 3) := by decide +kernel
theorem dX2_passDay_5 : decode cX2_passDay 5 = .ok (.iconst 1, 1) := by decide +kernel
theorem dX2_passDay_6 : decode cX2_passDay 6 = .ok (.iadd, 1) := by decide +kernel
theorem dX2_passDay_7 : decode cX2_passDay 7 = .ok (.putfield 59, 3) := by decide +kernel
theorem dX2_passDay_10 : decode cX2_passDay 10 = .ok (.aload_n 0, 1) := by decide +kernel
theorem dX2_passDay_11 : decode cX2_passDay 11 = .ok (.iload_n 1, 1) := by decide +kernel
theorem dX2_passDay_12 : decode cX2_passDay 12 = .ok (.putfield 68, 3) := by decide +kernel
theorem dX2_passDay_15 : decode cX2_passDay 15 = .ok (.aload_n 0, 1) := by decide +kernel
theorem dX2_passDay_16 : decode cX2_passDay 16 = .ok (.iload_n 2, 1) := by decide +kernel
theorem dX2_passDay_17 : decode cX2_passDay 17 = .ok (.putfield 71, 3) := by decide +kernel
theorem dX2_passDay_20 : decode cX2_passDay 20 = .ok (.aload_n 0, 1) := by decide +kernel
theorem dX2_passDay_21 : decode cX2_passDay 21 = .ok (.iload_n 3, 1) := by decide +kernel
theorem dX2_passDay_22 : decode cX2_passDay 22 = .ok (.putfield 74, 3) := by decide +kernel
theorem dX2_passDay_25 : decode cX2_passDay 25 = .ok (.aload_n 0, 1) := by decide +kernel
theorem dX2_passDay_26 : decode cX2_passDay 26 = .ok (.getfield 24, 3) := by decide +kernel
theorem dX2_passDay_29 : decode cX2_passDay 29 = .ok (.dup, 1) := by decide +kernel
theorem dX2_passDay_30 : decode cX2_passDay 30 = .ok (.getfield 77, 3) := by decide +kernel
theorem dX2_passDay_33 : decode cX2_passDay 33 = .ok (.iload_n 1, 1) := by decide +kernel
theorem dX2_passDay_34 : decode cX2_passDay 34 = .ok (.iload_n 3, 1) := by decide +kernel
theorem dX2_passDay_35 : decode cX2_passDay 35 = .ok (.aload_n 0, 1) := by decide +kernel
theorem dX2_passDay_36 : decode cX2_passDay 36 = .ok (.getfield 18, 3) := by decide +kernel
theorem dX2_passDay_39 : decode cX2_passDay 39 = .ok (.invokevirtual 30, 3) := by decide +kernel
theorem dX2_passDay_42 : decode cX2_passDay 42 = .ok (.imul, 1) := by decide +kernel
theorem dX2_passDay_43 : decode cX2_passDay 43 = .ok (.iadd, 1) := by decide +kernel
theorem dX2_passDay_44 : decode cX2_passDay 44 = .ok (.iadd, 1) := by decide +kernel
theorem dX2_passDay_45 : decode cX2_passDay 45 = .ok (.putfield 77, 3) := by decide +kernel
theorem dX2_passDay_48 : decode cX2_passDay 48 = .ok (.aload_n 0, 1) := by decide +kernel
theorem dX2_passDay_49 : decode cX2_passDay 49 = .ok (.iload_n 1, 1) := by decide +kernel
theorem dX2_passDay_50 : decode cX2_passDay 50 = .ok (.invokevirtual 80, 3) := by decide +kernel
theorem dX2_passDay_53 : decode cX2_passDay 53 = .ok (.aload_n 0, 1) := by decide +kernel
theorem dX2_passDay_54 : decode cX2_passDay 54 = .ok (.invokevirtual 84, 3) := by decide +kernel
theorem dX2_passDay_57 : decode cX2_passDay 57 = .ok (.istore 4, 2) := by decide +kernel
theorem dX2_passDay_59 : decode cX2_passDay 59 = .ok (.iconst 0, 1) := by decide +kernel
theorem dX2_passDay_60 : decode cX2_passDay 60 = .ok (.istore 5, 2) := by decide +kernel
theorem dX2_passDay_62 : decode cX2_passDay 62 = .ok (.iload 5, 2) := by decide +kernel
theorem dX2_passDay_64 : decode cX2_passDay 64 = .ok (.aload_n 0, 1) := by decide +kernel
theorem dX2_passDay_65 : decode cX2_passDay 65 = .ok (.getfield 12, 3) := by decide +kernel
theorem dX2_passDay_68 : decode cX2_passDay 68 = .ok (.invokevirtual 30, 3) := by decide +kernel
theorem dX2_passDay_71 : decode cX2_passDay 71 = .ok (.if_icmp .ge 30, 3) := by decide +kernel
theorem dX2_passDay_74 : decode cX2_passDay 74 = .ok (.aload_n 0, 1) := by decide +kernel
theorem dX2_passDay_75 : decode cX2_passDay 75 = .ok (.getfield 12, 3) := by decide +kernel
theorem dX2_passDay_78 : decode cX2_passDay 78 = .ok (.iload 5, 2) := by decide +kernel
theorem dX2_passDay_80 : decode cX2_passDay 80 = .ok (.invokevirtual 45, 3) := by decide +kernel
theorem dX2_passDay_83 : decode cX2_passDay 83 = .ok (.checkcast 28, 3) := by decide +kernel
theorem dX2_passDay_86 : decode cX2_passDay 86 = .ok (.iload 4, 2) := by decide +kernel
theorem dX2_passDay_88 : decode cX2_passDay 88 = .ok (.aload_n 0, 1) := by decide +kernel
theorem dX2_passDay_89 : decode cX2_passDay 89 = .ok (.getfield 24, 3) := by decide +kernel
theorem dX2_passDay_92 : decode cX2_passDay 92 = .ok (.invokevirtual 87, 3) := by decide +kernel
theorem dX2_passDay_95 : decode cX2_passDay 95 = .ok (.iinc 5 1, 3) := by decide +kernel
theorem dX2_passDay_98 : decode cX2_passDay 98 = .ok (.goto (-36), 3) := by decide +kernel
theorem dX2_passDay_101 : decode cX2_passDay 101 = .ok (.iconst 0, 1) := by decide +kernel
theorem dX2_passDay_102 : decode cX2_passDay 102 = .ok (.istore 5, 2) := by decide +kernel
theorem dX2_passDay_104 : decode cX2_passDay 104 = .ok (.iload 5, 2) := by decide +kernel
theorem dX2_passDay_106 : decode cX2_passDay 106 = .ok (.aload_n 0, 1) := by decide +kernel
theorem dX2_passDay_107 : decode cX2_passDay 107 = .ok (.getfield 18, 3) := by decide +kernel
theorem dX2_passDay_110 : decode cX2_passDay 110 = .ok (.invokevirtual 30, 3) := by decide +kernel
theorem dX2_passDay_113 : decode cX2_passDay 113 = .ok (.if_icmp .ge 62, 3) := by decide +kernel
theorem dX2_passDay_116 : decode cX2_passDay 116 = .ok (.aload_n 0, 1) := by decide +kernel
theorem dX2_passDay_117 : decode cX2_passDay 117 = .ok (.getfield 18, 3) := by decide +kernel
theorem dX2_passDay_120 : decode cX2_passDay 120 = .ok (.iload 5, 2) := by decide +kernel
theorem dX2_passDay_122 : decode cX2_passDay 122 = .ok (.invokevirtual 45, 3) := by decide +kernel
theorem dX2_passDay_125 : decode cX2_passDay 125 = .ok (.checkcast 49, 3) := by decide +kernel
theorem dX2_passDay_128 : decode cX2_passDay 128 = .ok (.astore 6, 2) := by decide +kernel
theorem dX2_passDay_130 : decode cX2_passDay 130 = .ok (.aload 6, 2) := by decide +kernel
theorem dX2_passDay_132 : decode cX2_passDay 132 = .ok (.iload_n 3, 1) := by decide +kernel
theorem dX2_passDay_133 : decode cX2_passDay 133 = .ok (.aload_n 0, 1) := by decide +kernel
theorem dX2_passDay_134 : decode cX2_passDay 134 = .ok (.getfield 24, 3) := by decide +kernel
theorem dX2_passDay_137 : decode cX2_passDay 137 = .ok (.invokevirtual 91, 3) := by decide +kernel
theorem dX2_passDay_140 : decode cX2_passDay 140 = .ok (.aload 6, 2) := by decide +kernel
theorem dX2_passDay_142 : decode cX2_passDay 142 = .ok (.invokevirtual 94, 3) := by decide +kernel
theorem dX2_passDay_145 : decode cX2_passDay 145 = .ok (.aload 6, 2) := by decide +kernel
theorem dX2_passDay_147 : decode cX2_passDay 147 = .ok (.getfield 97, 3) := by decide +kernel
theorem dX2_passDay_150 : decode cX2_passDay 150 = .ok (.aload 6, 2) := by decide +kernel
theorem dX2_passDay_152 : decode cX2_passDay 152 = .ok (.getfield 101, 3) := by decide +kernel
theorem dX2_passDay_155 : decode cX2_passDay 155 = .ok (.aload 6, 2) := by decide +kernel
theorem dX2_passDay_157 : decode cX2_passDay 157 = .ok (.getfield 104, 3) := by decide +kernel
theorem dX2_passDay_160 : decode cX2_passDay 160 = .ok (.iload_n 2, 1) := by decide +kernel
theorem dX2_passDay_161 : decode cX2_passDay 161 = .ok (.invokevirtual 107, 3) := by decide +kernel
theorem dX2_passDay_164 : decode cX2_passDay 164 = .ok (.aload 6, 2) := by decide +kernel
theorem dX2_passDay_166 : decode cX2_passDay 166 = .ok (.invokevirtual 113, 3) := by decide +kernel
theorem dX2_passDay_169 : decode cX2_passDay 169 = .ok (.iinc 5 1, 3) := by decide +kernel
theorem dX2_passDay_172 : decode cX2_passDay 172 = .ok (.goto (-68), 3) := by decide +kernel
theorem dX2_passDay_175 : decode cX2_passDay 175 = .ok (.aload_n 0, 1) := by decide +kernel
theorem dX2_passDay_176 : decode cX2_passDay 176 = .ok (.invokevirtual 116, 3) := by decide +kernel
theorem dX2_passDay_179 : decode cX2_passDay 179 = .ok (.return_, 1) := by decide +kernel
theorem dX2_splitAtWeir_0 : decode cX2_splitAtWeir 0 = .ok (.iload_n 1, 1) := by decide +kernel
theorem dX2_splitAtWeir_1 : decode cX2_splitAtWeir 1 = .ok (.aload_n 0, 1) := by decide +kernel
theorem dX2_splitAtWeir_2 : decode cX2_splitAtWeir 2 = .ok (.getfield 119, 3) := by decide +kernel
theorem dX2_splitAtWeir_5 : decode cX2_splitAtWeir 5 = .ok (.iadd, 1) := by decide +kernel
theorem dX2_splitAtWeir_6 : decode cX2_splitAtWeir 6 = .ok (.istore_n 2, 1) := by decide +kernel
theorem dX2_splitAtWeir_7 : decode cX2_splitAtWeir 7 = .ok (.iconst 0, 1) := by decide +kernel
theorem dX2_splitAtWeir_8 : decode cX2_splitAtWeir 8 = .ok (.istore_n 3, 1) := by decide +kernel
theorem dX2_splitAtWeir_9 : decode cX2_splitAtWeir 9 = .ok (.iconst 0, 1) := by decide +kernel
theorem dX2_splitAtWeir_10 : decode cX2_splitAtWeir 10 = .ok (.istore 4, 2) := by decide +kernel
theorem dX2_splitAtWeir_12 : decode cX2_splitAtWeir 12 = .ok (.iload 4, 2) := by decide +kernel
theorem dX2_splitAtWeir_14 : decode cX2_splitAtWeir 14 = .ok (.aload_n 0, 1) := by decide +kernel
theorem dX2_splitAtWeir_15 : decode cX2_splitAtWeir 15 = .ok (.getfield 12, 3) := by decide +kernel
theorem dX2_splitAtWeir_18 : decode cX2_splitAtWeir 18 = .ok (.invokevirtual 30, 3) := by decide +kernel
theorem dX2_splitAtWeir_21 : decode cX2_splitAtWeir 21 = .ok (.if_icmp .ge 27, 3) := by decide +kernel
theorem dX2_splitAtWeir_24 : decode cX2_splitAtWeir 24 = .ok (.iload_n 3, 1) := by decide +kernel
theorem dX2_splitAtWeir_25 : decode cX2_splitAtWeir 25 = .ok (.aload_n 0, 1) := by decide +kernel
theorem dX2_splitAtWeir_26 : decode cX2_splitAtWeir 26 = .ok (.getfield 12, 3) := by decide +kernel
theorem dX2_splitAtWeir_29 : decode cX2_splitAtWeir 29 = .ok (.iload 4, 2) := by decide +kernel
theorem dX2_splitAtWeir_31 : decode cX2_splitAtWeir 31 = .ok (.invokevirtual 45, 3) := by decide +kernel
theorem dX2_splitAtWeir_34 : decode cX2_splitAtWeir 34 = .ok (.checkcast 28, 3) := by decide +kernel
theorem dX2_splitAtWeir_37 : decode cX2_splitAtWeir 37 = .ok (.getfield 122, 3) := by decide +kernel
theorem dX2_splitAtWeir_40 : decode cX2_splitAtWeir 40 = .ok (.iadd, 1) := by decide +kernel
theorem dX2_splitAtWeir_41 : decode cX2_splitAtWeir 41 = .ok (.istore_n 3, 1) := by decide +kernel
theorem dX2_splitAtWeir_42 : decode cX2_splitAtWeir 42 = .ok (.iinc 4 1, 3) := by decide +kernel
theorem dX2_splitAtWeir_45 : decode cX2_splitAtWeir 45 = .ok (.goto (-33), 3) := by decide +kernel
theorem dX2_splitAtWeir_48 : decode cX2_splitAtWeir 48 = .ok (.aload_n 0, 1) := by decide +kernel
theorem dX2_splitAtWeir_49 : decode cX2_splitAtWeir 49 = .ok (.iload_n 2, 1) := by decide +kernel
theorem dX2_splitAtWeir_50 : decode cX2_splitAtWeir 50 = .ok (.putfield 119, 3) := by decide +kernel
theorem dX2_splitAtWeir_53 : decode cX2_splitAtWeir 53 = .ok (.iload_n 3, 1) := by decide +kernel
theorem dX2_splitAtWeir_54 : decode cX2_splitAtWeir 54 = .ok (.ifCond .gt 4, 3) := by decide +kernel
theorem dX2_splitAtWeir_57 : decode cX2_splitAtWeir 57 = .ok (.return_, 1) := by decide +kernel
theorem dX2_splitAtWeir_58 : decode cX2_splitAtWeir 58 = .ok (.iconst 0, 1) := by decide +kernel
theorem dX2_splitAtWeir_59 : decode cX2_splitAtWeir 59 = .ok (.istore 4, 2) := by decide +kernel
theorem dX2_splitAtWeir_61 : decode cX2_splitAtWeir 61 = .ok (.iload 4, 2) := by decide +kernel
theorem dX2_splitAtWeir_63 : decode cX2_splitAtWeir 63 = .ok (.aload_n 0, 1) := by decide +kernel
theorem dX2_splitAtWeir_64 : decode cX2_splitAtWeir 64 = .ok (.getfield 12, 3) := by decide +kernel
theorem dX2_splitAtWeir_67 : decode cX2_splitAtWeir 67 = .ok (.invokevirtual 30, 3) := by decide +kernel
theorem dX2_splitAtWeir_70 : decode cX2_splitAtWeir 70 = .ok (.if_icmp .ge 51, 3) := by decide +kernel
theorem dX2_splitAtWeir_73 : decode cX2_splitAtWeir 73 = .ok (.aload_n 0, 1) := by decide +kernel
theorem dX2_splitAtWeir_74 : decode cX2_splitAtWeir 74 = .ok (.getfield 12, 3) := by decide +kernel
theorem dX2_splitAtWeir_77 : decode cX2_splitAtWeir 77 = .ok (.iload 4, 2) := by decide +kernel
theorem dX2_splitAtWeir_79 : decode cX2_splitAtWeir 79 = .ok (.invokevirtual 45, 3) := by decide +kernel
theorem dX2_splitAtWeir_82 : decode cX2_splitAtWeir 82 = .ok (.checkcast 28, 3) := by decide +kernel
theorem dX2_splitAtWeir_85 : decode cX2_splitAtWeir 85 = .ok (.astore 5, 2) := by decide +kernel
theorem dX2_splitAtWeir_87 : decode cX2_splitAtWeir 87 = .ok (.aload 5, 2) := by decide +kernel
theorem dX2_splitAtWeir_89 : decode cX2_splitAtWeir 89 = .ok (.iload_n 2, 1) := by decide +kernel
theorem dX2_splitAtWeir_90 : decode cX2_splitAtWeir 90 = .ok (.aload 5, 2) := by decide +kernel
theorem dX2_splitAtWeir_92 : decode cX2_splitAtWeir 92 = .ok (.getfield 122, 3) := by decide +kernel
theorem dX2_splitAtWeir_95 : decode cX2_splitAtWeir 95 = .ok (.imul, 1) := by decide +kernel
theorem dX2_splitAtWeir_96 : decode cX2_splitAtWeir 96 = .ok (.iload_n 3, 1) := by decide +kernel
theorem dX2_splitAtWeir_97 : decode cX2_splitAtWeir 97 = .ok (.idiv, 1) := by decide +kernel
theorem dX2_splitAtWeir_98 : decode cX2_splitAtWeir 98 = .ok (.putfield 125, 3) := by decide +kernel
theorem dX2_splitAtWeir_101 : decode cX2_splitAtWeir 101 = .ok (.aload_n 0, 1) := by decide +kernel
theorem dX2_splitAtWeir_102 : decode cX2_splitAtWeir 102 = .ok (.dup, 1) := by decide +kernel
theorem dX2_splitAtWeir_103 : decode cX2_splitAtWeir 103 = .ok (.getfield 119, 3) := by decide +kernel
theorem dX2_splitAtWeir_106 : decode cX2_splitAtWeir 106 = .ok (.aload 5, 2) := by decide +kernel
theorem dX2_splitAtWeir_108 : decode cX2_splitAtWeir 108 = .ok (.getfield 125, 3) := by decide +kernel
theorem dX2_splitAtWeir_111 : decode cX2_splitAtWeir 111 = .ok (.isub, 1) := by decide +kernel
theorem dX2_splitAtWeir_112 : decode cX2_splitAtWeir 112 = .ok (.putfield 119, 3) := by decide +kernel
theorem dX2_splitAtWeir_115 : decode cX2_splitAtWeir 115 = .ok (.iinc 4 1, 3) := by decide +kernel
theorem dX2_splitAtWeir_118 : decode cX2_splitAtWeir 118 = .ok (.goto (-57), 3) := by decide +kernel
theorem dX2_splitAtWeir_121 : decode cX2_splitAtWeir 121 = .ok (.return_, 1) := by decide +kernel
theorem dX2_flyPests_0 : decode cX2_flyPests 0 = .ok (.iconst 0, 1) := by decide +kernel
theorem dX2_flyPests_1 : decode cX2_flyPests 1 = .ok (.istore_n 1, 1) := by decide +kernel
theorem dX2_flyPests_2 : decode cX2_flyPests 2 = .ok (.iload_n 1, 1) := by decide +kernel
theorem dX2_flyPests_3 : decode cX2_flyPests 3 = .ok (.aload_n 0, 1) := by decide +kernel
theorem dX2_flyPests_4 : decode cX2_flyPests 4 = .ok (.getfield 18, 3) := by decide +kernel
theorem dX2_flyPests_7 : decode cX2_flyPests 7 = .ok (.invokevirtual 30, 3) := by decide +kernel
theorem dX2_flyPests_10 : decode cX2_flyPests 10 = .ok (.if_icmp .ge 52, 3) := by decide +kernel
theorem dX2_flyPests_13 : decode cX2_flyPests 13 = .ok (.aload_n 0, 1) := by decide +kernel
theorem dX2_flyPests_14 : decode cX2_flyPests 14 = .ok (.getfield 18, 3) := by decide +kernel
theorem dX2_flyPests_17 : decode cX2_flyPests 17 = .ok (.iload_n 1, 1) := by decide +kernel
theorem dX2_flyPests_18 : decode cX2_flyPests 18 = .ok (.invokevirtual 45, 3) := by decide +kernel
theorem dX2_flyPests_21 : decode cX2_flyPests 21 = .ok (.checkcast 49, 3) := by decide +kernel
theorem dX2_flyPests_24 : decode cX2_flyPests 24 = .ok (.astore_n 2, 1) := by decide +kernel
theorem dX2_flyPests_25 : decode cX2_flyPests 25 = .ok (.aload_n 2, 1) := by decide +kernel
theorem dX2_flyPests_26 : decode cX2_flyPests 26 = .ok (.getfield 104, 3) := by decide +kernel
theorem dX2_flyPests_29 : decode cX2_flyPests 29 = .ok (.bipush 20, 2) := by decide +kernel
theorem dX2_flyPests_31 : decode cX2_flyPests 31 = .ok (.if_icmp .le 25, 3) := by decide +kernel
theorem dX2_flyPests_34 : decode cX2_flyPests 34 = .ok (.aload_n 0, 1) := by decide +kernel
theorem dX2_flyPests_35 : decode cX2_flyPests 35 = .ok (.aload_n 2, 1) := by decide +kernel
theorem dX2_flyPests_36 : decode cX2_flyPests 36 = .ok (.aload_n 0, 1) := by decide +kernel
theorem dX2_flyPests_37 : decode cX2_flyPests 37 = .ok (.iload_n 1, 1) := by decide +kernel
theorem dX2_flyPests_38 : decode cX2_flyPests 38 = .ok (.iconst (-1), 1) := by decide +kernel
theorem dX2_flyPests_39 : decode cX2_flyPests 39 = .ok (.invokevirtual 128, 3) := by decide +kernel
theorem dX2_flyPests_42 : decode cX2_flyPests 42 = .ok (.invokevirtual 132, 3) := by decide +kernel
theorem dX2_flyPests_45 : decode cX2_flyPests 45 = .ok (.aload_n 0, 1) := by decide +kernel
theorem dX2_flyPests_46 : decode cX2_flyPests 46 = .ok (.aload_n 2, 1) := by decide +kernel
theorem dX2_flyPests_47 : decode cX2_flyPests 47 = .ok (.aload_n 0, 1) := by decide +kernel
theorem dX2_flyPests_48 : decode cX2_flyPests 48 = .ok (.iload_n 1, 1) := by decide +kernel
theorem dX2_flyPests_49 : decode cX2_flyPests 49 = .ok (.iconst 1, 1) := by decide +kernel
theorem dX2_flyPests_50 : decode cX2_flyPests 50 = .ok (.invokevirtual 128, 3) := by decide +kernel
theorem dX2_flyPests_53 : decode cX2_flyPests 53 = .ok (.invokevirtual 132, 3) := by decide +kernel
theorem dX2_flyPests_56 : decode cX2_flyPests 56 = .ok (.iinc 1 1, 3) := by decide +kernel
theorem dX2_flyPests_59 : decode cX2_flyPests 59 = .ok (.goto (-57), 3) := by decide +kernel
theorem dX2_flyPests_62 : decode cX2_flyPests 62 = .ok (.iconst 0, 1) := by decide +kernel
theorem dX2_flyPests_63 : decode cX2_flyPests 63 = .ok (.istore_n 1, 1) := by decide +kernel
theorem dX2_flyPests_64 : decode cX2_flyPests 64 = .ok (.iload_n 1, 1) := by decide +kernel
theorem dX2_flyPests_65 : decode cX2_flyPests 65 = .ok (.aload_n 0, 1) := by decide +kernel
theorem dX2_flyPests_66 : decode cX2_flyPests 66 = .ok (.getfield 18, 3) := by decide +kernel
theorem dX2_flyPests_69 : decode cX2_flyPests 69 = .ok (.invokevirtual 30, 3) := by decide +kernel
theorem dX2_flyPests_72 : decode cX2_flyPests 72 = .ok (.if_icmp .ge 23, 3) := by decide +kernel
theorem dX2_flyPests_75 : decode cX2_flyPests 75 = .ok (.aload_n 0, 1) := by decide +kernel
theorem dX2_flyPests_76 : decode cX2_flyPests 76 = .ok (.getfield 18, 3) := by decide +kernel
theorem dX2_flyPests_79 : decode cX2_flyPests 79 = .ok (.iload_n 1, 1) := by decide +kernel
theorem dX2_flyPests_80 : decode cX2_flyPests 80 = .ok (.invokevirtual 45, 3) := by decide +kernel
theorem dX2_flyPests_83 : decode cX2_flyPests 83 = .ok (.checkcast 49, 3) := by decide +kernel
theorem dX2_flyPests_86 : decode cX2_flyPests 86 = .ok (.invokevirtual 136, 3) := by decide +kernel
theorem dX2_flyPests_89 : decode cX2_flyPests 89 = .ok (.iinc 1 1, 3) := by decide +kernel
theorem dX2_flyPests_92 : decode cX2_flyPests 92 = .ok (.goto (-28), 3) := by decide +kernel
theorem dX2_flyPests_95 : decode cX2_flyPests 95 = .ok (.return_, 1) := by decide +kernel
theorem dX2_flyFrom_0 : decode cX2_flyFrom 0 = .ok (.aload_n 2, 1) := by decide +kernel
theorem dX2_flyFrom_1 : decode cX2_flyFrom 1 = .ok (.ifnonnull 4, 3) := by decide +kernel
theorem dX2_flyFrom_4 : decode cX2_flyFrom 4 = .ok (.return_, 1) := by decide +kernel
theorem dX2_flyFrom_5 : decode cX2_flyFrom 5 = .ok (.aload_n 1, 1) := by decide +kernel
theorem dX2_flyFrom_6 : decode cX2_flyFrom 6 = .ok (.getfield 104, 3) := by decide +kernel
theorem dX2_flyFrom_9 : decode cX2_flyFrom 9 = .ok (.iconst 5, 1) := by decide +kernel
theorem dX2_flyFrom_10 : decode cX2_flyFrom 10 = .ok (.idiv, 1) := by decide +kernel
theorem dX2_flyFrom_11 : decode cX2_flyFrom 11 = .ok (.istore_n 3, 1) := by decide +kernel
theorem dX2_flyFrom_12 : decode cX2_flyFrom 12 = .ok (.aload_n 1, 1) := by decide +kernel
theorem dX2_flyFrom_13 : decode cX2_flyFrom 13 = .ok (.dup, 1) := by decide +kernel
theorem dX2_flyFrom_14 : decode cX2_flyFrom 14 = .ok (.getfield 139, 3) := by decide +kernel
theorem dX2_flyFrom_17 : decode cX2_flyFrom 17 = .ok (.iload_n 3, 1) := by decide +kernel
theorem dX2_flyFrom_18 : decode cX2_flyFrom 18 = .ok (.isub, 1) := by decide +kernel
theorem dX2_flyFrom_19 : decode cX2_flyFrom 19 = .ok (.putfield 139, 3) := by decide +kernel
theorem dX2_flyFrom_22 : decode cX2_flyFrom 22 = .ok (.aload_n 2, 1) := by decide +kernel
theorem dX2_flyFrom_23 : decode cX2_flyFrom 23 = .ok (.dup, 1) := by decide +kernel
theorem dX2_flyFrom_24 : decode cX2_flyFrom 24 = .ok (.getfield 139, 3) := by decide +kernel
theorem dX2_flyFrom_27 : decode cX2_flyFrom 27 = .ok (.iload_n 3, 1) := by decide +kernel
theorem dX2_flyFrom_28 : decode cX2_flyFrom 28 = .ok (.iadd, 1) := by decide +kernel
theorem dX2_flyFrom_29 : decode cX2_flyFrom 29 = .ok (.putfield 139, 3) := by decide +kernel
theorem dX2_flyFrom_32 : decode cX2_flyFrom 32 = .ok (.return_, 1) := by decide +kernel
theorem dX2_nearestOnTheStalk_0 : decode cX2_nearestOnTheStalk 0 = .ok (.iload_n 1, 1) := by decide +kernel
theorem dX2_nearestOnTheStalk_1 : decode cX2_nearestOnTheStalk 1 = .ok (.iload_n 2, 1) := by decide +kernel
theorem dX2_nearestOnTheStalk_2 : decode cX2_nearestOnTheStalk 2 = .ok (.iadd, 1) := by decide +kernel
theorem dX2_nearestOnTheStalk_3 : decode cX2_nearestOnTheStalk 3 = .ok (.istore_n 3, 1) := by decide +kernel
theorem dX2_nearestOnTheStalk_4 : decode cX2_nearestOnTheStalk 4 = .ok (.iconst 0, 1) := by decide +kernel
theorem dX2_nearestOnTheStalk_5 : decode cX2_nearestOnTheStalk 5 = .ok (.istore 4, 2) := by decide +kernel
theorem dX2_nearestOnTheStalk_7 : decode cX2_nearestOnTheStalk 7 = .ok (.iload 4, 2) := by decide +kernel
theorem dX2_nearestOnTheStalk_9 : decode cX2_nearestOnTheStalk 9 = .ok (.aload_n 0, 1) := by decide +kernel
theorem dX2_nearestOnTheStalk_10 : decode cX2_nearestOnTheStalk 10 = .ok (.getfield 18, 3) := by decide +kernel
theorem dX2_nearestOnTheStalk_13 : decode cX2_nearestOnTheStalk 13 = .ok (.invokevirtual 30, 3) := by decide +kernel
theorem dX2_nearestOnTheStalk_16 : decode cX2_nearestOnTheStalk 16 = .ok (.if_icmp .ge 60, 3) := by decide +kernel
theorem dX2_nearestOnTheStalk_19 : decode cX2_nearestOnTheStalk 19 = .ok (.iload_n 3, 1) := by decide +kernel
theorem dX2_nearestOnTheStalk_20 : decode cX2_nearestOnTheStalk 20 = .ok (.ifCond .lt 14, 3) := by decide +kernel
theorem dX2_nearestOnTheStalk_23 : decode cX2_nearestOnTheStalk 23 = .ok (.iload_n 3, 1) := by decide +kernel
theorem dX2_nearestOnTheStalk_24 : decode cX2_nearestOnTheStalk 24 = .ok (.aload_n 0, 1) := by decide +kernel
theorem dX2_nearestOnTheStalk_25 : decode cX2_nearestOnTheStalk 25 = .ok (.getfield 18, 3) := by decide +kernel
theorem dX2_nearestOnTheStalk_28 : decode cX2_nearestOnTheStalk 28 = .ok (.invokevirtual 30, 3) := by decide +kernel
theorem dX2_nearestOnTheStalk_31 : decode cX2_nearestOnTheStalk 31 = .ok (.if_icmp .lt 5, 3) := by decide +kernel
theorem dX2_nearestOnTheStalk_34 : decode cX2_nearestOnTheStalk 34 = .ok (.aconst_null, 1) := by decide +kernel
theorem dX2_nearestOnTheStalk_35 : decode cX2_nearestOnTheStalk 35 = .ok (.areturn, 1) := by decide +kernel
theorem dX2_nearestOnTheStalk_36 : decode cX2_nearestOnTheStalk 36 = .ok (.aload_n 0, 1) := by decide +kernel
theorem dX2_nearestOnTheStalk_37 : decode cX2_nearestOnTheStalk 37 = .ok (.getfield 18, 3) := by decide +kernel
theorem dX2_nearestOnTheStalk_40 : decode cX2_nearestOnTheStalk 40 = .ok (.iload_n 3, 1) := by decide +kernel
theorem dX2_nearestOnTheStalk_41 : decode cX2_nearestOnTheStalk 41 = .ok (.invokevirtual 45, 3) := by decide +kernel
theorem dX2_nearestOnTheStalk_44 : decode cX2_nearestOnTheStalk 44 = .ok (.checkcast 49, 3) := by decide +kernel
theorem dX2_nearestOnTheStalk_47 : decode cX2_nearestOnTheStalk 47 = .ok (.astore 5, 2) := by decide +kernel
theorem dX2_nearestOnTheStalk_49 : decode cX2_nearestOnTheStalk 49 = .ok (.aload 5, 2) := by decide +kernel
theorem dX2_nearestOnTheStalk_51 : decode cX2_nearestOnTheStalk 51 = .ok (.getfield 97, 3) := by decide +kernel
theorem dX2_nearestOnTheStalk_54 : decode cX2_nearestOnTheStalk 54 = .ok (.getfield 142, 3) := by decide +kernel
theorem dX2_nearestOnTheStalk_57 : decode cX2_nearestOnTheStalk 57 = .ok (.invokestatic 145, 3) := by decide +kernel
theorem dX2_nearestOnTheStalk_60 : decode cX2_nearestOnTheStalk 60 = .ok (.ifCond .eq 6, 3) := by decide +kernel
theorem dX2_nearestOnTheStalk_63 : decode cX2_nearestOnTheStalk 63 = .ok (.aload 5, 2) := by decide +kernel
theorem dX2_nearestOnTheStalk_65 : decode cX2_nearestOnTheStalk 65 = .ok (.areturn, 1) := by decide +kernel
theorem dX2_nearestOnTheStalk_66 : decode cX2_nearestOnTheStalk 66 = .ok (.iload_n 3, 1) := by decide +kernel
theorem dX2_nearestOnTheStalk_67 : decode cX2_nearestOnTheStalk 67 = .ok (.iload_n 2, 1) := by decide +kernel
theorem dX2_nearestOnTheStalk_68 : decode cX2_nearestOnTheStalk 68 = .ok (.iadd, 1) := by decide +kernel
theorem dX2_nearestOnTheStalk_69 : decode cX2_nearestOnTheStalk 69 = .ok (.istore_n 3, 1) := by decide +kernel
theorem dX2_nearestOnTheStalk_70 : decode cX2_nearestOnTheStalk 70 = .ok (.iinc 4 1, 3) := by decide +kernel
theorem dX2_nearestOnTheStalk_73 : decode cX2_nearestOnTheStalk 73 = .ok (.goto (-66), 3) := by decide +kernel
theorem dX2_nearestOnTheStalk_76 : decode cX2_nearestOnTheStalk 76 = .ok (.aconst_null, 1) := by decide +kernel
theorem dX2_nearestOnTheStalk_77 : decode cX2_nearestOnTheStalk 77 = .ok (.areturn, 1) := by decide +kernel
theorem dX2_modelOf_0 : decode cX2_modelOf 0 = .ok (.aload_n 0, 1) := by decide +kernel
theorem dX2_modelOf_1 : decode cX2_modelOf 1 = .ok (.iload_n 1, 1) := by decide +kernel
theorem dX2_modelOf_2 : decode cX2_modelOf 2 = .ok (.iconst 1, 1) := by decide +kernel
theorem dX2_modelOf_3 : decode cX2_modelOf 3 = .ok (.isub, 1) := by decide +kernel
theorem dX2_modelOf_4 : decode cX2_modelOf 4 = .ok (.invokevirtual 149, 3) := by decide +kernel
theorem dX2_modelOf_7 : decode cX2_modelOf 7 = .ok (.astore_n 2, 1) := by decide +kernel
theorem dX2_modelOf_8 : decode cX2_modelOf 8 = .ok (.aload_n 0, 1) := by decide +kernel
theorem dX2_modelOf_9 : decode cX2_modelOf 9 = .ok (.iload_n 1, 1) := by decide +kernel
theorem dX2_modelOf_10 : decode cX2_modelOf 10 = .ok (.iconst 1, 1) := by decide +kernel
theorem dX2_modelOf_11 : decode cX2_modelOf 11 = .ok (.iadd, 1) := by decide +kernel
theorem dX2_modelOf_12 : decode cX2_modelOf 12 = .ok (.invokevirtual 149, 3) := by decide +kernel
theorem dX2_modelOf_15 : decode cX2_modelOf 15 = .ok (.astore_n 3, 1) := by decide +kernel
theorem dX2_modelOf_16 : decode cX2_modelOf 16 = .ok (.aload_n 2, 1) := by decide +kernel
theorem dX2_modelOf_17 : decode cX2_modelOf 17 = .ok (.ifnonnull 5, 3) := by decide +kernel
theorem dX2_modelOf_20 : decode cX2_modelOf 20 = .ok (.aload_n 3, 1) := by decide +kernel
theorem dX2_modelOf_21 : decode cX2_modelOf 21 = .ok (.areturn, 1) := by decide +kernel
theorem dX2_modelOf_22 : decode cX2_modelOf 22 = .ok (.aload_n 3, 1) := by decide +kernel
theorem dX2_modelOf_23 : decode cX2_modelOf 23 = .ok (.ifnonnull 5, 3) := by decide +kernel
theorem dX2_modelOf_26 : decode cX2_modelOf 26 = .ok (.aload_n 2, 1) := by decide +kernel
theorem dX2_modelOf_27 : decode cX2_modelOf 27 = .ok (.areturn, 1) := by decide +kernel
theorem dX2_modelOf_28 : decode cX2_modelOf 28 = .ok (.aload_n 3, 1) := by decide +kernel
theorem dX2_modelOf_29 : decode cX2_modelOf 29 = .ok (.invokevirtual 153, 3) := by decide +kernel
theorem dX2_modelOf_32 : decode cX2_modelOf 32 = .ok (.aload_n 2, 1) := by decide +kernel
theorem dX2_modelOf_33 : decode cX2_modelOf 33 = .ok (.invokevirtual 153, 3) := by decide +kernel
theorem dX2_modelOf_36 : decode cX2_modelOf 36 = .ok (.if_icmp .le 7, 3) := by decide +kernel
theorem dX2_modelOf_39 : decode cX2_modelOf 39 = .ok (.aload_n 3, 1) := by decide +kernel
theorem dX2_modelOf_40 : decode cX2_modelOf 40 = .ok (.goto 4, 3) := by decide +kernel
theorem dX2_modelOf_43 : decode cX2_modelOf 43 = .ok (.aload_n 2, 1) := by decide +kernel
theorem dX2_modelOf_44 : decode cX2_modelOf 44 = .ok (.areturn, 1) := by decide +kernel
theorem dX2_societyOrNull_0 : decode cX2_societyOrNull 0 = .ok (.iload_n 1, 1) := by decide +kernel
theorem dX2_societyOrNull_1 : decode cX2_societyOrNull 1 = .ok (.ifCond .lt 28, 3) := by decide +kernel
theorem dX2_societyOrNull_4 : decode cX2_societyOrNull 4 = .ok (.iload_n 1, 1) := by decide +kernel
theorem dX2_societyOrNull_5 : decode cX2_societyOrNull 5 = .ok (.aload_n 0, 1) := by decide +kernel
theorem dX2_societyOrNull_6 : decode cX2_societyOrNull 6 = .ok (.getfield 12, 3) := by decide +kernel
theorem dX2_societyOrNull_9 : decode cX2_societyOrNull 9 = .ok (.invokevirtual 30, 3) := by decide +kernel
theorem dX2_societyOrNull_12 : decode cX2_societyOrNull 12 = .ok (.if_icmp .ge 17, 3) := by decide +kernel
theorem dX2_societyOrNull_15 : decode cX2_societyOrNull 15 = .ok (.aload_n 0, 1) := by decide +kernel
theorem dX2_societyOrNull_16 : decode cX2_societyOrNull 16 = .ok (.getfield 12, 3) := by decide +kernel
theorem dX2_societyOrNull_19 : decode cX2_societyOrNull 19 = .ok (.iload_n 1, 1) := by decide +kernel
theorem dX2_societyOrNull_20 : decode cX2_societyOrNull 20 = .ok (.invokevirtual 45, 3) := by decide +kernel
theorem dX2_societyOrNull_23 : decode cX2_societyOrNull 23 = .ok (.checkcast 28, 3) := by decide +kernel
theorem dX2_societyOrNull_26 : decode cX2_societyOrNull 26 = .ok (.goto 4, 3) := by decide +kernel
theorem dX2_societyOrNull_29 : decode cX2_societyOrNull 29 = .ok (.aconst_null, 1) := by decide +kernel
theorem dX2_societyOrNull_30 : decode cX2_societyOrNull 30 = .ok (.areturn, 1) := by decide +kernel
theorem dX2_plantByPlan_0 : decode cX2_plantByPlan 0 = .ok (.iload_n 1, 1) := by decide +kernel
theorem dX2_plantByPlan_1 : decode cX2_plantByPlan 1 = .ok (.istore 4, 2) := by decide +kernel
theorem dX2_plantByPlan_3 : decode cX2_plantByPlan 3 = .ok (.iconst 0, 1) := by decide +kernel
theorem dX2_plantByPlan_4 : decode cX2_plantByPlan 4 = .ok (.istore 5, 2) := by decide +kernel
theorem dX2_plantByPlan_6 : decode cX2_plantByPlan 6 = .ok (.iload 5, 2) := by decide +kernel
theorem dX2_plantByPlan_8 : decode cX2_plantByPlan 8 = .ok (.aload_n 0, 1) := by decide +kernel
theorem dX2_plantByPlan_9 : decode cX2_plantByPlan 9 = .ok (.getfield 12, 3) := by decide +kernel
theorem dX2_plantByPlan_12 : decode cX2_plantByPlan 12 = .ok (.invokevirtual 30, 3) := by decide +kernel
theorem dX2_plantByPlan_15 : decode cX2_plantByPlan 15 = .ok (.if_icmp .ge 41, 3) := by decide +kernel
theorem dX2_plantByPlan_18 : decode cX2_plantByPlan 18 = .ok (.iload 4, 2) := by decide +kernel
theorem dX2_plantByPlan_20 : decode cX2_plantByPlan 20 = .ok (.iconst 3, 1) := by decide +kernel
theorem dX2_plantByPlan_21 : decode cX2_plantByPlan 21 = .ok (.irem, 1) := by decide +kernel
theorem dX2_plantByPlan_22 : decode cX2_plantByPlan 22 = .ok (.iconst 5, 1) := by decide +kernel
theorem dX2_plantByPlan_23 : decode cX2_plantByPlan 23 = .ok (.imul, 1) := by decide +kernel
theorem dX2_plantByPlan_24 : decode cX2_plantByPlan 24 = .ok (.iload_n 3, 1) := by decide +kernel
theorem dX2_plantByPlan_25 : decode cX2_plantByPlan 25 = .ok (.if_icmp .ne 19, 3) := by decide +kernel
theorem dX2_plantByPlan_28 : decode cX2_plantByPlan 28 = .ok (.aload_n 0, 1) := by decide +kernel
theorem dX2_plantByPlan_29 : decode cX2_plantByPlan 29 = .ok (.getfield 12, 3) := by decide +kernel
theorem dX2_plantByPlan_32 : decode cX2_plantByPlan 32 = .ok (.iload 5, 2) := by decide +kernel
theorem dX2_plantByPlan_34 : decode cX2_plantByPlan 34 = .ok (.invokevirtual 45, 3) := by decide +kernel
theorem dX2_plantByPlan_37 : decode cX2_plantByPlan 37 = .ok (.checkcast 28, 3) := by decide +kernel
theorem dX2_plantByPlan_40 : decode cX2_plantByPlan 40 = .ok (.iload_n 2, 1) := by decide +kernel
theorem dX2_plantByPlan_41 : decode cX2_plantByPlan 41 = .ok (.invokevirtual 156, 3) := by decide +kernel
theorem dX2_plantByPlan_44 : decode cX2_plantByPlan 44 = .ok (.iload 4, 2) := by decide +kernel
theorem dX2_plantByPlan_46 : decode cX2_plantByPlan 46 = .ok (.iconst 3, 1) := by decide +kernel
theorem dX2_plantByPlan_47 : decode cX2_plantByPlan 47 = .ok (.idiv, 1) := by decide +kernel
theorem dX2_plantByPlan_48 : decode cX2_plantByPlan 48 = .ok (.istore 4, 2) := by decide +kernel
theorem dX2_plantByPlan_50 : decode cX2_plantByPlan 50 = .ok (.iinc 5 1, 3) := by decide +kernel
theorem dX2_plantByPlan_53 : decode cX2_plantByPlan 53 = .ok (.goto (-47), 3) := by decide +kernel
theorem dX2_plantByPlan_56 : decode cX2_plantByPlan 56 = .ok (.return_, 1) := by decide +kernel
theorem dX2_yieldOf_0 : decode cX2_yieldOf 0 = .ok (.iload_n 1, 1) := by decide +kernel
theorem dX2_yieldOf_1 : decode cX2_yieldOf 1 = .ok (.ifCond .lt 34, 3) := by decide +kernel
theorem dX2_yieldOf_4 : decode cX2_yieldOf 4 = .ok (.iload_n 1, 1) := by decide +kernel
theorem dX2_yieldOf_5 : decode cX2_yieldOf 5 = .ok (.aload_n 0, 1) := by decide +kernel
theorem dX2_yieldOf_6 : decode cX2_yieldOf 6 = .ok (.getfield 18, 3) := by decide +kernel
theorem dX2_yieldOf_9 : decode cX2_yieldOf 9 = .ok (.invokevirtual 30, 3) := by decide +kernel
theorem dX2_yieldOf_12 : decode cX2_yieldOf 12 = .ok (.if_icmp .ge 23, 3) := by decide +kernel
theorem dX2_yieldOf_15 : decode cX2_yieldOf 15 = .ok (.aload_n 0, 1) := by decide +kernel
theorem dX2_yieldOf_16 : decode cX2_yieldOf 16 = .ok (.getfield 18, 3) := by decide +kernel
theorem dX2_yieldOf_19 : decode cX2_yieldOf 19 = .ok (.iload_n 1, 1) := by decide +kernel
theorem dX2_yieldOf_20 : decode cX2_yieldOf 20 = .ok (.invokevirtual 45, 3) := by decide +kernel
theorem dX2_yieldOf_23 : decode cX2_yieldOf 23 = .ok (.checkcast 49, 3) := by decide +kernel
theorem dX2_yieldOf_26 : decode cX2_yieldOf 26 = .ok (.getfield 97, 3) := by decide +kernel
theorem dX2_yieldOf_29 : decode cX2_yieldOf 29 = .ok (.invokevirtual 159, 3) := by decide +kernel
theorem dX2_yieldOf_32 : decode cX2_yieldOf 32 = .ok (.goto 4, 3) := by decide +kernel
theorem dX2_yieldOf_35 : decode cX2_yieldOf 35 = .ok (.iconst 0, 1) := by decide +kernel
theorem dX2_yieldOf_36 : decode cX2_yieldOf 36 = .ok (.ireturn, 1) := by decide +kernel
theorem dX2_sumOfYields_0 : decode cX2_sumOfYields 0 = .ok (.iconst 0, 1) := by decide +kernel
theorem dX2_sumOfYields_1 : decode cX2_sumOfYields 1 = .ok (.istore_n 1, 1) := by decide +kernel
theorem dX2_sumOfYields_2 : decode cX2_sumOfYields 2 = .ok (.iconst 0, 1) := by decide +kernel
theorem dX2_sumOfYields_3 : decode cX2_sumOfYields 3 = .ok (.istore_n 2, 1) := by decide +kernel
theorem dX2_sumOfYields_4 : decode cX2_sumOfYields 4 = .ok (.iload_n 2, 1) := by decide +kernel
theorem dX2_sumOfYields_5 : decode cX2_sumOfYields 5 = .ok (.aload_n 0, 1) := by decide +kernel
theorem dX2_sumOfYields_6 : decode cX2_sumOfYields 6 = .ok (.getfield 18, 3) := by decide +kernel
theorem dX2_sumOfYields_9 : decode cX2_sumOfYields 9 = .ok (.invokevirtual 30, 3) := by decide +kernel
theorem dX2_sumOfYields_12 : decode cX2_sumOfYields 12 = .ok (.if_icmp .ge 29, 3) := by decide +kernel
theorem dX2_sumOfYields_15 : decode cX2_sumOfYields 15 = .ok (.iload_n 1, 1) := by decide +kernel
theorem dX2_sumOfYields_16 : decode cX2_sumOfYields 16 = .ok (.aload_n 0, 1) := by decide +kernel
theorem dX2_sumOfYields_17 : decode cX2_sumOfYields 17 = .ok (.getfield 18, 3) := by decide +kernel
theorem dX2_sumOfYields_20 : decode cX2_sumOfYields 20 = .ok (.iload_n 2, 1) := by decide +kernel
theorem dX2_sumOfYields_21 : decode cX2_sumOfYields 21 = .ok (.invokevirtual 45, 3) := by decide +kernel
theorem dX2_sumOfYields_24 : decode cX2_sumOfYields 24 = .ok (.checkcast 49, 3) := by decide +kernel
theorem dX2_sumOfYields_27 : decode cX2_sumOfYields 27 = .ok (.getfield 97, 3) := by decide +kernel
theorem dX2_sumOfYields_30 : decode cX2_sumOfYields 30 = .ok (.invokevirtual 159, 3) := by decide +kernel
theorem dX2_sumOfYields_33 : decode cX2_sumOfYields 33 = .ok (.iadd, 1) := by decide +kernel
theorem dX2_sumOfYields_34 : decode cX2_sumOfYields 34 = .ok (.istore_n 1, 1) := by decide +kernel
theorem dX2_sumOfYields_35 : decode cX2_sumOfYields 35 = .ok (.iinc 2 1, 3) := by decide +kernel
theorem dX2_sumOfYields_38 : decode cX2_sumOfYields 38 = .ok (.goto (-34), 3) := by decide +kernel
theorem dX2_sumOfYields_41 : decode cX2_sumOfYields 41 = .ok (.iload_n 1, 1) := by decide +kernel
theorem dX2_sumOfYields_42 : decode cX2_sumOfYields 42 = .ok (.ireturn, 1) := by decide +kernel
theorem dX2_countRipe_0 : decode cX2_countRipe 0 = .ok (.iconst 0, 1) := by decide +kernel
theorem dX2_countRipe_1 : decode cX2_countRipe 1 = .ok (.istore_n 1, 1) := by decide +kernel
theorem dX2_countRipe_2 : decode cX2_countRipe 2 = .ok (.iconst 0, 1) := by decide +kernel
theorem dX2_countRipe_3 : decode cX2_countRipe 3 = .ok (.istore_n 2, 1) := by decide +kernel
theorem dX2_countRipe_4 : decode cX2_countRipe 4 = .ok (.iload_n 2, 1) := by decide +kernel
theorem dX2_countRipe_5 : decode cX2_countRipe 5 = .ok (.aload_n 0, 1) := by decide +kernel
theorem dX2_countRipe_6 : decode cX2_countRipe 6 = .ok (.getfield 18, 3) := by decide +kernel
theorem dX2_countRipe_9 : decode cX2_countRipe 9 = .ok (.invokevirtual 30, 3) := by decide +kernel
theorem dX2_countRipe_12 : decode cX2_countRipe 12 = .ok (.if_icmp .ge 38, 3) := by decide +kernel
theorem dX2_countRipe_15 : decode cX2_countRipe 15 = .ok (.iload_n 1, 1) := by decide +kernel
theorem dX2_countRipe_16 : decode cX2_countRipe 16 = .ok (.aload_n 0, 1) := by decide +kernel
theorem dX2_countRipe_17 : decode cX2_countRipe 17 = .ok (.getfield 18, 3) := by decide +kernel
theorem dX2_countRipe_20 : decode cX2_countRipe 20 = .ok (.iload_n 2, 1) := by decide +kernel
theorem dX2_countRipe_21 : decode cX2_countRipe 21 = .ok (.invokevirtual 45, 3) := by decide +kernel
theorem dX2_countRipe_24 : decode cX2_countRipe 24 = .ok (.checkcast 49, 3) := by decide +kernel
theorem dX2_countRipe_27 : decode cX2_countRipe 27 = .ok (.getfield 97, 3) := by decide +kernel
theorem dX2_countRipe_30 : decode cX2_countRipe 30 = .ok (.getfield 142, 3) := by decide +kernel
theorem dX2_countRipe_33 : decode cX2_countRipe 33 = .ok (.iconst 5, 1) := by decide +kernel
theorem dX2_countRipe_34 : decode cX2_countRipe 34 = .ok (.if_icmp .ne 7, 3) := by decide +kernel
theorem dX2_countRipe_37 : decode cX2_countRipe 37 = .ok (.iconst 1, 1) := by decide +kernel
theorem dX2_countRipe_38 : decode cX2_countRipe 38 = .ok (.goto 4, 3) := by decide +kernel
theorem dX2_countRipe_41 : decode cX2_countRipe 41 = .ok (.iconst 0, 1) := by decide +kernel
theorem dX2_countRipe_42 : decode cX2_countRipe 42 = .ok (.iadd, 1) := by decide +kernel
theorem dX2_countRipe_43 : decode cX2_countRipe 43 = .ok (.istore_n 1, 1) := by decide +kernel
theorem dX2_countRipe_44 : decode cX2_countRipe 44 = .ok (.iinc 2 1, 3) := by decide +kernel
theorem dX2_countRipe_47 : decode cX2_countRipe 47 = .ok (.goto (-43), 3) := by decide +kernel
theorem dX2_countRipe_50 : decode cX2_countRipe 50 = .ok (.iload_n 1, 1) := by decide +kernel
theorem dX2_countRipe_51 : decode cX2_countRipe 51 = .ok (.ireturn, 1) := by decide +kernel
theorem dX2_copyFrom_0 : decode cX2_copyFrom 0 = .ok (.aload_n 0, 1) := by decide +kernel
theorem dX2_copyFrom_1 : decode cX2_copyFrom 1 = .ok (.aload_n 1, 1) := by decide +kernel
theorem dX2_copyFrom_2 : decode cX2_copyFrom 2 = .ok (.getfield 59, 3) := by decide +kernel
theorem dX2_copyFrom_5 : decode cX2_copyFrom 5 = .ok (.putfield 59, 3) := by decide +kernel
theorem dX2_copyFrom_8 : decode cX2_copyFrom 8 = .ok (.aload_n 0, 1) := by decide +kernel
theorem dX2_copyFrom_9 : decode cX2_copyFrom 9 = .ok (.aload_n 1, 1) := by decide +kernel
theorem dX2_copyFrom_10 : decode cX2_copyFrom 10 = .ok (.getfield 119, 3) := by decide +kernel
theorem dX2_copyFrom_13 : decode cX2_copyFrom 13 = .ok (.putfield 119, 3) := by decide +kernel
theorem dX2_copyFrom_16 : decode cX2_copyFrom 16 = .ok (.iconst 0, 1) := by decide +kernel
theorem dX2_copyFrom_17 : decode cX2_copyFrom 17 = .ok (.istore_n 2, 1) := by decide +kernel
theorem dX2_copyFrom_18 : decode cX2_copyFrom 18 = .ok (.iload_n 2, 1) := by decide +kernel
theorem dX2_copyFrom_19 : decode cX2_copyFrom 19 = .ok (.aload_n 0, 1) := by decide +kernel
theorem dX2_copyFrom_20 : decode cX2_copyFrom 20 = .ok (.getfield 12, 3) := by decide +kernel
theorem dX2_copyFrom_23 : decode cX2_copyFrom 23 = .ok (.invokevirtual 30, 3) := by decide +kernel
theorem dX2_copyFrom_26 : decode cX2_copyFrom 26 = .ok (.if_icmp .ge 45, 3) := by decide +kernel
theorem dX2_copyFrom_29 : decode cX2_copyFrom 29 = .ok (.iload_n 2, 1) := by decide +kernel
theorem dX2_copyFrom_30 : decode cX2_copyFrom 30 = .ok (.aload_n 1, 1) := by decide +kernel
theorem dX2_copyFrom_31 : decode cX2_copyFrom 31 = .ok (.getfield 12, 3) := by decide +kernel
theorem dX2_copyFrom_34 : decode cX2_copyFrom 34 = .ok (.invokevirtual 30, 3) := by decide +kernel
theorem dX2_copyFrom_37 : decode cX2_copyFrom 37 = .ok (.if_icmp .ge 34, 3) := by decide +kernel
theorem dX2_copyFrom_40 : decode cX2_copyFrom 40 = .ok (.aload_n 0, 1) := by decide +kernel
theorem dX2_copyFrom_41 : decode cX2_copyFrom 41 = .ok (.getfield 12, 3) := by decide +kernel
theorem dX2_copyFrom_44 : decode cX2_copyFrom 44 = .ok (.iload_n 2, 1) := by decide +kernel
theorem dX2_copyFrom_45 : decode cX2_copyFrom 45 = .ok (.invokevirtual 45, 3) := by decide +kernel
theorem dX2_copyFrom_48 : decode cX2_copyFrom 48 = .ok (.checkcast 28, 3) := by decide +kernel
theorem dX2_copyFrom_51 : decode cX2_copyFrom 51 = .ok (.aload_n 1, 1) := by decide +kernel
theorem dX2_copyFrom_52 : decode cX2_copyFrom 52 = .ok (.getfield 12, 3) := by decide +kernel
theorem dX2_copyFrom_55 : decode cX2_copyFrom 55 = .ok (.iload_n 2, 1) := by decide +kernel
theorem dX2_copyFrom_56 : decode cX2_copyFrom 56 = .ok (.invokevirtual 45, 3) := by decide +kernel
theorem dX2_copyFrom_59 : decode cX2_copyFrom 59 = .ok (.checkcast 28, 3) := by decide +kernel
theorem dX2_copyFrom_62 : decode cX2_copyFrom 62 = .ok (.invokevirtual 162, 3) := by decide +kernel
theorem dX2_copyFrom_65 : decode cX2_copyFrom 65 = .ok (.iinc 2 1, 3) := by decide +kernel
theorem dX2_copyFrom_68 : decode cX2_copyFrom 68 = .ok (.goto (-50), 3) := by decide +kernel
theorem dX2_copyFrom_71 : decode cX2_copyFrom 71 = .ok (.iconst 0, 1) := by decide +kernel
theorem dX2_copyFrom_72 : decode cX2_copyFrom 72 = .ok (.istore_n 2, 1) := by decide +kernel
theorem dX2_copyFrom_73 : decode cX2_copyFrom 73 = .ok (.iload_n 2, 1) := by decide +kernel
theorem dX2_copyFrom_74 : decode cX2_copyFrom 74 = .ok (.aload_n 0, 1) := by decide +kernel
theorem dX2_copyFrom_75 : decode cX2_copyFrom 75 = .ok (.getfield 18, 3) := by decide +kernel
theorem dX2_copyFrom_78 : decode cX2_copyFrom 78 = .ok (.invokevirtual 30, 3) := by decide +kernel
theorem dX2_copyFrom_81 : decode cX2_copyFrom 81 = .ok (.if_icmp .ge 45, 3) := by decide +kernel
theorem dX2_copyFrom_84 : decode cX2_copyFrom 84 = .ok (.iload_n 2, 1) := by decide +kernel
theorem dX2_copyFrom_85 : decode cX2_copyFrom 85 = .ok (.aload_n 1, 1) := by decide +kernel
theorem dX2_copyFrom_86 : decode cX2_copyFrom 86 = .ok (.getfield 18, 3) := by decide +kernel
theorem dX2_copyFrom_89 : decode cX2_copyFrom 89 = .ok (.invokevirtual 30, 3) := by decide +kernel
theorem dX2_copyFrom_92 : decode cX2_copyFrom 92 = .ok (.if_icmp .ge 34, 3) := by decide +kernel
theorem dX2_copyFrom_95 : decode cX2_copyFrom 95 = .ok (.aload_n 0, 1) := by decide +kernel
theorem dX2_copyFrom_96 : decode cX2_copyFrom 96 = .ok (.getfield 18, 3) := by decide +kernel
theorem dX2_copyFrom_99 : decode cX2_copyFrom 99 = .ok (.iload_n 2, 1) := by decide +kernel
theorem dX2_copyFrom_100 : decode cX2_copyFrom 100 = .ok (.invokevirtual 45, 3) := by decide +kernel
theorem dX2_copyFrom_103 : decode cX2_copyFrom 103 = .ok (.checkcast 49, 3) := by decide +kernel
theorem dX2_copyFrom_106 : decode cX2_copyFrom 106 = .ok (.aload_n 1, 1) := by decide +kernel
theorem dX2_copyFrom_107 : decode cX2_copyFrom 107 = .ok (.getfield 18, 3) := by decide +kernel
theorem dX2_copyFrom_110 : decode cX2_copyFrom 110 = .ok (.iload_n 2, 1) := by decide +kernel
theorem dX2_copyFrom_111 : decode cX2_copyFrom 111 = .ok (.invokevirtual 45, 3) := by decide +kernel
theorem dX2_copyFrom_114 : decode cX2_copyFrom 114 = .ok (.checkcast 49, 3) := by decide +kernel
theorem dX2_copyFrom_117 : decode cX2_copyFrom 117 = .ok (.invokevirtual 166, 3) := by decide +kernel
theorem dX2_copyFrom_120 : decode cX2_copyFrom 120 = .ok (.iinc 2 1, 3) := by decide +kernel
theorem dX2_copyFrom_123 : decode cX2_copyFrom 123 = .ok (.goto (-50), 3) := by decide +kernel
theorem dX2_copyFrom_126 : decode cX2_copyFrom 126 = .ok (.return_, 1) := by decide +kernel
theorem dX3_init_0 : decode cX3_init 0 = .ok (.aload_n 0, 1) := by decide +kernel
theorem dX3_init_1 : decode cX3_init 1 = .ok (.invokespecial 1, 3) := by decide +kernel
theorem dX3_init_4 : decode cX3_init 4 = .ok (.return_, 1) := by decide +kernel
theorem dX3_sumOfGone_0 : decode cX3_sumOfGone 0 = .ok (.aload_n 0, 1) := by decide +kernel
theorem dX3_sumOfGone_1 : decode cX3_sumOfGone 1 = .ok (.getfield 7, 3) := by decide +kernel
theorem dX3_sumOfGone_4 : decode cX3_sumOfGone 4 = .ok (.aload_n 0, 1) := by decide +kernel
theorem dX3_sumOfGone_5 : decode cX3_sumOfGone 5 = .ok (.getfield 13, 3) := by decide +kernel
theorem dX3_sumOfGone_8 : decode cX3_sumOfGone 8 = .ok (.iadd, 1) := by decide +kernel
theorem dX3_sumOfGone_9 : decode cX3_sumOfGone 9 = .ok (.aload_n 0, 1) := by decide +kernel
theorem dX3_sumOfGone_10 : decode cX3_sumOfGone 10 = .ok (.getfield 16, 3) := by decide +kernel
theorem dX3_sumOfGone_13 : decode cX3_sumOfGone 13 = .ok (.iadd, 1) := by decide +kernel
theorem dX3_sumOfGone_14 : decode cX3_sumOfGone 14 = .ok (.ireturn, 1) := by decide +kernel
theorem dX4_init_0 : decode cX4_init 0 = .ok (.aload_n 0, 1) := by decide +kernel
theorem dX4_init_1 : decode cX4_init 1 = .ok (.invokespecial 1, 3) := by decide +kernel
theorem dX4_init_4 : decode cX4_init 4 = .ok (.aload_n 0, 1) := by decide +kernel
theorem dX4_init_5 : decode cX4_init 5 = .ok (.bipush 20, 2) := by decide +kernel
theorem dX4_init_7 : decode cX4_init 7 = .ok (.putfield 7, 3) := by decide +kernel
theorem dX4_init_10 : decode cX4_init 10 = .ok (.return_, 1) := by decide +kernel
theorem dX4_isExcluded_0 : decode cX4_isExcluded 0 = .ok (.aload_n 0, 1) := by decide +kernel
theorem dX4_isExcluded_1 : decode cX4_isExcluded 1 = .ok (.getfield 7, 3) := by decide +kernel
theorem dX4_isExcluded_4 : decode cX4_isExcluded 4 = .ok (.ifCond .ge 7, 3) := by decide +kernel
theorem dX4_isExcluded_7 : decode cX4_isExcluded 7 = .ok (.iconst 1, 1) := by decide +kernel
theorem dX4_isExcluded_8 : decode cX4_isExcluded 8 = .ok (.goto 4, 3) := by decide +kernel
theorem dX4_isExcluded_11 : decode cX4_isExcluded 11 = .ok (.iconst 0, 1) := by decide +kernel
theorem dX4_isExcluded_12 : decode cX4_isExcluded 12 = .ok (.ireturn, 1) := by decide +kernel
theorem dX5_init_0 : decode cX5_init 0 = .ok (.aload_n 0, 1) := by decide +kernel
theorem dX5_init_1 : decode cX5_init 1 = .ok (.invokespecial 3, 3) := by decide +kernel
theorem dX5_init_4 : decode cX5_init 4 = .ok (.aload_n 0, 1) := by decide +kernel
theorem dX5_init_5 : decode cX5_init 5 = .ok (.new 9, 3) := by decide +kernel
theorem dX5_init_8 : decode cX5_init 8 = .ok (.dup, 1) := by decide +kernel
theorem dX5_init_9 : decode cX5_init 9 = .ok (.invokespecial 11, 3) := by decide +kernel
theorem dX5_init_12 : decode cX5_init 12 = .ok (.putfield 12, 3) := by decide +kernel
theorem dX5_init_15 : decode cX5_init 15 = .ok (.aload_n 0, 1) := by decide +kernel
theorem dX5_init_16 : decode cX5_init 16 = .ok (.iconst (-1), 1) := by decide +kernel
theorem dX5_init_17 : decode cX5_init 17 = .ok (.putfield 18, 3) := by decide +kernel
theorem dX5_init_20 : decode cX5_init 20 = .ok (.aload_n 0, 1) := by decide +kernel
theorem dX5_init_21 : decode cX5_init 21 = .ok (.iload_n 1, 1) := by decide +kernel
theorem dX5_init_22 : decode cX5_init 22 = .ok (.putfield 22, 3) := by decide +kernel
theorem dX5_init_25 : decode cX5_init 25 = .ok (.aload_n 0, 1) := by decide +kernel
theorem dX5_init_26 : decode cX5_init 26 = .ok (.iload_n 2, 1) := by decide +kernel
theorem dX5_init_27 : decode cX5_init 27 = .ok (.putfield 25, 3) := by decide +kernel
theorem dX5_init_30 : decode cX5_init 30 = .ok (.aload_n 0, 1) := by decide +kernel
theorem dX5_init_31 : decode cX5_init 31 = .ok (.iload_n 3, 1) := by decide +kernel
theorem dX5_init_32 : decode cX5_init 32 = .ok (.putfield 28, 3) := by decide +kernel
theorem dX5_init_35 : decode cX5_init 35 = .ok (.aload_n 0, 1) := by decide +kernel
theorem dX5_init_36 : decode cX5_init 36 = .ok (.iload 4, 2) := by decide +kernel
theorem dX5_init_38 : decode cX5_init 38 = .ok (.putfield 31, 3) := by decide +kernel
theorem dX5_init_41 : decode cX5_init 41 = .ok (.aload_n 0, 1) := by decide +kernel
theorem dX5_init_42 : decode cX5_init 42 = .ok (.iload 5, 2) := by decide +kernel
theorem dX5_init_44 : decode cX5_init 44 = .ok (.putfield 34, 3) := by decide +kernel
theorem dX5_init_47 : decode cX5_init 47 = .ok (.return_, 1) := by decide +kernel
theorem dX5_take_0 : decode cX5_take 0 = .ok (.aload_n 0, 1) := by decide +kernel
theorem dX5_take_1 : decode cX5_take 1 = .ok (.getfield 12, 3) := by decide +kernel
theorem dX5_take_4 : decode cX5_take 4 = .ok (.invokevirtual 37, 3) := by decide +kernel
theorem dX5_take_7 : decode cX5_take 7 = .ok (.ifCond .ne 26, 3) := by decide +kernel
theorem dX5_take_10 : decode cX5_take 10 = .ok (.aload_n 0, 1) := by decide +kernel
theorem dX5_take_11 : decode cX5_take 11 = .ok (.getfield 12, 3) := by decide +kernel
theorem dX5_take_14 : decode cX5_take 14 = .ok (.aload_n 0, 1) := by decide +kernel
theorem dX5_take_15 : decode cX5_take 15 = .ok (.getfield 12, 3) := by decide +kernel
theorem dX5_take_18 : decode cX5_take 18 = .ok (.invokevirtual 41, 3) := by decide +kernel
theorem dX5_take_21 : decode cX5_take 21 = .ok (.iconst 1, 1) := by decide +kernel
theorem dX5_take_22 : decode cX5_take 22 = .ok (.isub, 1) := by decide +kernel
theorem dX5_take_23 : decode cX5_take 23 = .ok (.invokevirtual 45, 3) := by decide +kernel
theorem dX5_take_26 : decode cX5_take 26 = .ok (.checkcast 49, 3) := by decide +kernel
theorem dX5_take_29 : decode cX5_take 29 = .ok (.aload_n 1, 1) := by decide +kernel
theorem dX5_take_30 : decode cX5_take 30 = .ok (.putfield 51, 3) := by decide +kernel
theorem dX5_take_33 : decode cX5_take 33 = .ok (.aload_n 0, 1) := by decide +kernel
theorem dX5_take_34 : decode cX5_take 34 = .ok (.getfield 12, 3) := by decide +kernel
theorem dX5_take_37 : decode cX5_take 37 = .ok (.aload_n 1, 1) := by decide +kernel
theorem dX5_take_38 : decode cX5_take 38 = .ok (.invokevirtual 55, 3) := by decide +kernel
theorem dX5_take_41 : decode cX5_take 41 = .ok (.pop, 1) := by decide +kernel
theorem dX5_take_42 : decode cX5_take 42 = .ok (.return_, 1) := by decide +kernel
theorem dX5_isOpenOn_0 : decode cX5_isOpenOn 0 = .ok (.iload_n 1, 1) := by decide +kernel
theorem dX5_isOpenOn_1 : decode cX5_isOpenOn 1 = .ok (.aload_n 0, 1) := by decide +kernel
theorem dX5_isOpenOn_2 : decode cX5_isOpenOn 2 = .ok (.getfield 31, 3) := by decide +kernel
theorem dX5_isOpenOn_5 : decode cX5_isOpenOn 5 = .ok (.isub, 1) := by decide +kernel
theorem dX5_isOpenOn_6 : decode cX5_isOpenOn 6 = .ok (.sipush 210, 3) := by decide +kernel
theorem dX5_isOpenOn_9 : decode cX5_isOpenOn 9 = .ok (.invokestatic 59, 3) := by decide +kernel
theorem dX5_isOpenOn_12 : decode cX5_isOpenOn 12 = .ok (.aload_n 0, 1) := by decide +kernel
theorem dX5_isOpenOn_13 : decode cX5_isOpenOn 13 = .ok (.getfield 34, 3) := by decide +kernel
theorem dX5_isOpenOn_16 : decode cX5_isOpenOn 16 = .ok (.if_icmp .ge 7, 3) := by decide +kernel
theorem dX5_isOpenOn_19 : decode cX5_isOpenOn 19 = .ok (.iconst 1, 1) := by decide +kernel
theorem dX5_isOpenOn_20 : decode cX5_isOpenOn 20 = .ok (.goto 4, 3) := by decide +kernel
theorem dX5_isOpenOn_23 : decode cX5_isOpenOn 23 = .ok (.iconst 0, 1) := by decide +kernel
theorem dX5_isOpenOn_24 : decode cX5_isOpenOn 24 = .ok (.ireturn, 1) := by decide +kernel
theorem dX5_shareOut_0 : decode cX5_shareOut 0 = .ok (.iconst 0, 1) := by decide +kernel
theorem dX5_shareOut_1 : decode cX5_shareOut 1 = .ok (.istore_n 3, 1) := by decide +kernel
theorem dX5_shareOut_2 : decode cX5_shareOut 2 = .ok (.iload_n 3, 1) := by decide +kernel
theorem dX5_shareOut_3 : decode cX5_shareOut 3 = .ok (.aload_n 0, 1) := by decide +kernel
theorem dX5_shareOut_4 : decode cX5_shareOut 4 = .ok (.getfield 12, 3) := by decide +kernel
theorem dX5_shareOut_7 : decode cX5_shareOut 7 = .ok (.invokevirtual 41, 3) := by decide +kernel
theorem dX5_shareOut_10 : decode cX5_shareOut 10 = .ok (.if_icmp .ge 24, 3) := by decide +kernel
theorem dX5_shareOut_13 : decode cX5_shareOut 13 = .ok (.aload_n 0, 1) := by decide +kernel
theorem dX5_shareOut_14 : decode cX5_shareOut 14 = .ok (.getfield 12, 3) := by decide +kernel
theorem dX5_shareOut_17 : decode cX5_shareOut 17 = .ok (.iload_n 3, 1) := by decide +kernel
theorem dX5_shareOut_18 : decode cX5_shareOut 18 = .ok (.invokevirtual 45, 3) := by decide +kernel
theorem dX5_shareOut_21 : decode cX5_shareOut 21 = .ok (.checkcast 49, 3) := by decide +kernel
theorem dX5_shareOut_24 : decode cX5_shareOut 24 = .ok (.iconst 0, 1) := by decide +kernel
theorem dX5_shareOut_25 : decode cX5_shareOut 25 = .ok (.putfield 65, 3) := by decide +kernel
theorem dX5_shareOut_28 : decode cX5_shareOut 28 = .ok (.iinc 3 1, 3) := by decide +kernel
theorem dX5_shareOut_31 : decode cX5_shareOut 31 = .ok (.goto (-29), 3) := by decide +kernel
theorem dX5_shareOut_34 : decode cX5_shareOut 34 = .ok (.aload_n 0, 1) := by decide +kernel
theorem dX5_shareOut_35 : decode cX5_shareOut 35 = .ok (.getfield 68, 3) := by decide +kernel
theorem dX5_shareOut_38 : decode cX5_shareOut 38 = .ok (.aload_n 0, 1) := by decide +kernel
theorem dX5_shareOut_39 : decode cX5_shareOut 39 = .ok (.getfield 28, 3) := by decide +kernel
theorem dX5_shareOut_42 : decode cX5_shareOut 42 = .ok (.imul, 1) := by decide +kernel
theorem dX5_shareOut_43 : decode cX5_shareOut 43 = .ok (.bipush 100, 2) := by decide +kernel
theorem dX5_shareOut_45 : decode cX5_shareOut 45 = .ok (.idiv, 1) := by decide +kernel
theorem dX5_shareOut_46 : decode cX5_shareOut 46 = .ok (.istore_n 3, 1) := by decide +kernel
theorem dX5_shareOut_47 : decode cX5_shareOut 47 = .ok (.aload_n 2, 1) := by decide +kernel
theorem dX5_shareOut_48 : decode cX5_shareOut 48 = .ok (.dup, 1) := by decide +kernel
theorem dX5_shareOut_49 : decode cX5_shareOut 49 = .ok (.getfield 71, 3) := by decide +kernel
theorem dX5_shareOut_52 : decode cX5_shareOut 52 = .ok (.iload_n 3, 1) := by decide +kernel
theorem dX5_shareOut_53 : decode cX5_shareOut 53 = .ok (.iadd, 1) := by decide +kernel
theorem dX5_shareOut_54 : decode cX5_shareOut 54 = .ok (.putfield 71, 3) := by decide +kernel
theorem dX5_shareOut_57 : decode cX5_shareOut 57 = .ok (.aload_n 0, 1) := by decide +kernel
theorem dX5_shareOut_58 : decode cX5_shareOut 58 = .ok (.getfield 68, 3) := by decide +kernel
theorem dX5_shareOut_61 : decode cX5_shareOut 61 = .ok (.iload_n 3, 1) := by decide +kernel
theorem dX5_shareOut_62 : decode cX5_shareOut 62 = .ok (.isub, 1) := by decide +kernel
theorem dX5_shareOut_63 : decode cX5_shareOut 63 = .ok (.aload_n 0, 1) := by decide +kernel
theorem dX5_shareOut_64 : decode cX5_shareOut 64 = .ok (.getfield 76, 3) := by decide +kernel
theorem dX5_shareOut_67 : decode cX5_shareOut 67 = .ok (.iadd, 1) := by decide +kernel
theorem dX5_shareOut_68 : decode cX5_shareOut 68 = .ok (.istore 4, 2) := by decide +kernel
theorem dX5_shareOut_70 : decode cX5_shareOut 70 = .ok (.aload_n 0, 1) := by decide +kernel
theorem dX5_shareOut_71 : decode cX5_shareOut 71 = .ok (.iconst 0, 1) := by decide +kernel
theorem dX5_shareOut_72 : decode cX5_shareOut 72 = .ok (.putfield 76, 3) := by decide +kernel
theorem dX5_shareOut_75 : decode cX5_shareOut 75 = .ok (.aload_n 0, 1) := by decide +kernel
theorem dX5_shareOut_76 : decode cX5_shareOut 76 = .ok (.iload_n 1, 1) := by decide +kernel
theorem dX5_shareOut_77 : decode cX5_shareOut 77 = .ok (.invokevirtual 79, 3) := by decide +kernel
theorem dX5_shareOut_80 : decode cX5_shareOut 80 = .ok (.ifCond .ne 17, 3) := by decide +kernel
theorem dX5_shareOut_83 : decode cX5_shareOut 83 = .ok (.aload_n 2, 1) := by decide +kernel
theorem dX5_shareOut_84 : decode cX5_shareOut 84 = .ok (.dup, 1) := by decide +kernel
theorem dX5_shareOut_85 : decode cX5_shareOut 85 = .ok (.getfield 83, 3) := by decide +kernel
theorem dX5_shareOut_88 : decode cX5_shareOut 88 = .ok (.iload 4, 2) := by decide +kernel
theorem dX5_shareOut_90 : decode cX5_shareOut 90 = .ok (.iadd, 1) := by decide +kernel
theorem dX5_shareOut_91 : decode cX5_shareOut 91 = .ok (.putfield 83, 3) := by decide +kernel
theorem dX5_shareOut_94 : decode cX5_shareOut 94 = .ok (.goto 31, 3) := by decide +kernel
theorem dX5_shareOut_97 : decode cX5_shareOut 97 = .ok (.aload_n 0, 1) := by decide +kernel
theorem dX5_shareOut_98 : decode cX5_shareOut 98 = .ok (.getfield 86, 3) := by decide +kernel
theorem dX5_shareOut_101 : decode cX5_shareOut 101 = .ok (.ifCond .eq 17, 3) := by decide +kernel
theorem dX5_shareOut_104 : decode cX5_shareOut 104 = .ok (.aload_n 0, 1) := by decide +kernel
theorem dX5_shareOut_105 : decode cX5_shareOut 105 = .ok (.aload_n 0, 1) := by decide +kernel
theorem dX5_shareOut_106 : decode cX5_shareOut 106 = .ok (.invokevirtual 90, 3) := by decide +kernel
theorem dX5_shareOut_109 : decode cX5_shareOut 109 = .ok (.iload 4, 2) := by decide +kernel
theorem dX5_shareOut_111 : decode cX5_shareOut 111 = .ok (.aload_n 2, 1) := by decide +kernel
theorem dX5_shareOut_112 : decode cX5_shareOut 112 = .ok (.invokevirtual 94, 3) := by decide +kernel
theorem dX5_shareOut_115 : decode cX5_shareOut 115 = .ok (.goto 10, 3) := by decide +kernel
theorem dX5_shareOut_118 : decode cX5_shareOut 118 = .ok (.aload_n 0, 1) := by decide +kernel
theorem dX5_shareOut_119 : decode cX5_shareOut 119 = .ok (.iload 4, 2) := by decide +kernel
theorem dX5_shareOut_121 : decode cX5_shareOut 121 = .ok (.aload_n 2, 1) := by decide +kernel
theorem dX5_shareOut_122 : decode cX5_shareOut 122 = .ok (.invokevirtual 98, 3) := by decide +kernel
theorem dX5_shareOut_125 : decode cX5_shareOut 125 = .ok (.return_, 1) := by decide +kernel
theorem dX5_giveInTurn_0 : decode cX5_giveInTurn 0 = .ok (.aload_n 1, 1) := by decide +kernel
theorem dX5_giveInTurn_1 : decode cX5_giveInTurn 1 = .ok (.ifnonnull 14, 3) := by decide +kernel
theorem dX5_giveInTurn_4 : decode cX5_giveInTurn 4 = .ok (.aload_n 3, 1) := by decide +kernel
theorem dX5_giveInTurn_5 : decode cX5_giveInTurn 5 = .ok (.dup, 1) := by decide +kernel
theorem dX5_giveInTurn_6 : decode cX5_giveInTurn 6 = .ok (.getfield 83, 3) := by decide +kernel
theorem dX5_giveInTurn_9 : decode cX5_giveInTurn 9 = .ok (.iload_n 2, 1) := by decide +kernel
theorem dX5_giveInTurn_10 : decode cX5_giveInTurn 10 = .ok (.iadd, 1) := by decide +kernel
theorem dX5_giveInTurn_11 : decode cX5_giveInTurn 11 = .ok (.putfield 83, 3) := by decide +kernel
theorem dX5_giveInTurn_14 : decode cX5_giveInTurn 14 = .ok (.return_, 1) := by decide +kernel
theorem dX5_giveInTurn_15 : decode cX5_giveInTurn 15 = .ok (.aload_n 1, 1) := by decide +kernel
theorem dX5_giveInTurn_16 : decode cX5_giveInTurn 16 = .ok (.iload_n 2, 1) := by decide +kernel
theorem dX5_giveInTurn_17 : decode cX5_giveInTurn 17 = .ok (.putfield 65, 3) := by decide +kernel
theorem dX5_giveInTurn_20 : decode cX5_giveInTurn 20 = .ok (.aload_n 0, 1) := by decide +kernel
theorem dX5_giveInTurn_21 : decode cX5_giveInTurn 21 = .ok (.aload_n 1, 1) := by decide +kernel
theorem dX5_giveInTurn_22 : decode cX5_giveInTurn 22 = .ok (.getfield 102, 3) := by decide +kernel
theorem dX5_giveInTurn_25 : decode cX5_giveInTurn 25 = .ok (.putfield 18, 3) := by decide +kernel
theorem dX5_giveInTurn_28 : decode cX5_giveInTurn 28 = .ok (.return_, 1) := by decide +kernel
theorem dX5_nextInTurn_0 : decode cX5_nextInTurn 0 = .ok (.aconst_null, 1) := by decide +kernel
theorem dX5_nextInTurn_1 : decode cX5_nextInTurn 1 = .ok (.astore_n 1, 1) := by decide +kernel
theorem dX5_nextInTurn_2 : decode cX5_nextInTurn 2 = .ok (.iconst 0, 1) := by decide +kernel
theorem dX5_nextInTurn_3 : decode cX5_nextInTurn 3 = .ok (.istore_n 2, 1) := by decide +kernel
theorem dX5_nextInTurn_4 : decode cX5_nextInTurn 4 = .ok (.iload_n 2, 1) := by decide +kernel
theorem dX5_nextInTurn_5 : decode cX5_nextInTurn 5 = .ok (.aload_n 0, 1) := by decide +kernel
theorem dX5_nextInTurn_6 : decode cX5_nextInTurn 6 = .ok (.getfield 12, 3) := by decide +kernel
theorem dX5_nextInTurn_9 : decode cX5_nextInTurn 9 = .ok (.invokevirtual 41, 3) := by decide +kernel
theorem dX5_nextInTurn_12 : decode cX5_nextInTurn 12 = .ok (.if_icmp .ge 50, 3) := by decide +kernel
theorem dX5_nextInTurn_15 : decode cX5_nextInTurn 15 = .ok (.aload_n 0, 1) := by decide +kernel
theorem dX5_nextInTurn_16 : decode cX5_nextInTurn 16 = .ok (.getfield 12, 3) := by decide +kernel
theorem dX5_nextInTurn_19 : decode cX5_nextInTurn 19 = .ok (.iload_n 2, 1) := by decide +kernel
theorem dX5_nextInTurn_20 : decode cX5_nextInTurn 20 = .ok (.invokevirtual 45, 3) := by decide +kernel
theorem dX5_nextInTurn_23 : decode cX5_nextInTurn 23 = .ok (.checkcast 49, 3) := by decide +kernel
theorem dX5_nextInTurn_26 : decode cX5_nextInTurn 26 = .ok (.astore_n 3, 1) := by decide +kernel
theorem dX5_nextInTurn_27 : decode cX5_nextInTurn 27 = .ok (.aload_n 3, 1) := by decide +kernel
theorem dX5_nextInTurn_28 : decode cX5_nextInTurn 28 = .ok (.invokevirtual 103, 3) := by decide +kernel
theorem dX5_nextInTurn_31 : decode cX5_nextInTurn 31 = .ok (.ifCond .ne 6, 3) := by decide +kernel
theorem dX5_nextInTurn_34 : decode cX5_nextInTurn 34 = .ok (.goto 22, 3) := by decide +kernel
theorem dX5_nextInTurn_37 : decode cX5_nextInTurn 37 = .ok (.aload_n 3, 1) := by decide +kernel
theorem dX5_nextInTurn_38 : decode cX5_nextInTurn 38 = .ok (.getfield 102, 3) := by decide +kernel
theorem dX5_nextInTurn_41 : decode cX5_nextInTurn 41 = .ok (.aload_n 0, 1) := by decide +kernel
theorem dX5_nextInTurn_42 : decode cX5_nextInTurn 42 = .ok (.getfield 18, 3) := by decide +kernel
theorem dX5_nextInTurn_45 : decode cX5_nextInTurn 45 = .ok (.if_icmp .le 5, 3) := by decide +kernel
theorem dX5_nextInTurn_48 : decode cX5_nextInTurn 48 = .ok (.aload_n 3, 1) := by decide +kernel
theorem dX5_nextInTurn_49 : decode cX5_nextInTurn 49 = .ok (.areturn, 1) := by decide +kernel
theorem dX5_nextInTurn_50 : decode cX5_nextInTurn 50 = .ok (.aload_n 1, 1) := by decide +kernel
theorem dX5_nextInTurn_51 : decode cX5_nextInTurn 51 = .ok (.ifnonnull 5, 3) := by decide +kernel
theorem dX5_nextInTurn_54 : decode cX5_nextInTurn 54 = .ok (.aload_n 3, 1) := by decide +kernel
theorem dX5_nextInTurn_55 : decode cX5_nextInTurn 55 = .ok (.astore_n 1, 1) := by decide +kernel
theorem dX5_nextInTurn_56 : decode cX5_nextInTurn 56 = .ok (.iinc 2 1, 3) := by decide +kernel
theorem dX5_nextInTurn_59 : decode cX5_nextInTurn 59 = .ok (.goto (-55), 3) := by decide +kernel
theorem dX5_nextInTurn_62 : decode cX5_nextInTurn 62 = .ok (.aload_n 1, 1) := by decide +kernel
theorem dX5_nextInTurn_63 : decode cX5_nextInTurn 63 = .ok (.areturn, 1) := by decide +kernel
theorem dX5_giveByNotch_0 : decode cX5_giveByNotch 0 = .ok (.iconst 0, 1) := by decide +kernel
theorem dX5_giveByNotch_1 : decode cX5_giveByNotch 1 = .ok (.istore_n 3, 1) := by decide +kernel
theorem dX5_giveByNotch_2 : decode cX5_giveByNotch 2 = .ok (.iconst 0, 1) := by decide +kernel
theorem dX5_giveByNotch_3 : decode cX5_giveByNotch 3 = .ok (.istore 4, 2) := by decide +kernel
theorem dX5_giveByNotch_5 : decode cX5_giveByNotch 5 = .ok (.iload 4, 2) := by decide +kernel
theorem dX5_giveByNotch_7 : decode cX5_giveByNotch 7 = .ok (.aload_n 0, 1) := by decide +kernel
theorem dX5_giveByNotch_8 : decode cX5_giveByNotch 8 = .ok (.getfield 12, 3) := by decide +kernel
theorem dX5_giveByNotch_11 : decode cX5_giveByNotch 11 = .ok (.invokevirtual 41, 3) := by decide +kernel
theorem dX5_giveByNotch_14 : decode cX5_giveByNotch 14 = .ok (.if_icmp .ge 43, 3) := by decide +kernel
theorem dX5_giveByNotch_17 : decode cX5_giveByNotch 17 = .ok (.aload_n 0, 1) := by decide +kernel
theorem dX5_giveByNotch_18 : decode cX5_giveByNotch 18 = .ok (.getfield 12, 3) := by decide +kernel
theorem dX5_giveByNotch_21 : decode cX5_giveByNotch 21 = .ok (.iload 4, 2) := by decide +kernel
theorem dX5_giveByNotch_23 : decode cX5_giveByNotch 23 = .ok (.invokevirtual 45, 3) := by decide +kernel
theorem dX5_giveByNotch_26 : decode cX5_giveByNotch 26 = .ok (.checkcast 49, 3) := by decide +kernel
theorem dX5_giveByNotch_29 : decode cX5_giveByNotch 29 = .ok (.astore 5, 2) := by decide +kernel
theorem dX5_giveByNotch_31 : decode cX5_giveByNotch 31 = .ok (.iload_n 3, 1) := by decide +kernel
theorem dX5_giveByNotch_32 : decode cX5_giveByNotch 32 = .ok (.aload 5, 2) := by decide +kernel
theorem dX5_giveByNotch_34 : decode cX5_giveByNotch 34 = .ok (.invokevirtual 103, 3) := by decide +kernel
theorem dX5_giveByNotch_37 : decode cX5_giveByNotch 37 = .ok (.ifCond .eq 11, 3) := by decide +kernel
theorem dX5_giveByNotch_40 : decode cX5_giveByNotch 40 = .ok (.aload 5, 2) := by decide +kernel
theorem dX5_giveByNotch_42 : decode cX5_giveByNotch 42 = .ok (.invokevirtual 106, 3) := by decide +kernel
theorem dX5_giveByNotch_45 : decode cX5_giveByNotch 45 = .ok (.goto 4, 3) := by decide +kernel
theorem dX5_giveByNotch_48 : decode cX5_giveByNotch 48 = .ok (.iconst 0, 1) := by decide +kernel
theorem dX5_giveByNotch_49 : decode cX5_giveByNotch 49 = .ok (.iadd, 1) := by decide +kernel
theorem dX5_giveByNotch_50 : decode cX5_giveByNotch 50 = .ok (.istore_n 3, 1) := by decide +kernel
theorem dX5_giveByNotch_51 : decode cX5_giveByNotch 51 = .ok (.iinc 4 1, 3) := by decide +kernel
theorem dX5_giveByNotch_54 : decode cX5_giveByNotch 54 = .ok (.goto (-49), 3) := by decide +kernel
theorem dX5_giveByNotch_57 : decode cX5_giveByNotch 57 = .ok (.iload_n 3, 1) := by decide +kernel
theorem dX5_giveByNotch_58 : decode cX5_giveByNotch 58 = .ok (.ifCond .gt 14, 3) := by decide +kernel
theorem dX5_giveByNotch_61 : decode cX5_giveByNotch 61 = .ok (.aload_n 2, 1) := by decide +kernel
theorem dX5_giveByNotch_62 : decode cX5_giveByNotch 62 = .ok (.dup, 1) := by decide +kernel
theorem dX5_giveByNotch_63 : decode cX5_giveByNotch 63 = .ok (.getfield 83, 3) := by decide +kernel
theorem dX5_giveByNotch_66 : decode cX5_giveByNotch 66 = .ok (.iload_n 1, 1) := by decide +kernel
theorem dX5_giveByNotch_67 : decode cX5_giveByNotch 67 = .ok (.iadd, 1) := by decide +kernel
theorem dX5_giveByNotch_68 : decode cX5_giveByNotch 68 = .ok (.putfield 83, 3) := by decide +kernel
theorem dX5_giveByNotch_71 : decode cX5_giveByNotch 71 = .ok (.return_, 1) := by decide +kernel
theorem dX5_giveByNotch_72 : decode cX5_giveByNotch 72 = .ok (.aload_n 0, 1) := by decide +kernel
theorem dX5_giveByNotch_73 : decode cX5_giveByNotch 73 = .ok (.iload_n 1, 1) := by decide +kernel
theorem dX5_giveByNotch_74 : decode cX5_giveByNotch 74 = .ok (.putfield 76, 3) := by decide +kernel
theorem dX5_giveByNotch_77 : decode cX5_giveByNotch 77 = .ok (.iconst 0, 1) := by decide +kernel
theorem dX5_giveByNotch_78 : decode cX5_giveByNotch 78 = .ok (.istore 4, 2) := by decide +kernel
theorem dX5_giveByNotch_80 : decode cX5_giveByNotch 80 = .ok (.iload 4, 2) := by decide +kernel
theorem dX5_giveByNotch_82 : decode cX5_giveByNotch 82 = .ok (.aload_n 0, 1) := by decide +kernel
theorem dX5_giveByNotch_83 : decode cX5_giveByNotch 83 = .ok (.getfield 12, 3) := by decide +kernel
theorem dX5_giveByNotch_86 : decode cX5_giveByNotch 86 = .ok (.invokevirtual 41, 3) := by decide +kernel
theorem dX5_giveByNotch_89 : decode cX5_giveByNotch 89 = .ok (.if_icmp .ge 59, 3) := by decide +kernel
theorem dX5_giveByNotch_92 : decode cX5_giveByNotch 92 = .ok (.aload_n 0, 1) := by decide +kernel
theorem dX5_giveByNotch_93 : decode cX5_giveByNotch 93 = .ok (.getfield 12, 3) := by decide +kernel
theorem dX5_giveByNotch_96 : decode cX5_giveByNotch 96 = .ok (.iload 4, 2) := by decide +kernel
theorem dX5_giveByNotch_98 : decode cX5_giveByNotch 98 = .ok (.invokevirtual 45, 3) := by decide +kernel
theorem dX5_giveByNotch_101 : decode cX5_giveByNotch 101 = .ok (.checkcast 49, 3) := by decide +kernel
theorem dX5_giveByNotch_104 : decode cX5_giveByNotch 104 = .ok (.astore 5, 2) := by decide +kernel
theorem dX5_giveByNotch_106 : decode cX5_giveByNotch 106 = .ok (.aload 5, 2) := by decide +kernel
theorem dX5_giveByNotch_108 : decode cX5_giveByNotch 108 = .ok (.invokevirtual 103, 3) := by decide +kernel
theorem dX5_giveByNotch_111 : decode cX5_giveByNotch 111 = .ok (.ifCond .eq 31, 3) := by decide +kernel
theorem dX5_giveByNotch_114 : decode cX5_giveByNotch 114 = .ok (.aload 5, 2) := by decide +kernel
theorem dX5_giveByNotch_116 : decode cX5_giveByNotch 116 = .ok (.iload_n 1, 1) := by decide +kernel
theorem dX5_giveByNotch_117 : decode cX5_giveByNotch 117 = .ok (.aload 5, 2) := by decide +kernel
theorem dX5_giveByNotch_119 : decode cX5_giveByNotch 119 = .ok (.invokevirtual 106, 3) := by decide +kernel
theorem dX5_giveByNotch_122 : decode cX5_giveByNotch 122 = .ok (.imul, 1) := by decide +kernel
theorem dX5_giveByNotch_123 : decode cX5_giveByNotch 123 = .ok (.iload_n 3, 1) := by decide +kernel
theorem dX5_giveByNotch_124 : decode cX5_giveByNotch 124 = .ok (.idiv, 1) := by decide +kernel
theorem dX5_giveByNotch_125 : decode cX5_giveByNotch 125 = .ok (.putfield 65, 3) := by decide +kernel
theorem dX5_giveByNotch_128 : decode cX5_giveByNotch 128 = .ok (.aload_n 0, 1) := by decide +kernel
theorem dX5_giveByNotch_129 : decode cX5_giveByNotch 129 = .ok (.dup, 1) := by decide +kernel
theorem dX5_giveByNotch_130 : decode cX5_giveByNotch 130 = .ok (.getfield 76, 3) := by decide +kernel
theorem dX5_giveByNotch_133 : decode cX5_giveByNotch 133 = .ok (.aload 5, 2) := by decide +kernel
theorem dX5_giveByNotch_135 : decode cX5_giveByNotch 135 = .ok (.getfield 65, 3) := by decide +kernel
theorem dX5_giveByNotch_138 : decode cX5_giveByNotch 138 = .ok (.isub, 1) := by decide +kernel
theorem dX5_giveByNotch_139 : decode cX5_giveByNotch 139 = .ok (.putfield 76, 3) := by decide +kernel
theorem dX5_giveByNotch_142 : decode cX5_giveByNotch 142 = .ok (.iinc 4 1, 3) := by decide +kernel
theorem dX5_giveByNotch_145 : decode cX5_giveByNotch 145 = .ok (.goto (-65), 3) := by decide +kernel
theorem dX5_giveByNotch_148 : decode cX5_giveByNotch 148 = .ok (.return_, 1) := by decide +kernel
theorem dX5_mostAboveNotch_0 : decode cX5_mostAboveNotch 0 = .ok (.iconst 0, 1) := by decide +kernel
theorem dX5_mostAboveNotch_1 : decode cX5_mostAboveNotch 1 = .ok (.istore_n 1, 1) := by decide +kernel
theorem dX5_mostAboveNotch_2 : decode cX5_mostAboveNotch 2 = .ok (.iconst 0, 1) := by decide +kernel
theorem dX5_mostAboveNotch_3 : decode cX5_mostAboveNotch 3 = .ok (.istore_n 2, 1) := by decide +kernel
theorem dX5_mostAboveNotch_4 : decode cX5_mostAboveNotch 4 = .ok (.iconst 0, 1) := by decide +kernel
theorem dX5_mostAboveNotch_5 : decode cX5_mostAboveNotch 5 = .ok (.istore_n 3, 1) := by decide +kernel
theorem dX5_mostAboveNotch_6 : decode cX5_mostAboveNotch 6 = .ok (.iload_n 3, 1) := by decide +kernel
theorem dX5_mostAboveNotch_7 : decode cX5_mostAboveNotch 7 = .ok (.aload_n 0, 1) := by decide +kernel
theorem dX5_mostAboveNotch_8 : decode cX5_mostAboveNotch 8 = .ok (.getfield 12, 3) := by decide +kernel
theorem dX5_mostAboveNotch_11 : decode cX5_mostAboveNotch 11 = .ok (.invokevirtual 41, 3) := by decide +kernel
theorem dX5_mostAboveNotch_14 : decode cX5_mostAboveNotch 14 = .ok (.if_icmp .ge 46, 3) := by decide +kernel
theorem dX5_mostAboveNotch_17 : decode cX5_mostAboveNotch 17 = .ok (.aload_n 0, 1) := by decide +kernel
theorem dX5_mostAboveNotch_18 : decode cX5_mostAboveNotch 18 = .ok (.getfield 12, 3) := by decide +kernel
theorem dX5_mostAboveNotch_21 : decode cX5_mostAboveNotch 21 = .ok (.iload_n 3, 1) := by decide +kernel
theorem dX5_mostAboveNotch_22 : decode cX5_mostAboveNotch 22 = .ok (.invokevirtual 45, 3) := by decide +kernel
theorem dX5_mostAboveNotch_25 : decode cX5_mostAboveNotch 25 = .ok (.checkcast 49, 3) := by decide +kernel
theorem dX5_mostAboveNotch_28 : decode cX5_mostAboveNotch 28 = .ok (.astore 4, 2) := by decide +kernel
theorem dX5_mostAboveNotch_30 : decode cX5_mostAboveNotch 30 = .ok (.aload 4, 2) := by decide +kernel
theorem dX5_mostAboveNotch_32 : decode cX5_mostAboveNotch 32 = .ok (.getfield 65, 3) := by decide +kernel
theorem dX5_mostAboveNotch_35 : decode cX5_mostAboveNotch 35 = .ok (.ifCond .le 19, 3) := by decide +kernel
theorem dX5_mostAboveNotch_38 : decode cX5_mostAboveNotch 38 = .ok (.iload_n 1, 1) := by decide +kernel
theorem dX5_mostAboveNotch_39 : decode cX5_mostAboveNotch 39 = .ok (.aload 4, 2) := by decide +kernel
theorem dX5_mostAboveNotch_41 : decode cX5_mostAboveNotch 41 = .ok (.getfield 65, 3) := by decide +kernel
theorem dX5_mostAboveNotch_44 : decode cX5_mostAboveNotch 44 = .ok (.iadd, 1) := by decide +kernel
theorem dX5_mostAboveNotch_45 : decode cX5_mostAboveNotch 45 = .ok (.istore_n 1, 1) := by decide +kernel
theorem dX5_mostAboveNotch_46 : decode cX5_mostAboveNotch 46 = .ok (.iload_n 2, 1) := by decide +kernel
theorem dX5_mostAboveNotch_47 : decode cX5_mostAboveNotch 47 = .ok (.aload 4, 2) := by decide +kernel
theorem dX5_mostAboveNotch_49 : decode cX5_mostAboveNotch 49 = .ok (.getfield 109, 3) := by decide +kernel
theorem dX5_mostAboveNotch_52 : decode cX5_mostAboveNotch 52 = .ok (.iadd, 1) := by decide +kernel
theorem dX5_mostAboveNotch_53 : decode cX5_mostAboveNotch 53 = .ok (.istore_n 2, 1) := by decide +kernel
theorem dX5_mostAboveNotch_54 : decode cX5_mostAboveNotch 54 = .ok (.iinc 3 1, 3) := by decide +kernel
theorem dX5_mostAboveNotch_57 : decode cX5_mostAboveNotch 57 = .ok (.goto (-51), 3) := by decide +kernel
theorem dX5_mostAboveNotch_60 : decode cX5_mostAboveNotch 60 = .ok (.iload_n 2, 1) := by decide +kernel
theorem dX5_mostAboveNotch_61 : decode cX5_mostAboveNotch 61 = .ok (.ifCond .gt 5, 3) := by decide +kernel
theorem dX5_mostAboveNotch_64 : decode cX5_mostAboveNotch 64 = .ok (.aconst_null, 1) := by decide +kernel
theorem dX5_mostAboveNotch_65 : decode cX5_mostAboveNotch 65 = .ok (.areturn, 1) := by decide +kernel
theorem dX5_mostAboveNotch_66 : decode cX5_mostAboveNotch 66 = .ok (.aconst_null, 1) := by decide +kernel
theorem dX5_mostAboveNotch_67 : decode cX5_mostAboveNotch 67 = .ok (.astore_n 3, 1) := by decide +kernel
theorem dX5_mostAboveNotch_68 : decode cX5_mostAboveNotch 68 = .ok (.iconst 0, 1) := by decide +kernel
theorem dX5_mostAboveNotch_69 : decode cX5_mostAboveNotch 69 = .ok (.istore 4, 2) := by decide +kernel
theorem dX5_mostAboveNotch_71 : decode cX5_mostAboveNotch 71 = .ok (.iconst 0, 1) := by decide +kernel
theorem dX5_mostAboveNotch_72 : decode cX5_mostAboveNotch 72 = .ok (.istore 5, 2) := by decide +kernel
theorem dX5_mostAboveNotch_74 : decode cX5_mostAboveNotch 74 = .ok (.iload 5, 2) := by decide +kernel
theorem dX5_mostAboveNotch_76 : decode cX5_mostAboveNotch 76 = .ok (.aload_n 0, 1) := by decide +kernel
theorem dX5_mostAboveNotch_77 : decode cX5_mostAboveNotch 77 = .ok (.getfield 12, 3) := by decide +kernel
theorem dX5_mostAboveNotch_80 : decode cX5_mostAboveNotch 80 = .ok (.invokevirtual 41, 3) := by decide +kernel
theorem dX5_mostAboveNotch_83 : decode cX5_mostAboveNotch 83 = .ok (.if_icmp .ge 54, 3) := by decide +kernel
theorem dX5_mostAboveNotch_86 : decode cX5_mostAboveNotch 86 = .ok (.aload_n 0, 1) := by decide +kernel
theorem dX5_mostAboveNotch_87 : decode cX5_mostAboveNotch 87 = .ok (.getfield 12, 3) := by decide +kernel
theorem dX5_mostAboveNotch_90 : decode cX5_mostAboveNotch 90 = .ok (.iload 5, 2) := by decide +kernel
theorem dX5_mostAboveNotch_92 : decode cX5_mostAboveNotch 92 = .ok (.invokevirtual 45, 3) := by decide +kernel
theorem dX5_mostAboveNotch_95 : decode cX5_mostAboveNotch 95 = .ok (.checkcast 49, 3) := by decide +kernel
theorem dX5_mostAboveNotch_98 : decode cX5_mostAboveNotch 98 = .ok (.astore 6, 2) := by decide +kernel
theorem dX5_mostAboveNotch_100 : decode cX5_mostAboveNotch 100 = .ok (.aload 6, 2) := by decide +kernel
theorem dX5_mostAboveNotch_102 : decode cX5_mostAboveNotch 102 = .ok (.getfield 65, 3) := by decide +kernel
theorem dX5_mostAboveNotch_105 : decode cX5_mostAboveNotch 105 = .ok (.iload_n 1, 1) := by decide +kernel
theorem dX5_mostAboveNotch_106 : decode cX5_mostAboveNotch 106 = .ok (.aload 6, 2) := by decide +kernel
theorem dX5_mostAboveNotch_108 : decode cX5_mostAboveNotch 108 = .ok (.getfield 109, 3) := by decide +kernel
theorem dX5_mostAboveNotch_111 : decode cX5_mostAboveNotch 111 = .ok (.imul, 1) := by decide +kernel
theorem dX5_mostAboveNotch_112 : decode cX5_mostAboveNotch 112 = .ok (.iload_n 2, 1) := by decide +kernel
theorem dX5_mostAboveNotch_113 : decode cX5_mostAboveNotch 113 = .ok (.idiv, 1) := by decide +kernel
theorem dX5_mostAboveNotch_114 : decode cX5_mostAboveNotch 114 = .ok (.isub, 1) := by decide +kernel
theorem dX5_mostAboveNotch_115 : decode cX5_mostAboveNotch 115 = .ok (.istore 7, 2) := by decide +kernel
theorem dX5_mostAboveNotch_117 : decode cX5_mostAboveNotch 117 = .ok (.iload 7, 2) := by decide +kernel
theorem dX5_mostAboveNotch_119 : decode cX5_mostAboveNotch 119 = .ok (.iload 4, 2) := by decide +kernel
theorem dX5_mostAboveNotch_121 : decode cX5_mostAboveNotch 121 = .ok (.if_icmp .le 10, 3) := by decide +kernel
theorem dX5_mostAboveNotch_124 : decode cX5_mostAboveNotch 124 = .ok (.iload 7, 2) := by decide +kernel
theorem dX5_mostAboveNotch_126 : decode cX5_mostAboveNotch 126 = .ok (.istore 4, 2) := by decide +kernel
theorem dX5_mostAboveNotch_128 : decode cX5_mostAboveNotch 128 = .ok (.aload 6, 2) := by decide +kernel
theorem dX5_mostAboveNotch_130 : decode cX5_mostAboveNotch 130 = .ok (.astore_n 3, 1) := by decide +kernel
theorem dX5_mostAboveNotch_131 : decode cX5_mostAboveNotch 131 = .ok (.iinc 5 1, 3) := by decide +kernel
theorem dX5_mostAboveNotch_134 : decode cX5_mostAboveNotch 134 = .ok (.goto (-60), 3) := by decide +kernel
theorem dX5_mostAboveNotch_137 : decode cX5_mostAboveNotch 137 = .ok (.aload_n 3, 1) := by decide +kernel
theorem dX5_mostAboveNotch_138 : decode cX5_mostAboveNotch 138 = .ok (.areturn, 1) := by decide +kernel
theorem dX5_meanWater_0 : decode cX5_meanWater 0 = .ok (.iconst 0, 1) := by decide +kernel
theorem dX5_meanWater_1 : decode cX5_meanWater 1 = .ok (.istore_n 1, 1) := by decide +kernel
theorem dX5_meanWater_2 : decode cX5_meanWater 2 = .ok (.iconst 0, 1) := by decide +kernel
theorem dX5_meanWater_3 : decode cX5_meanWater 3 = .ok (.istore_n 2, 1) := by decide +kernel
theorem dX5_meanWater_4 : decode cX5_meanWater 4 = .ok (.iload_n 2, 1) := by decide +kernel
theorem dX5_meanWater_5 : decode cX5_meanWater 5 = .ok (.aload_n 0, 1) := by decide +kernel
theorem dX5_meanWater_6 : decode cX5_meanWater 6 = .ok (.getfield 12, 3) := by decide +kernel
theorem dX5_meanWater_9 : decode cX5_meanWater 9 = .ok (.invokevirtual 41, 3) := by decide +kernel
theorem dX5_meanWater_12 : decode cX5_meanWater 12 = .ok (.if_icmp .ge 26, 3) := by decide +kernel
theorem dX5_meanWater_15 : decode cX5_meanWater 15 = .ok (.iload_n 1, 1) := by decide +kernel
theorem dX5_meanWater_16 : decode cX5_meanWater 16 = .ok (.aload_n 0, 1) := by decide +kernel
theorem dX5_meanWater_17 : decode cX5_meanWater 17 = .ok (.getfield 12, 3) := by decide +kernel
theorem dX5_meanWater_20 : decode cX5_meanWater 20 = .ok (.iload_n 2, 1) := by decide +kernel
theorem dX5_meanWater_21 : decode cX5_meanWater 21 = .ok (.invokevirtual 45, 3) := by decide +kernel
theorem dX5_meanWater_24 : decode cX5_meanWater 24 = .ok (.checkcast 49, 3) := by decide +kernel
theorem dX5_meanWater_27 : decode cX5_meanWater 27 = .ok (.getfield 112, 3) := by decide +kernel
theorem dX5_meanWater_30 : decode cX5_meanWater 30 = .ok (.iadd, 1) := by decide +kernel
theorem dX5_meanWater_31 : decode cX5_meanWater 31 = .ok (.istore_n 1, 1) := by decide +kernel
theorem dX5_meanWater_32 : decode cX5_meanWater 32 = .ok (.iinc 2 1, 3) := by decide +kernel
theorem dX5_meanWater_35 : decode cX5_meanWater 35 = .ok (.goto (-31), 3) := by decide +kernel
theorem dX5_meanWater_38 : decode cX5_meanWater 38 = .ok (.aload_n 0, 1) := by decide +kernel
theorem dX5_meanWater_39 : decode cX5_meanWater 39 = .ok (.getfield 12, 3) := by decide +kernel
theorem dX5_meanWater_42 : decode cX5_meanWater 42 = .ok (.invokevirtual 41, 3) := by decide +kernel
theorem dX5_meanWater_45 : decode cX5_meanWater 45 = .ok (.istore_n 2, 1) := by decide +kernel
theorem dX5_meanWater_46 : decode cX5_meanWater 46 = .ok (.iload_n 2, 1) := by decide +kernel
theorem dX5_meanWater_47 : decode cX5_meanWater 47 = .ok (.ifCond .ne 7, 3) := by decide +kernel
theorem dX5_meanWater_50 : decode cX5_meanWater 50 = .ok (.dconst 0, 1) := by decide +kernel
theorem dX5_meanWater_51 : decode cX5_meanWater 51 = .ok (.goto 8, 3) := by decide +kernel
theorem dX5_meanWater_54 : decode cX5_meanWater 54 = .ok (.iload_n 1, 1) := by decide +kernel
theorem dX5_meanWater_55 : decode cX5_meanWater 55 = .ok (.i2d, 1) := by decide +kernel
theorem dX5_meanWater_56 : decode cX5_meanWater 56 = .ok (.iload_n 2, 1) := by decide +kernel
theorem dX5_meanWater_57 : decode cX5_meanWater 57 = .ok (.i2d, 1) := by decide +kernel
theorem dX5_meanWater_58 : decode cX5_meanWater 58 = .ok (.ddiv, 1) := by decide +kernel
theorem dX5_meanWater_59 : decode cX5_meanWater 59 = .ok (.dreturn, 1) := by decide +kernel
theorem dX5_fineStones_0 : decode cX5_fineStones 0 = .ok (.iconst 0, 1) := by decide +kernel
theorem dX5_fineStones_1 : decode cX5_fineStones 1 = .ok (.istore_n 1, 1) := by decide +kernel
theorem dX5_fineStones_2 : decode cX5_fineStones 2 = .ok (.iconst 0, 1) := by decide +kernel
theorem dX5_fineStones_3 : decode cX5_fineStones 3 = .ok (.istore_n 2, 1) := by decide +kernel
theorem dX5_fineStones_4 : decode cX5_fineStones 4 = .ok (.iload_n 2, 1) := by decide +kernel
theorem dX5_fineStones_5 : decode cX5_fineStones 5 = .ok (.aload_n 0, 1) := by decide +kernel
theorem dX5_fineStones_6 : decode cX5_fineStones 6 = .ok (.getfield 12, 3) := by decide +kernel
theorem dX5_fineStones_9 : decode cX5_fineStones 9 = .ok (.invokevirtual 41, 3) := by decide +kernel
theorem dX5_fineStones_12 : decode cX5_fineStones 12 = .ok (.if_icmp .ge 53, 3) := by decide +kernel
theorem dX5_fineStones_15 : decode cX5_fineStones 15 = .ok (.aload_n 0, 1) := by decide +kernel
theorem dX5_fineStones_16 : decode cX5_fineStones 16 = .ok (.getfield 12, 3) := by decide +kernel
theorem dX5_fineStones_19 : decode cX5_fineStones 19 = .ok (.iload_n 2, 1) := by decide +kernel
theorem dX5_fineStones_20 : decode cX5_fineStones 20 = .ok (.invokevirtual 45, 3) := by decide +kernel
theorem dX5_fineStones_23 : decode cX5_fineStones 23 = .ok (.checkcast 49, 3) := by decide +kernel
theorem dX5_fineStones_26 : decode cX5_fineStones 26 = .ok (.astore_n 3, 1) := by decide +kernel
theorem dX5_fineStones_27 : decode cX5_fineStones 27 = .ok (.iconst 5, 1) := by decide +kernel
theorem dX5_fineStones_28 : decode cX5_fineStones 28 = .ok (.aload_n 3, 1) := by decide +kernel
theorem dX5_fineStones_29 : decode cX5_fineStones 29 = .ok (.getfield 115, 3) := by decide +kernel
theorem dX5_fineStones_32 : decode cX5_fineStones 32 = .ok (.imul, 1) := by decide +kernel
theorem dX5_fineStones_33 : decode cX5_fineStones 33 = .ok (.istore 4, 2) := by decide +kernel
theorem dX5_fineStones_35 : decode cX5_fineStones 35 = .ok (.aload_n 3, 1) := by decide +kernel
theorem dX5_fineStones_36 : decode cX5_fineStones 36 = .ok (.getfield 118, 3) := by decide +kernel
theorem dX5_fineStones_39 : decode cX5_fineStones 39 = .ok (.dup, 1) := by decide +kernel
theorem dX5_fineStones_40 : decode cX5_fineStones 40 = .ok (.getfield 122, 3) := by decide +kernel
theorem dX5_fineStones_43 : decode cX5_fineStones 43 = .ok (.iload 4, 2) := by decide +kernel
theorem dX5_fineStones_45 : decode cX5_fineStones 45 = .ok (.isub, 1) := by decide +kernel
theorem dX5_fineStones_46 : decode cX5_fineStones 46 = .ok (.putfield 122, 3) := by decide +kernel
theorem dX5_fineStones_49 : decode cX5_fineStones 49 = .ok (.aload_n 3, 1) := by decide +kernel
theorem dX5_fineStones_50 : decode cX5_fineStones 50 = .ok (.iconst 0, 1) := by decide +kernel
theorem dX5_fineStones_51 : decode cX5_fineStones 51 = .ok (.putfield 115, 3) := by decide +kernel
theorem dX5_fineStones_54 : decode cX5_fineStones 54 = .ok (.iload_n 1, 1) := by decide +kernel
theorem dX5_fineStones_55 : decode cX5_fineStones 55 = .ok (.iload 4, 2) := by decide +kernel
theorem dX5_fineStones_57 : decode cX5_fineStones 57 = .ok (.iadd, 1) := by decide +kernel
theorem dX5_fineStones_58 : decode cX5_fineStones 58 = .ok (.istore_n 1, 1) := by decide +kernel
theorem dX5_fineStones_59 : decode cX5_fineStones 59 = .ok (.iinc 2 1, 3) := by decide +kernel
theorem dX5_fineStones_62 : decode cX5_fineStones 62 = .ok (.goto (-58), 3) := by decide +kernel
theorem dX5_fineStones_65 : decode cX5_fineStones 65 = .ok (.aload_n 0, 1) := by decide +kernel
theorem dX5_fineStones_66 : decode cX5_fineStones 66 = .ok (.dup, 1) := by decide +kernel
theorem dX5_fineStones_67 : decode cX5_fineStones 67 = .ok (.getfield 127, 3) := by decide +kernel
theorem dX5_fineStones_70 : decode cX5_fineStones 70 = .ok (.iload_n 1, 1) := by decide +kernel
theorem dX5_fineStones_71 : decode cX5_fineStones 71 = .ok (.iadd, 1) := by decide +kernel
theorem dX5_fineStones_72 : decode cX5_fineStones 72 = .ok (.putfield 127, 3) := by decide +kernel
theorem dX5_fineStones_75 : decode cX5_fineStones 75 = .ok (.iload_n 1, 1) := by decide +kernel
theorem dX5_fineStones_76 : decode cX5_fineStones 76 = .ok (.ireturn, 1) := by decide +kernel
theorem dX5_cropPerField_0 : decode cX5_cropPerField 0 = .ok (.aload_n 0, 1) := by decide +kernel
theorem dX5_cropPerField_1 : decode cX5_cropPerField 1 = .ok (.getfield 12, 3) := by decide +kernel
theorem dX5_cropPerField_4 : decode cX5_cropPerField 4 = .ok (.invokevirtual 41, 3) := by decide +kernel
theorem dX5_cropPerField_7 : decode cX5_cropPerField 7 = .ok (.istore_n 1, 1) := by decide +kernel
theorem dX5_cropPerField_8 : decode cX5_cropPerField 8 = .ok (.iload_n 1, 1) := by decide +kernel
theorem dX5_cropPerField_9 : decode cX5_cropPerField 9 = .ok (.ifCond .ne 7, 3) := by decide +kernel
theorem dX5_cropPerField_12 : decode cX5_cropPerField 12 = .ok (.iconst 0, 1) := by decide +kernel
theorem dX5_cropPerField_13 : decode cX5_cropPerField 13 = .ok (.goto 9, 3) := by decide +kernel
theorem dX5_cropPerField_16 : decode cX5_cropPerField 16 = .ok (.aload_n 0, 1) := by decide +kernel
theorem dX5_cropPerField_17 : decode cX5_cropPerField 17 = .ok (.getfield 130, 3) := by decide +kernel
theorem dX5_cropPerField_20 : decode cX5_cropPerField 20 = .ok (.iload_n 1, 1) := by decide +kernel
theorem dX5_cropPerField_21 : decode cX5_cropPerField 21 = .ok (.idiv, 1) := by decide +kernel
theorem dX5_cropPerField_22 : decode cX5_cropPerField 22 = .ok (.ireturn, 1) := by decide +kernel
theorem dX5_countYes_0 : decode cX5_countYes 0 = .ok (.aload_n 1, 1) := by decide +kernel
theorem dX5_countYes_1 : decode cX5_countYes 1 = .ok (.ifnull 18, 3) := by decide +kernel
theorem dX5_countYes_4 : decode cX5_countYes 4 = .ok (.aload_n 1, 1) := by decide +kernel
theorem dX5_countYes_5 : decode cX5_countYes 5 = .ok (.invokevirtual 133, 3) := by decide +kernel
theorem dX5_countYes_8 : decode cX5_countYes 8 = .ok (.aload_n 0, 1) := by decide +kernel
theorem dX5_countYes_9 : decode cX5_countYes 9 = .ok (.invokevirtual 133, 3) := by decide +kernel
theorem dX5_countYes_12 : decode cX5_countYes 12 = .ok (.if_icmp .le 7, 3) := by decide +kernel
theorem dX5_countYes_15 : decode cX5_countYes 15 = .ok (.iconst 1, 1) := by decide +kernel
theorem dX5_countYes_16 : decode cX5_countYes 16 = .ok (.goto 4, 3) := by decide +kernel
theorem dX5_countYes_19 : decode cX5_countYes 19 = .ok (.iconst 0, 1) := by decide +kernel
theorem dX5_countYes_20 : decode cX5_countYes 20 = .ok (.istore_n 2, 1) := by decide +kernel
theorem dX5_countYes_21 : decode cX5_countYes 21 = .ok (.iconst 0, 1) := by decide +kernel
theorem dX5_countYes_22 : decode cX5_countYes 22 = .ok (.istore_n 3, 1) := by decide +kernel
theorem dX5_countYes_23 : decode cX5_countYes 23 = .ok (.iconst 0, 1) := by decide +kernel
theorem dX5_countYes_24 : decode cX5_countYes 24 = .ok (.istore 4, 2) := by decide +kernel
theorem dX5_countYes_26 : decode cX5_countYes 26 = .ok (.iload 4, 2) := by decide +kernel
theorem dX5_countYes_28 : decode cX5_countYes 28 = .ok (.aload_n 0, 1) := by decide +kernel
theorem dX5_countYes_29 : decode cX5_countYes 29 = .ok (.getfield 12, 3) := by decide +kernel
theorem dX5_countYes_32 : decode cX5_countYes 32 = .ok (.invokevirtual 41, 3) := by decide +kernel
theorem dX5_countYes_35 : decode cX5_countYes 35 = .ok (.if_icmp .ge 36, 3) := by decide +kernel
theorem dX5_countYes_38 : decode cX5_countYes 38 = .ok (.iload_n 2, 1) := by decide +kernel
theorem dX5_countYes_39 : decode cX5_countYes 39 = .ok (.ifCond .ne 23, 3) := by decide +kernel
theorem dX5_countYes_42 : decode cX5_countYes 42 = .ok (.aload_n 0, 1) := by decide +kernel
theorem dX5_countYes_43 : decode cX5_countYes 43 = .ok (.getfield 12, 3) := by decide +kernel
theorem dX5_countYes_46 : decode cX5_countYes 46 = .ok (.iload 4, 2) := by decide +kernel
theorem dX5_countYes_48 : decode cX5_countYes 48 = .ok (.invokevirtual 45, 3) := by decide +kernel
theorem dX5_countYes_51 : decode cX5_countYes 51 = .ok (.checkcast 49, 3) := by decide +kernel
theorem dX5_countYes_54 : decode cX5_countYes 54 = .ok (.getfield 136, 3) := by decide +kernel
theorem dX5_countYes_57 : decode cX5_countYes 57 = .ok (.bipush 30, 2) := by decide +kernel
theorem dX5_countYes_59 : decode cX5_countYes 59 = .ok (.if_icmp .le 6, 3) := by decide +kernel
theorem dX5_countYes_62 : decode cX5_countYes 62 = .ok (.iinc 3 1, 3) := by decide +kernel
theorem dX5_countYes_65 : decode cX5_countYes 65 = .ok (.iinc 4 1, 3) := by decide +kernel
theorem dX5_countYes_68 : decode cX5_countYes 68 = .ok (.goto (-42), 3) := by decide +kernel
theorem dX5_countYes_71 : decode cX5_countYes 71 = .ok (.iload_n 3, 1) := by decide +kernel
theorem dX5_countYes_72 : decode cX5_countYes 72 = .ok (.ireturn, 1) := by decide +kernel
theorem dX5_plantAll_0 : decode cX5_plantAll 0 = .ok (.iconst 0, 1) := by decide +kernel
theorem dX5_plantAll_1 : decode cX5_plantAll 1 = .ok (.istore_n 2, 1) := by decide +kernel
theorem dX5_plantAll_2 : decode cX5_plantAll 2 = .ok (.iload_n 2, 1) := by decide +kernel
theorem dX5_plantAll_3 : decode cX5_plantAll 3 = .ok (.aload_n 0, 1) := by decide +kernel
theorem dX5_plantAll_4 : decode cX5_plantAll 4 = .ok (.getfield 12, 3) := by decide +kernel
theorem dX5_plantAll_7 : decode cX5_plantAll 7 = .ok (.invokevirtual 41, 3) := by decide +kernel
theorem dX5_plantAll_10 : decode cX5_plantAll 10 = .ok (.if_icmp .ge 55, 3) := by decide +kernel
theorem dX5_plantAll_13 : decode cX5_plantAll 13 = .ok (.aload_n 0, 1) := by decide +kernel
theorem dX5_plantAll_14 : decode cX5_plantAll 14 = .ok (.getfield 12, 3) := by decide +kernel
theorem dX5_plantAll_17 : decode cX5_plantAll 17 = .ok (.iload_n 2, 1) := by decide +kernel
theorem dX5_plantAll_18 : decode cX5_plantAll 18 = .ok (.invokevirtual 45, 3) := by decide +kernel
theorem dX5_plantAll_21 : decode cX5_plantAll 21 = .ok (.checkcast 49, 3) := by decide +kernel
theorem dX5_plantAll_24 : decode cX5_plantAll 24 = .ok (.astore_n 3, 1) := by decide +kernel
theorem dX5_plantAll_25 : decode cX5_plantAll 25 = .ok (.aload_n 3, 1) := by decide +kernel
theorem dX5_plantAll_26 : decode cX5_plantAll 26 = .ok (.getfield 139, 3) := by decide +kernel
theorem dX5_plantAll_29 : decode cX5_plantAll 29 = .ok (.getfield 142, 3) := by decide +kernel
theorem dX5_plantAll_32 : decode cX5_plantAll 32 = .ok (.ifCond .eq 14, 3) := by decide +kernel
theorem dX5_plantAll_35 : decode cX5_plantAll 35 = .ok (.aload_n 3, 1) := by decide +kernel
theorem dX5_plantAll_36 : decode cX5_plantAll 36 = .ok (.getfield 139, 3) := by decide +kernel
theorem dX5_plantAll_39 : decode cX5_plantAll 39 = .ok (.getfield 142, 3) := by decide +kernel
theorem dX5_plantAll_42 : decode cX5_plantAll 42 = .ok (.iconst 1, 1) := by decide +kernel
theorem dX5_plantAll_43 : decode cX5_plantAll 43 = .ok (.if_icmp .ne 16, 3) := by decide +kernel
theorem dX5_plantAll_46 : decode cX5_plantAll 46 = .ok (.aload_n 3, 1) := by decide +kernel
theorem dX5_plantAll_47 : decode cX5_plantAll 47 = .ok (.getfield 139, 3) := by decide +kernel
theorem dX5_plantAll_50 : decode cX5_plantAll 50 = .ok (.iload_n 1, 1) := by decide +kernel
theorem dX5_plantAll_51 : decode cX5_plantAll 51 = .ok (.invokevirtual 147, 3) := by decide +kernel
theorem dX5_plantAll_54 : decode cX5_plantAll 54 = .ok (.aload_n 3, 1) := by decide +kernel
theorem dX5_plantAll_55 : decode cX5_plantAll 55 = .ok (.iconst 0, 1) := by decide +kernel
theorem dX5_plantAll_56 : decode cX5_plantAll 56 = .ok (.putfield 151, 3) := by decide +kernel
theorem dX5_plantAll_59 : decode cX5_plantAll 59 = .ok (.iinc 2 1, 3) := by decide +kernel
theorem dX5_plantAll_62 : decode cX5_plantAll 62 = .ok (.goto (-60), 3) := by decide +kernel
theorem dX5_plantAll_65 : decode cX5_plantAll 65 = .ok (.return_, 1) := by decide +kernel
theorem dX5_copyFrom_0 : decode cX5_copyFrom 0 = .ok (.aload_n 0, 1) := by decide +kernel
theorem dX5_copyFrom_1 : decode cX5_copyFrom 1 = .ok (.aload_n 1, 1) := by decide +kernel
theorem dX5_copyFrom_2 : decode cX5_copyFrom 2 = .ok (.getfield 31, 3) := by decide +kernel
theorem dX5_copyFrom_5 : decode cX5_copyFrom 5 = .ok (.putfield 31, 3) := by decide +kernel
theorem dX5_copyFrom_8 : decode cX5_copyFrom 8 = .ok (.aload_n 0, 1) := by decide +kernel
theorem dX5_copyFrom_9 : decode cX5_copyFrom 9 = .ok (.aload_n 1, 1) := by decide +kernel
theorem dX5_copyFrom_10 : decode cX5_copyFrom 10 = .ok (.getfield 34, 3) := by decide +kernel
theorem dX5_copyFrom_13 : decode cX5_copyFrom 13 = .ok (.putfield 34, 3) := by decide +kernel
theorem dX5_copyFrom_16 : decode cX5_copyFrom 16 = .ok (.aload_n 0, 1) := by decide +kernel
theorem dX5_copyFrom_17 : decode cX5_copyFrom 17 = .ok (.aload_n 1, 1) := by decide +kernel
theorem dX5_copyFrom_18 : decode cX5_copyFrom 18 = .ok (.getfield 76, 3) := by decide +kernel
theorem dX5_copyFrom_21 : decode cX5_copyFrom 21 = .ok (.putfield 76, 3) := by decide +kernel
theorem dX5_copyFrom_24 : decode cX5_copyFrom 24 = .ok (.aload_n 0, 1) := by decide +kernel
theorem dX5_copyFrom_25 : decode cX5_copyFrom 25 = .ok (.aload_n 1, 1) := by decide +kernel
theorem dX5_copyFrom_26 : decode cX5_copyFrom 26 = .ok (.getfield 86, 3) := by decide +kernel
theorem dX5_copyFrom_29 : decode cX5_copyFrom 29 = .ok (.putfield 86, 3) := by decide +kernel
theorem dX5_copyFrom_32 : decode cX5_copyFrom 32 = .ok (.aload_n 0, 1) := by decide +kernel
theorem dX5_copyFrom_33 : decode cX5_copyFrom 33 = .ok (.aload_n 1, 1) := by decide +kernel
theorem dX5_copyFrom_34 : decode cX5_copyFrom 34 = .ok (.getfield 18, 3) := by decide +kernel
theorem dX5_copyFrom_37 : decode cX5_copyFrom 37 = .ok (.putfield 18, 3) := by decide +kernel
theorem dX5_copyFrom_40 : decode cX5_copyFrom 40 = .ok (.return_, 1) := by decide +kernel
theorem dX6_init_0 : decode cX6_init 0 = .ok (.aload_n 0, 1) := by decide +kernel
theorem dX6_init_1 : decode cX6_init 1 = .ok (.invokespecial 1, 3) := by decide +kernel
theorem dX6_init_4 : decode cX6_init 4 = .ok (.aload_n 0, 1) := by decide +kernel
theorem dX6_init_5 : decode cX6_init 5 = .ok (.new 7, 3) := by decide +kernel
theorem dX6_init_8 : decode cX6_init 8 = .ok (.dup, 1) := by decide +kernel
theorem dX6_init_9 : decode cX6_init 9 = .ok (.invokespecial 9, 3) := by decide +kernel
theorem dX6_init_12 : decode cX6_init 12 = .ok (.putfield 10, 3) := by decide +kernel
theorem dX6_init_15 : decode cX6_init 15 = .ok (.aload_n 0, 1) := by decide +kernel
theorem dX6_init_16 : decode cX6_init 16 = .ok (.new 7, 3) := by decide +kernel
theorem dX6_init_19 : decode cX6_init 19 = .ok (.dup, 1) := by decide +kernel
theorem dX6_init_20 : decode cX6_init 20 = .ok (.invokespecial 9, 3) := by decide +kernel
theorem dX6_init_23 : decode cX6_init 23 = .ok (.putfield 16, 3) := by decide +kernel
theorem dX6_init_26 : decode cX6_init 26 = .ok (.return_, 1) := by decide +kernel
theorem dX6_society_0 : decode cX6_society 0 = .ok (.iload_n 1, 1) := by decide +kernel
theorem dX6_society_1 : decode cX6_society 1 = .ok (.iconst 1, 1) := by decide +kernel
theorem dX6_society_2 : decode cX6_society 2 = .ok (.bipush 9, 2) := by decide +kernel
theorem dX6_society_4 : decode cX6_society 4 = .ok (.invokestatic 19, 3) := by decide +kernel
theorem dX6_society_7 : decode cX6_society 7 = .ok (.ifCond .eq 36, 3) := by decide +kernel
theorem dX6_society_10 : decode cX6_society 10 = .ok (.iload_n 2, 1) := by decide +kernel
theorem dX6_society_11 : decode cX6_society 11 = .ok (.iconst 0, 1) := by decide +kernel
theorem dX6_society_12 : decode cX6_society 12 = .ok (.bipush 50, 2) := by decide +kernel
theorem dX6_society_14 : decode cX6_society 14 = .ok (.invokestatic 19, 3) := by decide +kernel
theorem dX6_society_17 : decode cX6_society 17 = .ok (.ifCond .eq 26, 3) := by decide +kernel
theorem dX6_society_20 : decode cX6_society 20 = .ok (.iload_n 3, 1) := by decide +kernel
theorem dX6_society_21 : decode cX6_society 21 = .ok (.iconst 0, 1) := by decide +kernel
theorem dX6_society_22 : decode cX6_society 22 = .ok (.sipush 209, 3) := by decide +kernel
theorem dX6_society_25 : decode cX6_society 25 = .ok (.invokestatic 19, 3) := by decide +kernel
theorem dX6_society_28 : decode cX6_society 28 = .ok (.ifCond .eq 15, 3) := by decide +kernel
theorem dX6_society_31 : decode cX6_society 31 = .ok (.iload 4, 2) := by decide +kernel
theorem dX6_society_33 : decode cX6_society 33 = .ok (.iconst 1, 1) := by decide +kernel
theorem dX6_society_34 : decode cX6_society 34 = .ok (.sipush 210, 3) := by decide +kernel
theorem dX6_society_37 : decode cX6_society 37 = .ok (.invokestatic 19, 3) := by decide +kernel
theorem dX6_society_40 : decode cX6_society 40 = .ok (.ifCond .ne 13, 3) := by decide +kernel
theorem dX6_society_43 : decode cX6_society 43 = .ok (.new 23, 3) := by decide +kernel
theorem dX6_society_46 : decode cX6_society 46 = .ok (.dup, 1) := by decide +kernel
theorem dX6_society_47 : decode cX6_society 47 = .ok (.ldc 25, 2) := by decide +kernel
theorem dX6_society_49 : decode cX6_society 49 = .ok (.invokespecial 27, 3) := by decide +kernel
theorem dX6_society_52 : decode cX6_society 52 = .ok (.athrow, 1) := by decide +kernel
theorem dX6_society_53 : decode cX6_society 53 = .ok (.aload_n 0, 1) := by decide +kernel
theorem dX6_society_54 : decode cX6_society 54 = .ok (.getfield 10, 3) := by decide +kernel
theorem dX6_society_57 : decode cX6_society 57 = .ok (.getfield 30, 3) := by decide +kernel
theorem dX6_society_60 : decode cX6_society 60 = .ok (.invokevirtual 34, 3) := by decide +kernel
theorem dX6_society_63 : decode cX6_society 63 = .ok (.iconst 3, 1) := by decide +kernel
theorem dX6_society_64 : decode cX6_society 64 = .ok (.if_icmp .lt 13, 3) := by decide +kernel
theorem dX6_society_67 : decode cX6_society 67 = .ok (.new 40, 3) := by decide +kernel
theorem dX6_society_70 : decode cX6_society 70 = .ok (.dup, 1) := by decide +kernel
theorem dX6_society_71 : decode cX6_society 71 = .ok (.ldc 42, 2) := by decide +kernel
theorem dX6_society_73 : decode cX6_society 73 = .ok (.invokespecial 44, 3) := by decide +kernel
theorem dX6_society_76 : decode cX6_society 76 = .ok (.athrow, 1) := by decide +kernel
theorem dX6_society_77 : decode cX6_society 77 = .ok (.aload_n 0, 1) := by decide +kernel
theorem dX6_society_78 : decode cX6_society 78 = .ok (.getfield 16, 3) := by decide +kernel
theorem dX6_society_81 : decode cX6_society 81 = .ok (.iload_n 1, 1) := by decide +kernel
theorem dX6_society_82 : decode cX6_society 82 = .ok (.iload_n 2, 1) := by decide +kernel
theorem dX6_society_83 : decode cX6_society 83 = .ok (.iload_n 3, 1) := by decide +kernel
theorem dX6_society_84 : decode cX6_society 84 = .ok (.iload 4, 2) := by decide +kernel
theorem dX6_society_86 : decode cX6_society 86 = .ok (.invokevirtual 45, 3) := by decide +kernel
theorem dX6_society_89 : decode cX6_society 89 = .ok (.pop, 1) := by decide +kernel
theorem dX6_society_90 : decode cX6_society 90 = .ok (.aload_n 0, 1) := by decide +kernel
theorem dX6_society_91 : decode cX6_society 91 = .ok (.getfield 10, 3) := by decide +kernel
theorem dX6_society_94 : decode cX6_society 94 = .ok (.iload_n 1, 1) := by decide +kernel
theorem dX6_society_95 : decode cX6_society 95 = .ok (.iload_n 2, 1) := by decide +kernel
theorem dX6_society_96 : decode cX6_society 96 = .ok (.iload_n 3, 1) := by decide +kernel
theorem dX6_society_97 : decode cX6_society 97 = .ok (.iload 4, 2) := by decide +kernel
theorem dX6_society_99 : decode cX6_society 99 = .ok (.invokevirtual 45, 3) := by decide +kernel
theorem dX6_society_102 : decode cX6_society 102 = .ok (.ireturn, 1) := by decide +kernel
theorem dX6_field_0 : decode cX6_field 0 = .ok (.aload_n 0, 1) := by decide +kernel
theorem dX6_field_1 : decode cX6_field 1 = .ok (.iload_n 1, 1) := by decide +kernel
theorem dX6_field_2 : decode cX6_field 2 = .ok (.invokevirtual 49, 3) := by decide +kernel
theorem dX6_field_5 : decode cX6_field 5 = .ok (.pop, 1) := by decide +kernel
theorem dX6_field_6 : decode cX6_field 6 = .ok (.iload_n 2, 1) := by decide +kernel
theorem dX6_field_7 : decode cX6_field 7 = .ok (.iconst 1, 1) := by decide +kernel
theorem dX6_field_8 : decode cX6_field 8 = .ok (.bipush 9, 2) := by decide +kernel
theorem dX6_field_10 : decode cX6_field 10 = .ok (.invokestatic 19, 3) := by decide +kernel
theorem dX6_field_13 : decode cX6_field 13 = .ok (.ifCond .eq 13, 3) := by decide +kernel
theorem dX6_field_16 : decode cX6_field 16 = .ok (.iload_n 3, 1) := by decide +kernel
theorem dX6_field_17 : decode cX6_field 17 = .ok (.iconst 5, 1) := by decide +kernel
theorem dX6_field_18 : decode cX6_field 18 = .ok (.bipush 60, 2) := by decide +kernel
theorem dX6_field_20 : decode cX6_field 20 = .ok (.invokestatic 19, 3) := by decide +kernel
theorem dX6_field_23 : decode cX6_field 23 = .ok (.ifCond .ne 13, 3) := by decide +kernel
theorem dX6_field_26 : decode cX6_field 26 = .ok (.new 23, 3) := by decide +kernel
theorem dX6_field_29 : decode cX6_field 29 = .ok (.dup, 1) := by decide +kernel
theorem dX6_field_30 : decode cX6_field 30 = .ok (.ldc 53, 2) := by decide +kernel
theorem dX6_field_32 : decode cX6_field 32 = .ok (.invokespecial 27, 3) := by decide +kernel
theorem dX6_field_35 : decode cX6_field 35 = .ok (.athrow, 1) := by decide +kernel
theorem dX6_field_36 : decode cX6_field 36 = .ok (.aload_n 0, 1) := by decide +kernel
theorem dX6_field_37 : decode cX6_field 37 = .ok (.getfield 10, 3) := by decide +kernel
theorem dX6_field_40 : decode cX6_field 40 = .ok (.getfield 55, 3) := by decide +kernel
theorem dX6_field_43 : decode cX6_field 43 = .ok (.invokevirtual 34, 3) := by decide +kernel
theorem dX6_field_46 : decode cX6_field 46 = .ok (.bipush 12, 2) := by decide +kernel
theorem dX6_field_48 : decode cX6_field 48 = .ok (.if_icmp .lt 13, 3) := by decide +kernel
theorem dX6_field_51 : decode cX6_field 51 = .ok (.new 40, 3) := by decide +kernel
theorem dX6_field_54 : decode cX6_field 54 = .ok (.dup, 1) := by decide +kernel
theorem dX6_field_55 : decode cX6_field 55 = .ok (.ldc 58, 2) := by decide +kernel
theorem dX6_field_57 : decode cX6_field 57 = .ok (.invokespecial 44, 3) := by decide +kernel
theorem dX6_field_60 : decode cX6_field 60 = .ok (.athrow, 1) := by decide +kernel
theorem dX6_field_61 : decode cX6_field 61 = .ok (.aload_n 0, 1) := by decide +kernel
theorem dX6_field_62 : decode cX6_field 62 = .ok (.getfield 16, 3) := by decide +kernel
theorem dX6_field_65 : decode cX6_field 65 = .ok (.iload_n 1, 1) := by decide +kernel
theorem dX6_field_66 : decode cX6_field 66 = .ok (.iload_n 2, 1) := by decide +kernel
theorem dX6_field_67 : decode cX6_field 67 = .ok (.iload_n 3, 1) := by decide +kernel
theorem dX6_field_68 : decode cX6_field 68 = .ok (.invokevirtual 60, 3) := by decide +kernel
theorem dX6_field_71 : decode cX6_field 71 = .ok (.pop, 1) := by decide +kernel
theorem dX6_field_72 : decode cX6_field 72 = .ok (.aload_n 0, 1) := by decide +kernel
theorem dX6_field_73 : decode cX6_field 73 = .ok (.getfield 10, 3) := by decide +kernel
theorem dX6_field_76 : decode cX6_field 76 = .ok (.iload_n 1, 1) := by decide +kernel
theorem dX6_field_77 : decode cX6_field 77 = .ok (.iload_n 2, 1) := by decide +kernel
theorem dX6_field_78 : decode cX6_field 78 = .ok (.iload_n 3, 1) := by decide +kernel
theorem dX6_field_79 : decode cX6_field 79 = .ok (.invokevirtual 60, 3) := by decide +kernel
theorem dX6_field_82 : decode cX6_field 82 = .ok (.ireturn, 1) := by decide +kernel
theorem dX6_gate_0 : decode cX6_gate 0 = .ok (.aload_n 0, 1) := by decide +kernel
theorem dX6_gate_1 : decode cX6_gate 1 = .ok (.iload_n 1, 1) := by decide +kernel
theorem dX6_gate_2 : decode cX6_gate 2 = .ok (.invokevirtual 64, 3) := by decide +kernel
theorem dX6_gate_5 : decode cX6_gate 5 = .ok (.astore_n 3, 1) := by decide +kernel
theorem dX6_gate_6 : decode cX6_gate 6 = .ok (.aload_n 3, 1) := by decide +kernel
theorem dX6_gate_7 : decode cX6_gate 7 = .ok (.getfield 68, 3) := by decide +kernel
theorem dX6_gate_10 : decode cX6_gate 10 = .ok (.istore 4, 2) := by decide +kernel
theorem dX6_gate_12 : decode cX6_gate 12 = .ok (.aload_n 3, 1) := by decide +kernel
theorem dX6_gate_13 : decode cX6_gate 13 = .ok (.iload_n 2, 1) := by decide +kernel
theorem dX6_gate_14 : decode cX6_gate 14 = .ok (.putfield 68, 3) := by decide +kernel
theorem dX6_gate_17 : decode cX6_gate 17 = .ok (.iload 4, 2) := by decide +kernel
theorem dX6_gate_19 : decode cX6_gate 19 = .ok (.ireturn, 1) := by decide +kernel
theorem dX6_stones_0 : decode cX6_stones 0 = .ok (.aload_n 0, 1) := by decide +kernel
theorem dX6_stones_1 : decode cX6_stones 1 = .ok (.iload_n 1, 1) := by decide +kernel
theorem dX6_stones_2 : decode cX6_stones 2 = .ok (.invokevirtual 64, 3) := by decide +kernel
theorem dX6_stones_5 : decode cX6_stones 5 = .ok (.astore_n 3, 1) := by decide +kernel
theorem dX6_stones_6 : decode cX6_stones 6 = .ok (.iload_n 2, 1) := by decide +kernel
theorem dX6_stones_7 : decode cX6_stones 7 = .ok (.iconst 0, 1) := by decide +kernel
theorem dX6_stones_8 : decode cX6_stones 8 = .ok (.iconst 5, 1) := by decide +kernel
theorem dX6_stones_9 : decode cX6_stones 9 = .ok (.invokestatic 19, 3) := by decide +kernel
theorem dX6_stones_12 : decode cX6_stones 12 = .ok (.ifCond .ne 13, 3) := by decide +kernel
theorem dX6_stones_15 : decode cX6_stones 15 = .ok (.new 23, 3) := by decide +kernel
theorem dX6_stones_18 : decode cX6_stones 18 = .ok (.dup, 1) := by decide +kernel
theorem dX6_stones_19 : decode cX6_stones 19 = .ok (.ldc 74, 2) := by decide +kernel
theorem dX6_stones_21 : decode cX6_stones 21 = .ok (.invokespecial 27, 3) := by decide +kernel
theorem dX6_stones_24 : decode cX6_stones 24 = .ok (.athrow, 1) := by decide +kernel
theorem dX6_stones_25 : decode cX6_stones 25 = .ok (.aload_n 3, 1) := by decide +kernel
theorem dX6_stones_26 : decode cX6_stones 26 = .ok (.getfield 76, 3) := by decide +kernel
theorem dX6_stones_29 : decode cX6_stones 29 = .ok (.istore 4, 2) := by decide +kernel
theorem dX6_stones_31 : decode cX6_stones 31 = .ok (.aload_n 3, 1) := by decide +kernel
theorem dX6_stones_32 : decode cX6_stones 32 = .ok (.iload_n 2, 1) := by decide +kernel
theorem dX6_stones_33 : decode cX6_stones 33 = .ok (.putfield 76, 3) := by decide +kernel
theorem dX6_stones_36 : decode cX6_stones 36 = .ok (.iload 4, 2) := by decide +kernel
theorem dX6_stones_38 : decode cX6_stones 38 = .ok (.ireturn, 1) := by decide +kernel
theorem dX6_rotate_0 : decode cX6_rotate 0 = .ok (.aload_n 0, 1) := by decide +kernel
theorem dX6_rotate_1 : decode cX6_rotate 1 = .ok (.iload_n 1, 1) := by decide +kernel
theorem dX6_rotate_2 : decode cX6_rotate 2 = .ok (.invokevirtual 49, 3) := by decide +kernel
theorem dX6_rotate_5 : decode cX6_rotate 5 = .ok (.astore_n 3, 1) := by decide +kernel
theorem dX6_rotate_6 : decode cX6_rotate 6 = .ok (.aload_n 3, 1) := by decide +kernel
theorem dX6_rotate_7 : decode cX6_rotate 7 = .ok (.getfield 80, 3) := by decide +kernel
theorem dX6_rotate_10 : decode cX6_rotate 10 = .ok (.istore 4, 2) := by decide +kernel
theorem dX6_rotate_12 : decode cX6_rotate 12 = .ok (.aload_n 3, 1) := by decide +kernel
theorem dX6_rotate_13 : decode cX6_rotate 13 = .ok (.iload_n 2, 1) := by decide +kernel
theorem dX6_rotate_14 : decode cX6_rotate 14 = .ok (.putfield 80, 3) := by decide +kernel
theorem dX6_rotate_17 : decode cX6_rotate 17 = .ok (.iload 4, 2) := by decide +kernel
theorem dX6_rotate_19 : decode cX6_rotate 19 = .ok (.ireturn, 1) := by decide +kernel
theorem dX6_puddle_0 : decode cX6_puddle 0 = .ok (.aload_n 0, 1) := by decide +kernel
theorem dX6_puddle_1 : decode cX6_puddle 1 = .ok (.iload_n 1, 1) := by decide +kernel
theorem dX6_puddle_2 : decode cX6_puddle 2 = .ok (.invokevirtual 64, 3) := by decide +kernel
theorem dX6_puddle_5 : decode cX6_puddle 5 = .ok (.astore_n 2, 1) := by decide +kernel
theorem dX6_puddle_6 : decode cX6_puddle 6 = .ok (.aload_n 2, 1) := by decide +kernel
theorem dX6_puddle_7 : decode cX6_puddle 7 = .ok (.getfield 85, 3) := by decide +kernel
theorem dX6_puddle_10 : decode cX6_puddle 10 = .ok (.getfield 89, 3) := by decide +kernel
theorem dX6_puddle_13 : decode cX6_puddle 13 = .ok (.ifCond .ne 12, 3) := by decide +kernel
theorem dX6_puddle_16 : decode cX6_puddle 16 = .ok (.aload_n 2, 1) := by decide +kernel
theorem dX6_puddle_17 : decode cX6_puddle 17 = .ok (.getfield 94, 3) := by decide +kernel
theorem dX6_puddle_20 : decode cX6_puddle 20 = .ok (.bipush 10, 2) := by decide +kernel
theorem dX6_puddle_22 : decode cX6_puddle 22 = .ok (.if_icmp .ge 13, 3) := by decide +kernel
theorem dX6_puddle_25 : decode cX6_puddle 25 = .ok (.new 40, 3) := by decide +kernel
theorem dX6_puddle_28 : decode cX6_puddle 28 = .ok (.dup, 1) := by decide +kernel
theorem dX6_puddle_29 : decode cX6_puddle 29 = .ok (.ldc 97, 2) := by decide +kernel
theorem dX6_puddle_31 : decode cX6_puddle 31 = .ok (.invokespecial 44, 3) := by decide +kernel
theorem dX6_puddle_34 : decode cX6_puddle 34 = .ok (.athrow, 1) := by decide +kernel
theorem dX6_puddle_35 : decode cX6_puddle 35 = .ok (.aload_n 2, 1) := by decide +kernel
theorem dX6_puddle_36 : decode cX6_puddle 36 = .ok (.getfield 85, 3) := by decide +kernel
theorem dX6_puddle_39 : decode cX6_puddle 39 = .ok (.iconst 1, 1) := by decide +kernel
theorem dX6_puddle_40 : decode cX6_puddle 40 = .ok (.putfield 89, 3) := by decide +kernel
theorem dX6_puddle_43 : decode cX6_puddle 43 = .ok (.aload_n 2, 1) := by decide +kernel
theorem dX6_puddle_44 : decode cX6_puddle 44 = .ok (.iconst 0, 1) := by decide +kernel
theorem dX6_puddle_45 : decode cX6_puddle 45 = .ok (.putfield 99, 3) := by decide +kernel
theorem dX6_puddle_48 : decode cX6_puddle 48 = .ok (.aload_n 2, 1) := by decide +kernel
theorem dX6_puddle_49 : decode cX6_puddle 49 = .ok (.getfield 94, 3) := by decide +kernel
theorem dX6_puddle_52 : decode cX6_puddle 52 = .ok (.ireturn, 1) := by decide +kernel
theorem dX6_plant_0 : decode cX6_plant 0 = .ok (.aload_n 0, 1) := by decide +kernel
theorem dX6_plant_1 : decode cX6_plant 1 = .ok (.iload_n 1, 1) := by decide +kernel
theorem dX6_plant_2 : decode cX6_plant 2 = .ok (.invokevirtual 64, 3) := by decide +kernel
theorem dX6_plant_5 : decode cX6_plant 5 = .ok (.astore_n 3, 1) := by decide +kernel
theorem dX6_plant_6 : decode cX6_plant 6 = .ok (.iload_n 2, 1) := by decide +kernel
theorem dX6_plant_7 : decode cX6_plant 7 = .ok (.invokestatic 102, 3) := by decide +kernel
theorem dX6_plant_10 : decode cX6_plant 10 = .ok (.aload_n 3, 1) := by decide +kernel
theorem dX6_plant_11 : decode cX6_plant 11 = .ok (.getfield 85, 3) := by decide +kernel
theorem dX6_plant_14 : decode cX6_plant 14 = .ok (.getfield 89, 3) := by decide +kernel
theorem dX6_plant_17 : decode cX6_plant 17 = .ok (.iconst 1, 1) := by decide +kernel
theorem dX6_plant_18 : decode cX6_plant 18 = .ok (.if_icmp .ne 24, 3) := by decide +kernel
theorem dX6_plant_21 : decode cX6_plant 21 = .ok (.aload_n 0, 1) := by decide +kernel
theorem dX6_plant_22 : decode cX6_plant 22 = .ok (.getfield 10, 3) := by decide +kernel
theorem dX6_plant_25 : decode cX6_plant 25 = .ok (.invokevirtual 106, 3) := by decide +kernel
theorem dX6_plant_28 : decode cX6_plant 28 = .ok (.ifCond .ne 14, 3) := by decide +kernel
theorem dX6_plant_31 : decode cX6_plant 31 = .ok (.aload_n 3, 1) := by decide +kernel
theorem dX6_plant_32 : decode cX6_plant 32 = .ok (.getfield 85, 3) := by decide +kernel
theorem dX6_plant_35 : decode cX6_plant 35 = .ok (.getfield 110, 3) := by decide +kernel
theorem dX6_plant_38 : decode cX6_plant 38 = .ok (.iconst 3, 1) := by decide +kernel
theorem dX6_plant_39 : decode cX6_plant 39 = .ok (.if_icmp .ge 13, 3) := by decide +kernel
theorem dX6_plant_42 : decode cX6_plant 42 = .ok (.new 40, 3) := by decide +kernel
theorem dX6_plant_45 : decode cX6_plant 45 = .ok (.dup, 1) := by decide +kernel
theorem dX6_plant_46 : decode cX6_plant 46 = .ok (.ldc 113, 2) := by decide +kernel
theorem dX6_plant_48 : decode cX6_plant 48 = .ok (.invokespecial 44, 3) := by decide +kernel
theorem dX6_plant_51 : decode cX6_plant 51 = .ok (.athrow, 1) := by decide +kernel
theorem dX6_plant_52 : decode cX6_plant 52 = .ok (.aload_n 3, 1) := by decide +kernel
theorem dX6_plant_53 : decode cX6_plant 53 = .ok (.getfield 85, 3) := by decide +kernel
theorem dX6_plant_56 : decode cX6_plant 56 = .ok (.iload_n 2, 1) := by decide +kernel
theorem dX6_plant_57 : decode cX6_plant 57 = .ok (.invokevirtual 115, 3) := by decide +kernel
theorem dX6_plant_60 : decode cX6_plant 60 = .ok (.aload_n 0, 1) := by decide +kernel
theorem dX6_plant_61 : decode cX6_plant 61 = .ok (.getfield 10, 3) := by decide +kernel
theorem dX6_plant_64 : decode cX6_plant 64 = .ok (.getfield 118, 3) := by decide +kernel
theorem dX6_plant_67 : decode cX6_plant 67 = .ok (.ireturn, 1) := by decide +kernel
theorem dX6_help_0 : decode cX6_help 0 = .ok (.aload_n 0, 1) := by decide +kernel
theorem dX6_help_1 : decode cX6_help 1 = .ok (.iload_n 1, 1) := by decide +kernel
theorem dX6_help_2 : decode cX6_help 2 = .ok (.invokevirtual 64, 3) := by decide +kernel
theorem dX6_help_5 : decode cX6_help 5 = .ok (.getfield 121, 3) := by decide +kernel
theorem dX6_help_8 : decode cX6_help 8 = .ok (.astore_n 3, 1) := by decide +kernel
theorem dX6_help_9 : decode cX6_help 9 = .ok (.aload_n 0, 1) := by decide +kernel
theorem dX6_help_10 : decode cX6_help 10 = .ok (.iload_n 2, 1) := by decide +kernel
theorem dX6_help_11 : decode cX6_help 11 = .ok (.invokevirtual 64, 3) := by decide +kernel
theorem dX6_help_14 : decode cX6_help 14 = .ok (.astore 4, 2) := by decide +kernel
theorem dX6_help_16 : decode cX6_help 16 = .ok (.aload_n 3, 1) := by decide +kernel
theorem dX6_help_17 : decode cX6_help 17 = .ok (.dup, 1) := by decide +kernel
theorem dX6_help_18 : decode cX6_help 18 = .ok (.getfield 125, 3) := by decide +kernel
theorem dX6_help_21 : decode cX6_help 21 = .ok (.iconst 1, 1) := by decide +kernel
theorem dX6_help_22 : decode cX6_help 22 = .ok (.iadd, 1) := by decide +kernel
theorem dX6_help_23 : decode cX6_help 23 = .ok (.putfield 125, 3) := by decide +kernel
theorem dX6_help_26 : decode cX6_help 26 = .ok (.aload 4, 2) := by decide +kernel
theorem dX6_help_28 : decode cX6_help 28 = .ok (.getfield 121, 3) := by decide +kernel
theorem dX6_help_31 : decode cX6_help 31 = .ok (.dup, 1) := by decide +kernel
theorem dX6_help_32 : decode cX6_help 32 = .ok (.getfield 125, 3) := by decide +kernel
theorem dX6_help_35 : decode cX6_help 35 = .ok (.iconst 1, 1) := by decide +kernel
theorem dX6_help_36 : decode cX6_help 36 = .ok (.isub, 1) := by decide +kernel
theorem dX6_help_37 : decode cX6_help 37 = .ok (.putfield 125, 3) := by decide +kernel
theorem dX6_help_40 : decode cX6_help 40 = .ok (.aload 4, 2) := by decide +kernel
theorem dX6_help_42 : decode cX6_help 42 = .ok (.getfield 85, 3) := by decide +kernel
theorem dX6_help_45 : decode cX6_help 45 = .ok (.dup, 1) := by decide +kernel
theorem dX6_help_46 : decode cX6_help 46 = .ok (.getfield 110, 3) := by decide +kernel
theorem dX6_help_49 : decode cX6_help 49 = .ok (.iconst 1, 1) := by decide +kernel
theorem dX6_help_50 : decode cX6_help 50 = .ok (.iadd, 1) := by decide +kernel
theorem dX6_help_51 : decode cX6_help 51 = .ok (.putfield 110, 3) := by decide +kernel
theorem dX6_help_54 : decode cX6_help 54 = .ok (.aload 4, 2) := by decide +kernel
theorem dX6_help_56 : decode cX6_help 56 = .ok (.getfield 85, 3) := by decide +kernel
theorem dX6_help_59 : decode cX6_help 59 = .ok (.getfield 110, 3) := by decide +kernel
theorem dX6_help_62 : decode cX6_help 62 = .ok (.ireturn, 1) := by decide +kernel
theorem dX6_ducks_0 : decode cX6_ducks 0 = .ok (.aload_n 0, 1) := by decide +kernel
theorem dX6_ducks_1 : decode cX6_ducks 1 = .ok (.iload_n 1, 1) := by decide +kernel
theorem dX6_ducks_2 : decode cX6_ducks 2 = .ok (.invokevirtual 64, 3) := by decide +kernel
theorem dX6_ducks_5 : decode cX6_ducks 5 = .ok (.astore_n 3, 1) := by decide +kernel
theorem dX6_ducks_6 : decode cX6_ducks 6 = .ok (.aload_n 3, 1) := by decide +kernel
theorem dX6_ducks_7 : decode cX6_ducks 7 = .ok (.iload_n 2, 1) := by decide +kernel
theorem dX6_ducks_8 : decode cX6_ducks 8 = .ok (.putfield 130, 3) := by decide +kernel
theorem dX6_ducks_11 : decode cX6_ducks 11 = .ok (.aload_n 3, 1) := by decide +kernel
theorem dX6_ducks_12 : decode cX6_ducks 12 = .ok (.getfield 133, 3) := by decide +kernel
theorem dX6_ducks_15 : decode cX6_ducks 15 = .ok (.ireturn, 1) := by decide +kernel
theorem dX6_harvest_0 : decode cX6_harvest 0 = .ok (.aload_n 0, 1) := by decide +kernel
theorem dX6_harvest_1 : decode cX6_harvest 1 = .ok (.iload_n 1, 1) := by decide +kernel
theorem dX6_harvest_2 : decode cX6_harvest 2 = .ok (.invokevirtual 136, 3) := by decide +kernel
theorem dX6_harvest_5 : decode cX6_harvest 5 = .ok (.astore_n 3, 1) := by decide +kernel
theorem dX6_harvest_6 : decode cX6_harvest 6 = .ok (.aload_n 3, 1) := by decide +kernel
theorem dX6_harvest_7 : decode cX6_harvest 7 = .ok (.getfield 85, 3) := by decide +kernel
theorem dX6_harvest_10 : decode cX6_harvest 10 = .ok (.invokevirtual 139, 3) := by decide +kernel
theorem dX6_harvest_13 : decode cX6_harvest 13 = .ok (.istore 4, 2) := by decide +kernel
theorem dX6_harvest_15 : decode cX6_harvest 15 = .ok (.iload 4, 2) := by decide +kernel
theorem dX6_harvest_17 : decode cX6_harvest 17 = .ok (.bipush 10, 2) := by decide +kernel
theorem dX6_harvest_19 : decode cX6_harvest 19 = .ok (.idiv, 1) := by decide +kernel
theorem dX6_harvest_20 : decode cX6_harvest 20 = .ok (.istore 5, 2) := by decide +kernel
theorem dX6_harvest_22 : decode cX6_harvest 22 = .ok (.aload_n 3, 1) := by decide +kernel
theorem dX6_harvest_23 : decode cX6_harvest 23 = .ok (.getfield 142, 3) := by decide +kernel
theorem dX6_harvest_26 : decode cX6_harvest 26 = .ok (.dup, 1) := by decide +kernel
theorem dX6_harvest_27 : decode cX6_harvest 27 = .ok (.getfield 146, 3) := by decide +kernel
theorem dX6_harvest_30 : decode cX6_harvest 30 = .ok (.iload 5, 2) := by decide +kernel
theorem dX6_harvest_32 : decode cX6_harvest 32 = .ok (.iadd, 1) := by decide +kernel
theorem dX6_harvest_33 : decode cX6_harvest 33 = .ok (.putfield 146, 3) := by decide +kernel
theorem dX6_harvest_36 : decode cX6_harvest 36 = .ok (.aload_n 3, 1) := by decide +kernel
theorem dX6_harvest_37 : decode cX6_harvest 37 = .ok (.getfield 142, 3) := by decide +kernel
theorem dX6_harvest_40 : decode cX6_harvest 40 = .ok (.dup, 1) := by decide +kernel
theorem dX6_harvest_41 : decode cX6_harvest 41 = .ok (.getfield 149, 3) := by decide +kernel
theorem dX6_harvest_44 : decode cX6_harvest 44 = .ok (.iload 4, 2) := by decide +kernel
theorem dX6_harvest_46 : decode cX6_harvest 46 = .ok (.iadd, 1) := by decide +kernel
theorem dX6_harvest_47 : decode cX6_harvest 47 = .ok (.putfield 149, 3) := by decide +kernel
theorem dX6_harvest_50 : decode cX6_harvest 50 = .ok (.aload_n 3, 1) := by decide +kernel
theorem dX6_harvest_51 : decode cX6_harvest 51 = .ok (.getfield 121, 3) := by decide +kernel
theorem dX6_harvest_54 : decode cX6_harvest 54 = .ok (.dup, 1) := by decide +kernel
theorem dX6_harvest_55 : decode cX6_harvest 55 = .ok (.getfield 151, 3) := by decide +kernel
theorem dX6_harvest_58 : decode cX6_harvest 58 = .ok (.iload 4, 2) := by decide +kernel
theorem dX6_harvest_60 : decode cX6_harvest 60 = .ok (.iload 5, 2) := by decide +kernel
theorem dX6_harvest_62 : decode cX6_harvest 62 = .ok (.isub, 1) := by decide +kernel
theorem dX6_harvest_63 : decode cX6_harvest 63 = .ok (.iadd, 1) := by decide +kernel
theorem dX6_harvest_64 : decode cX6_harvest 64 = .ok (.putfield 151, 3) := by decide +kernel
theorem dX6_harvest_67 : decode cX6_harvest 67 = .ok (.aload_n 0, 1) := by decide +kernel
theorem dX6_harvest_68 : decode cX6_harvest 68 = .ok (.getfield 10, 3) := by decide +kernel
theorem dX6_harvest_71 : decode cX6_harvest 71 = .ok (.dup, 1) := by decide +kernel
theorem dX6_harvest_72 : decode cX6_harvest 72 = .ok (.getfield 154, 3) := by decide +kernel
theorem dX6_harvest_75 : decode cX6_harvest 75 = .ok (.iload 4, 2) := by decide +kernel
theorem dX6_harvest_77 : decode cX6_harvest 77 = .ok (.iadd, 1) := by decide +kernel
theorem dX6_harvest_78 : decode cX6_harvest 78 = .ok (.putfield 154, 3) := by decide +kernel
theorem dX6_harvest_81 : decode cX6_harvest 81 = .ok (.aload_n 3, 1) := by decide +kernel
theorem dX6_harvest_82 : decode cX6_harvest 82 = .ok (.iload_n 2, 1) := by decide +kernel
theorem dX6_harvest_83 : decode cX6_harvest 83 = .ok (.invokevirtual 157, 3) := by decide +kernel
theorem dX6_harvest_86 : decode cX6_harvest 86 = .ok (.iload 4, 2) := by decide +kernel
theorem dX6_harvest_88 : decode cX6_harvest 88 = .ok (.ireturn, 1) := by decide +kernel
theorem dX6_cut_0 : decode cX6_cut 0 = .ok (.aload_n 0, 1) := by decide +kernel
theorem dX6_cut_1 : decode cX6_cut 1 = .ok (.iload_n 1, 1) := by decide +kernel
theorem dX6_cut_2 : decode cX6_cut 2 = .ok (.invokevirtual 136, 3) := by decide +kernel
theorem dX6_cut_5 : decode cX6_cut 5 = .ok (.astore_n 2, 1) := by decide +kernel
theorem dX6_cut_6 : decode cX6_cut 6 = .ok (.bipush 7, 2) := by decide +kernel
theorem dX6_cut_8 : decode cX6_cut 8 = .ok (.aload_n 0, 1) := by decide +kernel
theorem dX6_cut_9 : decode cX6_cut 9 = .ok (.getfield 10, 3) := by decide +kernel
theorem dX6_cut_12 : decode cX6_cut 12 = .ok (.getfield 118, 3) := by decide +kernel
theorem dX6_cut_15 : decode cX6_cut 15 = .ok (.imul, 1) := by decide +kernel
theorem dX6_cut_16 : decode cX6_cut 16 = .ok (.bipush 13, 2) := by decide +kernel
theorem dX6_cut_18 : decode cX6_cut 18 = .ok (.aload_n 2, 1) := by decide +kernel
theorem dX6_cut_19 : decode cX6_cut 19 = .ok (.getfield 161, 3) := by decide +kernel
theorem dX6_cut_22 : decode cX6_cut 22 = .ok (.imul, 1) := by decide +kernel
theorem dX6_cut_23 : decode cX6_cut 23 = .ok (.iadd, 1) := by decide +kernel
theorem dX6_cut_24 : decode cX6_cut 24 = .ok (.iconst 5, 1) := by decide +kernel
theorem dX6_cut_25 : decode cX6_cut 25 = .ok (.aload_n 0, 1) := by decide +kernel
theorem dX6_cut_26 : decode cX6_cut 26 = .ok (.getfield 10, 3) := by decide +kernel
theorem dX6_cut_29 : decode cX6_cut 29 = .ok (.getfield 164, 3) := by decide +kernel
theorem dX6_cut_32 : decode cX6_cut 32 = .ok (.imul, 1) := by decide +kernel
theorem dX6_cut_33 : decode cX6_cut 33 = .ok (.iadd, 1) := by decide +kernel
theorem dX6_cut_34 : decode cX6_cut 34 = .ok (.bipush 21, 2) := by decide +kernel
theorem dX6_cut_36 : decode cX6_cut 36 = .ok (.invokestatic 167, 3) := by decide +kernel
theorem dX6_cut_39 : decode cX6_cut 39 = .ok (.istore_n 3, 1) := by decide +kernel
theorem dX6_cut_40 : decode cX6_cut 40 = .ok (.aload_n 2, 1) := by decide +kernel
theorem dX6_cut_41 : decode cX6_cut 41 = .ok (.getfield 85, 3) := by decide +kernel
theorem dX6_cut_44 : decode cX6_cut 44 = .ok (.invokevirtual 139, 3) := by decide +kernel
theorem dX6_cut_47 : decode cX6_cut 47 = .ok (.bipush 90, 2) := by decide +kernel
theorem dX6_cut_49 : decode cX6_cut 49 = .ok (.iload_n 3, 1) := by decide +kernel
theorem dX6_cut_50 : decode cX6_cut 50 = .ok (.iadd, 1) := by decide +kernel
theorem dX6_cut_51 : decode cX6_cut 51 = .ok (.imul, 1) := by decide +kernel
theorem dX6_cut_52 : decode cX6_cut 52 = .ok (.bipush 100, 2) := by decide +kernel
theorem dX6_cut_54 : decode cX6_cut 54 = .ok (.idiv, 1) := by decide +kernel
theorem dX6_cut_55 : decode cX6_cut 55 = .ok (.istore 4, 2) := by decide +kernel
theorem dX6_cut_57 : decode cX6_cut 57 = .ok (.aload_n 2, 1) := by decide +kernel
theorem dX6_cut_58 : decode cX6_cut 58 = .ok (.getfield 85, 3) := by decide +kernel
theorem dX6_cut_61 : decode cX6_cut 61 = .ok (.iload 4, 2) := by decide +kernel
theorem dX6_cut_63 : decode cX6_cut 63 = .ok (.invokevirtual 173, 3) := by decide +kernel
theorem dX6_cut_66 : decode cX6_cut 66 = .ok (.aload_n 0, 1) := by decide +kernel
theorem dX6_cut_67 : decode cX6_cut 67 = .ok (.getfield 10, 3) := by decide +kernel
theorem dX6_cut_70 : decode cX6_cut 70 = .ok (.dup, 1) := by decide +kernel
theorem dX6_cut_71 : decode cX6_cut 71 = .ok (.getfield 164, 3) := by decide +kernel
theorem dX6_cut_74 : decode cX6_cut 74 = .ok (.iconst 1, 1) := by decide +kernel
theorem dX6_cut_75 : decode cX6_cut 75 = .ok (.iadd, 1) := by decide +kernel
theorem dX6_cut_76 : decode cX6_cut 76 = .ok (.putfield 164, 3) := by decide +kernel
theorem dX6_cut_79 : decode cX6_cut 79 = .ok (.iload 4, 2) := by decide +kernel
theorem dX6_cut_81 : decode cX6_cut 81 = .ok (.ireturn, 1) := by decide +kernel
theorem dX6_day_0 : decode cX6_day 0 = .ok (.iload_n 1, 1) := by decide +kernel
theorem dX6_day_1 : decode cX6_day 1 = .ok (.iconst 0, 1) := by decide +kernel
theorem dX6_day_2 : decode cX6_day 2 = .ok (.sipush 200, 3) := by decide +kernel
theorem dX6_day_5 : decode cX6_day 5 = .ok (.invokestatic 19, 3) := by decide +kernel
theorem dX6_day_8 : decode cX6_day 8 = .ok (.ifCond .eq 23, 3) := by decide +kernel
theorem dX6_day_11 : decode cX6_day 11 = .ok (.iload_n 2, 1) := by decide +kernel
theorem dX6_day_12 : decode cX6_day 12 = .ok (.iconst 0, 1) := by decide +kernel
theorem dX6_day_13 : decode cX6_day 13 = .ok (.bipush 40, 2) := by decide +kernel
theorem dX6_day_15 : decode cX6_day 15 = .ok (.invokestatic 19, 3) := by decide +kernel
theorem dX6_day_18 : decode cX6_day 18 = .ok (.ifCond .eq 13, 3) := by decide +kernel
theorem dX6_day_21 : decode cX6_day 21 = .ok (.iload_n 3, 1) := by decide +kernel
theorem dX6_day_22 : decode cX6_day 22 = .ok (.iconst 0, 1) := by decide +kernel
theorem dX6_day_23 : decode cX6_day 23 = .ok (.bipush 30, 2) := by decide +kernel
theorem dX6_day_25 : decode cX6_day 25 = .ok (.invokestatic 19, 3) := by decide +kernel
theorem dX6_day_28 : decode cX6_day 28 = .ok (.ifCond .ne 13, 3) := by decide +kernel
theorem dX6_day_31 : decode cX6_day 31 = .ok (.new 23, 3) := by decide +kernel
theorem dX6_day_34 : decode cX6_day 34 = .ok (.dup, 1) := by decide +kernel
theorem dX6_day_35 : decode cX6_day 35 = .ok (.ldc 176, 2) := by decide +kernel
theorem dX6_day_37 : decode cX6_day 37 = .ok (.invokespecial 27, 3) := by decide +kernel
theorem dX6_day_40 : decode cX6_day 40 = .ok (.athrow, 1) := by decide +kernel
theorem dX6_day_41 : decode cX6_day 41 = .ok (.aload_n 0, 1) := by decide +kernel
theorem dX6_day_42 : decode cX6_day 42 = .ok (.getfield 10, 3) := by decide +kernel
theorem dX6_day_45 : decode cX6_day 45 = .ok (.iload_n 1, 1) := by decide +kernel
theorem dX6_day_46 : decode cX6_day 46 = .ok (.iload_n 2, 1) := by decide +kernel
theorem dX6_day_47 : decode cX6_day 47 = .ok (.iload_n 3, 1) := by decide +kernel
theorem dX6_day_48 : decode cX6_day 48 = .ok (.invokevirtual 178, 3) := by decide +kernel
theorem dX6_day_51 : decode cX6_day 51 = .ok (.aload_n 0, 1) := by decide +kernel
theorem dX6_day_52 : decode cX6_day 52 = .ok (.getfield 10, 3) := by decide +kernel
theorem dX6_day_55 : decode cX6_day 55 = .ok (.getfield 118, 3) := by decide +kernel
theorem dX6_day_58 : decode cX6_day 58 = .ok (.ireturn, 1) := by decide +kernel
theorem dX6_inspect_0 : decode cX6_inspect 0 = .ok (.aload_n 0, 1) := by decide +kernel
theorem dX6_inspect_1 : decode cX6_inspect 1 = .ok (.iload_n 1, 1) := by decide +kernel
theorem dX6_inspect_2 : decode cX6_inspect 2 = .ok (.invokevirtual 49, 3) := by decide +kernel
theorem dX6_inspect_5 : decode cX6_inspect 5 = .ok (.invokevirtual 182, 3) := by decide +kernel
theorem dX6_inspect_8 : decode cX6_inspect 8 = .ok (.ireturn, 1) := by decide +kernel
theorem dX6_sell_0 : decode cX6_sell 0 = .ok (.aload_n 0, 1) := by decide +kernel
theorem dX6_sell_1 : decode cX6_sell 1 = .ok (.iload_n 1, 1) := by decide +kernel
theorem dX6_sell_2 : decode cX6_sell 2 = .ok (.invokevirtual 64, 3) := by decide +kernel
theorem dX6_sell_5 : decode cX6_sell 5 = .ok (.getfield 121, 3) := by decide +kernel
theorem dX6_sell_8 : decode cX6_sell 8 = .ok (.astore_n 3, 1) := by decide +kernel
theorem dX6_sell_9 : decode cX6_sell 9 = .ok (.iload_n 2, 1) := by decide +kernel
theorem dX6_sell_10 : decode cX6_sell 10 = .ok (.iconst 1, 1) := by decide +kernel
theorem dX6_sell_11 : decode cX6_sell 11 = .ok (.if_icmp .ge 13, 3) := by decide +kernel
theorem dX6_sell_14 : decode cX6_sell 14 = .ok (.new 23, 3) := by decide +kernel
theorem dX6_sell_17 : decode cX6_sell 17 = .ok (.dup, 1) := by decide +kernel
theorem dX6_sell_18 : decode cX6_sell 18 = .ok (.ldc 185, 2) := by decide +kernel
theorem dX6_sell_20 : decode cX6_sell 20 = .ok (.invokespecial 27, 3) := by decide +kernel
theorem dX6_sell_23 : decode cX6_sell 23 = .ok (.athrow, 1) := by decide +kernel
theorem dX6_sell_24 : decode cX6_sell 24 = .ok (.aload_n 3, 1) := by decide +kernel
theorem dX6_sell_25 : decode cX6_sell 25 = .ok (.getfield 151, 3) := by decide +kernel
theorem dX6_sell_28 : decode cX6_sell 28 = .ok (.iload_n 2, 1) := by decide +kernel
theorem dX6_sell_29 : decode cX6_sell 29 = .ok (.if_icmp .ge 13, 3) := by decide +kernel
theorem dX6_sell_32 : decode cX6_sell 32 = .ok (.new 40, 3) := by decide +kernel
theorem dX6_sell_35 : decode cX6_sell 35 = .ok (.dup, 1) := by decide +kernel
theorem dX6_sell_36 : decode cX6_sell 36 = .ok (.ldc 187, 2) := by decide +kernel
theorem dX6_sell_38 : decode cX6_sell 38 = .ok (.invokespecial 44, 3) := by decide +kernel
theorem dX6_sell_41 : decode cX6_sell 41 = .ok (.athrow, 1) := by decide +kernel
theorem dX6_sell_42 : decode cX6_sell 42 = .ok (.aload_n 3, 1) := by decide +kernel
theorem dX6_sell_43 : decode cX6_sell 43 = .ok (.dup, 1) := by decide +kernel
theorem dX6_sell_44 : decode cX6_sell 44 = .ok (.getfield 151, 3) := by decide +kernel
theorem dX6_sell_47 : decode cX6_sell 47 = .ok (.iload_n 2, 1) := by decide +kernel
theorem dX6_sell_48 : decode cX6_sell 48 = .ok (.isub, 1) := by decide +kernel
theorem dX6_sell_49 : decode cX6_sell 49 = .ok (.putfield 151, 3) := by decide +kernel
theorem dX6_sell_52 : decode cX6_sell 52 = .ok (.aload_n 3, 1) := by decide +kernel
theorem dX6_sell_53 : decode cX6_sell 53 = .ok (.dup, 1) := by decide +kernel
theorem dX6_sell_54 : decode cX6_sell 54 = .ok (.getfield 189, 3) := by decide +kernel
theorem dX6_sell_57 : decode cX6_sell 57 = .ok (.iload_n 2, 1) := by decide +kernel
theorem dX6_sell_58 : decode cX6_sell 58 = .ok (.iadd, 1) := by decide +kernel
theorem dX6_sell_59 : decode cX6_sell 59 = .ok (.putfield 189, 3) := by decide +kernel
theorem dX6_sell_62 : decode cX6_sell 62 = .ok (.aload_n 3, 1) := by decide +kernel
theorem dX6_sell_63 : decode cX6_sell 63 = .ok (.getfield 189, 3) := by decide +kernel
theorem dX6_sell_66 : decode cX6_sell 66 = .ok (.ireturn, 1) := by decide +kernel
theorem dX6_vote_0 : decode cX6_vote 0 = .ok (.aload_n 0, 1) := by decide +kernel
theorem dX6_vote_1 : decode cX6_vote 1 = .ok (.iload_n 1, 1) := by decide +kernel
theorem dX6_vote_2 : decode cX6_vote 2 = .ok (.invokevirtual 49, 3) := by decide +kernel
theorem dX6_vote_5 : decode cX6_vote 5 = .ok (.astore_n 2, 1) := by decide +kernel
theorem dX6_vote_6 : decode cX6_vote 6 = .ok (.aload_n 0, 1) := by decide +kernel
theorem dX6_vote_7 : decode cX6_vote 7 = .ok (.getfield 10, 3) := by decide +kernel
theorem dX6_vote_10 : decode cX6_vote 10 = .ok (.iload_n 1, 1) := by decide +kernel
theorem dX6_vote_11 : decode cX6_vote 11 = .ok (.invokevirtual 192, 3) := by decide +kernel
theorem dX6_vote_14 : decode cX6_vote 14 = .ok (.astore_n 3, 1) := by decide +kernel
theorem dX6_vote_15 : decode cX6_vote 15 = .ok (.aload_n 2, 1) := by decide +kernel
theorem dX6_vote_16 : decode cX6_vote 16 = .ok (.aload_n 3, 1) := by decide +kernel
theorem dX6_vote_17 : decode cX6_vote 17 = .ok (.invokevirtual 195, 3) := by decide +kernel
theorem dX6_vote_20 : decode cX6_vote 20 = .ok (.istore 4, 2) := by decide +kernel
theorem dX6_vote_22 : decode cX6_vote 22 = .ok (.aload_n 3, 1) := by decide +kernel
theorem dX6_vote_23 : decode cX6_vote 23 = .ok (.ifnull 33, 3) := by decide +kernel
theorem dX6_vote_26 : decode cX6_vote 26 = .ok (.iconst 2, 1) := by decide +kernel
theorem dX6_vote_27 : decode cX6_vote 27 = .ok (.iload 4, 2) := by decide +kernel
theorem dX6_vote_29 : decode cX6_vote 29 = .ok (.imul, 1) := by decide +kernel
theorem dX6_vote_30 : decode cX6_vote 30 = .ok (.aload_n 2, 1) := by decide +kernel
theorem dX6_vote_31 : decode cX6_vote 31 = .ok (.getfield 199, 3) := by decide +kernel
theorem dX6_vote_34 : decode cX6_vote 34 = .ok (.invokevirtual 34, 3) := by decide +kernel
theorem dX6_vote_37 : decode cX6_vote 37 = .ok (.if_icmp .le 19, 3) := by decide +kernel
theorem dX6_vote_40 : decode cX6_vote 40 = .ok (.aload_n 2, 1) := by decide +kernel
theorem dX6_vote_41 : decode cX6_vote 41 = .ok (.aload_n 3, 1) := by decide +kernel
theorem dX6_vote_42 : decode cX6_vote 42 = .ok (.getfield 200, 3) := by decide +kernel
theorem dX6_vote_45 : decode cX6_vote 45 = .ok (.putfield 200, 3) := by decide +kernel
theorem dX6_vote_48 : decode cX6_vote 48 = .ok (.aload_n 2, 1) := by decide +kernel
theorem dX6_vote_49 : decode cX6_vote 49 = .ok (.aload_n 3, 1) := by decide +kernel
theorem dX6_vote_50 : decode cX6_vote 50 = .ok (.getfield 203, 3) := by decide +kernel
theorem dX6_vote_53 : decode cX6_vote 53 = .ok (.putfield 203, 3) := by decide +kernel
theorem dX6_vote_56 : decode cX6_vote 56 = .ok (.aload_n 2, 1) := by decide +kernel
theorem dX6_vote_57 : decode cX6_vote 57 = .ok (.iconst 0, 1) := by decide +kernel
theorem dX6_vote_58 : decode cX6_vote 58 = .ok (.putfield 149, 3) := by decide +kernel
theorem dX6_vote_61 : decode cX6_vote 61 = .ok (.iload 4, 2) := by decide +kernel
theorem dX6_vote_63 : decode cX6_vote 63 = .ok (.ireturn, 1) := by decide +kernel
theorem dX6_ofField_0 : decode cX6_ofField 0 = .ok (.aload_n 0, 1) := by decide +kernel
theorem dX6_ofField_1 : decode cX6_ofField 1 = .ok (.iload_n 1, 1) := by decide +kernel
theorem dX6_ofField_2 : decode cX6_ofField 2 = .ok (.invokevirtual 64, 3) := by decide +kernel
theorem dX6_ofField_5 : decode cX6_ofField 5 = .ok (.astore_n 3, 1) := by decide +kernel
theorem dX6_ofField_6 : decode cX6_ofField 6 = .ok (.iload_n 2, 1) := by decide +kernel
theorem dX6_ofField_7 : decode cX6_ofField 7 = .ok (.tableswitch 166 0 13 #[69, 77, 82, 87, 92, 100, 108, 116, 124, 129, 137, 145, 153, 158], 69) := by decide +kernel
theorem dX6_ofField_76 : decode cX6_ofField 76 = .ok (.aload_n 3, 1) := by decide +kernel
theorem dX6_ofField_77 : decode cX6_ofField 77 = .ok (.getfield 142, 3) := by decide +kernel
theorem dX6_ofField_80 : decode cX6_ofField 80 = .ok (.getfield 206, 3) := by decide +kernel
theorem dX6_ofField_83 : decode cX6_ofField 83 = .ok (.ireturn, 1) := by decide +kernel
theorem dX6_ofField_84 : decode cX6_ofField 84 = .ok (.aload_n 3, 1) := by decide +kernel
theorem dX6_ofField_85 : decode cX6_ofField 85 = .ok (.getfield 94, 3) := by decide +kernel
theorem dX6_ofField_88 : decode cX6_ofField 88 = .ok (.ireturn, 1) := by decide +kernel
theorem dX6_ofField_89 : decode cX6_ofField 89 = .ok (.aload_n 3, 1) := by decide +kernel
theorem dX6_ofField_90 : decode cX6_ofField 90 = .ok (.getfield 99, 3) := by decide +kernel
theorem dX6_ofField_93 : decode cX6_ofField 93 = .ok (.ireturn, 1) := by decide +kernel
theorem dX6_ofField_94 : decode cX6_ofField 94 = .ok (.aload_n 3, 1) := by decide +kernel
theorem dX6_ofField_95 : decode cX6_ofField 95 = .ok (.getfield 207, 3) := by decide +kernel
theorem dX6_ofField_98 : decode cX6_ofField 98 = .ok (.ireturn, 1) := by decide +kernel
theorem dX6_ofField_99 : decode cX6_ofField 99 = .ok (.aload_n 3, 1) := by decide +kernel
theorem dX6_ofField_100 : decode cX6_ofField 100 = .ok (.getfield 85, 3) := by decide +kernel
theorem dX6_ofField_103 : decode cX6_ofField 103 = .ok (.getfield 89, 3) := by decide +kernel
theorem dX6_ofField_106 : decode cX6_ofField 106 = .ok (.ireturn, 1) := by decide +kernel
theorem dX6_ofField_107 : decode cX6_ofField 107 = .ok (.aload_n 3, 1) := by decide +kernel
theorem dX6_ofField_108 : decode cX6_ofField 108 = .ok (.getfield 85, 3) := by decide +kernel
theorem dX6_ofField_111 : decode cX6_ofField 111 = .ok (.getfield 210, 3) := by decide +kernel
theorem dX6_ofField_114 : decode cX6_ofField 114 = .ok (.ireturn, 1) := by decide +kernel
theorem dX6_ofField_115 : decode cX6_ofField 115 = .ok (.aload_n 3, 1) := by decide +kernel
theorem dX6_ofField_116 : decode cX6_ofField 116 = .ok (.getfield 85, 3) := by decide +kernel
theorem dX6_ofField_119 : decode cX6_ofField 119 = .ok (.getfield 213, 3) := by decide +kernel
theorem dX6_ofField_122 : decode cX6_ofField 122 = .ok (.ireturn, 1) := by decide +kernel
theorem dX6_ofField_123 : decode cX6_ofField 123 = .ok (.aload_n 3, 1) := by decide +kernel
theorem dX6_ofField_124 : decode cX6_ofField 124 = .ok (.getfield 85, 3) := by decide +kernel
theorem dX6_ofField_127 : decode cX6_ofField 127 = .ok (.getfield 216, 3) := by decide +kernel
theorem dX6_ofField_130 : decode cX6_ofField 130 = .ok (.ireturn, 1) := by decide +kernel
theorem dX6_ofField_131 : decode cX6_ofField 131 = .ok (.aload_n 3, 1) := by decide +kernel
theorem dX6_ofField_132 : decode cX6_ofField 132 = .ok (.getfield 133, 3) := by decide +kernel
theorem dX6_ofField_135 : decode cX6_ofField 135 = .ok (.ireturn, 1) := by decide +kernel
theorem dX6_ofField_136 : decode cX6_ofField 136 = .ok (.aload_n 3, 1) := by decide +kernel
theorem dX6_ofField_137 : decode cX6_ofField 137 = .ok (.getfield 85, 3) := by decide +kernel
theorem dX6_ofField_140 : decode cX6_ofField 140 = .ok (.getfield 219, 3) := by decide +kernel
theorem dX6_ofField_143 : decode cX6_ofField 143 = .ok (.ireturn, 1) := by decide +kernel
theorem dX6_ofField_144 : decode cX6_ofField 144 = .ok (.aload_n 3, 1) := by decide +kernel
theorem dX6_ofField_145 : decode cX6_ofField 145 = .ok (.getfield 85, 3) := by decide +kernel
theorem dX6_ofField_148 : decode cX6_ofField 148 = .ok (.invokevirtual 139, 3) := by decide +kernel
theorem dX6_ofField_151 : decode cX6_ofField 151 = .ok (.ireturn, 1) := by decide +kernel
theorem dX6_ofField_152 : decode cX6_ofField 152 = .ok (.aload_n 3, 1) := by decide +kernel
theorem dX6_ofField_153 : decode cX6_ofField 153 = .ok (.getfield 85, 3) := by decide +kernel
theorem dX6_ofField_156 : decode cX6_ofField 156 = .ok (.getfield 110, 3) := by decide +kernel
theorem dX6_ofField_159 : decode cX6_ofField 159 = .ok (.ireturn, 1) := by decide +kernel
theorem dX6_ofField_160 : decode cX6_ofField 160 = .ok (.aload_n 3, 1) := by decide +kernel
theorem dX6_ofField_161 : decode cX6_ofField 161 = .ok (.getfield 222, 3) := by decide +kernel
theorem dX6_ofField_164 : decode cX6_ofField 164 = .ok (.ireturn, 1) := by decide +kernel
theorem dX6_ofField_165 : decode cX6_ofField 165 = .ok (.aload_n 3, 1) := by decide +kernel
theorem dX6_ofField_166 : decode cX6_ofField 166 = .ok (.getfield 68, 3) := by decide +kernel
theorem dX6_ofField_169 : decode cX6_ofField 169 = .ok (.invokestatic 225, 3) := by decide +kernel
theorem dX6_ofField_172 : decode cX6_ofField 172 = .ok (.ireturn, 1) := by decide +kernel
theorem dX6_ofField_173 : decode cX6_ofField 173 = .ok (.new 23, 3) := by decide +kernel
theorem dX6_ofField_176 : decode cX6_ofField 176 = .ok (.dup, 1) := by decide +kernel
theorem dX6_ofField_177 : decode cX6_ofField 177 = .ok (.ldc 229, 2) := by decide +kernel
theorem dX6_ofField_179 : decode cX6_ofField 179 = .ok (.invokespecial 27, 3) := by decide +kernel
theorem dX6_ofField_182 : decode cX6_ofField 182 = .ok (.athrow, 1) := by decide +kernel
theorem dX6_ofOwner_0 : decode cX6_ofOwner 0 = .ok (.aload_n 0, 1) := by decide +kernel
theorem dX6_ofOwner_1 : decode cX6_ofOwner 1 = .ok (.iload_n 1, 1) := by decide +kernel
theorem dX6_ofOwner_2 : decode cX6_ofOwner 2 = .ok (.invokevirtual 64, 3) := by decide +kernel
theorem dX6_ofOwner_5 : decode cX6_ofOwner 5 = .ok (.getfield 121, 3) := by decide +kernel
theorem dX6_ofOwner_8 : decode cX6_ofOwner 8 = .ok (.astore_n 3, 1) := by decide +kernel
theorem dX6_ofOwner_9 : decode cX6_ofOwner 9 = .ok (.iload_n 2, 1) := by decide +kernel
theorem dX6_ofOwner_10 : decode cX6_ofOwner 10 = .ok (.tableswitch 53 0 3 #[30, 35, 40, 45], 30) := by decide +kernel
theorem dX6_ofOwner_40 : decode cX6_ofOwner 40 = .ok (.aload_n 3, 1) := by decide +kernel
theorem dX6_ofOwner_41 : decode cX6_ofOwner 41 = .ok (.getfield 189, 3) := by decide +kernel
theorem dX6_ofOwner_44 : decode cX6_ofOwner 44 = .ok (.ireturn, 1) := by decide +kernel
theorem dX6_ofOwner_45 : decode cX6_ofOwner 45 = .ok (.aload_n 3, 1) := by decide +kernel
theorem dX6_ofOwner_46 : decode cX6_ofOwner 46 = .ok (.getfield 125, 3) := by decide +kernel
theorem dX6_ofOwner_49 : decode cX6_ofOwner 49 = .ok (.ireturn, 1) := by decide +kernel
theorem dX6_ofOwner_50 : decode cX6_ofOwner 50 = .ok (.aload_n 3, 1) := by decide +kernel
theorem dX6_ofOwner_51 : decode cX6_ofOwner 51 = .ok (.getfield 151, 3) := by decide +kernel
theorem dX6_ofOwner_54 : decode cX6_ofOwner 54 = .ok (.ireturn, 1) := by decide +kernel
theorem dX6_ofOwner_55 : decode cX6_ofOwner 55 = .ok (.aload_n 3, 1) := by decide +kernel
theorem dX6_ofOwner_56 : decode cX6_ofOwner 56 = .ok (.invokevirtual 231, 3) := by decide +kernel
theorem dX6_ofOwner_59 : decode cX6_ofOwner 59 = .ok (.invokestatic 225, 3) := by decide +kernel
theorem dX6_ofOwner_62 : decode cX6_ofOwner 62 = .ok (.ireturn, 1) := by decide +kernel
theorem dX6_ofOwner_63 : decode cX6_ofOwner 63 = .ok (.new 23, 3) := by decide +kernel
theorem dX6_ofOwner_66 : decode cX6_ofOwner 66 = .ok (.dup, 1) := by decide +kernel
theorem dX6_ofOwner_67 : decode cX6_ofOwner 67 = .ok (.ldc 234, 2) := by decide +kernel
theorem dX6_ofOwner_69 : decode cX6_ofOwner 69 = .ok (.invokespecial 27, 3) := by decide +kernel
theorem dX6_ofOwner_72 : decode cX6_ofOwner 72 = .ok (.athrow, 1) := by decide +kernel
theorem dX6_ofSociety_0 : decode cX6_ofSociety 0 = .ok (.aload_n 0, 1) := by decide +kernel
theorem dX6_ofSociety_1 : decode cX6_ofSociety 1 = .ok (.iload_n 1, 1) := by decide +kernel
theorem dX6_ofSociety_2 : decode cX6_ofSociety 2 = .ok (.invokevirtual 49, 3) := by decide +kernel
theorem dX6_ofSociety_5 : decode cX6_ofSociety 5 = .ok (.astore_n 3, 1) := by decide +kernel
theorem dX6_ofSociety_6 : decode cX6_ofSociety 6 = .ok (.iload_n 2, 1) := by decide +kernel
theorem dX6_ofSociety_7 : decode cX6_ofSociety 7 = .ok (.tableswitch 110 0 8 #[49, 54, 59, 64, 69, 84, 89, 97, 102], 49) := by decide +kernel
theorem dX6_ofSociety_56 : decode cX6_ofSociety 56 = .ok (.aload_n 3, 1) := by decide +kernel
theorem dX6_ofSociety_57 : decode cX6_ofSociety 57 = .ok (.getfield 200, 3) := by decide +kernel
theorem dX6_ofSociety_60 : decode cX6_ofSociety 60 = .ok (.ireturn, 1) := by decide +kernel
theorem dX6_ofSociety_61 : decode cX6_ofSociety 61 = .ok (.aload_n 3, 1) := by decide +kernel
theorem dX6_ofSociety_62 : decode cX6_ofSociety 62 = .ok (.getfield 203, 3) := by decide +kernel
theorem dX6_ofSociety_65 : decode cX6_ofSociety 65 = .ok (.ireturn, 1) := by decide +kernel
theorem dX6_ofSociety_66 : decode cX6_ofSociety 66 = .ok (.aload_n 3, 1) := by decide +kernel
theorem dX6_ofSociety_67 : decode cX6_ofSociety 67 = .ok (.getfield 146, 3) := by decide +kernel
theorem dX6_ofSociety_70 : decode cX6_ofSociety 70 = .ok (.ireturn, 1) := by decide +kernel
theorem dX6_ofSociety_71 : decode cX6_ofSociety 71 = .ok (.aload_n 3, 1) := by decide +kernel
theorem dX6_ofSociety_72 : decode cX6_ofSociety 72 = .ok (.getfield 236, 3) := by decide +kernel
theorem dX6_ofSociety_75 : decode cX6_ofSociety 75 = .ok (.ireturn, 1) := by decide +kernel
theorem dX6_ofSociety_76 : decode cX6_ofSociety 76 = .ok (.aload_n 3, 1) := by decide +kernel
theorem dX6_ofSociety_77 : decode cX6_ofSociety 77 = .ok (.aload_n 0, 1) := by decide +kernel
theorem dX6_ofSociety_78 : decode cX6_ofSociety 78 = .ok (.getfield 10, 3) := by decide +kernel
theorem dX6_ofSociety_81 : decode cX6_ofSociety 81 = .ok (.invokevirtual 239, 3) := by decide +kernel
theorem dX6_ofSociety_84 : decode cX6_ofSociety 84 = .ok (.invokevirtual 242, 3) := by decide +kernel
theorem dX6_ofSociety_87 : decode cX6_ofSociety 87 = .ok (.invokestatic 225, 3) := by decide +kernel
theorem dX6_ofSociety_90 : decode cX6_ofSociety 90 = .ok (.ireturn, 1) := by decide +kernel
theorem dX6_ofSociety_91 : decode cX6_ofSociety 91 = .ok (.aload_n 3, 1) := by decide +kernel
theorem dX6_ofSociety_92 : decode cX6_ofSociety 92 = .ok (.getfield 149, 3) := by decide +kernel
theorem dX6_ofSociety_95 : decode cX6_ofSociety 95 = .ok (.ireturn, 1) := by decide +kernel
theorem dX6_ofSociety_96 : decode cX6_ofSociety 96 = .ok (.aload_n 3, 1) := by decide +kernel
theorem dX6_ofSociety_97 : decode cX6_ofSociety 97 = .ok (.getfield 199, 3) := by decide +kernel
theorem dX6_ofSociety_100 : decode cX6_ofSociety 100 = .ok (.invokevirtual 34, 3) := by decide +kernel
theorem dX6_ofSociety_103 : decode cX6_ofSociety 103 = .ok (.ireturn, 1) := by decide +kernel
theorem dX6_ofSociety_104 : decode cX6_ofSociety 104 = .ok (.aload_n 3, 1) := by decide +kernel
theorem dX6_ofSociety_105 : decode cX6_ofSociety 105 = .ok (.getfield 246, 3) := by decide +kernel
theorem dX6_ofSociety_108 : decode cX6_ofSociety 108 = .ok (.ireturn, 1) := by decide +kernel
theorem dX6_ofSociety_109 : decode cX6_ofSociety 109 = .ok (.aload_n 3, 1) := by decide +kernel
theorem dX6_ofSociety_110 : decode cX6_ofSociety 110 = .ok (.invokevirtual 249, 3) := by decide +kernel
theorem dX6_ofSociety_113 : decode cX6_ofSociety 113 = .ok (.invokestatic 253, 3) := by decide +kernel
theorem dX6_ofSociety_116 : decode cX6_ofSociety 116 = .ok (.ireturn, 1) := by decide +kernel
theorem dX6_ofSociety_117 : decode cX6_ofSociety 117 = .ok (.new 23, 3) := by decide +kernel
theorem dX6_ofSociety_120 : decode cX6_ofSociety 120 = .ok (.dup, 1) := by decide +kernel
theorem dX6_ofSociety_121 : decode cX6_ofSociety 121 = .ok (.ldc_w 257, 3) := by decide +kernel
theorem dX6_ofSociety_124 : decode cX6_ofSociety 124 = .ok (.invokespecial 27, 3) := by decide +kernel
theorem dX6_ofSociety_127 : decode cX6_ofSociety 127 = .ok (.athrow, 1) := by decide +kernel
theorem dX6_water_0 : decode cX6_water 0 = .ok (.iload_n 1, 1) := by decide +kernel
theorem dX6_water_1 : decode cX6_water 1 = .ok (.tableswitch 107 0 6 #[43, 54, 60, 68, 74, 85, 96], 43) := by decide +kernel
theorem dX6_water_44 : decode cX6_water 44 = .ok (.aload_n 0, 1) := by decide +kernel
theorem dX6_water_45 : decode cX6_water 45 = .ok (.getfield 10, 3) := by decide +kernel
theorem dX6_water_48 : decode cX6_water 48 = .ok (.getfield 259, 3) := by decide +kernel
theorem dX6_water_51 : decode cX6_water 51 = .ok (.getfield 263, 3) := by decide +kernel
theorem dX6_water_54 : decode cX6_water 54 = .ok (.ireturn, 1) := by decide +kernel
theorem dX6_water_55 : decode cX6_water 55 = .ok (.aload_n 0, 1) := by decide +kernel
theorem dX6_water_56 : decode cX6_water 56 = .ok (.iconst 1, 1) := by decide +kernel
theorem dX6_water_57 : decode cX6_water 57 = .ok (.invokevirtual 268, 3) := by decide +kernel
theorem dX6_water_60 : decode cX6_water 60 = .ok (.ireturn, 1) := by decide +kernel
theorem dX6_water_61 : decode cX6_water 61 = .ok (.aload_n 0, 1) := by decide +kernel
theorem dX6_water_62 : decode cX6_water 62 = .ok (.getfield 10, 3) := by decide +kernel
theorem dX6_water_65 : decode cX6_water 65 = .ok (.getfield 272, 3) := by decide +kernel
theorem dX6_water_68 : decode cX6_water 68 = .ok (.ireturn, 1) := by decide +kernel
theorem dX6_water_69 : decode cX6_water 69 = .ok (.aload_n 0, 1) := by decide +kernel
theorem dX6_water_70 : decode cX6_water 70 = .ok (.iconst 3, 1) := by decide +kernel
theorem dX6_water_71 : decode cX6_water 71 = .ok (.invokevirtual 275, 3) := by decide +kernel
theorem dX6_water_74 : decode cX6_water 74 = .ok (.ireturn, 1) := by decide +kernel
theorem dX6_water_75 : decode cX6_water 75 = .ok (.aload_n 0, 1) := by decide +kernel
theorem dX6_water_76 : decode cX6_water 76 = .ok (.getfield 10, 3) := by decide +kernel
theorem dX6_water_79 : decode cX6_water 79 = .ok (.getfield 259, 3) := by decide +kernel
theorem dX6_water_82 : decode cX6_water 82 = .ok (.getfield 278, 3) := by decide +kernel
theorem dX6_water_85 : decode cX6_water 85 = .ok (.ireturn, 1) := by decide +kernel
theorem dX6_water_86 : decode cX6_water 86 = .ok (.aload_n 0, 1) := by decide +kernel
theorem dX6_water_87 : decode cX6_water 87 = .ok (.getfield 10, 3) := by decide +kernel
theorem dX6_water_90 : decode cX6_water 90 = .ok (.getfield 259, 3) := by decide +kernel
theorem dX6_water_93 : decode cX6_water 93 = .ok (.getfield 281, 3) := by decide +kernel
theorem dX6_water_96 : decode cX6_water 96 = .ok (.ireturn, 1) := by decide +kernel
theorem dX6_water_97 : decode cX6_water 97 = .ok (.aload_n 0, 1) := by decide +kernel
theorem dX6_water_98 : decode cX6_water 98 = .ok (.getfield 10, 3) := by decide +kernel
theorem dX6_water_101 : decode cX6_water 101 = .ok (.getfield 259, 3) := by decide +kernel
theorem dX6_water_104 : decode cX6_water 104 = .ok (.getfield 284, 3) := by decide +kernel
theorem dX6_water_107 : decode cX6_water 107 = .ok (.ireturn, 1) := by decide +kernel
theorem dX6_water_108 : decode cX6_water 108 = .ok (.new 23, 3) := by decide +kernel
theorem dX6_water_111 : decode cX6_water 111 = .ok (.dup, 1) := by decide +kernel
theorem dX6_water_112 : decode cX6_water 112 = .ok (.ldc_w 287, 3) := by decide +kernel
theorem dX6_water_115 : decode cX6_water 115 = .ok (.invokespecial 27, 3) := by decide +kernel
theorem dX6_water_118 : decode cX6_water 118 = .ok (.athrow, 1) := by decide +kernel
theorem dX6_isClosed_0 : decode cX6_isClosed 0 = .ok (.aload_n 0, 1) := by decide +kernel
theorem dX6_isClosed_1 : decode cX6_isClosed 1 = .ok (.iconst 1, 1) := by decide +kernel
theorem dX6_isClosed_2 : decode cX6_isClosed 2 = .ok (.invokevirtual 268, 3) := by decide +kernel
theorem dX6_isClosed_5 : decode cX6_isClosed 5 = .ok (.aload_n 0, 1) := by decide +kernel
theorem dX6_isClosed_6 : decode cX6_isClosed 6 = .ok (.getfield 10, 3) := by decide +kernel
theorem dX6_isClosed_9 : decode cX6_isClosed 9 = .ok (.getfield 272, 3) := by decide +kernel
theorem dX6_isClosed_12 : decode cX6_isClosed 12 = .ok (.iadd, 1) := by decide +kernel
theorem dX6_isClosed_13 : decode cX6_isClosed 13 = .ok (.aload_n 0, 1) := by decide +kernel
theorem dX6_isClosed_14 : decode cX6_isClosed 14 = .ok (.iconst 3, 1) := by decide +kernel
theorem dX6_isClosed_15 : decode cX6_isClosed 15 = .ok (.invokevirtual 275, 3) := by decide +kernel
theorem dX6_isClosed_18 : decode cX6_isClosed 18 = .ok (.iadd, 1) := by decide +kernel
theorem dX6_isClosed_19 : decode cX6_isClosed 19 = .ok (.istore_n 1, 1) := by decide +kernel
theorem dX6_isClosed_20 : decode cX6_isClosed 20 = .ok (.aload_n 0, 1) := by decide +kernel
theorem dX6_isClosed_21 : decode cX6_isClosed 21 = .ok (.getfield 10, 3) := by decide +kernel
theorem dX6_isClosed_24 : decode cX6_isClosed 24 = .ok (.getfield 259, 3) := by decide +kernel
theorem dX6_isClosed_27 : decode cX6_isClosed 27 = .ok (.getfield 263, 3) := by decide +kernel
theorem dX6_isClosed_30 : decode cX6_isClosed 30 = .ok (.iload_n 1, 1) := by decide +kernel
theorem dX6_isClosed_31 : decode cX6_isClosed 31 = .ok (.aload_n 0, 1) := by decide +kernel
theorem dX6_isClosed_32 : decode cX6_isClosed 32 = .ok (.getfield 10, 3) := by decide +kernel
theorem dX6_isClosed_35 : decode cX6_isClosed 35 = .ok (.getfield 259, 3) := by decide +kernel
theorem dX6_isClosed_38 : decode cX6_isClosed 38 = .ok (.invokevirtual 289, 3) := by decide +kernel
theorem dX6_isClosed_41 : decode cX6_isClosed 41 = .ok (.iadd, 1) := by decide +kernel
theorem dX6_isClosed_42 : decode cX6_isClosed 42 = .ok (.if_icmp .ne 7, 3) := by decide +kernel
theorem dX6_isClosed_45 : decode cX6_isClosed 45 = .ok (.iconst 1, 1) := by decide +kernel
theorem dX6_isClosed_46 : decode cX6_isClosed 46 = .ok (.goto 4, 3) := by decide +kernel
theorem dX6_isClosed_49 : decode cX6_isClosed 49 = .ok (.iconst 0, 1) := by decide +kernel
theorem dX6_isClosed_50 : decode cX6_isClosed 50 = .ok (.ireturn, 1) := by decide +kernel
theorem dX6_thought_0 : decode cX6_thought 0 = .ok (.aload_n 0, 1) := by decide +kernel
theorem dX6_thought_1 : decode cX6_thought 1 = .ok (.iload_n 1, 1) := by decide +kernel
theorem dX6_thought_2 : decode cX6_thought 2 = .ok (.invokevirtual 64, 3) := by decide +kernel
theorem dX6_thought_5 : decode cX6_thought 5 = .ok (.getfield 85, 3) := by decide +kernel
theorem dX6_thought_8 : decode cX6_thought 8 = .ok (.astore_n 3, 1) := by decide +kernel
theorem dX6_thought_9 : decode cX6_thought 9 = .ok (.iload_n 2, 1) := by decide +kernel
theorem dX6_thought_10 : decode cX6_thought 10 = .ok (.ifCond .eq 10, 3) := by decide +kernel
theorem dX6_thought_13 : decode cX6_thought 13 = .ok (.aload_n 3, 1) := by decide +kernel
theorem dX6_thought_14 : decode cX6_thought 14 = .ok (.getfield 292, 3) := by decide +kernel
theorem dX6_thought_17 : decode cX6_thought 17 = .ok (.goto 7, 3) := by decide +kernel
theorem dX6_thought_20 : decode cX6_thought 20 = .ok (.aload_n 3, 1) := by decide +kernel
theorem dX6_thought_21 : decode cX6_thought 21 = .ok (.getfield 295, 3) := by decide +kernel
theorem dX6_thought_24 : decode cX6_thought 24 = .ok (.ireturn, 1) := by decide +kernel
theorem dX6_many_0 : decode cX6_many 0 = .ok (.iload_n 1, 1) := by decide +kernel
theorem dX6_many_1 : decode cX6_many 1 = .ok (.tableswitch 158 0 11 #[63, 74, 85, 93, 101, 112, 119, 125, 131, 137, 145, 153], 63) := by decide +kernel
theorem dX6_many_64 : decode cX6_many 64 = .ok (.aload_n 0, 1) := by decide +kernel
theorem dX6_many_65 : decode cX6_many 65 = .ok (.getfield 10, 3) := by decide +kernel
theorem dX6_many_68 : decode cX6_many 68 = .ok (.getfield 30, 3) := by decide +kernel
theorem dX6_many_71 : decode cX6_many 71 = .ok (.invokevirtual 34, 3) := by decide +kernel
theorem dX6_many_74 : decode cX6_many 74 = .ok (.ireturn, 1) := by decide +kernel
theorem dX6_many_75 : decode cX6_many 75 = .ok (.aload_n 0, 1) := by decide +kernel
theorem dX6_many_76 : decode cX6_many 76 = .ok (.getfield 10, 3) := by decide +kernel
theorem dX6_many_79 : decode cX6_many 79 = .ok (.getfield 55, 3) := by decide +kernel
theorem dX6_many_82 : decode cX6_many 82 = .ok (.invokevirtual 34, 3) := by decide +kernel
theorem dX6_many_85 : decode cX6_many 85 = .ok (.ireturn, 1) := by decide +kernel
theorem dX6_many_86 : decode cX6_many 86 = .ok (.aload_n 0, 1) := by decide +kernel
theorem dX6_many_87 : decode cX6_many 87 = .ok (.getfield 10, 3) := by decide +kernel
theorem dX6_many_90 : decode cX6_many 90 = .ok (.getfield 118, 3) := by decide +kernel
theorem dX6_many_93 : decode cX6_many 93 = .ok (.ireturn, 1) := by decide +kernel
theorem dX6_many_94 : decode cX6_many 94 = .ok (.aload_n 0, 1) := by decide +kernel
theorem dX6_many_95 : decode cX6_many 95 = .ok (.getfield 10, 3) := by decide +kernel
theorem dX6_many_98 : decode cX6_many 98 = .ok (.invokevirtual 239, 3) := by decide +kernel
theorem dX6_many_101 : decode cX6_many 101 = .ok (.ireturn, 1) := by decide +kernel
theorem dX6_many_102 : decode cX6_many 102 = .ok (.aload_n 0, 1) := by decide +kernel
theorem dX6_many_103 : decode cX6_many 103 = .ok (.getfield 10, 3) := by decide +kernel
theorem dX6_many_106 : decode cX6_many 106 = .ok (.invokevirtual 106, 3) := by decide +kernel
theorem dX6_many_109 : decode cX6_many 109 = .ok (.invokestatic 225, 3) := by decide +kernel
theorem dX6_many_112 : decode cX6_many 112 = .ok (.ireturn, 1) := by decide +kernel
theorem dX6_many_113 : decode cX6_many 113 = .ok (.aload_n 0, 1) := by decide +kernel
theorem dX6_many_114 : decode cX6_many 114 = .ok (.bipush 8, 2) := by decide +kernel
theorem dX6_many_116 : decode cX6_many 116 = .ok (.invokevirtual 268, 3) := by decide +kernel
theorem dX6_many_119 : decode cX6_many 119 = .ok (.ireturn, 1) := by decide +kernel
theorem dX6_many_120 : decode cX6_many 120 = .ok (.aload_n 0, 1) := by decide +kernel
theorem dX6_many_121 : decode cX6_many 121 = .ok (.iconst 0, 1) := by decide +kernel
theorem dX6_many_122 : decode cX6_many 122 = .ok (.invokevirtual 298, 3) := by decide +kernel
theorem dX6_many_125 : decode cX6_many 125 = .ok (.ireturn, 1) := by decide +kernel
theorem dX6_many_126 : decode cX6_many 126 = .ok (.aload_n 0, 1) := by decide +kernel
theorem dX6_many_127 : decode cX6_many 127 = .ok (.iconst 2, 1) := by decide +kernel
theorem dX6_many_128 : decode cX6_many 128 = .ok (.invokevirtual 275, 3) := by decide +kernel
theorem dX6_many_131 : decode cX6_many 131 = .ok (.ireturn, 1) := by decide +kernel
theorem dX6_many_132 : decode cX6_many 132 = .ok (.aload_n 0, 1) := by decide +kernel
theorem dX6_many_133 : decode cX6_many 133 = .ok (.iconst 3, 1) := by decide +kernel
theorem dX6_many_134 : decode cX6_many 134 = .ok (.invokevirtual 298, 3) := by decide +kernel
theorem dX6_many_137 : decode cX6_many 137 = .ok (.ireturn, 1) := by decide +kernel
theorem dX6_many_138 : decode cX6_many 138 = .ok (.aload_n 0, 1) := by decide +kernel
theorem dX6_many_139 : decode cX6_many 139 = .ok (.getfield 10, 3) := by decide +kernel
theorem dX6_many_142 : decode cX6_many 142 = .ok (.getfield 164, 3) := by decide +kernel
theorem dX6_many_145 : decode cX6_many 145 = .ok (.ireturn, 1) := by decide +kernel
theorem dX6_many_146 : decode cX6_many 146 = .ok (.aload_n 0, 1) := by decide +kernel
theorem dX6_many_147 : decode cX6_many 147 = .ok (.getfield 10, 3) := by decide +kernel
theorem dX6_many_150 : decode cX6_many 150 = .ok (.getfield 154, 3) := by decide +kernel
theorem dX6_many_153 : decode cX6_many 153 = .ok (.ireturn, 1) := by decide +kernel
theorem dX6_many_154 : decode cX6_many 154 = .ok (.aload_n 0, 1) := by decide +kernel
theorem dX6_many_155 : decode cX6_many 155 = .ok (.invokevirtual 301, 3) := by decide +kernel
theorem dX6_many_158 : decode cX6_many 158 = .ok (.ireturn, 1) := by decide +kernel
theorem dX6_many_159 : decode cX6_many 159 = .ok (.new 23, 3) := by decide +kernel
theorem dX6_many_162 : decode cX6_many 162 = .ok (.dup, 1) := by decide +kernel
theorem dX6_many_163 : decode cX6_many 163 = .ok (.ldc_w 304, 3) := by decide +kernel
theorem dX6_many_166 : decode cX6_many 166 = .ok (.invokespecial 27, 3) := by decide +kernel
theorem dX6_many_169 : decode cX6_many 169 = .ok (.athrow, 1) := by decide +kernel
theorem dX6_meanDepth_0 : decode cX6_meanDepth 0 = .ok (.aload_n 0, 1) := by decide +kernel
theorem dX6_meanDepth_1 : decode cX6_meanDepth 1 = .ok (.iload_n 1, 1) := by decide +kernel
theorem dX6_meanDepth_2 : decode cX6_meanDepth 2 = .ok (.invokevirtual 49, 3) := by decide +kernel
theorem dX6_meanDepth_5 : decode cX6_meanDepth 5 = .ok (.invokevirtual 306, 3) := by decide +kernel
theorem dX6_meanDepth_8 : decode cX6_meanDepth 8 = .ok (.dreturn, 1) := by decide +kernel
theorem dX6_suspect_0 : decode cX6_suspect 0 = .ok (.aload_n 0, 1) := by decide +kernel
theorem dX6_suspect_1 : decode cX6_suspect 1 = .ok (.iload_n 1, 1) := by decide +kernel
theorem dX6_suspect_2 : decode cX6_suspect 2 = .ok (.invokevirtual 49, 3) := by decide +kernel
theorem dX6_suspect_5 : decode cX6_suspect 5 = .ok (.invokevirtual 310, 3) := by decide +kernel
theorem dX6_suspect_8 : decode cX6_suspect 8 = .ok (.invokestatic 253, 3) := by decide +kernel
theorem dX6_suspect_11 : decode cX6_suspect 11 = .ok (.ireturn, 1) := by decide +kernel
theorem dX6_wouldYield_0 : decode cX6_wouldYield 0 = .ok (.aload_n 0, 1) := by decide +kernel
theorem dX6_wouldYield_1 : decode cX6_wouldYield 1 = .ok (.iload_n 1, 1) := by decide +kernel
theorem dX6_wouldYield_2 : decode cX6_wouldYield 2 = .ok (.invokevirtual 64, 3) := by decide +kernel
theorem dX6_wouldYield_5 : decode cX6_wouldYield 5 = .ok (.pop, 1) := by decide +kernel
theorem dX6_wouldYield_6 : decode cX6_wouldYield 6 = .ok (.iload_n 2, 1) := by decide +kernel
theorem dX6_wouldYield_7 : decode cX6_wouldYield 7 = .ok (.bipush 40, 2) := by decide +kernel
theorem dX6_wouldYield_9 : decode cX6_wouldYield 9 = .ok (.invokestatic 313, 3) := by decide +kernel
theorem dX6_wouldYield_12 : decode cX6_wouldYield 12 = .ok (.aload_n 0, 1) := by decide +kernel
theorem dX6_wouldYield_13 : decode cX6_wouldYield 13 = .ok (.iload_n 2, 1) := by decide +kernel
theorem dX6_wouldYield_14 : decode cX6_wouldYield 14 = .ok (.invokevirtual 317, 3) := by decide +kernel
theorem dX6_wouldYield_17 : decode cX6_wouldYield 17 = .ok (.aload_n 0, 1) := by decide +kernel
theorem dX6_wouldYield_18 : decode cX6_wouldYield 18 = .ok (.getfield 16, 3) := by decide +kernel
theorem dX6_wouldYield_21 : decode cX6_wouldYield 21 = .ok (.iload_n 1, 1) := by decide +kernel
theorem dX6_wouldYield_22 : decode cX6_wouldYield 22 = .ok (.invokevirtual 320, 3) := by decide +kernel
theorem dX6_wouldYield_25 : decode cX6_wouldYield 25 = .ok (.ireturn, 1) := by decide +kernel
theorem dX6_ripeIn_0 : decode cX6_ripeIn 0 = .ok (.iload_n 1, 1) := by decide +kernel
theorem dX6_ripeIn_1 : decode cX6_ripeIn 1 = .ok (.bipush 40, 2) := by decide +kernel
theorem dX6_ripeIn_3 : decode cX6_ripeIn 3 = .ok (.invokestatic 313, 3) := by decide +kernel
theorem dX6_ripeIn_6 : decode cX6_ripeIn 6 = .ok (.aload_n 0, 1) := by decide +kernel
theorem dX6_ripeIn_7 : decode cX6_ripeIn 7 = .ok (.getfield 16, 3) := by decide +kernel
theorem dX6_ripeIn_10 : decode cX6_ripeIn 10 = .ok (.aload_n 0, 1) := by decide +kernel
theorem dX6_ripeIn_11 : decode cX6_ripeIn 11 = .ok (.getfield 10, 3) := by decide +kernel
theorem dX6_ripeIn_14 : decode cX6_ripeIn 14 = .ok (.invokevirtual 323, 3) := by decide +kernel
theorem dX6_ripeIn_17 : decode cX6_ripeIn 17 = .ok (.aload_n 0, 1) := by decide +kernel
theorem dX6_ripeIn_18 : decode cX6_ripeIn 18 = .ok (.getfield 10, 3) := by decide +kernel
theorem dX6_ripeIn_21 : decode cX6_ripeIn 21 = .ok (.invokevirtual 327, 3) := by decide +kernel
theorem dX6_ripeIn_24 : decode cX6_ripeIn 24 = .ok (.istore_n 2, 1) := by decide +kernel
theorem dX6_ripeIn_25 : decode cX6_ripeIn 25 = .ok (.iconst 1, 1) := by decide +kernel
theorem dX6_ripeIn_26 : decode cX6_ripeIn 26 = .ok (.istore_n 3, 1) := by decide +kernel
theorem dX6_ripeIn_27 : decode cX6_ripeIn 27 = .ok (.iload_n 3, 1) := by decide +kernel
theorem dX6_ripeIn_28 : decode cX6_ripeIn 28 = .ok (.iload_n 1, 1) := by decide +kernel
theorem dX6_ripeIn_29 : decode cX6_ripeIn 29 = .ok (.if_icmp .gt 50, 3) := by decide +kernel
theorem dX6_ripeIn_32 : decode cX6_ripeIn 32 = .ok (.aload_n 0, 1) := by decide +kernel
theorem dX6_ripeIn_33 : decode cX6_ripeIn 33 = .ok (.getfield 16, 3) := by decide +kernel
theorem dX6_ripeIn_36 : decode cX6_ripeIn 36 = .ok (.aload_n 0, 1) := by decide +kernel
theorem dX6_ripeIn_37 : decode cX6_ripeIn 37 = .ok (.getfield 10, 3) := by decide +kernel
theorem dX6_ripeIn_40 : decode cX6_ripeIn 40 = .ok (.getfield 330, 3) := by decide +kernel
theorem dX6_ripeIn_43 : decode cX6_ripeIn 43 = .ok (.aload_n 0, 1) := by decide +kernel
theorem dX6_ripeIn_44 : decode cX6_ripeIn 44 = .ok (.getfield 10, 3) := by decide +kernel
theorem dX6_ripeIn_47 : decode cX6_ripeIn 47 = .ok (.getfield 333, 3) := by decide +kernel
theorem dX6_ripeIn_50 : decode cX6_ripeIn 50 = .ok (.aload_n 0, 1) := by decide +kernel
theorem dX6_ripeIn_51 : decode cX6_ripeIn 51 = .ok (.getfield 10, 3) := by decide +kernel
theorem dX6_ripeIn_54 : decode cX6_ripeIn 54 = .ok (.getfield 336, 3) := by decide +kernel
theorem dX6_ripeIn_57 : decode cX6_ripeIn 57 = .ok (.invokevirtual 178, 3) := by decide +kernel
theorem dX6_ripeIn_60 : decode cX6_ripeIn 60 = .ok (.aload_n 0, 1) := by decide +kernel
theorem dX6_ripeIn_61 : decode cX6_ripeIn 61 = .ok (.getfield 16, 3) := by decide +kernel
theorem dX6_ripeIn_64 : decode cX6_ripeIn 64 = .ok (.invokevirtual 327, 3) := by decide +kernel
theorem dX6_ripeIn_67 : decode cX6_ripeIn 67 = .ok (.iload_n 2, 1) := by decide +kernel
theorem dX6_ripeIn_68 : decode cX6_ripeIn 68 = .ok (.if_icmp .le 5, 3) := by decide +kernel
theorem dX6_ripeIn_71 : decode cX6_ripeIn 71 = .ok (.iload_n 3, 1) := by decide +kernel
theorem dX6_ripeIn_72 : decode cX6_ripeIn 72 = .ok (.ireturn, 1) := by decide +kernel
theorem dX6_ripeIn_73 : decode cX6_ripeIn 73 = .ok (.iinc 3 1, 3) := by decide +kernel
theorem dX6_ripeIn_76 : decode cX6_ripeIn 76 = .ok (.goto (-49), 3) := by decide +kernel
theorem dX6_ripeIn_79 : decode cX6_ripeIn 79 = .ok (.iconst (-1), 1) := by decide +kernel
theorem dX6_ripeIn_80 : decode cX6_ripeIn 80 = .ok (.ireturn, 1) := by decide +kernel
theorem dX6_plan_0 : decode cX6_plan 0 = .ok (.iload_n 1, 1) := by decide +kernel
theorem dX6_plan_1 : decode cX6_plan 1 = .ok (.invokestatic 102, 3) := by decide +kernel
theorem dX6_plan_4 : decode cX6_plan 4 = .ok (.iload_n 2, 1) := by decide +kernel
theorem dX6_plan_5 : decode cX6_plan 5 = .ok (.bipush 30, 2) := by decide +kernel
theorem dX6_plan_7 : decode cX6_plan 7 = .ok (.invokestatic 313, 3) := by decide +kernel
theorem dX6_plan_10 : decode cX6_plan 10 = .ok (.iconst 1, 1) := by decide +kernel
theorem dX6_plan_11 : decode cX6_plan 11 = .ok (.istore_n 3, 1) := by decide +kernel
theorem dX6_plan_12 : decode cX6_plan 12 = .ok (.iconst 0, 1) := by decide +kernel
theorem dX6_plan_13 : decode cX6_plan 13 = .ok (.istore 4, 2) := by decide +kernel
theorem dX6_plan_15 : decode cX6_plan 15 = .ok (.iload 4, 2) := by decide +kernel
theorem dX6_plan_17 : decode cX6_plan 17 = .ok (.aload_n 0, 1) := by decide +kernel
theorem dX6_plan_18 : decode cX6_plan 18 = .ok (.getfield 10, 3) := by decide +kernel
theorem dX6_plan_21 : decode cX6_plan 21 = .ok (.getfield 30, 3) := by decide +kernel
theorem dX6_plan_24 : decode cX6_plan 24 = .ok (.invokevirtual 34, 3) := by decide +kernel
theorem dX6_plan_27 : decode cX6_plan 27 = .ok (.if_icmp .ge 13, 3) := by decide +kernel
theorem dX6_plan_30 : decode cX6_plan 30 = .ok (.iload_n 3, 1) := by decide +kernel
theorem dX6_plan_31 : decode cX6_plan 31 = .ok (.iconst 3, 1) := by decide +kernel
theorem dX6_plan_32 : decode cX6_plan 32 = .ok (.imul, 1) := by decide +kernel
theorem dX6_plan_33 : decode cX6_plan 33 = .ok (.istore_n 3, 1) := by decide +kernel
theorem dX6_plan_34 : decode cX6_plan 34 = .ok (.iinc 4 1, 3) := by decide +kernel
theorem dX6_plan_37 : decode cX6_plan 37 = .ok (.goto (-22), 3) := by decide +kernel
theorem dX6_plan_40 : decode cX6_plan 40 = .ok (.iconst 0, 1) := by decide +kernel
theorem dX6_plan_41 : decode cX6_plan 41 = .ok (.istore 4, 2) := by decide +kernel
theorem dX6_plan_43 : decode cX6_plan 43 = .ok (.iconst (-1), 1) := by decide +kernel
theorem dX6_plan_44 : decode cX6_plan 44 = .ok (.istore 5, 2) := by decide +kernel
theorem dX6_plan_46 : decode cX6_plan 46 = .ok (.iconst 0, 1) := by decide +kernel
theorem dX6_plan_47 : decode cX6_plan 47 = .ok (.istore 6, 2) := by decide +kernel
theorem dX6_plan_49 : decode cX6_plan 49 = .ok (.iload 6, 2) := by decide +kernel
theorem dX6_plan_51 : decode cX6_plan 51 = .ok (.iload_n 3, 1) := by decide +kernel
theorem dX6_plan_52 : decode cX6_plan 52 = .ok (.if_icmp .ge 34, 3) := by decide +kernel
theorem dX6_plan_55 : decode cX6_plan 55 = .ok (.aload_n 0, 1) := by decide +kernel
theorem dX6_plan_56 : decode cX6_plan 56 = .ok (.iload 6, 2) := by decide +kernel
theorem dX6_plan_58 : decode cX6_plan 58 = .ok (.iload_n 1, 1) := by decide +kernel
theorem dX6_plan_59 : decode cX6_plan 59 = .ok (.iload_n 2, 1) := by decide +kernel
theorem dX6_plan_60 : decode cX6_plan 60 = .ok (.invokevirtual 339, 3) := by decide +kernel
theorem dX6_plan_63 : decode cX6_plan 63 = .ok (.istore 7, 2) := by decide +kernel
theorem dX6_plan_65 : decode cX6_plan 65 = .ok (.iload 7, 2) := by decide +kernel
theorem dX6_plan_67 : decode cX6_plan 67 = .ok (.iload 5, 2) := by decide +kernel
theorem dX6_plan_69 : decode cX6_plan 69 = .ok (.if_icmp .le 11, 3) := by decide +kernel
theorem dX6_plan_72 : decode cX6_plan 72 = .ok (.iload 7, 2) := by decide +kernel
theorem dX6_plan_74 : decode cX6_plan 74 = .ok (.istore 5, 2) := by decide +kernel
theorem dX6_plan_76 : decode cX6_plan 76 = .ok (.iload 6, 2) := by decide +kernel
theorem dX6_plan_78 : decode cX6_plan 78 = .ok (.istore 4, 2) := by decide +kernel
theorem dX6_plan_80 : decode cX6_plan 80 = .ok (.iinc 6 1, 3) := by decide +kernel
theorem dX6_plan_83 : decode cX6_plan 83 = .ok (.goto (-34), 3) := by decide +kernel
theorem dX6_plan_86 : decode cX6_plan 86 = .ok (.iload 4, 2) := by decide +kernel
theorem dX6_plan_88 : decode cX6_plan 88 = .ok (.ireturn, 1) := by decide +kernel
theorem dX6_digest_0 : decode cX6_digest 0 = .ok (.ldc2_w 342, 3) := by decide +kernel
theorem dX6_digest_3 : decode cX6_digest 3 = .ok (.lstore_n 1, 1) := by decide +kernel
theorem dX6_digest_4 : decode cX6_digest 4 = .ok (.iconst 0, 1) := by decide +kernel
theorem dX6_digest_5 : decode cX6_digest 5 = .ok (.istore_n 3, 1) := by decide +kernel
theorem dX6_digest_6 : decode cX6_digest 6 = .ok (.iload_n 3, 1) := by decide +kernel
theorem dX6_digest_7 : decode cX6_digest 7 = .ok (.bipush 11, 2) := by decide +kernel
theorem dX6_digest_9 : decode cX6_digest 9 = .ok (.if_icmp .gt 19, 3) := by decide +kernel
theorem dX6_digest_12 : decode cX6_digest 12 = .ok (.lload_n 1, 1) := by decide +kernel
theorem dX6_digest_13 : decode cX6_digest 13 = .ok (.aload_n 0, 1) := by decide +kernel
theorem dX6_digest_14 : decode cX6_digest 14 = .ok (.iload_n 3, 1) := by decide +kernel
theorem dX6_digest_15 : decode cX6_digest 15 = .ok (.invokevirtual 344, 3) := by decide +kernel
theorem dX6_digest_18 : decode cX6_digest 18 = .ok (.invokestatic 347, 3) := by decide +kernel
theorem dX6_digest_21 : decode cX6_digest 21 = .ok (.lstore_n 1, 1) := by decide +kernel
theorem dX6_digest_22 : decode cX6_digest 22 = .ok (.iinc 3 1, 3) := by decide +kernel
theorem dX6_digest_25 : decode cX6_digest 25 = .ok (.goto (-19), 3) := by decide +kernel
theorem dX6_digest_28 : decode cX6_digest 28 = .ok (.iconst 0, 1) := by decide +kernel
theorem dX6_digest_29 : decode cX6_digest 29 = .ok (.istore_n 3, 1) := by decide +kernel
theorem dX6_digest_30 : decode cX6_digest 30 = .ok (.iload_n 3, 1) := by decide +kernel
theorem dX6_digest_31 : decode cX6_digest 31 = .ok (.bipush 6, 2) := by decide +kernel
theorem dX6_digest_33 : decode cX6_digest 33 = .ok (.if_icmp .gt 19, 3) := by decide +kernel
theorem dX6_digest_36 : decode cX6_digest 36 = .ok (.lload_n 1, 1) := by decide +kernel
theorem dX6_digest_37 : decode cX6_digest 37 = .ok (.aload_n 0, 1) := by decide +kernel
theorem dX6_digest_38 : decode cX6_digest 38 = .ok (.iload_n 3, 1) := by decide +kernel
theorem dX6_digest_39 : decode cX6_digest 39 = .ok (.invokevirtual 351, 3) := by decide +kernel
theorem dX6_digest_42 : decode cX6_digest 42 = .ok (.invokestatic 347, 3) := by decide +kernel
theorem dX6_digest_45 : decode cX6_digest 45 = .ok (.lstore_n 1, 1) := by decide +kernel
theorem dX6_digest_46 : decode cX6_digest 46 = .ok (.iinc 3 1, 3) := by decide +kernel
theorem dX6_digest_49 : decode cX6_digest 49 = .ok (.goto (-19), 3) := by decide +kernel
theorem dX6_digest_52 : decode cX6_digest 52 = .ok (.lload_n 1, 1) := by decide +kernel
theorem dX6_digest_53 : decode cX6_digest 53 = .ok (.aload_n 0, 1) := by decide +kernel
theorem dX6_digest_54 : decode cX6_digest 54 = .ok (.invokevirtual 353, 3) := by decide +kernel
theorem dX6_digest_57 : decode cX6_digest 57 = .ok (.invokestatic 225, 3) := by decide +kernel
theorem dX6_digest_60 : decode cX6_digest 60 = .ok (.invokestatic 347, 3) := by decide +kernel
theorem dX6_digest_63 : decode cX6_digest 63 = .ok (.lstore_n 1, 1) := by decide +kernel
theorem dX6_digest_64 : decode cX6_digest 64 = .ok (.iconst 0, 1) := by decide +kernel
theorem dX6_digest_65 : decode cX6_digest 65 = .ok (.istore_n 3, 1) := by decide +kernel
theorem dX6_digest_66 : decode cX6_digest 66 = .ok (.iload_n 3, 1) := by decide +kernel
theorem dX6_digest_67 : decode cX6_digest 67 = .ok (.aload_n 0, 1) := by decide +kernel
theorem dX6_digest_68 : decode cX6_digest 68 = .ok (.getfield 10, 3) := by decide +kernel
theorem dX6_digest_71 : decode cX6_digest 71 = .ok (.getfield 30, 3) := by decide +kernel
theorem dX6_digest_74 : decode cX6_digest 74 = .ok (.invokevirtual 34, 3) := by decide +kernel
theorem dX6_digest_77 : decode cX6_digest 77 = .ok (.if_icmp .ge 16, 3) := by decide +kernel
theorem dX6_digest_80 : decode cX6_digest 80 = .ok (.aload_n 0, 1) := by decide +kernel
theorem dX6_digest_81 : decode cX6_digest 81 = .ok (.lload_n 1, 1) := by decide +kernel
theorem dX6_digest_82 : decode cX6_digest 82 = .ok (.iload_n 3, 1) := by decide +kernel
theorem dX6_digest_83 : decode cX6_digest 83 = .ok (.invokevirtual 356, 3) := by decide +kernel
theorem dX6_digest_86 : decode cX6_digest 86 = .ok (.lstore_n 1, 1) := by decide +kernel
theorem dX6_digest_87 : decode cX6_digest 87 = .ok (.iinc 3 1, 3) := by decide +kernel
theorem dX6_digest_90 : decode cX6_digest 90 = .ok (.goto (-24), 3) := by decide +kernel
theorem dX6_digest_93 : decode cX6_digest 93 = .ok (.aload_n 0, 1) := by decide +kernel
theorem dX6_digest_94 : decode cX6_digest 94 = .ok (.iconst 5, 1) := by decide +kernel
theorem dX6_digest_95 : decode cX6_digest 95 = .ok (.invokevirtual 317, 3) := by decide +kernel
theorem dX6_digest_98 : decode cX6_digest 98 = .ok (.iconst 0, 1) := by decide +kernel
theorem dX6_digest_99 : decode cX6_digest 99 = .ok (.istore_n 3, 1) := by decide +kernel
theorem dX6_digest_100 : decode cX6_digest 100 = .ok (.iload_n 3, 1) := by decide +kernel
theorem dX6_digest_101 : decode cX6_digest 101 = .ok (.aload_n 0, 1) := by decide +kernel
theorem dX6_digest_102 : decode cX6_digest 102 = .ok (.getfield 10, 3) := by decide +kernel
theorem dX6_digest_105 : decode cX6_digest 105 = .ok (.getfield 55, 3) := by decide +kernel
theorem dX6_digest_108 : decode cX6_digest 108 = .ok (.invokevirtual 34, 3) := by decide +kernel
theorem dX6_digest_111 : decode cX6_digest 111 = .ok (.if_icmp .ge 16, 3) := by decide +kernel
theorem dX6_digest_114 : decode cX6_digest 114 = .ok (.aload_n 0, 1) := by decide +kernel
theorem dX6_digest_115 : decode cX6_digest 115 = .ok (.lload_n 1, 1) := by decide +kernel
theorem dX6_digest_116 : decode cX6_digest 116 = .ok (.iload_n 3, 1) := by decide +kernel
theorem dX6_digest_117 : decode cX6_digest 117 = .ok (.invokevirtual 359, 3) := by decide +kernel
theorem dX6_digest_120 : decode cX6_digest 120 = .ok (.lstore_n 1, 1) := by decide +kernel
theorem dX6_digest_121 : decode cX6_digest 121 = .ok (.iinc 3 1, 3) := by decide +kernel
theorem dX6_digest_124 : decode cX6_digest 124 = .ok (.goto (-24), 3) := by decide +kernel
theorem dX6_digest_127 : decode cX6_digest 127 = .ok (.lload_n 1, 1) := by decide +kernel
theorem dX6_digest_128 : decode cX6_digest 128 = .ok (.aload_n 0, 1) := by decide +kernel
theorem dX6_digest_129 : decode cX6_digest 129 = .ok (.bipush 10, 2) := by decide +kernel
theorem dX6_digest_131 : decode cX6_digest 131 = .ok (.invokevirtual 362, 3) := by decide +kernel
theorem dX6_digest_134 : decode cX6_digest 134 = .ok (.invokestatic 347, 3) := by decide +kernel
theorem dX6_digest_137 : decode cX6_digest 137 = .ok (.lstore_n 1, 1) := by decide +kernel
theorem dX6_digest_138 : decode cX6_digest 138 = .ok (.lload_n 1, 1) := by decide +kernel
theorem dX6_digest_139 : decode cX6_digest 139 = .ok (.aload_n 0, 1) := by decide +kernel
theorem dX6_digest_140 : decode cX6_digest 140 = .ok (.iconst 0, 1) := by decide +kernel
theorem dX6_digest_141 : decode cX6_digest 141 = .ok (.bipush 12, 2) := by decide +kernel
theorem dX6_digest_143 : decode cX6_digest 143 = .ok (.invokevirtual 365, 3) := by decide +kernel
theorem dX6_digest_146 : decode cX6_digest 146 = .ok (.invokestatic 347, 3) := by decide +kernel
theorem dX6_digest_149 : decode cX6_digest 149 = .ok (.lreturn, 1) := by decide +kernel
theorem dX6_societyAt_0 : decode cX6_societyAt 0 = .ok (.iload_n 1, 1) := by decide +kernel
theorem dX6_societyAt_1 : decode cX6_societyAt 1 = .ok (.ifCond .lt 17, 3) := by decide +kernel
theorem dX6_societyAt_4 : decode cX6_societyAt 4 = .ok (.iload_n 1, 1) := by decide +kernel
theorem dX6_societyAt_5 : decode cX6_societyAt 5 = .ok (.aload_n 0, 1) := by decide +kernel
theorem dX6_societyAt_6 : decode cX6_societyAt 6 = .ok (.getfield 10, 3) := by decide +kernel
theorem dX6_societyAt_9 : decode cX6_societyAt 9 = .ok (.getfield 30, 3) := by decide +kernel
theorem dX6_societyAt_12 : decode cX6_societyAt 12 = .ok (.invokevirtual 34, 3) := by decide +kernel
theorem dX6_societyAt_15 : decode cX6_societyAt 15 = .ok (.if_icmp .lt 14, 3) := by decide +kernel
theorem dX6_societyAt_18 : decode cX6_societyAt 18 = .ok (.new 368, 3) := by decide +kernel
theorem dX6_societyAt_21 : decode cX6_societyAt 21 = .ok (.dup, 1) := by decide +kernel
theorem dX6_societyAt_22 : decode cX6_societyAt 22 = .ok (.ldc_w 370, 3) := by decide +kernel
theorem dX6_societyAt_25 : decode cX6_societyAt 25 = .ok (.invokespecial 372, 3) := by decide +kernel
theorem dX6_societyAt_28 : decode cX6_societyAt 28 = .ok (.athrow, 1) := by decide +kernel
theorem dX6_societyAt_29 : decode cX6_societyAt 29 = .ok (.aload_n 0, 1) := by decide +kernel
theorem dX6_societyAt_30 : decode cX6_societyAt 30 = .ok (.getfield 10, 3) := by decide +kernel
theorem dX6_societyAt_33 : decode cX6_societyAt 33 = .ok (.getfield 30, 3) := by decide +kernel
theorem dX6_societyAt_36 : decode cX6_societyAt 36 = .ok (.iload_n 1, 1) := by decide +kernel
theorem dX6_societyAt_37 : decode cX6_societyAt 37 = .ok (.invokevirtual 373, 3) := by decide +kernel
theorem dX6_societyAt_40 : decode cX6_societyAt 40 = .ok (.checkcast 81, 3) := by decide +kernel
theorem dX6_societyAt_43 : decode cX6_societyAt 43 = .ok (.areturn, 1) := by decide +kernel
theorem dX6_fieldAt_0 : decode cX6_fieldAt 0 = .ok (.iload_n 1, 1) := by decide +kernel
theorem dX6_fieldAt_1 : decode cX6_fieldAt 1 = .ok (.ifCond .lt 17, 3) := by decide +kernel
theorem dX6_fieldAt_4 : decode cX6_fieldAt 4 = .ok (.iload_n 1, 1) := by decide +kernel
theorem dX6_fieldAt_5 : decode cX6_fieldAt 5 = .ok (.aload_n 0, 1) := by decide +kernel
theorem dX6_fieldAt_6 : decode cX6_fieldAt 6 = .ok (.getfield 10, 3) := by decide +kernel
theorem dX6_fieldAt_9 : decode cX6_fieldAt 9 = .ok (.getfield 55, 3) := by decide +kernel
theorem dX6_fieldAt_12 : decode cX6_fieldAt 12 = .ok (.invokevirtual 34, 3) := by decide +kernel
theorem dX6_fieldAt_15 : decode cX6_fieldAt 15 = .ok (.if_icmp .lt 14, 3) := by decide +kernel
theorem dX6_fieldAt_18 : decode cX6_fieldAt 18 = .ok (.new 368, 3) := by decide +kernel
theorem dX6_fieldAt_21 : decode cX6_fieldAt 21 = .ok (.dup, 1) := by decide +kernel
theorem dX6_fieldAt_22 : decode cX6_fieldAt 22 = .ok (.ldc_w 377, 3) := by decide +kernel
theorem dX6_fieldAt_25 : decode cX6_fieldAt 25 = .ok (.invokespecial 372, 3) := by decide +kernel
theorem dX6_fieldAt_28 : decode cX6_fieldAt 28 = .ok (.athrow, 1) := by decide +kernel
theorem dX6_fieldAt_29 : decode cX6_fieldAt 29 = .ok (.aload_n 0, 1) := by decide +kernel
theorem dX6_fieldAt_30 : decode cX6_fieldAt 30 = .ok (.getfield 10, 3) := by decide +kernel
theorem dX6_fieldAt_33 : decode cX6_fieldAt 33 = .ok (.getfield 55, 3) := by decide +kernel
theorem dX6_fieldAt_36 : decode cX6_fieldAt 36 = .ok (.iload_n 1, 1) := by decide +kernel
theorem dX6_fieldAt_37 : decode cX6_fieldAt 37 = .ok (.invokevirtual 373, 3) := by decide +kernel
theorem dX6_fieldAt_40 : decode cX6_fieldAt 40 = .ok (.checkcast 69, 3) := by decide +kernel
theorem dX6_fieldAt_43 : decode cX6_fieldAt 43 = .ok (.areturn, 1) := by decide +kernel
theorem dX6_ripeFieldAt_0 : decode cX6_ripeFieldAt 0 = .ok (.aload_n 0, 1) := by decide +kernel
theorem dX6_ripeFieldAt_1 : decode cX6_ripeFieldAt 1 = .ok (.iload_n 1, 1) := by decide +kernel
theorem dX6_ripeFieldAt_2 : decode cX6_ripeFieldAt 2 = .ok (.invokevirtual 64, 3) := by decide +kernel
theorem dX6_ripeFieldAt_5 : decode cX6_ripeFieldAt 5 = .ok (.astore_n 2, 1) := by decide +kernel
theorem dX6_ripeFieldAt_6 : decode cX6_ripeFieldAt 6 = .ok (.aload_n 2, 1) := by decide +kernel
theorem dX6_ripeFieldAt_7 : decode cX6_ripeFieldAt 7 = .ok (.getfield 85, 3) := by decide +kernel
theorem dX6_ripeFieldAt_10 : decode cX6_ripeFieldAt 10 = .ok (.getfield 89, 3) := by decide +kernel
theorem dX6_ripeFieldAt_13 : decode cX6_ripeFieldAt 13 = .ok (.iconst 5, 1) := by decide +kernel
theorem dX6_ripeFieldAt_14 : decode cX6_ripeFieldAt 14 = .ok (.if_icmp .eq 14, 3) := by decide +kernel
theorem dX6_ripeFieldAt_17 : decode cX6_ripeFieldAt 17 = .ok (.new 40, 3) := by decide +kernel
theorem dX6_ripeFieldAt_20 : decode cX6_ripeFieldAt 20 = .ok (.dup, 1) := by decide +kernel
theorem dX6_ripeFieldAt_21 : decode cX6_ripeFieldAt 21 = .ok (.ldc_w 379, 3) := by decide +kernel
theorem dX6_ripeFieldAt_24 : decode cX6_ripeFieldAt 24 = .ok (.invokespecial 44, 3) := by decide +kernel
theorem dX6_ripeFieldAt_27 : decode cX6_ripeFieldAt 27 = .ok (.athrow, 1) := by decide +kernel
theorem dX6_ripeFieldAt_28 : decode cX6_ripeFieldAt 28 = .ok (.aload_n 2, 1) := by decide +kernel
theorem dX6_ripeFieldAt_29 : decode cX6_ripeFieldAt 29 = .ok (.areturn, 1) := by decide +kernel
theorem dX6_checkKind_0 : decode cX6_checkKind 0 = .ok (.iload_n 0, 1) := by decide +kernel
theorem dX6_checkKind_1 : decode cX6_checkKind 1 = .ok (.iconst 0, 1) := by decide +kernel
theorem dX6_checkKind_2 : decode cX6_checkKind 2 = .ok (.iconst 2, 1) := by decide +kernel
theorem dX6_checkKind_3 : decode cX6_checkKind 3 = .ok (.invokestatic 19, 3) := by decide +kernel
theorem dX6_checkKind_6 : decode cX6_checkKind 6 = .ok (.ifCond .ne 14, 3) := by decide +kernel
theorem dX6_checkKind_9 : decode cX6_checkKind 9 = .ok (.new 23, 3) := by decide +kernel
theorem dX6_checkKind_12 : decode cX6_checkKind 12 = .ok (.dup, 1) := by decide +kernel
theorem dX6_checkKind_13 : decode cX6_checkKind 13 = .ok (.ldc_w 381, 3) := by decide +kernel
theorem dX6_checkKind_16 : decode cX6_checkKind 16 = .ok (.invokespecial 27, 3) := by decide +kernel
theorem dX6_checkKind_19 : decode cX6_checkKind 19 = .ok (.athrow, 1) := by decide +kernel
theorem dX6_checkKind_20 : decode cX6_checkKind 20 = .ok (.return_, 1) := by decide +kernel
theorem dX6_checkDays_0 : decode cX6_checkDays 0 = .ok (.iload_n 0, 1) := by decide +kernel
theorem dX6_checkDays_1 : decode cX6_checkDays 1 = .ok (.iconst 1, 1) := by decide +kernel
theorem dX6_checkDays_2 : decode cX6_checkDays 2 = .ok (.iload_n 1, 1) := by decide +kernel
theorem dX6_checkDays_3 : decode cX6_checkDays 3 = .ok (.invokestatic 19, 3) := by decide +kernel
theorem dX6_checkDays_6 : decode cX6_checkDays 6 = .ok (.ifCond .ne 14, 3) := by decide +kernel
theorem dX6_checkDays_9 : decode cX6_checkDays 9 = .ok (.new 23, 3) := by decide +kernel
theorem dX6_checkDays_12 : decode cX6_checkDays 12 = .ok (.dup, 1) := by decide +kernel
theorem dX6_checkDays_13 : decode cX6_checkDays 13 = .ok (.ldc_w 383, 3) := by decide +kernel
theorem dX6_checkDays_16 : decode cX6_checkDays 16 = .ok (.invokespecial 27, 3) := by decide +kernel
theorem dX6_checkDays_19 : decode cX6_checkDays 19 = .ok (.athrow, 1) := by decide +kernel
theorem dX6_checkDays_20 : decode cX6_checkDays 20 = .ok (.return_, 1) := by decide +kernel
theorem dX6_sumOfFields_0 : decode cX6_sumOfFields 0 = .ok (.iconst 0, 1) := by decide +kernel
theorem dX6_sumOfFields_1 : decode cX6_sumOfFields 1 = .ok (.istore_n 2, 1) := by decide +kernel
theorem dX6_sumOfFields_2 : decode cX6_sumOfFields 2 = .ok (.iconst 0, 1) := by decide +kernel
theorem dX6_sumOfFields_3 : decode cX6_sumOfFields 3 = .ok (.istore_n 3, 1) := by decide +kernel
theorem dX6_sumOfFields_4 : decode cX6_sumOfFields 4 = .ok (.iload_n 3, 1) := by decide +kernel
theorem dX6_sumOfFields_5 : decode cX6_sumOfFields 5 = .ok (.aload_n 0, 1) := by decide +kernel
theorem dX6_sumOfFields_6 : decode cX6_sumOfFields 6 = .ok (.getfield 10, 3) := by decide +kernel
theorem dX6_sumOfFields_9 : decode cX6_sumOfFields 9 = .ok (.getfield 55, 3) := by decide +kernel
theorem dX6_sumOfFields_12 : decode cX6_sumOfFields 12 = .ok (.invokevirtual 34, 3) := by decide +kernel
theorem dX6_sumOfFields_15 : decode cX6_sumOfFields 15 = .ok (.if_icmp .ge 18, 3) := by decide +kernel
theorem dX6_sumOfFields_18 : decode cX6_sumOfFields 18 = .ok (.iload_n 2, 1) := by decide +kernel
theorem dX6_sumOfFields_19 : decode cX6_sumOfFields 19 = .ok (.aload_n 0, 1) := by decide +kernel
theorem dX6_sumOfFields_20 : decode cX6_sumOfFields 20 = .ok (.iload_n 3, 1) := by decide +kernel
theorem dX6_sumOfFields_21 : decode cX6_sumOfFields 21 = .ok (.iload_n 1, 1) := by decide +kernel
theorem dX6_sumOfFields_22 : decode cX6_sumOfFields 22 = .ok (.invokevirtual 385, 3) := by decide +kernel
theorem dX6_sumOfFields_25 : decode cX6_sumOfFields 25 = .ok (.iadd, 1) := by decide +kernel
theorem dX6_sumOfFields_26 : decode cX6_sumOfFields 26 = .ok (.istore_n 2, 1) := by decide +kernel
theorem dX6_sumOfFields_27 : decode cX6_sumOfFields 27 = .ok (.iinc 3 1, 3) := by decide +kernel
theorem dX6_sumOfFields_30 : decode cX6_sumOfFields 30 = .ok (.goto (-26), 3) := by decide +kernel
theorem dX6_sumOfFields_33 : decode cX6_sumOfFields 33 = .ok (.iload_n 2, 1) := by decide +kernel
theorem dX6_sumOfFields_34 : decode cX6_sumOfFields 34 = .ok (.ireturn, 1) := by decide +kernel
theorem dX6_sumOfOwners_0 : decode cX6_sumOfOwners 0 = .ok (.iconst 0, 1) := by decide +kernel
theorem dX6_sumOfOwners_1 : decode cX6_sumOfOwners 1 = .ok (.istore_n 2, 1) := by decide +kernel
theorem dX6_sumOfOwners_2 : decode cX6_sumOfOwners 2 = .ok (.iconst 0, 1) := by decide +kernel
theorem dX6_sumOfOwners_3 : decode cX6_sumOfOwners 3 = .ok (.istore_n 3, 1) := by decide +kernel
theorem dX6_sumOfOwners_4 : decode cX6_sumOfOwners 4 = .ok (.iload_n 3, 1) := by decide +kernel
theorem dX6_sumOfOwners_5 : decode cX6_sumOfOwners 5 = .ok (.aload_n 0, 1) := by decide +kernel
theorem dX6_sumOfOwners_6 : decode cX6_sumOfOwners 6 = .ok (.getfield 10, 3) := by decide +kernel
theorem dX6_sumOfOwners_9 : decode cX6_sumOfOwners 9 = .ok (.getfield 55, 3) := by decide +kernel
theorem dX6_sumOfOwners_12 : decode cX6_sumOfOwners 12 = .ok (.invokevirtual 34, 3) := by decide +kernel
theorem dX6_sumOfOwners_15 : decode cX6_sumOfOwners 15 = .ok (.if_icmp .ge 18, 3) := by decide +kernel
theorem dX6_sumOfOwners_18 : decode cX6_sumOfOwners 18 = .ok (.iload_n 2, 1) := by decide +kernel
theorem dX6_sumOfOwners_19 : decode cX6_sumOfOwners 19 = .ok (.aload_n 0, 1) := by decide +kernel
theorem dX6_sumOfOwners_20 : decode cX6_sumOfOwners 20 = .ok (.iload_n 3, 1) := by decide +kernel
theorem dX6_sumOfOwners_21 : decode cX6_sumOfOwners 21 = .ok (.iload_n 1, 1) := by decide +kernel
theorem dX6_sumOfOwners_22 : decode cX6_sumOfOwners 22 = .ok (.invokevirtual 388, 3) := by decide +kernel
theorem dX6_sumOfOwners_25 : decode cX6_sumOfOwners 25 = .ok (.iadd, 1) := by decide +kernel
theorem dX6_sumOfOwners_26 : decode cX6_sumOfOwners 26 = .ok (.istore_n 2, 1) := by decide +kernel
theorem dX6_sumOfOwners_27 : decode cX6_sumOfOwners 27 = .ok (.iinc 3 1, 3) := by decide +kernel
theorem dX6_sumOfOwners_30 : decode cX6_sumOfOwners 30 = .ok (.goto (-26), 3) := by decide +kernel
theorem dX6_sumOfOwners_33 : decode cX6_sumOfOwners 33 = .ok (.iload_n 2, 1) := by decide +kernel
theorem dX6_sumOfOwners_34 : decode cX6_sumOfOwners 34 = .ok (.ireturn, 1) := by decide +kernel
theorem dX6_sumOfSocieties_0 : decode cX6_sumOfSocieties 0 = .ok (.iconst 0, 1) := by decide +kernel
theorem dX6_sumOfSocieties_1 : decode cX6_sumOfSocieties 1 = .ok (.istore_n 2, 1) := by decide +kernel
theorem dX6_sumOfSocieties_2 : decode cX6_sumOfSocieties 2 = .ok (.iconst 0, 1) := by decide +kernel
theorem dX6_sumOfSocieties_3 : decode cX6_sumOfSocieties 3 = .ok (.istore_n 3, 1) := by decide +kernel
theorem dX6_sumOfSocieties_4 : decode cX6_sumOfSocieties 4 = .ok (.iload_n 3, 1) := by decide +kernel
theorem dX6_sumOfSocieties_5 : decode cX6_sumOfSocieties 5 = .ok (.aload_n 0, 1) := by decide +kernel
theorem dX6_sumOfSocieties_6 : decode cX6_sumOfSocieties 6 = .ok (.getfield 10, 3) := by decide +kernel
theorem dX6_sumOfSocieties_9 : decode cX6_sumOfSocieties 9 = .ok (.getfield 30, 3) := by decide +kernel
theorem dX6_sumOfSocieties_12 : decode cX6_sumOfSocieties 12 = .ok (.invokevirtual 34, 3) := by decide +kernel
theorem dX6_sumOfSocieties_15 : decode cX6_sumOfSocieties 15 = .ok (.if_icmp .ge 18, 3) := by decide +kernel
theorem dX6_sumOfSocieties_18 : decode cX6_sumOfSocieties 18 = .ok (.iload_n 2, 1) := by decide +kernel
theorem dX6_sumOfSocieties_19 : decode cX6_sumOfSocieties 19 = .ok (.aload_n 0, 1) := by decide +kernel
theorem dX6_sumOfSocieties_20 : decode cX6_sumOfSocieties 20 = .ok (.iload_n 3, 1) := by decide +kernel
theorem dX6_sumOfSocieties_21 : decode cX6_sumOfSocieties 21 = .ok (.iload_n 1, 1) := by decide +kernel
theorem dX6_sumOfSocieties_22 : decode cX6_sumOfSocieties 22 = .ok (.invokevirtual 391, 3) := by decide +kernel
theorem dX6_sumOfSocieties_25 : decode cX6_sumOfSocieties 25 = .ok (.iadd, 1) := by decide +kernel
theorem dX6_sumOfSocieties_26 : decode cX6_sumOfSocieties 26 = .ok (.istore_n 2, 1) := by decide +kernel
theorem dX6_sumOfSocieties_27 : decode cX6_sumOfSocieties 27 = .ok (.iinc 3 1, 3) := by decide +kernel
theorem dX6_sumOfSocieties_30 : decode cX6_sumOfSocieties 30 = .ok (.goto (-26), 3) := by decide +kernel
theorem dX6_sumOfSocieties_33 : decode cX6_sumOfSocieties 33 = .ok (.iload_n 2, 1) := by decide +kernel
theorem dX6_sumOfSocieties_34 : decode cX6_sumOfSocieties 34 = .ok (.ireturn, 1) := by decide +kernel
theorem dX6_sumOfStones_0 : decode cX6_sumOfStones 0 = .ok (.iconst 0, 1) := by decide +kernel
theorem dX6_sumOfStones_1 : decode cX6_sumOfStones 1 = .ok (.istore_n 1, 1) := by decide +kernel
theorem dX6_sumOfStones_2 : decode cX6_sumOfStones 2 = .ok (.iconst 0, 1) := by decide +kernel
theorem dX6_sumOfStones_3 : decode cX6_sumOfStones 3 = .ok (.istore_n 2, 1) := by decide +kernel
theorem dX6_sumOfStones_4 : decode cX6_sumOfStones 4 = .ok (.iload_n 2, 1) := by decide +kernel
theorem dX6_sumOfStones_5 : decode cX6_sumOfStones 5 = .ok (.aload_n 0, 1) := by decide +kernel
theorem dX6_sumOfStones_6 : decode cX6_sumOfStones 6 = .ok (.getfield 10, 3) := by decide +kernel
theorem dX6_sumOfStones_9 : decode cX6_sumOfStones 9 = .ok (.getfield 55, 3) := by decide +kernel
theorem dX6_sumOfStones_12 : decode cX6_sumOfStones 12 = .ok (.invokevirtual 34, 3) := by decide +kernel
theorem dX6_sumOfStones_15 : decode cX6_sumOfStones 15 = .ok (.if_icmp .ge 29, 3) := by decide +kernel
theorem dX6_sumOfStones_18 : decode cX6_sumOfStones 18 = .ok (.iload_n 1, 1) := by decide +kernel
theorem dX6_sumOfStones_19 : decode cX6_sumOfStones 19 = .ok (.aload_n 0, 1) := by decide +kernel
theorem dX6_sumOfStones_20 : decode cX6_sumOfStones 20 = .ok (.getfield 10, 3) := by decide +kernel
theorem dX6_sumOfStones_23 : decode cX6_sumOfStones 23 = .ok (.getfield 55, 3) := by decide +kernel
theorem dX6_sumOfStones_26 : decode cX6_sumOfStones 26 = .ok (.iload_n 2, 1) := by decide +kernel
theorem dX6_sumOfStones_27 : decode cX6_sumOfStones 27 = .ok (.invokevirtual 373, 3) := by decide +kernel
theorem dX6_sumOfStones_30 : decode cX6_sumOfStones 30 = .ok (.checkcast 69, 3) := by decide +kernel
theorem dX6_sumOfStones_33 : decode cX6_sumOfStones 33 = .ok (.getfield 76, 3) := by decide +kernel
theorem dX6_sumOfStones_36 : decode cX6_sumOfStones 36 = .ok (.iadd, 1) := by decide +kernel
theorem dX6_sumOfStones_37 : decode cX6_sumOfStones 37 = .ok (.istore_n 1, 1) := by decide +kernel
theorem dX6_sumOfStones_38 : decode cX6_sumOfStones 38 = .ok (.iinc 2 1, 3) := by decide +kernel
theorem dX6_sumOfStones_41 : decode cX6_sumOfStones 41 = .ok (.goto (-37), 3) := by decide +kernel
theorem dX6_sumOfStones_44 : decode cX6_sumOfStones 44 = .ok (.iload_n 1, 1) := by decide +kernel
theorem dX6_sumOfStones_45 : decode cX6_sumOfStones 45 = .ok (.ireturn, 1) := by decide +kernel
theorem dX6_tryDays_0 : decode cX6_tryDays 0 = .ok (.aload_n 0, 1) := by decide +kernel
theorem dX6_tryDays_1 : decode cX6_tryDays 1 = .ok (.getfield 16, 3) := by decide +kernel
theorem dX6_tryDays_4 : decode cX6_tryDays 4 = .ok (.aload_n 0, 1) := by decide +kernel
theorem dX6_tryDays_5 : decode cX6_tryDays 5 = .ok (.getfield 10, 3) := by decide +kernel
theorem dX6_tryDays_8 : decode cX6_tryDays 8 = .ok (.invokevirtual 323, 3) := by decide +kernel
theorem dX6_tryDays_11 : decode cX6_tryDays 11 = .ok (.iconst 0, 1) := by decide +kernel
theorem dX6_tryDays_12 : decode cX6_tryDays 12 = .ok (.istore_n 2, 1) := by decide +kernel
theorem dX6_tryDays_13 : decode cX6_tryDays 13 = .ok (.iload_n 2, 1) := by decide +kernel
theorem dX6_tryDays_14 : decode cX6_tryDays 14 = .ok (.iload_n 1, 1) := by decide +kernel
theorem dX6_tryDays_15 : decode cX6_tryDays 15 = .ok (.if_icmp .ge 37, 3) := by decide +kernel
theorem dX6_tryDays_18 : decode cX6_tryDays 18 = .ok (.aload_n 0, 1) := by decide +kernel
theorem dX6_tryDays_19 : decode cX6_tryDays 19 = .ok (.getfield 16, 3) := by decide +kernel
theorem dX6_tryDays_22 : decode cX6_tryDays 22 = .ok (.aload_n 0, 1) := by decide +kernel
theorem dX6_tryDays_23 : decode cX6_tryDays 23 = .ok (.getfield 10, 3) := by decide +kernel
theorem dX6_tryDays_26 : decode cX6_tryDays 26 = .ok (.getfield 330, 3) := by decide +kernel
theorem dX6_tryDays_29 : decode cX6_tryDays 29 = .ok (.aload_n 0, 1) := by decide +kernel
theorem dX6_tryDays_30 : decode cX6_tryDays 30 = .ok (.getfield 10, 3) := by decide +kernel
theorem dX6_tryDays_33 : decode cX6_tryDays 33 = .ok (.getfield 333, 3) := by decide +kernel
theorem dX6_tryDays_36 : decode cX6_tryDays 36 = .ok (.aload_n 0, 1) := by decide +kernel
theorem dX6_tryDays_37 : decode cX6_tryDays 37 = .ok (.getfield 10, 3) := by decide +kernel
theorem dX6_tryDays_40 : decode cX6_tryDays 40 = .ok (.getfield 336, 3) := by decide +kernel
theorem dX6_tryDays_43 : decode cX6_tryDays 43 = .ok (.invokevirtual 178, 3) := by decide +kernel
theorem dX6_tryDays_46 : decode cX6_tryDays 46 = .ok (.iinc 2 1, 3) := by decide +kernel
theorem dX6_tryDays_49 : decode cX6_tryDays 49 = .ok (.goto (-36), 3) := by decide +kernel
theorem dX6_tryDays_52 : decode cX6_tryDays 52 = .ok (.return_, 1) := by decide +kernel
theorem dX6_yieldByPlan_0 : decode cX6_yieldByPlan 0 = .ok (.aload_n 0, 1) := by decide +kernel
theorem dX6_yieldByPlan_1 : decode cX6_yieldByPlan 1 = .ok (.getfield 16, 3) := by decide +kernel
theorem dX6_yieldByPlan_4 : decode cX6_yieldByPlan 4 = .ok (.aload_n 0, 1) := by decide +kernel
theorem dX6_yieldByPlan_5 : decode cX6_yieldByPlan 5 = .ok (.getfield 10, 3) := by decide +kernel
theorem dX6_yieldByPlan_8 : decode cX6_yieldByPlan 8 = .ok (.invokevirtual 323, 3) := by decide +kernel
theorem dX6_yieldByPlan_11 : decode cX6_yieldByPlan 11 = .ok (.iconst 0, 1) := by decide +kernel
theorem dX6_yieldByPlan_12 : decode cX6_yieldByPlan 12 = .ok (.istore 4, 2) := by decide +kernel
theorem dX6_yieldByPlan_14 : decode cX6_yieldByPlan 14 = .ok (.iload 4, 2) := by decide +kernel
theorem dX6_yieldByPlan_16 : decode cX6_yieldByPlan 16 = .ok (.iload_n 3, 1) := by decide +kernel
theorem dX6_yieldByPlan_17 : decode cX6_yieldByPlan 17 = .ok (.if_icmp .ge 48, 3) := by decide +kernel
theorem dX6_yieldByPlan_20 : decode cX6_yieldByPlan 20 = .ok (.aload_n 0, 1) := by decide +kernel
theorem dX6_yieldByPlan_21 : decode cX6_yieldByPlan 21 = .ok (.getfield 16, 3) := by decide +kernel
theorem dX6_yieldByPlan_24 : decode cX6_yieldByPlan 24 = .ok (.iload_n 1, 1) := by decide +kernel
theorem dX6_yieldByPlan_25 : decode cX6_yieldByPlan 25 = .ok (.iload_n 2, 1) := by decide +kernel
theorem dX6_yieldByPlan_26 : decode cX6_yieldByPlan 26 = .ok (.iload 4, 2) := by decide +kernel
theorem dX6_yieldByPlan_28 : decode cX6_yieldByPlan 28 = .ok (.invokevirtual 394, 3) := by decide +kernel
theorem dX6_yieldByPlan_31 : decode cX6_yieldByPlan 31 = .ok (.aload_n 0, 1) := by decide +kernel
theorem dX6_yieldByPlan_32 : decode cX6_yieldByPlan 32 = .ok (.getfield 16, 3) := by decide +kernel
theorem dX6_yieldByPlan_35 : decode cX6_yieldByPlan 35 = .ok (.aload_n 0, 1) := by decide +kernel
theorem dX6_yieldByPlan_36 : decode cX6_yieldByPlan 36 = .ok (.getfield 10, 3) := by decide +kernel
theorem dX6_yieldByPlan_39 : decode cX6_yieldByPlan 39 = .ok (.getfield 330, 3) := by decide +kernel
theorem dX6_yieldByPlan_42 : decode cX6_yieldByPlan 42 = .ok (.aload_n 0, 1) := by decide +kernel
theorem dX6_yieldByPlan_43 : decode cX6_yieldByPlan 43 = .ok (.getfield 10, 3) := by decide +kernel
theorem dX6_yieldByPlan_46 : decode cX6_yieldByPlan 46 = .ok (.getfield 333, 3) := by decide +kernel
theorem dX6_yieldByPlan_49 : decode cX6_yieldByPlan 49 = .ok (.aload_n 0, 1) := by decide +kernel
theorem dX6_yieldByPlan_50 : decode cX6_yieldByPlan 50 = .ok (.getfield 10, 3) := by decide +kernel
theorem dX6_yieldByPlan_53 : decode cX6_yieldByPlan 53 = .ok (.getfield 336, 3) := by decide +kernel
theorem dX6_yieldByPlan_56 : decode cX6_yieldByPlan 56 = .ok (.invokevirtual 178, 3) := by decide +kernel
theorem dX6_yieldByPlan_59 : decode cX6_yieldByPlan 59 = .ok (.iinc 4 1, 3) := by decide +kernel
theorem dX6_yieldByPlan_62 : decode cX6_yieldByPlan 62 = .ok (.goto (-48), 3) := by decide +kernel
theorem dX6_yieldByPlan_65 : decode cX6_yieldByPlan 65 = .ok (.aload_n 0, 1) := by decide +kernel
theorem dX6_yieldByPlan_66 : decode cX6_yieldByPlan 66 = .ok (.getfield 16, 3) := by decide +kernel
theorem dX6_yieldByPlan_69 : decode cX6_yieldByPlan 69 = .ok (.invokevirtual 397, 3) := by decide +kernel
theorem dX6_yieldByPlan_72 : decode cX6_yieldByPlan 72 = .ok (.ireturn, 1) := by decide +kernel
theorem dX6_mixSociety_0 : decode cX6_mixSociety 0 = .ok (.lload_n 1, 1) := by decide +kernel
theorem dX6_mixSociety_1 : decode cX6_mixSociety 1 = .ok (.lstore 4, 2) := by decide +kernel
theorem dX6_mixSociety_3 : decode cX6_mixSociety 3 = .ok (.iconst 0, 1) := by decide +kernel
theorem dX6_mixSociety_4 : decode cX6_mixSociety 4 = .ok (.istore 6, 2) := by decide +kernel
theorem dX6_mixSociety_6 : decode cX6_mixSociety 6 = .ok (.iload 6, 2) := by decide +kernel
theorem dX6_mixSociety_8 : decode cX6_mixSociety 8 = .ok (.bipush 8, 2) := by decide +kernel
theorem dX6_mixSociety_10 : decode cX6_mixSociety 10 = .ok (.if_icmp .gt 23, 3) := by decide +kernel
theorem dX6_mixSociety_13 : decode cX6_mixSociety 13 = .ok (.lload 4, 2) := by decide +kernel
theorem dX6_mixSociety_15 : decode cX6_mixSociety 15 = .ok (.aload_n 0, 1) := by decide +kernel
theorem dX6_mixSociety_16 : decode cX6_mixSociety 16 = .ok (.iload_n 3, 1) := by decide +kernel
theorem dX6_mixSociety_17 : decode cX6_mixSociety 17 = .ok (.iload 6, 2) := by decide +kernel
theorem dX6_mixSociety_19 : decode cX6_mixSociety 19 = .ok (.invokevirtual 391, 3) := by decide +kernel
theorem dX6_mixSociety_22 : decode cX6_mixSociety 22 = .ok (.invokestatic 347, 3) := by decide +kernel
theorem dX6_mixSociety_25 : decode cX6_mixSociety 25 = .ok (.lstore 4, 2) := by decide +kernel
theorem dX6_mixSociety_27 : decode cX6_mixSociety 27 = .ok (.iinc 6 1, 3) := by decide +kernel
theorem dX6_mixSociety_30 : decode cX6_mixSociety 30 = .ok (.goto (-24), 3) := by decide +kernel
theorem dX6_mixSociety_33 : decode cX6_mixSociety 33 = .ok (.lload 4, 2) := by decide +kernel
theorem dX6_mixSociety_35 : decode cX6_mixSociety 35 = .ok (.aload_n 0, 1) := by decide +kernel
theorem dX6_mixSociety_36 : decode cX6_mixSociety 36 = .ok (.iload_n 3, 1) := by decide +kernel
theorem dX6_mixSociety_37 : decode cX6_mixSociety 37 = .ok (.invokevirtual 400, 3) := by decide +kernel
theorem dX6_mixSociety_40 : decode cX6_mixSociety 40 = .ok (.invokestatic 347, 3) := by decide +kernel
theorem dX6_mixSociety_43 : decode cX6_mixSociety 43 = .ok (.lreturn, 1) := by decide +kernel
theorem dX6_mixField_0 : decode cX6_mixField 0 = .ok (.lload_n 1, 1) := by decide +kernel
theorem dX6_mixField_1 : decode cX6_mixField 1 = .ok (.lstore 4, 2) := by decide +kernel
theorem dX6_mixField_3 : decode cX6_mixField 3 = .ok (.iconst 0, 1) := by decide +kernel
theorem dX6_mixField_4 : decode cX6_mixField 4 = .ok (.istore 6, 2) := by decide +kernel
theorem dX6_mixField_6 : decode cX6_mixField 6 = .ok (.iload 6, 2) := by decide +kernel
theorem dX6_mixField_8 : decode cX6_mixField 8 = .ok (.bipush 13, 2) := by decide +kernel
theorem dX6_mixField_10 : decode cX6_mixField 10 = .ok (.if_icmp .gt 23, 3) := by decide +kernel
theorem dX6_mixField_13 : decode cX6_mixField 13 = .ok (.lload 4, 2) := by decide +kernel
theorem dX6_mixField_15 : decode cX6_mixField 15 = .ok (.aload_n 0, 1) := by decide +kernel
theorem dX6_mixField_16 : decode cX6_mixField 16 = .ok (.iload_n 3, 1) := by decide +kernel
theorem dX6_mixField_17 : decode cX6_mixField 17 = .ok (.iload 6, 2) := by decide +kernel
theorem dX6_mixField_19 : decode cX6_mixField 19 = .ok (.invokevirtual 385, 3) := by decide +kernel
theorem dX6_mixField_22 : decode cX6_mixField 22 = .ok (.invokestatic 347, 3) := by decide +kernel
theorem dX6_mixField_25 : decode cX6_mixField 25 = .ok (.lstore 4, 2) := by decide +kernel
theorem dX6_mixField_27 : decode cX6_mixField 27 = .ok (.iinc 6 1, 3) := by decide +kernel
theorem dX6_mixField_30 : decode cX6_mixField 30 = .ok (.goto (-24), 3) := by decide +kernel
theorem dX6_mixField_33 : decode cX6_mixField 33 = .ok (.iconst 0, 1) := by decide +kernel
theorem dX6_mixField_34 : decode cX6_mixField 34 = .ok (.istore 6, 2) := by decide +kernel
theorem dX6_mixField_36 : decode cX6_mixField 36 = .ok (.iload 6, 2) := by decide +kernel
theorem dX6_mixField_38 : decode cX6_mixField 38 = .ok (.iconst 3, 1) := by decide +kernel
theorem dX6_mixField_39 : decode cX6_mixField 39 = .ok (.if_icmp .gt 23, 3) := by decide +kernel
theorem dX6_mixField_42 : decode cX6_mixField 42 = .ok (.lload 4, 2) := by decide +kernel
theorem dX6_mixField_44 : decode cX6_mixField 44 = .ok (.aload_n 0, 1) := by decide +kernel
theorem dX6_mixField_45 : decode cX6_mixField 45 = .ok (.iload_n 3, 1) := by decide +kernel
theorem dX6_mixField_46 : decode cX6_mixField 46 = .ok (.iload 6, 2) := by decide +kernel
theorem dX6_mixField_48 : decode cX6_mixField 48 = .ok (.invokevirtual 388, 3) := by decide +kernel
theorem dX6_mixField_51 : decode cX6_mixField 51 = .ok (.invokestatic 347, 3) := by decide +kernel
theorem dX6_mixField_54 : decode cX6_mixField 54 = .ok (.lstore 4, 2) := by decide +kernel
theorem dX6_mixField_56 : decode cX6_mixField 56 = .ok (.iinc 6 1, 3) := by decide +kernel
theorem dX6_mixField_59 : decode cX6_mixField 59 = .ok (.goto (-23), 3) := by decide +kernel
theorem dX6_mixField_62 : decode cX6_mixField 62 = .ok (.lload 4, 2) := by decide +kernel
theorem dX6_mixField_64 : decode cX6_mixField 64 = .ok (.aload_n 0, 1) := by decide +kernel
theorem dX6_mixField_65 : decode cX6_mixField 65 = .ok (.iload_n 3, 1) := by decide +kernel
theorem dX6_mixField_66 : decode cX6_mixField 66 = .ok (.iconst 0, 1) := by decide +kernel
theorem dX6_mixField_67 : decode cX6_mixField 67 = .ok (.invokevirtual 403, 3) := by decide +kernel
theorem dX6_mixField_70 : decode cX6_mixField 70 = .ok (.invokestatic 347, 3) := by decide +kernel
theorem dX6_mixField_73 : decode cX6_mixField 73 = .ok (.lstore 4, 2) := by decide +kernel
theorem dX6_mixField_75 : decode cX6_mixField 75 = .ok (.lload 4, 2) := by decide +kernel
theorem dX6_mixField_77 : decode cX6_mixField 77 = .ok (.aload_n 0, 1) := by decide +kernel
theorem dX6_mixField_78 : decode cX6_mixField 78 = .ok (.iload_n 3, 1) := by decide +kernel
theorem dX6_mixField_79 : decode cX6_mixField 79 = .ok (.iconst 1, 1) := by decide +kernel
theorem dX6_mixField_80 : decode cX6_mixField 80 = .ok (.invokevirtual 403, 3) := by decide +kernel
theorem dX6_mixField_83 : decode cX6_mixField 83 = .ok (.invokestatic 347, 3) := by decide +kernel
theorem dX6_mixField_86 : decode cX6_mixField 86 = .ok (.lstore 4, 2) := by decide +kernel
theorem dX6_mixField_88 : decode cX6_mixField 88 = .ok (.lload 4, 2) := by decide +kernel
theorem dX6_mixField_90 : decode cX6_mixField 90 = .ok (.aload_n 0, 1) := by decide +kernel
theorem dX6_mixField_91 : decode cX6_mixField 91 = .ok (.getfield 16, 3) := by decide +kernel
theorem dX6_mixField_94 : decode cX6_mixField 94 = .ok (.iload_n 3, 1) := by decide +kernel
theorem dX6_mixField_95 : decode cX6_mixField 95 = .ok (.invokevirtual 320, 3) := by decide +kernel
theorem dX6_mixField_98 : decode cX6_mixField 98 = .ok (.invokestatic 347, 3) := by decide +kernel
theorem dX6_mixField_101 : decode cX6_mixField 101 = .ok (.lreturn, 1) := by decide +kernel
theorem dX6_mix_0 : decode cX6_mix 0 = .ok (.lload_n 0, 1) := by decide +kernel
theorem dX6_mix_1 : decode cX6_mix 1 = .ok (.ldc2_w 407, 3) := by decide +kernel
theorem dX6_mix_4 : decode cX6_mix 4 = .ok (.lmul, 1) := by decide +kernel
theorem dX6_mix_5 : decode cX6_mix 5 = .ok (.iload_n 2, 1) := by decide +kernel
theorem dX6_mix_6 : decode cX6_mix 6 = .ok (.i2l, 1) := by decide +kernel
theorem dX6_mix_7 : decode cX6_mix 7 = .ok (.ladd, 1) := by decide +kernel
theorem dX6_mix_8 : decode cX6_mix 8 = .ok (.lreturn, 1) := by decide +kernel
theorem dX6_oneIf_0 : decode cX6_oneIf 0 = .ok (.iload_n 0, 1) := by decide +kernel
theorem dX6_oneIf_1 : decode cX6_oneIf 1 = .ok (.ifCond .eq 7, 3) := by decide +kernel
theorem dX6_oneIf_4 : decode cX6_oneIf 4 = .ok (.iconst 1, 1) := by decide +kernel
theorem dX6_oneIf_5 : decode cX6_oneIf 5 = .ok (.goto 4, 3) := by decide +kernel
theorem dX6_oneIf_8 : decode cX6_oneIf 8 = .ok (.iconst 0, 1) := by decide +kernel
theorem dX6_oneIf_9 : decode cX6_oneIf 9 = .ok (.ireturn, 1) := by decide +kernel
theorem dX6_numberOf_0 : decode cX6_numberOf 0 = .ok (.aload_n 0, 1) := by decide +kernel
theorem dX6_numberOf_1 : decode cX6_numberOf 1 = .ok (.ifnonnull 7, 3) := by decide +kernel
theorem dX6_numberOf_4 : decode cX6_numberOf 4 = .ok (.iconst (-1), 1) := by decide +kernel
theorem dX6_numberOf_5 : decode cX6_numberOf 5 = .ok (.goto 7, 3) := by decide +kernel
theorem dX6_numberOf_8 : decode cX6_numberOf 8 = .ok (.aload_n 0, 1) := by decide +kernel
theorem dX6_numberOf_9 : decode cX6_numberOf 9 = .ok (.getfield 161, 3) := by decide +kernel
theorem dX6_numberOf_12 : decode cX6_numberOf 12 = .ok (.ireturn, 1) := by decide +kernel
theorem dX6_isWithin_0 : decode cX6_isWithin 0 = .ok (.iload_n 0, 1) := by decide +kernel
theorem dX6_isWithin_1 : decode cX6_isWithin 1 = .ok (.iload_n 1, 1) := by decide +kernel
theorem dX6_isWithin_2 : decode cX6_isWithin 2 = .ok (.if_icmp .lt 12, 3) := by decide +kernel
theorem dX6_isWithin_5 : decode cX6_isWithin 5 = .ok (.iload_n 0, 1) := by decide +kernel
theorem dX6_isWithin_6 : decode cX6_isWithin 6 = .ok (.iload_n 2, 1) := by decide +kernel
theorem dX6_isWithin_7 : decode cX6_isWithin 7 = .ok (.if_icmp .gt 7, 3) := by decide +kernel
theorem dX6_isWithin_10 : decode cX6_isWithin 10 = .ok (.iconst 1, 1) := by decide +kernel
theorem dX6_isWithin_11 : decode cX6_isWithin 11 = .ok (.goto 4, 3) := by decide +kernel
theorem dX6_isWithin_14 : decode cX6_isWithin 14 = .ok (.iconst 0, 1) := by decide +kernel
theorem dX6_isWithin_15 : decode cX6_isWithin 15 = .ok (.ireturn, 1) := by decide +kernel
theorem dX6_isOnTheStalk_0 : decode cX6_isOnTheStalk 0 = .ok (.iload_n 0, 1) := by decide +kernel
theorem dX6_isOnTheStalk_1 : decode cX6_isOnTheStalk 1 = .ok (.iconst 2, 1) := by decide +kernel
theorem dX6_isOnTheStalk_2 : decode cX6_isOnTheStalk 2 = .ok (.if_icmp .lt 12, 3) := by decide +kernel
theorem dX6_isOnTheStalk_5 : decode cX6_isOnTheStalk 5 = .ok (.iload_n 0, 1) := by decide +kernel
theorem dX6_isOnTheStalk_6 : decode cX6_isOnTheStalk 6 = .ok (.iconst 4, 1) := by decide +kernel
theorem dX6_isOnTheStalk_7 : decode cX6_isOnTheStalk 7 = .ok (.if_icmp .gt 7, 3) := by decide +kernel
theorem dX6_isOnTheStalk_10 : decode cX6_isOnTheStalk 10 = .ok (.iconst 1, 1) := by decide +kernel
theorem dX6_isOnTheStalk_11 : decode cX6_isOnTheStalk 11 = .ok (.goto 4, 3) := by decide +kernel
theorem dX6_isOnTheStalk_14 : decode cX6_isOnTheStalk 14 = .ok (.iconst 0, 1) := by decide +kernel
theorem dX6_isOnTheStalk_15 : decode cX6_isOnTheStalk 15 = .ok (.ireturn, 1) := by decide +kernel
theorem dX6_inRow_0 : decode cX6_inRow 0 = .ok (.iload_n 1, 1) := by decide +kernel
theorem dX6_inRow_1 : decode cX6_inRow 1 = .ok (.ifCond .lt 15, 3) := by decide +kernel
theorem dX6_inRow_4 : decode cX6_inRow 4 = .ok (.iload_n 1, 1) := by decide +kernel
theorem dX6_inRow_5 : decode cX6_inRow 5 = .ok (.aload_n 0, 1) := by decide +kernel
theorem dX6_inRow_6 : decode cX6_inRow 6 = .ok (.arraylength, 1) := by decide +kernel
theorem dX6_inRow_7 : decode cX6_inRow 7 = .ok (.if_icmp .ge 9, 3) := by decide +kernel
theorem dX6_inRow_10 : decode cX6_inRow 10 = .ok (.aload_n 0, 1) := by decide +kernel
theorem dX6_inRow_11 : decode cX6_inRow 11 = .ok (.iload_n 1, 1) := by decide +kernel
theorem dX6_inRow_12 : decode cX6_inRow 12 = .ok (.iaload, 1) := by decide +kernel
theorem dX6_inRow_13 : decode cX6_inRow 13 = .ok (.goto 4, 3) := by decide +kernel
theorem dX6_inRow_16 : decode cX6_inRow 16 = .ok (.iconst 0, 1) := by decide +kernel
theorem dX6_inRow_17 : decode cX6_inRow 17 = .ok (.ireturn, 1) := by decide +kernel
theorem dX7_init_0 : decode cX7_init 0 = .ok (.aload_n 0, 1) := by decide +kernel
theorem dX7_init_1 : decode cX7_init 1 = .ok (.invokespecial 3, 3) := by decide +kernel
theorem dX7_init_4 : decode cX7_init 4 = .ok (.aload_n 0, 1) := by decide +kernel
theorem dX7_init_5 : decode cX7_init 5 = .ok (.bipush 11, 2) := by decide +kernel
theorem dX7_init_7 : decode cX7_init 7 = .ok (.newarray .int, 2) := by decide +kernel
theorem dX7_init_9 : decode cX7_init 9 = .ok (.putfield 9, 3) := by decide +kernel
theorem dX7_init_12 : decode cX7_init 12 = .ok (.aload_n 0, 1) := by decide +kernel
theorem dX7_init_13 : decode cX7_init 13 = .ok (.bipush 12, 2) := by decide +kernel
theorem dX7_init_15 : decode cX7_init 15 = .ok (.newarray .int, 2) := by decide +kernel
theorem dX7_init_17 : decode cX7_init 17 = .ok (.putfield 15, 3) := by decide +kernel
theorem dX7_init_20 : decode cX7_init 20 = .ok (.aload_n 0, 1) := by decide +kernel
theorem dX7_init_21 : decode cX7_init 21 = .ok (.bipush 12, 2) := by decide +kernel
theorem dX7_init_23 : decode cX7_init 23 = .ok (.newarray .int, 2) := by decide +kernel
theorem dX7_init_25 : decode cX7_init 25 = .ok (.putfield 18, 3) := by decide +kernel
theorem dX7_init_28 : decode cX7_init 28 = .ok (.aload_n 0, 1) := by decide +kernel
theorem dX7_init_29 : decode cX7_init 29 = .ok (.iload_n 1, 1) := by decide +kernel
theorem dX7_init_30 : decode cX7_init 30 = .ok (.bipush 10, 2) := by decide +kernel
theorem dX7_init_32 : decode cX7_init 32 = .ok (.multianewarray 21 2, 4) := by decide +kernel
theorem dX7_init_36 : decode cX7_init 36 = .ok (.putfield 23, 3) := by decide +kernel
theorem dX7_init_39 : decode cX7_init 39 = .ok (.aload_n 0, 1) := by decide +kernel
theorem dX7_init_40 : decode cX7_init 40 = .ok (.iload_n 2, 1) := by decide +kernel
theorem dX7_init_41 : decode cX7_init 41 = .ok (.bipush 22, 2) := by decide +kernel
theorem dX7_init_43 : decode cX7_init 43 = .ok (.multianewarray 21 2, 4) := by decide +kernel
theorem dX7_init_47 : decode cX7_init 47 = .ok (.putfield 26, 3) := by decide +kernel
theorem dX7_init_50 : decode cX7_init 50 = .ok (.return_, 1) := by decide +kernel
theorem dX7_with_0 : decode cX7_with 0 = .ok (.new 10, 3) := by decide +kernel
theorem dX7_with_3 : decode cX7_with 3 = .ok (.dup, 1) := by decide +kernel
theorem dX7_with_4 : decode cX7_with 4 = .ok (.aload_n 0, 1) := by decide +kernel
theorem dX7_with_5 : decode cX7_with 5 = .ok (.getfield 23, 3) := by decide +kernel
theorem dX7_with_8 : decode cX7_with 8 = .ok (.arraylength, 1) := by decide +kernel
theorem dX7_with_9 : decode cX7_with 9 = .ok (.iload_n 1, 1) := by decide +kernel
theorem dX7_with_10 : decode cX7_with 10 = .ok (.iadd, 1) := by decide +kernel
theorem dX7_with_11 : decode cX7_with 11 = .ok (.aload_n 0, 1) := by decide +kernel
theorem dX7_with_12 : decode cX7_with 12 = .ok (.getfield 26, 3) := by decide +kernel
theorem dX7_with_15 : decode cX7_with 15 = .ok (.arraylength, 1) := by decide +kernel
theorem dX7_with_16 : decode cX7_with 16 = .ok (.iload_n 2, 1) := by decide +kernel
theorem dX7_with_17 : decode cX7_with 17 = .ok (.iadd, 1) := by decide +kernel
theorem dX7_with_18 : decode cX7_with 18 = .ok (.invokespecial 29, 3) := by decide +kernel
theorem dX7_with_21 : decode cX7_with 21 = .ok (.astore_n 3, 1) := by decide +kernel
theorem dX7_with_22 : decode cX7_with 22 = .ok (.iconst 0, 1) := by decide +kernel
theorem dX7_with_23 : decode cX7_with 23 = .ok (.istore 4, 2) := by decide +kernel
theorem dX7_with_25 : decode cX7_with 25 = .ok (.iload 4, 2) := by decide +kernel
theorem dX7_with_27 : decode cX7_with 27 = .ok (.aload_n 0, 1) := by decide +kernel
theorem dX7_with_28 : decode cX7_with 28 = .ok (.getfield 23, 3) := by decide +kernel
theorem dX7_with_31 : decode cX7_with 31 = .ok (.arraylength, 1) := by decide +kernel
theorem dX7_with_32 : decode cX7_with 32 = .ok (.if_icmp .ge 30, 3) := by decide +kernel
theorem dX7_with_35 : decode cX7_with 35 = .ok (.aload_n 0, 1) := by decide +kernel
theorem dX7_with_36 : decode cX7_with 36 = .ok (.getfield 23, 3) := by decide +kernel
theorem dX7_with_39 : decode cX7_with 39 = .ok (.iload 4, 2) := by decide +kernel
theorem dX7_with_41 : decode cX7_with 41 = .ok (.aaload, 1) := by decide +kernel
theorem dX7_with_42 : decode cX7_with 42 = .ok (.iconst 0, 1) := by decide +kernel
theorem dX7_with_43 : decode cX7_with 43 = .ok (.aload_n 3, 1) := by decide +kernel
theorem dX7_with_44 : decode cX7_with 44 = .ok (.getfield 23, 3) := by decide +kernel
theorem dX7_with_47 : decode cX7_with 47 = .ok (.iload 4, 2) := by decide +kernel
theorem dX7_with_49 : decode cX7_with 49 = .ok (.aaload, 1) := by decide +kernel
theorem dX7_with_50 : decode cX7_with 50 = .ok (.iconst 0, 1) := by decide +kernel
theorem dX7_with_51 : decode cX7_with 51 = .ok (.bipush 10, 2) := by decide +kernel
theorem dX7_with_53 : decode cX7_with 53 = .ok (.invokestatic 32, 3) := by decide +kernel
theorem dX7_with_56 : decode cX7_with 56 = .ok (.iinc 4 1, 3) := by decide +kernel
theorem dX7_with_59 : decode cX7_with 59 = .ok (.goto (-34), 3) := by decide +kernel
theorem dX7_with_62 : decode cX7_with 62 = .ok (.iconst 0, 1) := by decide +kernel
theorem dX7_with_63 : decode cX7_with 63 = .ok (.istore 4, 2) := by decide +kernel
theorem dX7_with_65 : decode cX7_with 65 = .ok (.iload 4, 2) := by decide +kernel
theorem dX7_with_67 : decode cX7_with 67 = .ok (.aload_n 0, 1) := by decide +kernel
theorem dX7_with_68 : decode cX7_with 68 = .ok (.getfield 26, 3) := by decide +kernel
theorem dX7_with_71 : decode cX7_with 71 = .ok (.arraylength, 1) := by decide +kernel
theorem dX7_with_72 : decode cX7_with 72 = .ok (.if_icmp .ge 30, 3) := by decide +kernel
theorem dX7_with_75 : decode cX7_with 75 = .ok (.aload_n 0, 1) := by decide +kernel
theorem dX7_with_76 : decode cX7_with 76 = .ok (.getfield 26, 3) := by decide +kernel
theorem dX7_with_79 : decode cX7_with 79 = .ok (.iload 4, 2) := by decide +kernel
theorem dX7_with_81 : decode cX7_with 81 = .ok (.aaload, 1) := by decide +kernel
theorem dX7_with_82 : decode cX7_with 82 = .ok (.iconst 0, 1) := by decide +kernel
theorem dX7_with_83 : decode cX7_with 83 = .ok (.aload_n 3, 1) := by decide +kernel
theorem dX7_with_84 : decode cX7_with 84 = .ok (.getfield 26, 3) := by decide +kernel
theorem dX7_with_87 : decode cX7_with 87 = .ok (.iload 4, 2) := by decide +kernel
theorem dX7_with_89 : decode cX7_with 89 = .ok (.aaload, 1) := by decide +kernel
theorem dX7_with_90 : decode cX7_with 90 = .ok (.iconst 0, 1) := by decide +kernel
theorem dX7_with_91 : decode cX7_with 91 = .ok (.bipush 22, 2) := by decide +kernel
theorem dX7_with_93 : decode cX7_with 93 = .ok (.invokestatic 32, 3) := by decide +kernel
theorem dX7_with_96 : decode cX7_with 96 = .ok (.iinc 4 1, 3) := by decide +kernel
theorem dX7_with_99 : decode cX7_with 99 = .ok (.goto (-34), 3) := by decide +kernel
theorem dX7_with_102 : decode cX7_with 102 = .ok (.aload_n 0, 1) := by decide +kernel
theorem dX7_with_103 : decode cX7_with 103 = .ok (.getfield 9, 3) := by decide +kernel
theorem dX7_with_106 : decode cX7_with 106 = .ok (.iconst 0, 1) := by decide +kernel
theorem dX7_with_107 : decode cX7_with 107 = .ok (.aload_n 3, 1) := by decide +kernel
theorem dX7_with_108 : decode cX7_with 108 = .ok (.getfield 9, 3) := by decide +kernel
theorem dX7_with_111 : decode cX7_with 111 = .ok (.iconst 0, 1) := by decide +kernel
theorem dX7_with_112 : decode cX7_with 112 = .ok (.bipush 11, 2) := by decide +kernel
theorem dX7_with_114 : decode cX7_with 114 = .ok (.invokestatic 32, 3) := by decide +kernel
theorem dX7_with_117 : decode cX7_with 117 = .ok (.aload_n 3, 1) := by decide +kernel
theorem dX7_with_118 : decode cX7_with 118 = .ok (.areturn, 1) := by decide +kernel
theorem dX7_isOpen_0 : decode cX7_isOpen 0 = .ok (.aload_n 0, 1) := by decide +kernel
theorem dX7_isOpen_1 : decode cX7_isOpen 1 = .ok (.getfield 9, 3) := by decide +kernel
theorem dX7_isOpen_4 : decode cX7_isOpen 4 = .ok (.iconst 0, 1) := by decide +kernel
theorem dX7_isOpen_5 : decode cX7_isOpen 5 = .ok (.iaload, 1) := by decide +kernel
theorem dX7_isOpen_6 : decode cX7_isOpen 6 = .ok (.sipush 210, 3) := by decide +kernel
theorem dX7_isOpen_9 : decode cX7_isOpen 9 = .ok (.irem, 1) := by decide +kernel
theorem dX7_isOpen_10 : decode cX7_isOpen 10 = .ok (.aload_n 0, 1) := by decide +kernel
theorem dX7_isOpen_11 : decode cX7_isOpen 11 = .ok (.getfield 23, 3) := by decide +kernel
theorem dX7_isOpen_14 : decode cX7_isOpen 14 = .ok (.iload_n 1, 1) := by decide +kernel
theorem dX7_isOpen_15 : decode cX7_isOpen 15 = .ok (.aaload, 1) := by decide +kernel
theorem dX7_isOpen_16 : decode cX7_isOpen 16 = .ok (.iconst 2, 1) := by decide +kernel
theorem dX7_isOpen_17 : decode cX7_isOpen 17 = .ok (.iaload, 1) := by decide +kernel
theorem dX7_isOpen_18 : decode cX7_isOpen 18 = .ok (.isub, 1) := by decide +kernel
theorem dX7_isOpen_19 : decode cX7_isOpen 19 = .ok (.sipush 210, 3) := by decide +kernel
theorem dX7_isOpen_22 : decode cX7_isOpen 22 = .ok (.iadd, 1) := by decide +kernel
theorem dX7_isOpen_23 : decode cX7_isOpen 23 = .ok (.sipush 210, 3) := by decide +kernel
theorem dX7_isOpen_26 : decode cX7_isOpen 26 = .ok (.irem, 1) := by decide +kernel
theorem dX7_isOpen_27 : decode cX7_isOpen 27 = .ok (.istore_n 2, 1) := by decide +kernel
theorem dX7_isOpen_28 : decode cX7_isOpen 28 = .ok (.iload_n 2, 1) := by decide +kernel
theorem dX7_isOpen_29 : decode cX7_isOpen 29 = .ok (.aload_n 0, 1) := by decide +kernel
theorem dX7_isOpen_30 : decode cX7_isOpen 30 = .ok (.getfield 23, 3) := by decide +kernel
theorem dX7_isOpen_33 : decode cX7_isOpen 33 = .ok (.iload_n 1, 1) := by decide +kernel
theorem dX7_isOpen_34 : decode cX7_isOpen 34 = .ok (.aaload, 1) := by decide +kernel
theorem dX7_isOpen_35 : decode cX7_isOpen 35 = .ok (.iconst 3, 1) := by decide +kernel
theorem dX7_isOpen_36 : decode cX7_isOpen 36 = .ok (.iaload, 1) := by decide +kernel
theorem dX7_isOpen_37 : decode cX7_isOpen 37 = .ok (.if_icmp .ge 7, 3) := by decide +kernel
theorem dX7_isOpen_40 : decode cX7_isOpen 40 = .ok (.iconst 1, 1) := by decide +kernel
theorem dX7_isOpen_41 : decode cX7_isOpen 41 = .ok (.goto 4, 3) := by decide +kernel
theorem dX7_isOpen_44 : decode cX7_isOpen 44 = .ok (.iconst 0, 1) := by decide +kernel
theorem dX7_isOpen_45 : decode cX7_isOpen 45 = .ok (.ireturn, 1) := by decide +kernel
theorem dX7_takes_0 : decode cX7_takes 0 = .ok (.aload_n 0, 1) := by decide +kernel
theorem dX7_takes_1 : decode cX7_takes 1 = .ok (.getfield 26, 3) := by decide +kernel
theorem dX7_takes_4 : decode cX7_takes 4 = .ok (.iload_n 2, 1) := by decide +kernel
theorem dX7_takes_5 : decode cX7_takes 5 = .ok (.aaload, 1) := by decide +kernel
theorem dX7_takes_6 : decode cX7_takes 6 = .ok (.iconst 0, 1) := by decide +kernel
theorem dX7_takes_7 : decode cX7_takes 7 = .ok (.iaload, 1) := by decide +kernel
theorem dX7_takes_8 : decode cX7_takes 8 = .ok (.iload_n 1, 1) := by decide +kernel
theorem dX7_takes_9 : decode cX7_takes 9 = .ok (.if_icmp .ne 32, 3) := by decide +kernel
theorem dX7_takes_12 : decode cX7_takes 12 = .ok (.aload_n 0, 1) := by decide +kernel
theorem dX7_takes_13 : decode cX7_takes 13 = .ok (.getfield 26, 3) := by decide +kernel
theorem dX7_takes_16 : decode cX7_takes 16 = .ok (.iload_n 2, 1) := by decide +kernel
theorem dX7_takes_17 : decode cX7_takes 17 = .ok (.aaload, 1) := by decide +kernel
theorem dX7_takes_18 : decode cX7_takes 18 = .ok (.bipush 12, 2) := by decide +kernel
theorem dX7_takes_20 : decode cX7_takes 20 = .ok (.iaload, 1) := by decide +kernel
theorem dX7_takes_21 : decode cX7_takes 21 = .ok (.iconst 1, 1) := by decide +kernel
theorem dX7_takes_22 : decode cX7_takes 22 = .ok (.if_icmp .ne 19, 3) := by decide +kernel
theorem dX7_takes_25 : decode cX7_takes 25 = .ok (.aload_n 0, 1) := by decide +kernel
theorem dX7_takes_26 : decode cX7_takes 26 = .ok (.getfield 26, 3) := by decide +kernel
theorem dX7_takes_29 : decode cX7_takes 29 = .ok (.iload_n 2, 1) := by decide +kernel
theorem dX7_takes_30 : decode cX7_takes 30 = .ok (.aaload, 1) := by decide +kernel
theorem dX7_takes_31 : decode cX7_takes 31 = .ok (.bipush 17, 2) := by decide +kernel
theorem dX7_takes_33 : decode cX7_takes 33 = .ok (.iaload, 1) := by decide +kernel
theorem dX7_takes_34 : decode cX7_takes 34 = .ok (.ifCond .lt 7, 3) := by decide +kernel
theorem dX7_takes_37 : decode cX7_takes 37 = .ok (.iconst 1, 1) := by decide +kernel
theorem dX7_takes_38 : decode cX7_takes 38 = .ok (.goto 4, 3) := by decide +kernel
theorem dX7_takes_41 : decode cX7_takes 41 = .ok (.iconst 0, 1) := by decide +kernel
theorem dX7_takes_42 : decode cX7_takes 42 = .ok (.ireturn, 1) := by decide +kernel
theorem dX7_next_0 : decode cX7_next 0 = .ok (.iconst (-1), 1) := by decide +kernel
theorem dX7_next_1 : decode cX7_next 1 = .ok (.istore_n 2, 1) := by decide +kernel
theorem dX7_next_2 : decode cX7_next 2 = .ok (.iconst (-1), 1) := by decide +kernel
theorem dX7_next_3 : decode cX7_next 3 = .ok (.istore_n 3, 1) := by decide +kernel
theorem dX7_next_4 : decode cX7_next 4 = .ok (.aload_n 0, 1) := by decide +kernel
theorem dX7_next_5 : decode cX7_next 5 = .ok (.getfield 26, 3) := by decide +kernel
theorem dX7_next_8 : decode cX7_next 8 = .ok (.arraylength, 1) := by decide +kernel
theorem dX7_next_9 : decode cX7_next 9 = .ok (.iconst 1, 1) := by decide +kernel
theorem dX7_next_10 : decode cX7_next 10 = .ok (.isub, 1) := by decide +kernel
theorem dX7_next_11 : decode cX7_next 11 = .ok (.istore 4, 2) := by decide +kernel
theorem dX7_next_13 : decode cX7_next 13 = .ok (.iload 4, 2) := by decide +kernel
theorem dX7_next_15 : decode cX7_next 15 = .ok (.ifCond .lt 42, 3) := by decide +kernel
theorem dX7_next_18 : decode cX7_next 18 = .ok (.aload_n 0, 1) := by decide +kernel
theorem dX7_next_19 : decode cX7_next 19 = .ok (.iload_n 1, 1) := by decide +kernel
theorem dX7_next_20 : decode cX7_next 20 = .ok (.iload 4, 2) := by decide +kernel
theorem dX7_next_22 : decode cX7_next 22 = .ok (.invokevirtual 38, 3) := by decide +kernel
theorem dX7_next_25 : decode cX7_next 25 = .ok (.ifCond .ne 6, 3) := by decide +kernel
theorem dX7_next_28 : decode cX7_next 28 = .ok (.goto 23, 3) := by decide +kernel
theorem dX7_next_31 : decode cX7_next 31 = .ok (.iload 4, 2) := by decide +kernel
theorem dX7_next_33 : decode cX7_next 33 = .ok (.istore_n 2, 1) := by decide +kernel
theorem dX7_next_34 : decode cX7_next 34 = .ok (.iload 4, 2) := by decide +kernel
theorem dX7_next_36 : decode cX7_next 36 = .ok (.aload_n 0, 1) := by decide +kernel
theorem dX7_next_37 : decode cX7_next 37 = .ok (.getfield 23, 3) := by decide +kernel
theorem dX7_next_40 : decode cX7_next 40 = .ok (.iload_n 1, 1) := by decide +kernel
theorem dX7_next_41 : decode cX7_next 41 = .ok (.aaload, 1) := by decide +kernel
theorem dX7_next_42 : decode cX7_next 42 = .ok (.bipush 7, 2) := by decide +kernel
theorem dX7_next_44 : decode cX7_next 44 = .ok (.iaload, 1) := by decide +kernel
theorem dX7_next_45 : decode cX7_next 45 = .ok (.if_icmp .le 6, 3) := by decide +kernel
theorem dX7_next_48 : decode cX7_next 48 = .ok (.iload 4, 2) := by decide +kernel
theorem dX7_next_50 : decode cX7_next 50 = .ok (.istore_n 3, 1) := by decide +kernel
theorem dX7_next_51 : decode cX7_next 51 = .ok (.iinc 4 (-1), 3) := by decide +kernel
theorem dX7_next_54 : decode cX7_next 54 = .ok (.goto (-41), 3) := by decide +kernel
theorem dX7_next_57 : decode cX7_next 57 = .ok (.iload_n 3, 1) := by decide +kernel
theorem dX7_next_58 : decode cX7_next 58 = .ok (.iconst (-1), 1) := by decide +kernel
theorem dX7_next_59 : decode cX7_next 59 = .ok (.if_icmp .ne 7, 3) := by decide +kernel
theorem dX7_next_62 : decode cX7_next 62 = .ok (.iload_n 2, 1) := by decide +kernel
theorem dX7_next_63 : decode cX7_next 63 = .ok (.goto 4, 3) := by decide +kernel
theorem dX7_next_66 : decode cX7_next 66 = .ok (.iload_n 3, 1) := by decide +kernel
theorem dX7_next_67 : decode cX7_next 67 = .ok (.ireturn, 1) := by decide +kernel
theorem dX7_below_0 : decode cX7_below 0 = .ok (.iload_n 1, 1) := by decide +kernel
theorem dX7_below_1 : decode cX7_below 1 = .ok (.iconst 1, 1) := by decide +kernel
theorem dX7_below_2 : decode cX7_below 2 = .ok (.iadd, 1) := by decide +kernel
theorem dX7_below_3 : decode cX7_below 3 = .ok (.istore_n 2, 1) := by decide +kernel
theorem dX7_below_4 : decode cX7_below 4 = .ok (.iload_n 2, 1) := by decide +kernel
theorem dX7_below_5 : decode cX7_below 5 = .ok (.aload_n 0, 1) := by decide +kernel
theorem dX7_below_6 : decode cX7_below 6 = .ok (.getfield 26, 3) := by decide +kernel
theorem dX7_below_9 : decode cX7_below 9 = .ok (.arraylength, 1) := by decide +kernel
theorem dX7_below_10 : decode cX7_below 10 = .ok (.if_icmp .ge 28, 3) := by decide +kernel
theorem dX7_below_13 : decode cX7_below 13 = .ok (.aload_n 0, 1) := by decide +kernel
theorem dX7_below_14 : decode cX7_below 14 = .ok (.getfield 26, 3) := by decide +kernel
theorem dX7_below_17 : decode cX7_below 17 = .ok (.iload_n 2, 1) := by decide +kernel
theorem dX7_below_18 : decode cX7_below 18 = .ok (.aaload, 1) := by decide +kernel
theorem dX7_below_19 : decode cX7_below 19 = .ok (.iconst 0, 1) := by decide +kernel
theorem dX7_below_20 : decode cX7_below 20 = .ok (.iaload, 1) := by decide +kernel
theorem dX7_below_21 : decode cX7_below 21 = .ok (.aload_n 0, 1) := by decide +kernel
theorem dX7_below_22 : decode cX7_below 22 = .ok (.getfield 26, 3) := by decide +kernel
theorem dX7_below_25 : decode cX7_below 25 = .ok (.iload_n 1, 1) := by decide +kernel
theorem dX7_below_26 : decode cX7_below 26 = .ok (.aaload, 1) := by decide +kernel
theorem dX7_below_27 : decode cX7_below 27 = .ok (.iconst 0, 1) := by decide +kernel
theorem dX7_below_28 : decode cX7_below 28 = .ok (.iaload, 1) := by decide +kernel
theorem dX7_below_29 : decode cX7_below 29 = .ok (.if_icmp .eq 9, 3) := by decide +kernel
theorem dX7_below_32 : decode cX7_below 32 = .ok (.iinc 2 1, 3) := by decide +kernel
theorem dX7_below_35 : decode cX7_below 35 = .ok (.goto (-31), 3) := by decide +kernel
theorem dX7_below_38 : decode cX7_below 38 = .ok (.iload_n 2, 1) := by decide +kernel
theorem dX7_below_39 : decode cX7_below 39 = .ok (.aload_n 0, 1) := by decide +kernel
theorem dX7_below_40 : decode cX7_below 40 = .ok (.getfield 26, 3) := by decide +kernel
theorem dX7_below_43 : decode cX7_below 43 = .ok (.arraylength, 1) := by decide +kernel
theorem dX7_below_44 : decode cX7_below 44 = .ok (.if_icmp .ge 7, 3) := by decide +kernel
theorem dX7_below_47 : decode cX7_below 47 = .ok (.iload_n 2, 1) := by decide +kernel
theorem dX7_below_48 : decode cX7_below 48 = .ok (.goto 4, 3) := by decide +kernel
theorem dX7_below_51 : decode cX7_below 51 = .ok (.iconst (-1), 1) := by decide +kernel
theorem dX7_below_52 : decode cX7_below 52 = .ok (.ireturn, 1) := by decide +kernel
theorem dX7_yield_0 : decode cX7_yield 0 = .ok (.aload_n 1, 1) := by decide +kernel
theorem dX7_yield_1 : decode cX7_yield 1 = .ok (.iconst 4, 1) := by decide +kernel
theorem dX7_yield_2 : decode cX7_yield 2 = .ok (.iaload, 1) := by decide +kernel
theorem dX7_yield_3 : decode cX7_yield 3 = .ok (.iconst 5, 1) := by decide +kernel
theorem dX7_yield_4 : decode cX7_yield 4 = .ok (.if_icmp .eq 5, 3) := by decide +kernel
theorem dX7_yield_7 : decode cX7_yield 7 = .ok (.iconst 0, 1) := by decide +kernel
theorem dX7_yield_8 : decode cX7_yield 8 = .ok (.ireturn, 1) := by decide +kernel
theorem dX7_yield_9 : decode cX7_yield 9 = .ok (.bipush 40, 2) := by decide +kernel
theorem dX7_yield_11 : decode cX7_yield 11 = .ok (.bipush 20, 2) := by decide +kernel
theorem dX7_yield_13 : decode cX7_yield 13 = .ok (.aload_n 1, 1) := by decide +kernel
theorem dX7_yield_14 : decode cX7_yield 14 = .ok (.iconst 5, 1) := by decide +kernel
theorem dX7_yield_15 : decode cX7_yield 15 = .ok (.iaload, 1) := by decide +kernel
theorem dX7_yield_16 : decode cX7_yield 16 = .ok (.imul, 1) := by decide +kernel
theorem dX7_yield_17 : decode cX7_yield 17 = .ok (.iadd, 1) := by decide +kernel
theorem dX7_yield_18 : decode cX7_yield 18 = .ok (.aload_n 1, 1) := by decide +kernel
theorem dX7_yield_19 : decode cX7_yield 19 = .ok (.bipush 7, 2) := by decide +kernel
theorem dX7_yield_21 : decode cX7_yield 21 = .ok (.iaload, 1) := by decide +kernel
theorem dX7_yield_22 : decode cX7_yield 22 = .ok (.imul, 1) := by decide +kernel
theorem dX7_yield_23 : decode cX7_yield 23 = .ok (.bipush 100, 2) := by decide +kernel
theorem dX7_yield_25 : decode cX7_yield 25 = .ok (.idiv, 1) := by decide +kernel
theorem dX7_yield_26 : decode cX7_yield 26 = .ok (.istore_n 2, 1) := by decide +kernel
theorem dX7_yield_27 : decode cX7_yield 27 = .ok (.iload_n 2, 1) := by decide +kernel
theorem dX7_yield_28 : decode cX7_yield 28 = .ok (.bipush 50, 2) := by decide +kernel
theorem dX7_yield_30 : decode cX7_yield 30 = .ok (.aload_n 1, 1) := by decide +kernel
theorem dX7_yield_31 : decode cX7_yield 31 = .ok (.bipush 9, 2) := by decide +kernel
theorem dX7_yield_33 : decode cX7_yield 33 = .ok (.iaload, 1) := by decide +kernel
theorem dX7_yield_34 : decode cX7_yield 34 = .ok (.iadd, 1) := by decide +kernel
theorem dX7_yield_35 : decode cX7_yield 35 = .ok (.imul, 1) := by decide +kernel
theorem dX7_yield_36 : decode cX7_yield 36 = .ok (.bipush 100, 2) := by decide +kernel
theorem dX7_yield_38 : decode cX7_yield 38 = .ok (.idiv, 1) := by decide +kernel
theorem dX7_yield_39 : decode cX7_yield 39 = .ok (.ireturn, 1) := by decide +kernel
theorem dX7_pass_0 : decode cX7_pass 0 = .ok (.aload_n 0, 1) := by decide +kernel
theorem dX7_pass_1 : decode cX7_pass 1 = .ok (.getfield 9, 3) := by decide +kernel
theorem dX7_pass_4 : decode cX7_pass 4 = .ok (.iconst 0, 1) := by decide +kernel
theorem dX7_pass_5 : decode cX7_pass 5 = .ok (.dup2, 1) := by decide +kernel
theorem dX7_pass_6 : decode cX7_pass 6 = .ok (.iaload, 1) := by decide +kernel
theorem dX7_pass_7 : decode cX7_pass 7 = .ok (.iconst 1, 1) := by decide +kernel
theorem dX7_pass_8 : decode cX7_pass 8 = .ok (.iadd, 1) := by decide +kernel
theorem dX7_pass_9 : decode cX7_pass 9 = .ok (.iastore, 1) := by decide +kernel
theorem dX7_pass_10 : decode cX7_pass 10 = .ok (.iconst 0, 1) := by decide +kernel
theorem dX7_pass_11 : decode cX7_pass 11 = .ok (.istore_n 1, 1) := by decide +kernel
theorem dX7_pass_12 : decode cX7_pass 12 = .ok (.aload_n 0, 1) := by decide +kernel
theorem dX7_pass_13 : decode cX7_pass 13 = .ok (.getfield 23, 3) := by decide +kernel
theorem dX7_pass_16 : decode cX7_pass 16 = .ok (.astore_n 2, 1) := by decide +kernel
theorem dX7_pass_17 : decode cX7_pass 17 = .ok (.aload_n 2, 1) := by decide +kernel
theorem dX7_pass_18 : decode cX7_pass 18 = .ok (.arraylength, 1) := by decide +kernel
theorem dX7_pass_19 : decode cX7_pass 19 = .ok (.istore_n 3, 1) := by decide +kernel
theorem dX7_pass_20 : decode cX7_pass 20 = .ok (.iconst 0, 1) := by decide +kernel
theorem dX7_pass_21 : decode cX7_pass 21 = .ok (.istore 4, 2) := by decide +kernel
theorem dX7_pass_23 : decode cX7_pass 23 = .ok (.iload 4, 2) := by decide +kernel
theorem dX7_pass_25 : decode cX7_pass 25 = .ok (.iload_n 3, 1) := by decide +kernel
theorem dX7_pass_26 : decode cX7_pass 26 = .ok (.if_icmp .ge 22, 3) := by decide +kernel
theorem dX7_pass_29 : decode cX7_pass 29 = .ok (.aload_n 2, 1) := by decide +kernel
theorem dX7_pass_30 : decode cX7_pass 30 = .ok (.iload 4, 2) := by decide +kernel
theorem dX7_pass_32 : decode cX7_pass 32 = .ok (.aaload, 1) := by decide +kernel
theorem dX7_pass_33 : decode cX7_pass 33 = .ok (.astore 5, 2) := by decide +kernel
theorem dX7_pass_35 : decode cX7_pass 35 = .ok (.iload_n 1, 1) := by decide +kernel
theorem dX7_pass_36 : decode cX7_pass 36 = .ok (.aload 5, 2) := by decide +kernel
theorem dX7_pass_38 : decode cX7_pass 38 = .ok (.iconst 0, 1) := by decide +kernel
theorem dX7_pass_39 : decode cX7_pass 39 = .ok (.iaload, 1) := by decide +kernel
theorem dX7_pass_40 : decode cX7_pass 40 = .ok (.iadd, 1) := by decide +kernel
theorem dX7_pass_41 : decode cX7_pass 41 = .ok (.istore_n 1, 1) := by decide +kernel
theorem dX7_pass_42 : decode cX7_pass 42 = .ok (.iinc 4 1, 3) := by decide +kernel
theorem dX7_pass_45 : decode cX7_pass 45 = .ok (.goto (-22), 3) := by decide +kernel
theorem dX7_pass_48 : decode cX7_pass 48 = .ok (.aload_n 0, 1) := by decide +kernel
theorem dX7_pass_49 : decode cX7_pass 49 = .ok (.getfield 9, 3) := by decide +kernel
theorem dX7_pass_52 : decode cX7_pass 52 = .ok (.iconst 1, 1) := by decide +kernel
theorem dX7_pass_53 : decode cX7_pass 53 = .ok (.iaload, 1) := by decide +kernel
theorem dX7_pass_54 : decode cX7_pass 54 = .ok (.aload_n 0, 1) := by decide +kernel
theorem dX7_pass_55 : decode cX7_pass 55 = .ok (.getfield 9, 3) := by decide +kernel
theorem dX7_pass_58 : decode cX7_pass 58 = .ok (.iconst 4, 1) := by decide +kernel
theorem dX7_pass_59 : decode cX7_pass 59 = .ok (.iaload, 1) := by decide +kernel
theorem dX7_pass_60 : decode cX7_pass 60 = .ok (.iadd, 1) := by decide +kernel
theorem dX7_pass_61 : decode cX7_pass 61 = .ok (.istore_n 2, 1) := by decide +kernel
theorem dX7_pass_62 : decode cX7_pass 62 = .ok (.aload_n 0, 1) := by decide +kernel
theorem dX7_pass_63 : decode cX7_pass 63 = .ok (.getfield 9, 3) := by decide +kernel
theorem dX7_pass_66 : decode cX7_pass 66 = .ok (.iconst 5, 1) := by decide +kernel
theorem dX7_pass_67 : decode cX7_pass 67 = .ok (.dup2, 1) := by decide +kernel
theorem dX7_pass_68 : decode cX7_pass 68 = .ok (.iaload, 1) := by decide +kernel
theorem dX7_pass_69 : decode cX7_pass 69 = .ok (.aload_n 0, 1) := by decide +kernel
theorem dX7_pass_70 : decode cX7_pass 70 = .ok (.getfield 9, 3) := by decide +kernel
theorem dX7_pass_73 : decode cX7_pass 73 = .ok (.iconst 1, 1) := by decide +kernel
theorem dX7_pass_74 : decode cX7_pass 74 = .ok (.iaload, 1) := by decide +kernel
theorem dX7_pass_75 : decode cX7_pass 75 = .ok (.aload_n 0, 1) := by decide +kernel
theorem dX7_pass_76 : decode cX7_pass 76 = .ok (.getfield 9, 3) := by decide +kernel
theorem dX7_pass_79 : decode cX7_pass 79 = .ok (.iconst 3, 1) := by decide +kernel
theorem dX7_pass_80 : decode cX7_pass 80 = .ok (.iaload, 1) := by decide +kernel
theorem dX7_pass_81 : decode cX7_pass 81 = .ok (.aload_n 0, 1) := by decide +kernel
theorem dX7_pass_82 : decode cX7_pass 82 = .ok (.getfield 26, 3) := by decide +kernel
theorem dX7_pass_85 : decode cX7_pass 85 = .ok (.arraylength, 1) := by decide +kernel
theorem dX7_pass_86 : decode cX7_pass 86 = .ok (.imul, 1) := by decide +kernel
theorem dX7_pass_87 : decode cX7_pass 87 = .ok (.iadd, 1) := by decide +kernel
theorem dX7_pass_88 : decode cX7_pass 88 = .ok (.iadd, 1) := by decide +kernel
theorem dX7_pass_89 : decode cX7_pass 89 = .ok (.iastore, 1) := by decide +kernel
theorem dX7_pass_90 : decode cX7_pass 90 = .ok (.aload_n 0, 1) := by decide +kernel
theorem dX7_pass_91 : decode cX7_pass 91 = .ok (.getfield 9, 3) := by decide +kernel
theorem dX7_pass_94 : decode cX7_pass 94 = .ok (.iconst 4, 1) := by decide +kernel
theorem dX7_pass_95 : decode cX7_pass 95 = .ok (.iload_n 2, 1) := by decide +kernel
theorem dX7_pass_96 : decode cX7_pass 96 = .ok (.iastore, 1) := by decide +kernel
theorem dX7_pass_97 : decode cX7_pass 97 = .ok (.aload_n 0, 1) := by decide +kernel
theorem dX7_pass_98 : decode cX7_pass 98 = .ok (.getfield 23, 3) := by decide +kernel
theorem dX7_pass_101 : decode cX7_pass 101 = .ok (.astore_n 3, 1) := by decide +kernel
theorem dX7_pass_102 : decode cX7_pass 102 = .ok (.aload_n 3, 1) := by decide +kernel
theorem dX7_pass_103 : decode cX7_pass 103 = .ok (.arraylength, 1) := by decide +kernel
theorem dX7_pass_104 : decode cX7_pass 104 = .ok (.istore 4, 2) := by decide +kernel
theorem dX7_pass_106 : decode cX7_pass 106 = .ok (.iconst 0, 1) := by decide +kernel
theorem dX7_pass_107 : decode cX7_pass 107 = .ok (.istore 5, 2) := by decide +kernel
theorem dX7_pass_109 : decode cX7_pass 109 = .ok (.iload 5, 2) := by decide +kernel
theorem dX7_pass_111 : decode cX7_pass 111 = .ok (.iload 4, 2) := by decide +kernel
theorem dX7_pass_113 : decode cX7_pass 113 = .ok (.if_icmp .ge 42, 3) := by decide +kernel
theorem dX7_pass_116 : decode cX7_pass 116 = .ok (.aload_n 3, 1) := by decide +kernel
theorem dX7_pass_117 : decode cX7_pass 117 = .ok (.iload 5, 2) := by decide +kernel
theorem dX7_pass_119 : decode cX7_pass 119 = .ok (.aaload, 1) := by decide +kernel
theorem dX7_pass_120 : decode cX7_pass 120 = .ok (.astore 6, 2) := by decide +kernel
theorem dX7_pass_122 : decode cX7_pass 122 = .ok (.aload 6, 2) := by decide +kernel
theorem dX7_pass_124 : decode cX7_pass 124 = .ok (.bipush 9, 2) := by decide +kernel
theorem dX7_pass_126 : decode cX7_pass 126 = .ok (.iload_n 2, 1) := by decide +kernel
theorem dX7_pass_127 : decode cX7_pass 127 = .ok (.aload 6, 2) := by decide +kernel
theorem dX7_pass_129 : decode cX7_pass 129 = .ok (.iconst 0, 1) := by decide +kernel
theorem dX7_pass_130 : decode cX7_pass 130 = .ok (.iaload, 1) := by decide +kernel
theorem dX7_pass_131 : decode cX7_pass 131 = .ok (.imul, 1) := by decide +kernel
theorem dX7_pass_132 : decode cX7_pass 132 = .ok (.iload_n 1, 1) := by decide +kernel
theorem dX7_pass_133 : decode cX7_pass 133 = .ok (.idiv, 1) := by decide +kernel
theorem dX7_pass_134 : decode cX7_pass 134 = .ok (.iastore, 1) := by decide +kernel
theorem dX7_pass_135 : decode cX7_pass 135 = .ok (.aload_n 0, 1) := by decide +kernel
theorem dX7_pass_136 : decode cX7_pass 136 = .ok (.getfield 9, 3) := by decide +kernel
theorem dX7_pass_139 : decode cX7_pass 139 = .ok (.iconst 4, 1) := by decide +kernel
theorem dX7_pass_140 : decode cX7_pass 140 = .ok (.dup2, 1) := by decide +kernel
theorem dX7_pass_141 : decode cX7_pass 141 = .ok (.iaload, 1) := by decide +kernel
theorem dX7_pass_142 : decode cX7_pass 142 = .ok (.aload 6, 2) := by decide +kernel
theorem dX7_pass_144 : decode cX7_pass 144 = .ok (.bipush 9, 2) := by decide +kernel
theorem dX7_pass_146 : decode cX7_pass 146 = .ok (.iaload, 1) := by decide +kernel
theorem dX7_pass_147 : decode cX7_pass 147 = .ok (.isub, 1) := by decide +kernel
theorem dX7_pass_148 : decode cX7_pass 148 = .ok (.iastore, 1) := by decide +kernel
theorem dX7_pass_149 : decode cX7_pass 149 = .ok (.iinc 5 1, 3) := by decide +kernel
theorem dX7_pass_152 : decode cX7_pass 152 = .ok (.goto (-43), 3) := by decide +kernel
theorem dX7_pass_155 : decode cX7_pass 155 = .ok (.aload_n 0, 1) := by decide +kernel
theorem dX7_pass_156 : decode cX7_pass 156 = .ok (.getfield 26, 3) := by decide +kernel
theorem dX7_pass_159 : decode cX7_pass 159 = .ok (.astore_n 3, 1) := by decide +kernel
theorem dX7_pass_160 : decode cX7_pass 160 = .ok (.aload_n 3, 1) := by decide +kernel
theorem dX7_pass_161 : decode cX7_pass 161 = .ok (.arraylength, 1) := by decide +kernel
theorem dX7_pass_162 : decode cX7_pass 162 = .ok (.istore 4, 2) := by decide +kernel
theorem dX7_pass_164 : decode cX7_pass 164 = .ok (.iconst 0, 1) := by decide +kernel
theorem dX7_pass_165 : decode cX7_pass 165 = .ok (.istore 5, 2) := by decide +kernel
theorem dX7_pass_167 : decode cX7_pass 167 = .ok (.iload 5, 2) := by decide +kernel
theorem dX7_pass_169 : decode cX7_pass 169 = .ok (.iload 4, 2) := by decide +kernel
theorem dX7_pass_171 : decode cX7_pass 171 = .ok (.if_icmp .ge 21, 3) := by decide +kernel
theorem dX7_pass_174 : decode cX7_pass 174 = .ok (.aload_n 3, 1) := by decide +kernel
theorem dX7_pass_175 : decode cX7_pass 175 = .ok (.iload 5, 2) := by decide +kernel
theorem dX7_pass_177 : decode cX7_pass 177 = .ok (.aaload, 1) := by decide +kernel
theorem dX7_pass_178 : decode cX7_pass 178 = .ok (.astore 6, 2) := by decide +kernel
theorem dX7_pass_180 : decode cX7_pass 180 = .ok (.aload 6, 2) := by decide +kernel
theorem dX7_pass_182 : decode cX7_pass 182 = .ok (.bipush 11, 2) := by decide +kernel
theorem dX7_pass_184 : decode cX7_pass 184 = .ok (.iconst 0, 1) := by decide +kernel
theorem dX7_pass_185 : decode cX7_pass 185 = .ok (.iastore, 1) := by decide +kernel
theorem dX7_pass_186 : decode cX7_pass 186 = .ok (.iinc 5 1, 3) := by decide +kernel
theorem dX7_pass_189 : decode cX7_pass 189 = .ok (.goto (-22), 3) := by decide +kernel
theorem dX7_pass_192 : decode cX7_pass 192 = .ok (.iconst 0, 1) := by decide +kernel
theorem dX7_pass_193 : decode cX7_pass 193 = .ok (.istore_n 3, 1) := by decide +kernel
theorem dX7_pass_194 : decode cX7_pass 194 = .ok (.iload_n 3, 1) := by decide +kernel
theorem dX7_pass_195 : decode cX7_pass 195 = .ok (.aload_n 0, 1) := by decide +kernel
theorem dX7_pass_196 : decode cX7_pass 196 = .ok (.getfield 23, 3) := by decide +kernel
theorem dX7_pass_199 : decode cX7_pass 199 = .ok (.arraylength, 1) := by decide +kernel
theorem dX7_pass_200 : decode cX7_pass 200 = .ok (.if_icmp .ge 14, 3) := by decide +kernel
theorem dX7_pass_203 : decode cX7_pass 203 = .ok (.aload_n 0, 1) := by decide +kernel
theorem dX7_pass_204 : decode cX7_pass 204 = .ok (.iload_n 3, 1) := by decide +kernel
theorem dX7_pass_205 : decode cX7_pass 205 = .ok (.invokevirtual 42, 3) := by decide +kernel
theorem dX7_pass_208 : decode cX7_pass 208 = .ok (.iinc 3 1, 3) := by decide +kernel
theorem dX7_pass_211 : decode cX7_pass 211 = .ok (.goto (-17), 3) := by decide +kernel
theorem dX7_pass_214 : decode cX7_pass 214 = .ok (.iconst 0, 1) := by decide +kernel
theorem dX7_pass_215 : decode cX7_pass 215 = .ok (.istore_n 3, 1) := by decide +kernel
theorem dX7_pass_216 : decode cX7_pass 216 = .ok (.iload_n 3, 1) := by decide +kernel
theorem dX7_pass_217 : decode cX7_pass 217 = .ok (.aload_n 0, 1) := by decide +kernel
theorem dX7_pass_218 : decode cX7_pass 218 = .ok (.getfield 26, 3) := by decide +kernel
theorem dX7_pass_221 : decode cX7_pass 221 = .ok (.arraylength, 1) := by decide +kernel
theorem dX7_pass_222 : decode cX7_pass 222 = .ok (.if_icmp .ge 16, 3) := by decide +kernel
theorem dX7_pass_225 : decode cX7_pass 225 = .ok (.aload_n 0, 1) := by decide +kernel
theorem dX7_pass_226 : decode cX7_pass 226 = .ok (.getfield 15, 3) := by decide +kernel
theorem dX7_pass_229 : decode cX7_pass 229 = .ok (.iload_n 3, 1) := by decide +kernel
theorem dX7_pass_230 : decode cX7_pass 230 = .ok (.iconst 0, 1) := by decide +kernel
theorem dX7_pass_231 : decode cX7_pass 231 = .ok (.iastore, 1) := by decide +kernel
theorem dX7_pass_232 : decode cX7_pass 232 = .ok (.iinc 3 1, 3) := by decide +kernel
theorem dX7_pass_235 : decode cX7_pass 235 = .ok (.goto (-19), 3) := by decide +kernel
theorem dX7_pass_238 : decode cX7_pass 238 = .ok (.iconst 0, 1) := by decide +kernel
theorem dX7_pass_239 : decode cX7_pass 239 = .ok (.istore_n 3, 1) := by decide +kernel
theorem dX7_pass_240 : decode cX7_pass 240 = .ok (.iload_n 3, 1) := by decide +kernel
theorem dX7_pass_241 : decode cX7_pass 241 = .ok (.aload_n 0, 1) := by decide +kernel
theorem dX7_pass_242 : decode cX7_pass 242 = .ok (.getfield 26, 3) := by decide +kernel
theorem dX7_pass_245 : decode cX7_pass 245 = .ok (.arraylength, 1) := by decide +kernel
theorem dX7_pass_246 : decode cX7_pass 246 = .ok (.if_icmp .ge 14, 3) := by decide +kernel
theorem dX7_pass_249 : decode cX7_pass 249 = .ok (.aload_n 0, 1) := by decide +kernel
theorem dX7_pass_250 : decode cX7_pass 250 = .ok (.iload_n 3, 1) := by decide +kernel
theorem dX7_pass_251 : decode cX7_pass 251 = .ok (.invokevirtual 46, 3) := by decide +kernel
theorem dX7_pass_254 : decode cX7_pass 254 = .ok (.iinc 3 1, 3) := by decide +kernel
theorem dX7_pass_257 : decode cX7_pass 257 = .ok (.goto (-17), 3) := by decide +kernel
theorem dX7_pass_260 : decode cX7_pass 260 = .ok (.aload_n 0, 1) := by decide +kernel
theorem dX7_pass_261 : decode cX7_pass 261 = .ok (.invokevirtual 49, 3) := by decide +kernel
theorem dX7_pass_264 : decode cX7_pass 264 = .ok (.return_, 1) := by decide +kernel
theorem dX7_divide_0 : decode cX7_divide 0 = .ok (.aload_n 0, 1) := by decide +kernel
theorem dX7_divide_1 : decode cX7_divide 1 = .ok (.getfield 23, 3) := by decide +kernel
theorem dX7_divide_4 : decode cX7_divide 4 = .ok (.iload_n 1, 1) := by decide +kernel
theorem dX7_divide_5 : decode cX7_divide 5 = .ok (.aaload, 1) := by decide +kernel
theorem dX7_divide_6 : decode cX7_divide 6 = .ok (.astore_n 2, 1) := by decide +kernel
theorem dX7_divide_7 : decode cX7_divide 7 = .ok (.aload_n 2, 1) := by decide +kernel
theorem dX7_divide_8 : decode cX7_divide 8 = .ok (.bipush 9, 2) := by decide +kernel
theorem dX7_divide_10 : decode cX7_divide 10 = .ok (.iaload, 1) := by decide +kernel
theorem dX7_divide_11 : decode cX7_divide 11 = .ok (.aload_n 2, 1) := by decide +kernel
theorem dX7_divide_12 : decode cX7_divide 12 = .ok (.iconst 1, 1) := by decide +kernel
theorem dX7_divide_13 : decode cX7_divide 13 = .ok (.iaload, 1) := by decide +kernel
theorem dX7_divide_14 : decode cX7_divide 14 = .ok (.imul, 1) := by decide +kernel
theorem dX7_divide_15 : decode cX7_divide 15 = .ok (.bipush 100, 2) := by decide +kernel
theorem dX7_divide_17 : decode cX7_divide 17 = .ok (.idiv, 1) := by decide +kernel
theorem dX7_divide_18 : decode cX7_divide 18 = .ok (.istore_n 3, 1) := by decide +kernel
theorem dX7_divide_19 : decode cX7_divide 19 = .ok (.aload_n 2, 1) := by decide +kernel
theorem dX7_divide_20 : decode cX7_divide 20 = .ok (.bipush 9, 2) := by decide +kernel
theorem dX7_divide_22 : decode cX7_divide 22 = .ok (.iaload, 1) := by decide +kernel
theorem dX7_divide_23 : decode cX7_divide 23 = .ok (.iload_n 3, 1) := by decide +kernel
theorem dX7_divide_24 : decode cX7_divide 24 = .ok (.isub, 1) := by decide +kernel
theorem dX7_divide_25 : decode cX7_divide 25 = .ok (.aload_n 2, 1) := by decide +kernel
theorem dX7_divide_26 : decode cX7_divide 26 = .ok (.iconst 5, 1) := by decide +kernel
theorem dX7_divide_27 : decode cX7_divide 27 = .ok (.iaload, 1) := by decide +kernel
theorem dX7_divide_28 : decode cX7_divide 28 = .ok (.iadd, 1) := by decide +kernel
theorem dX7_divide_29 : decode cX7_divide 29 = .ok (.istore 4, 2) := by decide +kernel
theorem dX7_divide_31 : decode cX7_divide 31 = .ok (.aload_n 0, 1) := by decide +kernel
theorem dX7_divide_32 : decode cX7_divide 32 = .ok (.getfield 9, 3) := by decide +kernel
theorem dX7_divide_35 : decode cX7_divide 35 = .ok (.bipush 6, 2) := by decide +kernel
theorem dX7_divide_37 : decode cX7_divide 37 = .ok (.dup2, 1) := by decide +kernel
theorem dX7_divide_38 : decode cX7_divide 38 = .ok (.iaload, 1) := by decide +kernel
theorem dX7_divide_39 : decode cX7_divide 39 = .ok (.iload_n 3, 1) := by decide +kernel
theorem dX7_divide_40 : decode cX7_divide 40 = .ok (.iadd, 1) := by decide +kernel
theorem dX7_divide_41 : decode cX7_divide 41 = .ok (.iastore, 1) := by decide +kernel
theorem dX7_divide_42 : decode cX7_divide 42 = .ok (.aload_n 2, 1) := by decide +kernel
theorem dX7_divide_43 : decode cX7_divide 43 = .ok (.iconst 5, 1) := by decide +kernel
theorem dX7_divide_44 : decode cX7_divide 44 = .ok (.iconst 0, 1) := by decide +kernel
theorem dX7_divide_45 : decode cX7_divide 45 = .ok (.iastore, 1) := by decide +kernel
theorem dX7_divide_46 : decode cX7_divide 46 = .ok (.aload_n 0, 1) := by decide +kernel
theorem dX7_divide_47 : decode cX7_divide 47 = .ok (.iload_n 1, 1) := by decide +kernel
theorem dX7_divide_48 : decode cX7_divide 48 = .ok (.invokevirtual 52, 3) := by decide +kernel
theorem dX7_divide_51 : decode cX7_divide 51 = .ok (.istore 5, 2) := by decide +kernel
theorem dX7_divide_53 : decode cX7_divide 53 = .ok (.iload 5, 2) := by decide +kernel
theorem dX7_divide_55 : decode cX7_divide 55 = .ok (.iconst (-1), 1) := by decide +kernel
theorem dX7_divide_56 : decode cX7_divide 56 = .ok (.if_icmp .eq 11, 3) := by decide +kernel
theorem dX7_divide_59 : decode cX7_divide 59 = .ok (.aload_n 0, 1) := by decide +kernel
theorem dX7_divide_60 : decode cX7_divide 60 = .ok (.iload_n 1, 1) := by decide +kernel
theorem dX7_divide_61 : decode cX7_divide 61 = .ok (.invokevirtual 56, 3) := by decide +kernel
theorem dX7_divide_64 : decode cX7_divide 64 = .ok (.ifCond .ne 16, 3) := by decide +kernel
theorem dX7_divide_67 : decode cX7_divide 67 = .ok (.aload_n 0, 1) := by decide +kernel
theorem dX7_divide_68 : decode cX7_divide 68 = .ok (.getfield 9, 3) := by decide +kernel
theorem dX7_divide_71 : decode cX7_divide 71 = .ok (.bipush 8, 2) := by decide +kernel
theorem dX7_divide_73 : decode cX7_divide 73 = .ok (.dup2, 1) := by decide +kernel
theorem dX7_divide_74 : decode cX7_divide 74 = .ok (.iaload, 1) := by decide +kernel
theorem dX7_divide_75 : decode cX7_divide 75 = .ok (.iload 4, 2) := by decide +kernel
theorem dX7_divide_77 : decode cX7_divide 77 = .ok (.iadd, 1) := by decide +kernel
theorem dX7_divide_78 : decode cX7_divide 78 = .ok (.iastore, 1) := by decide +kernel
theorem dX7_divide_79 : decode cX7_divide 79 = .ok (.return_, 1) := by decide +kernel
theorem dX7_divide_80 : decode cX7_divide 80 = .ok (.aload_n 2, 1) := by decide +kernel
theorem dX7_divide_81 : decode cX7_divide 81 = .ok (.bipush 6, 2) := by decide +kernel
theorem dX7_divide_83 : decode cX7_divide 83 = .ok (.iaload, 1) := by decide +kernel
theorem dX7_divide_84 : decode cX7_divide 84 = .ok (.iconst 1, 1) := by decide +kernel
theorem dX7_divide_85 : decode cX7_divide 85 = .ok (.if_icmp .ne 22, 3) := by decide +kernel
theorem dX7_divide_88 : decode cX7_divide 88 = .ok (.aload_n 0, 1) := by decide +kernel
theorem dX7_divide_89 : decode cX7_divide 89 = .ok (.getfield 26, 3) := by decide +kernel
theorem dX7_divide_92 : decode cX7_divide 92 = .ok (.iload 5, 2) := by decide +kernel
theorem dX7_divide_94 : decode cX7_divide 94 = .ok (.aaload, 1) := by decide +kernel
theorem dX7_divide_95 : decode cX7_divide 95 = .ok (.bipush 11, 2) := by decide +kernel
theorem dX7_divide_97 : decode cX7_divide 97 = .ok (.iload 4, 2) := by decide +kernel
theorem dX7_divide_99 : decode cX7_divide 99 = .ok (.iastore, 1) := by decide +kernel
theorem dX7_divide_100 : decode cX7_divide 100 = .ok (.aload_n 2, 1) := by decide +kernel
theorem dX7_divide_101 : decode cX7_divide 101 = .ok (.bipush 7, 2) := by decide +kernel
theorem dX7_divide_103 : decode cX7_divide 103 = .ok (.iload 5, 2) := by decide +kernel
theorem dX7_divide_105 : decode cX7_divide 105 = .ok (.iastore, 1) := by decide +kernel
theorem dX7_divide_106 : decode cX7_divide 106 = .ok (.return_, 1) := by decide +kernel
theorem dX7_divide_107 : decode cX7_divide 107 = .ok (.iconst 0, 1) := by decide +kernel
theorem dX7_divide_108 : decode cX7_divide 108 = .ok (.istore 6, 2) := by decide +kernel
theorem dX7_divide_110 : decode cX7_divide 110 = .ok (.iconst 0, 1) := by decide +kernel
theorem dX7_divide_111 : decode cX7_divide 111 = .ok (.istore 7, 2) := by decide +kernel
theorem dX7_divide_113 : decode cX7_divide 113 = .ok (.iload 7, 2) := by decide +kernel
theorem dX7_divide_115 : decode cX7_divide 115 = .ok (.aload_n 0, 1) := by decide +kernel
theorem dX7_divide_116 : decode cX7_divide 116 = .ok (.getfield 26, 3) := by decide +kernel
theorem dX7_divide_119 : decode cX7_divide 119 = .ok (.arraylength, 1) := by decide +kernel
theorem dX7_divide_120 : decode cX7_divide 120 = .ok (.if_icmp .ge 49, 3) := by decide +kernel
theorem dX7_divide_123 : decode cX7_divide 123 = .ok (.iload 6, 2) := by decide +kernel
theorem dX7_divide_125 : decode cX7_divide 125 = .ok (.aload_n 0, 1) := by decide +kernel
theorem dX7_divide_126 : decode cX7_divide 126 = .ok (.iload_n 1, 1) := by decide +kernel
theorem dX7_divide_127 : decode cX7_divide 127 = .ok (.iload 7, 2) := by decide +kernel
theorem dX7_divide_129 : decode cX7_divide 129 = .ok (.invokevirtual 38, 3) := by decide +kernel
theorem dX7_divide_132 : decode cX7_divide 132 = .ok (.ifCond .eq 27, 3) := by decide +kernel
theorem dX7_divide_135 : decode cX7_divide 135 = .ok (.aload_n 0, 1) := by decide +kernel
theorem dX7_divide_136 : decode cX7_divide 136 = .ok (.getfield 26, 3) := by decide +kernel
theorem dX7_divide_139 : decode cX7_divide 139 = .ok (.iload 7, 2) := by decide +kernel
theorem dX7_divide_141 : decode cX7_divide 141 = .ok (.aaload, 1) := by decide +kernel
theorem dX7_divide_142 : decode cX7_divide 142 = .ok (.bipush 13, 2) := by decide +kernel
theorem dX7_divide_144 : decode cX7_divide 144 = .ok (.iaload, 1) := by decide +kernel
theorem dX7_divide_145 : decode cX7_divide 145 = .ok (.aload_n 0, 1) := by decide +kernel
theorem dX7_divide_146 : decode cX7_divide 146 = .ok (.getfield 26, 3) := by decide +kernel
theorem dX7_divide_149 : decode cX7_divide 149 = .ok (.iload 7, 2) := by decide +kernel
theorem dX7_divide_151 : decode cX7_divide 151 = .ok (.aaload, 1) := by decide +kernel
theorem dX7_divide_152 : decode cX7_divide 152 = .ok (.bipush 15, 2) := by decide +kernel
theorem dX7_divide_154 : decode cX7_divide 154 = .ok (.iaload, 1) := by decide +kernel
theorem dX7_divide_155 : decode cX7_divide 155 = .ok (.iadd, 1) := by decide +kernel
theorem dX7_divide_156 : decode cX7_divide 156 = .ok (.goto 4, 3) := by decide +kernel
theorem dX7_divide_159 : decode cX7_divide 159 = .ok (.iconst 0, 1) := by decide +kernel
theorem dX7_divide_160 : decode cX7_divide 160 = .ok (.iadd, 1) := by decide +kernel
theorem dX7_divide_161 : decode cX7_divide 161 = .ok (.istore 6, 2) := by decide +kernel
theorem dX7_divide_163 : decode cX7_divide 163 = .ok (.iinc 7 1, 3) := by decide +kernel
theorem dX7_divide_166 : decode cX7_divide 166 = .ok (.goto (-53), 3) := by decide +kernel
theorem dX7_divide_169 : decode cX7_divide 169 = .ok (.aload_n 2, 1) := by decide +kernel
theorem dX7_divide_170 : decode cX7_divide 170 = .ok (.iconst 5, 1) := by decide +kernel
theorem dX7_divide_171 : decode cX7_divide 171 = .ok (.iload 4, 2) := by decide +kernel
theorem dX7_divide_173 : decode cX7_divide 173 = .ok (.iastore, 1) := by decide +kernel
theorem dX7_divide_174 : decode cX7_divide 174 = .ok (.iconst 0, 1) := by decide +kernel
theorem dX7_divide_175 : decode cX7_divide 175 = .ok (.istore 7, 2) := by decide +kernel
theorem dX7_divide_177 : decode cX7_divide 177 = .ok (.iload 7, 2) := by decide +kernel
theorem dX7_divide_179 : decode cX7_divide 179 = .ok (.aload_n 0, 1) := by decide +kernel
theorem dX7_divide_180 : decode cX7_divide 180 = .ok (.getfield 26, 3) := by decide +kernel
theorem dX7_divide_183 : decode cX7_divide 183 = .ok (.arraylength, 1) := by decide +kernel
theorem dX7_divide_184 : decode cX7_divide 184 = .ok (.if_icmp .ge 75, 3) := by decide +kernel
theorem dX7_divide_187 : decode cX7_divide 187 = .ok (.aload_n 0, 1) := by decide +kernel
theorem dX7_divide_188 : decode cX7_divide 188 = .ok (.iload_n 1, 1) := by decide +kernel
theorem dX7_divide_189 : decode cX7_divide 189 = .ok (.iload 7, 2) := by decide +kernel
theorem dX7_divide_191 : decode cX7_divide 191 = .ok (.invokevirtual 38, 3) := by decide +kernel
theorem dX7_divide_194 : decode cX7_divide 194 = .ok (.ifCond .ne 6, 3) := by decide +kernel
theorem dX7_divide_197 : decode cX7_divide 197 = .ok (.goto 56, 3) := by decide +kernel
theorem dX7_divide_200 : decode cX7_divide 200 = .ok (.aload_n 0, 1) := by decide +kernel
theorem dX7_divide_201 : decode cX7_divide 201 = .ok (.getfield 26, 3) := by decide +kernel
theorem dX7_divide_204 : decode cX7_divide 204 = .ok (.iload 7, 2) := by decide +kernel
theorem dX7_divide_206 : decode cX7_divide 206 = .ok (.aaload, 1) := by decide +kernel
theorem dX7_divide_207 : decode cX7_divide 207 = .ok (.bipush 11, 2) := by decide +kernel
theorem dX7_divide_209 : decode cX7_divide 209 = .ok (.iload 4, 2) := by decide +kernel
theorem dX7_divide_211 : decode cX7_divide 211 = .ok (.aload_n 0, 1) := by decide +kernel
theorem dX7_divide_212 : decode cX7_divide 212 = .ok (.getfield 26, 3) := by decide +kernel
theorem dX7_divide_215 : decode cX7_divide 215 = .ok (.iload 7, 2) := by decide +kernel
theorem dX7_divide_217 : decode cX7_divide 217 = .ok (.aaload, 1) := by decide +kernel
theorem dX7_divide_218 : decode cX7_divide 218 = .ok (.bipush 13, 2) := by decide +kernel
theorem dX7_divide_220 : decode cX7_divide 220 = .ok (.iaload, 1) := by decide +kernel
theorem dX7_divide_221 : decode cX7_divide 221 = .ok (.aload_n 0, 1) := by decide +kernel
theorem dX7_divide_222 : decode cX7_divide 222 = .ok (.getfield 26, 3) := by decide +kernel
theorem dX7_divide_225 : decode cX7_divide 225 = .ok (.iload 7, 2) := by decide +kernel
theorem dX7_divide_227 : decode cX7_divide 227 = .ok (.aaload, 1) := by decide +kernel
theorem dX7_divide_228 : decode cX7_divide 228 = .ok (.bipush 15, 2) := by decide +kernel
theorem dX7_divide_230 : decode cX7_divide 230 = .ok (.iaload, 1) := by decide +kernel
theorem dX7_divide_231 : decode cX7_divide 231 = .ok (.iadd, 1) := by decide +kernel
theorem dX7_divide_232 : decode cX7_divide 232 = .ok (.imul, 1) := by decide +kernel
theorem dX7_divide_233 : decode cX7_divide 233 = .ok (.iload 6, 2) := by decide +kernel
theorem dX7_divide_235 : decode cX7_divide 235 = .ok (.idiv, 1) := by decide +kernel
theorem dX7_divide_236 : decode cX7_divide 236 = .ok (.iastore, 1) := by decide +kernel
theorem dX7_divide_237 : decode cX7_divide 237 = .ok (.aload_n 2, 1) := by decide +kernel
theorem dX7_divide_238 : decode cX7_divide 238 = .ok (.iconst 5, 1) := by decide +kernel
theorem dX7_divide_239 : decode cX7_divide 239 = .ok (.dup2, 1) := by decide +kernel
theorem dX7_divide_240 : decode cX7_divide 240 = .ok (.iaload, 1) := by decide +kernel
theorem dX7_divide_241 : decode cX7_divide 241 = .ok (.aload_n 0, 1) := by decide +kernel
theorem dX7_divide_242 : decode cX7_divide 242 = .ok (.getfield 26, 3) := by decide +kernel
theorem dX7_divide_245 : decode cX7_divide 245 = .ok (.iload 7, 2) := by decide +kernel
theorem dX7_divide_247 : decode cX7_divide 247 = .ok (.aaload, 1) := by decide +kernel
theorem dX7_divide_248 : decode cX7_divide 248 = .ok (.bipush 11, 2) := by decide +kernel
theorem dX7_divide_250 : decode cX7_divide 250 = .ok (.iaload, 1) := by decide +kernel
theorem dX7_divide_251 : decode cX7_divide 251 = .ok (.isub, 1) := by decide +kernel
theorem dX7_divide_252 : decode cX7_divide 252 = .ok (.iastore, 1) := by decide +kernel
theorem dX7_divide_253 : decode cX7_divide 253 = .ok (.iinc 7 1, 3) := by decide +kernel
theorem dX7_divide_256 : decode cX7_divide 256 = .ok (.goto (-79), 3) := by decide +kernel
theorem dX7_divide_259 : decode cX7_divide 259 = .ok (.return_, 1) := by decide +kernel
theorem dX7_stand_0 : decode cX7_stand 0 = .ok (.aload_n 0, 1) := by decide +kernel
theorem dX7_stand_1 : decode cX7_stand 1 = .ok (.getfield 26, 3) := by decide +kernel
theorem dX7_stand_4 : decode cX7_stand 4 = .ok (.iload_n 1, 1) := by decide +kernel
theorem dX7_stand_5 : decode cX7_stand 5 = .ok (.aaload, 1) := by decide +kernel
theorem dX7_stand_6 : decode cX7_stand 6 = .ok (.astore_n 2, 1) := by decide +kernel
theorem dX7_stand_7 : decode cX7_stand 7 = .ok (.aload_n 2, 1) := by decide +kernel
theorem dX7_stand_8 : decode cX7_stand 8 = .ok (.iconst 1, 1) := by decide +kernel
theorem dX7_stand_9 : decode cX7_stand 9 = .ok (.dup2, 1) := by decide +kernel
theorem dX7_stand_10 : decode cX7_stand 10 = .ok (.iaload, 1) := by decide +kernel
theorem dX7_stand_11 : decode cX7_stand 11 = .ok (.aload_n 2, 1) := by decide +kernel
theorem dX7_stand_12 : decode cX7_stand 12 = .ok (.bipush 11, 2) := by decide +kernel
theorem dX7_stand_14 : decode cX7_stand 14 = .ok (.iaload, 1) := by decide +kernel
theorem dX7_stand_15 : decode cX7_stand 15 = .ok (.aload_n 0, 1) := by decide +kernel
theorem dX7_stand_16 : decode cX7_stand 16 = .ok (.getfield 9, 3) := by decide +kernel
theorem dX7_stand_19 : decode cX7_stand 19 = .ok (.iconst 3, 1) := by decide +kernel
theorem dX7_stand_20 : decode cX7_stand 20 = .ok (.iaload, 1) := by decide +kernel
theorem dX7_stand_21 : decode cX7_stand 21 = .ok (.iadd, 1) := by decide +kernel
theorem dX7_stand_22 : decode cX7_stand 22 = .ok (.aload_n 0, 1) := by decide +kernel
theorem dX7_stand_23 : decode cX7_stand 23 = .ok (.getfield 15, 3) := by decide +kernel
theorem dX7_stand_26 : decode cX7_stand 26 = .ok (.iload_n 1, 1) := by decide +kernel
theorem dX7_stand_27 : decode cX7_stand 27 = .ok (.iaload, 1) := by decide +kernel
theorem dX7_stand_28 : decode cX7_stand 28 = .ok (.iadd, 1) := by decide +kernel
theorem dX7_stand_29 : decode cX7_stand 29 = .ok (.iadd, 1) := by decide +kernel
theorem dX7_stand_30 : decode cX7_stand 30 = .ok (.iastore, 1) := by decide +kernel
theorem dX7_stand_31 : decode cX7_stand 31 = .ok (.iconst 0, 1) := by decide +kernel
theorem dX7_stand_32 : decode cX7_stand 32 = .ok (.aload_n 2, 1) := by decide +kernel
theorem dX7_stand_33 : decode cX7_stand 33 = .ok (.iconst 1, 1) := by decide +kernel
theorem dX7_stand_34 : decode cX7_stand 34 = .ok (.iaload, 1) := by decide +kernel
theorem dX7_stand_35 : decode cX7_stand 35 = .ok (.aload_n 2, 1) := by decide +kernel
theorem dX7_stand_36 : decode cX7_stand 36 = .ok (.bipush 14, 2) := by decide +kernel
theorem dX7_stand_38 : decode cX7_stand 38 = .ok (.iaload, 1) := by decide +kernel
theorem dX7_stand_39 : decode cX7_stand 39 = .ok (.isub, 1) := by decide +kernel
theorem dX7_stand_40 : decode cX7_stand 40 = .ok (.invokestatic 60, 3) := by decide +kernel
theorem dX7_stand_43 : decode cX7_stand 43 = .ok (.istore_n 3, 1) := by decide +kernel
theorem dX7_stand_44 : decode cX7_stand 44 = .ok (.aload_n 2, 1) := by decide +kernel
theorem dX7_stand_45 : decode cX7_stand 45 = .ok (.iconst 1, 1) := by decide +kernel
theorem dX7_stand_46 : decode cX7_stand 46 = .ok (.dup2, 1) := by decide +kernel
theorem dX7_stand_47 : decode cX7_stand 47 = .ok (.iaload, 1) := by decide +kernel
theorem dX7_stand_48 : decode cX7_stand 48 = .ok (.iload_n 3, 1) := by decide +kernel
theorem dX7_stand_49 : decode cX7_stand 49 = .ok (.isub, 1) := by decide +kernel
theorem dX7_stand_50 : decode cX7_stand 50 = .ok (.iastore, 1) := by decide +kernel
theorem dX7_stand_51 : decode cX7_stand 51 = .ok (.aload_n 2, 1) := by decide +kernel
theorem dX7_stand_52 : decode cX7_stand 52 = .ok (.iconst 1, 1) := by decide +kernel
theorem dX7_stand_53 : decode cX7_stand 53 = .ok (.iaload, 1) := by decide +kernel
theorem dX7_stand_54 : decode cX7_stand 54 = .ok (.iconst 1, 1) := by decide +kernel
theorem dX7_stand_55 : decode cX7_stand 55 = .ok (.aload_n 2, 1) := by decide +kernel
theorem dX7_stand_56 : decode cX7_stand 56 = .ok (.iconst 2, 1) := by decide +kernel
theorem dX7_stand_57 : decode cX7_stand 57 = .ok (.iaload, 1) := by decide +kernel
theorem dX7_stand_58 : decode cX7_stand 58 = .ok (.iadd, 1) := by decide +kernel
theorem dX7_stand_59 : decode cX7_stand 59 = .ok (.invokestatic 66, 3) := by decide +kernel
theorem dX7_stand_62 : decode cX7_stand 62 = .ok (.istore 4, 2) := by decide +kernel
theorem dX7_stand_64 : decode cX7_stand 64 = .ok (.aload_n 2, 1) := by decide +kernel
theorem dX7_stand_65 : decode cX7_stand 65 = .ok (.iconst 1, 1) := by decide +kernel
theorem dX7_stand_66 : decode cX7_stand 66 = .ok (.dup2, 1) := by decide +kernel
theorem dX7_stand_67 : decode cX7_stand 67 = .ok (.iaload, 1) := by decide +kernel
theorem dX7_stand_68 : decode cX7_stand 68 = .ok (.iload 4, 2) := by decide +kernel
theorem dX7_stand_70 : decode cX7_stand 70 = .ok (.isub, 1) := by decide +kernel
theorem dX7_stand_71 : decode cX7_stand 71 = .ok (.iastore, 1) := by decide +kernel
theorem dX7_stand_72 : decode cX7_stand 72 = .ok (.aload_n 0, 1) := by decide +kernel
theorem dX7_stand_73 : decode cX7_stand 73 = .ok (.getfield 9, 3) := by decide +kernel
theorem dX7_stand_76 : decode cX7_stand 76 = .ok (.bipush 6, 2) := by decide +kernel
theorem dX7_stand_78 : decode cX7_stand 78 = .ok (.dup2, 1) := by decide +kernel
theorem dX7_stand_79 : decode cX7_stand 79 = .ok (.iaload, 1) := by decide +kernel
theorem dX7_stand_80 : decode cX7_stand 80 = .ok (.iload 4, 2) := by decide +kernel
theorem dX7_stand_82 : decode cX7_stand 82 = .ok (.iload 4, 2) := by decide +kernel
theorem dX7_stand_84 : decode cX7_stand 84 = .ok (.iconst 2, 1) := by decide +kernel
theorem dX7_stand_85 : decode cX7_stand 85 = .ok (.idiv, 1) := by decide +kernel
theorem dX7_stand_86 : decode cX7_stand 86 = .ok (.isub, 1) := by decide +kernel
theorem dX7_stand_87 : decode cX7_stand 87 = .ok (.iadd, 1) := by decide +kernel
theorem dX7_stand_88 : decode cX7_stand 88 = .ok (.iastore, 1) := by decide +kernel
theorem dX7_stand_89 : decode cX7_stand 89 = .ok (.aload_n 0, 1) := by decide +kernel
theorem dX7_stand_90 : decode cX7_stand 90 = .ok (.iload_n 1, 1) := by decide +kernel
theorem dX7_stand_91 : decode cX7_stand 91 = .ok (.invokevirtual 69, 3) := by decide +kernel
theorem dX7_stand_94 : decode cX7_stand 94 = .ok (.istore 5, 2) := by decide +kernel
theorem dX7_stand_96 : decode cX7_stand 96 = .ok (.iload 5, 2) := by decide +kernel
theorem dX7_stand_98 : decode cX7_stand 98 = .ok (.iconst (-1), 1) := by decide +kernel
theorem dX7_stand_99 : decode cX7_stand 99 = .ok (.if_icmp .ne 22, 3) := by decide +kernel
theorem dX7_stand_102 : decode cX7_stand 102 = .ok (.aload_n 0, 1) := by decide +kernel
theorem dX7_stand_103 : decode cX7_stand 103 = .ok (.getfield 9, 3) := by decide +kernel
theorem dX7_stand_106 : decode cX7_stand 106 = .ok (.bipush 8, 2) := by decide +kernel
theorem dX7_stand_108 : decode cX7_stand 108 = .ok (.dup2, 1) := by decide +kernel
theorem dX7_stand_109 : decode cX7_stand 109 = .ok (.iaload, 1) := by decide +kernel
theorem dX7_stand_110 : decode cX7_stand 110 = .ok (.iload_n 3, 1) := by decide +kernel
theorem dX7_stand_111 : decode cX7_stand 111 = .ok (.iload 4, 2) := by decide +kernel
theorem dX7_stand_113 : decode cX7_stand 113 = .ok (.iconst 2, 1) := by decide +kernel
theorem dX7_stand_114 : decode cX7_stand 114 = .ok (.idiv, 1) := by decide +kernel
theorem dX7_stand_115 : decode cX7_stand 115 = .ok (.iadd, 1) := by decide +kernel
theorem dX7_stand_116 : decode cX7_stand 116 = .ok (.iadd, 1) := by decide +kernel
theorem dX7_stand_117 : decode cX7_stand 117 = .ok (.iastore, 1) := by decide +kernel
theorem dX7_stand_118 : decode cX7_stand 118 = .ok (.goto 19, 3) := by decide +kernel
theorem dX7_stand_121 : decode cX7_stand 121 = .ok (.aload_n 0, 1) := by decide +kernel
theorem dX7_stand_122 : decode cX7_stand 122 = .ok (.getfield 15, 3) := by decide +kernel
theorem dX7_stand_125 : decode cX7_stand 125 = .ok (.iload 5, 2) := by decide +kernel
theorem dX7_stand_127 : decode cX7_stand 127 = .ok (.dup2, 1) := by decide +kernel
theorem dX7_stand_128 : decode cX7_stand 128 = .ok (.iaload, 1) := by decide +kernel
theorem dX7_stand_129 : decode cX7_stand 129 = .ok (.iload_n 3, 1) := by decide +kernel
theorem dX7_stand_130 : decode cX7_stand 130 = .ok (.iload 4, 2) := by decide +kernel
theorem dX7_stand_132 : decode cX7_stand 132 = .ok (.iconst 2, 1) := by decide +kernel
theorem dX7_stand_133 : decode cX7_stand 133 = .ok (.idiv, 1) := by decide +kernel
theorem dX7_stand_134 : decode cX7_stand 134 = .ok (.iadd, 1) := by decide +kernel
theorem dX7_stand_135 : decode cX7_stand 135 = .ok (.iadd, 1) := by decide +kernel
theorem dX7_stand_136 : decode cX7_stand 136 = .ok (.iastore, 1) := by decide +kernel
theorem dX7_stand_137 : decode cX7_stand 137 = .ok (.aload_n 2, 1) := by decide +kernel
theorem dX7_stand_138 : decode cX7_stand 138 = .ok (.iconst 4, 1) := by decide +kernel
theorem dX7_stand_139 : decode cX7_stand 139 = .ok (.iaload, 1) := by decide +kernel
theorem dX7_stand_140 : decode cX7_stand 140 = .ok (.iconst 2, 1) := by decide +kernel
theorem dX7_stand_141 : decode cX7_stand 141 = .ok (.iconst 4, 1) := by decide +kernel
theorem dX7_stand_142 : decode cX7_stand 142 = .ok (.invokestatic 72, 3) := by decide +kernel
theorem dX7_stand_145 : decode cX7_stand 145 = .ok (.istore 6, 2) := by decide +kernel
theorem dX7_stand_147 : decode cX7_stand 147 = .ok (.aload_n 2, 1) := by decide +kernel
theorem dX7_stand_148 : decode cX7_stand 148 = .ok (.iconst 1, 1) := by decide +kernel
theorem dX7_stand_149 : decode cX7_stand 149 = .ok (.iaload, 1) := by decide +kernel
theorem dX7_stand_150 : decode cX7_stand 150 = .ok (.iload 6, 2) := by decide +kernel
theorem dX7_stand_152 : decode cX7_stand 152 = .ok (.ifCond .eq 7, 3) := by decide +kernel
theorem dX7_stand_155 : decode cX7_stand 155 = .ok (.iconst 2, 1) := by decide +kernel
theorem dX7_stand_156 : decode cX7_stand 156 = .ok (.goto 4, 3) := by decide +kernel
theorem dX7_stand_159 : decode cX7_stand 159 = .ok (.iconst 1, 1) := by decide +kernel
theorem dX7_stand_160 : decode cX7_stand 160 = .ok (.invokestatic 66, 3) := by decide +kernel
theorem dX7_stand_163 : decode cX7_stand 163 = .ok (.istore 7, 2) := by decide +kernel
theorem dX7_stand_165 : decode cX7_stand 165 = .ok (.aload_n 2, 1) := by decide +kernel
theorem dX7_stand_166 : decode cX7_stand 166 = .ok (.iconst 1, 1) := by decide +kernel
theorem dX7_stand_167 : decode cX7_stand 167 = .ok (.dup2, 1) := by decide +kernel
theorem dX7_stand_168 : decode cX7_stand 168 = .ok (.iaload, 1) := by decide +kernel
theorem dX7_stand_169 : decode cX7_stand 169 = .ok (.iload 7, 2) := by decide +kernel
theorem dX7_stand_171 : decode cX7_stand 171 = .ok (.isub, 1) := by decide +kernel
theorem dX7_stand_172 : decode cX7_stand 172 = .ok (.iastore, 1) := by decide +kernel
theorem dX7_stand_173 : decode cX7_stand 173 = .ok (.aload_n 0, 1) := by decide +kernel
theorem dX7_stand_174 : decode cX7_stand 174 = .ok (.getfield 9, 3) := by decide +kernel
theorem dX7_stand_177 : decode cX7_stand 177 = .ok (.bipush 7, 2) := by decide +kernel
theorem dX7_stand_179 : decode cX7_stand 179 = .ok (.dup2, 1) := by decide +kernel
theorem dX7_stand_180 : decode cX7_stand 180 = .ok (.iaload, 1) := by decide +kernel
theorem dX7_stand_181 : decode cX7_stand 181 = .ok (.iload 7, 2) := by decide +kernel
theorem dX7_stand_183 : decode cX7_stand 183 = .ok (.iadd, 1) := by decide +kernel
theorem dX7_stand_184 : decode cX7_stand 184 = .ok (.iastore, 1) := by decide +kernel
theorem dX7_stand_185 : decode cX7_stand 185 = .ok (.aload_n 2, 1) := by decide +kernel
theorem dX7_stand_186 : decode cX7_stand 186 = .ok (.iconst 3, 1) := by decide +kernel
theorem dX7_stand_187 : decode cX7_stand 187 = .ok (.aload_n 2, 1) := by decide +kernel
theorem dX7_stand_188 : decode cX7_stand 188 = .ok (.iconst 1, 1) := by decide +kernel
theorem dX7_stand_189 : decode cX7_stand 189 = .ok (.iaload, 1) := by decide +kernel
theorem dX7_stand_190 : decode cX7_stand 190 = .ok (.ifCond .ne 11, 3) := by decide +kernel
theorem dX7_stand_193 : decode cX7_stand 193 = .ok (.aload_n 2, 1) := by decide +kernel
theorem dX7_stand_194 : decode cX7_stand 194 = .ok (.iconst 3, 1) := by decide +kernel
theorem dX7_stand_195 : decode cX7_stand 195 = .ok (.iaload, 1) := by decide +kernel
theorem dX7_stand_196 : decode cX7_stand 196 = .ok (.iconst 1, 1) := by decide +kernel
theorem dX7_stand_197 : decode cX7_stand 197 = .ok (.iadd, 1) := by decide +kernel
theorem dX7_stand_198 : decode cX7_stand 198 = .ok (.goto 4, 3) := by decide +kernel
theorem dX7_stand_201 : decode cX7_stand 201 = .ok (.iconst 0, 1) := by decide +kernel
theorem dX7_stand_202 : decode cX7_stand 202 = .ok (.iastore, 1) := by decide +kernel
theorem dX7_stand_203 : decode cX7_stand 203 = .ok (.aload_n 2, 1) := by decide +kernel
theorem dX7_stand_204 : decode cX7_stand 204 = .ok (.iconst 3, 1) := by decide +kernel
theorem dX7_stand_205 : decode cX7_stand 205 = .ok (.iaload, 1) := by decide +kernel
theorem dX7_stand_206 : decode cX7_stand 206 = .ok (.ifCond .le 23, 3) := by decide +kernel
theorem dX7_stand_209 : decode cX7_stand 209 = .ok (.aload_n 2, 1) := by decide +kernel
theorem dX7_stand_210 : decode cX7_stand 210 = .ok (.iconst 3, 1) := by decide +kernel
theorem dX7_stand_211 : decode cX7_stand 211 = .ok (.iaload, 1) := by decide +kernel
theorem dX7_stand_212 : decode cX7_stand 212 = .ok (.iconst 3, 1) := by decide +kernel
theorem dX7_stand_213 : decode cX7_stand 213 = .ok (.irem, 1) := by decide +kernel
theorem dX7_stand_214 : decode cX7_stand 214 = .ok (.ifCond .ne 15, 3) := by decide +kernel
theorem dX7_stand_217 : decode cX7_stand 217 = .ok (.aload_n 2, 1) := by decide +kernel
theorem dX7_stand_218 : decode cX7_stand 218 = .ok (.iconst 2, 1) := by decide +kernel
theorem dX7_stand_219 : decode cX7_stand 219 = .ok (.iconst 3, 1) := by decide +kernel
theorem dX7_stand_220 : decode cX7_stand 220 = .ok (.aload_n 2, 1) := by decide +kernel
theorem dX7_stand_221 : decode cX7_stand 221 = .ok (.iconst 2, 1) := by decide +kernel
theorem dX7_stand_222 : decode cX7_stand 222 = .ok (.iaload, 1) := by decide +kernel
theorem dX7_stand_223 : decode cX7_stand 223 = .ok (.iconst 1, 1) := by decide +kernel
theorem dX7_stand_224 : decode cX7_stand 224 = .ok (.iadd, 1) := by decide +kernel
theorem dX7_stand_225 : decode cX7_stand 225 = .ok (.invokestatic 66, 3) := by decide +kernel
theorem dX7_stand_228 : decode cX7_stand 228 = .ok (.iastore, 1) := by decide +kernel
theorem dX7_stand_229 : decode cX7_stand 229 = .ok (.iload 6, 2) := by decide +kernel
theorem dX7_stand_231 : decode cX7_stand 231 = .ok (.ifCond .eq 8, 3) := by decide +kernel
theorem dX7_stand_234 : decode cX7_stand 234 = .ok (.aload_n 0, 1) := by decide +kernel
theorem dX7_stand_235 : decode cX7_stand 235 = .ok (.aload_n 2, 1) := by decide +kernel
theorem dX7_stand_236 : decode cX7_stand 236 = .ok (.invokevirtual 76, 3) := by decide +kernel
theorem dX7_stand_239 : decode cX7_stand 239 = .ok (.aload_n 0, 1) := by decide +kernel
theorem dX7_stand_240 : decode cX7_stand 240 = .ok (.aload_n 2, 1) := by decide +kernel
theorem dX7_stand_241 : decode cX7_stand 241 = .ok (.invokevirtual 80, 3) := by decide +kernel
theorem dX7_stand_244 : decode cX7_stand 244 = .ok (.return_, 1) := by decide +kernel
theorem dX7_grow_0 : decode cX7_grow 0 = .ok (.aload_n 1, 1) := by decide +kernel
theorem dX7_grow_1 : decode cX7_grow 1 = .ok (.iconst 4, 1) := by decide +kernel
theorem dX7_grow_2 : decode cX7_grow 2 = .ok (.iaload, 1) := by decide +kernel
theorem dX7_grow_3 : decode cX7_grow 3 = .ok (.iconst 2, 1) := by decide +kernel
theorem dX7_grow_4 : decode cX7_grow 4 = .ok (.isub, 1) := by decide +kernel
theorem dX7_grow_5 : decode cX7_grow 5 = .ok (.istore_n 2, 1) := by decide +kernel
theorem dX7_grow_6 : decode cX7_grow 6 = .ok (.iload_n 2, 1) := by decide +kernel
theorem dX7_grow_7 : decode cX7_grow 7 = .ok (.ifCond .ne 7, 3) := by decide +kernel
theorem dX7_grow_10 : decode cX7_grow 10 = .ok (.iconst 3, 1) := by decide +kernel
theorem dX7_grow_11 : decode cX7_grow 11 = .ok (.goto 14, 3) := by decide +kernel
theorem dX7_grow_14 : decode cX7_grow 14 = .ok (.iload_n 2, 1) := by decide +kernel
theorem dX7_grow_15 : decode cX7_grow 15 = .ok (.iconst 1, 1) := by decide +kernel
theorem dX7_grow_16 : decode cX7_grow 16 = .ok (.if_icmp .ne 8, 3) := by decide +kernel
theorem dX7_grow_19 : decode cX7_grow 19 = .ok (.bipush 6, 2) := by decide +kernel
theorem dX7_grow_21 : decode cX7_grow 21 = .ok (.goto 4, 3) := by decide +kernel
theorem dX7_grow_24 : decode cX7_grow 24 = .ok (.iconst 1, 1) := by decide +kernel
theorem dX7_grow_25 : decode cX7_grow 25 = .ok (.istore_n 3, 1) := by decide +kernel
theorem dX7_grow_26 : decode cX7_grow 26 = .ok (.iload_n 2, 1) := by decide +kernel
theorem dX7_grow_27 : decode cX7_grow 27 = .ok (.ifCond .ne 7, 3) := by decide +kernel
theorem dX7_grow_30 : decode cX7_grow 30 = .ok (.iconst 2, 1) := by decide +kernel
theorem dX7_grow_31 : decode cX7_grow 31 = .ok (.goto 13, 3) := by decide +kernel
theorem dX7_grow_34 : decode cX7_grow 34 = .ok (.iload_n 2, 1) := by decide +kernel
theorem dX7_grow_35 : decode cX7_grow 35 = .ok (.iconst 1, 1) := by decide +kernel
theorem dX7_grow_36 : decode cX7_grow 36 = .ok (.if_icmp .ne 7, 3) := by decide +kernel
theorem dX7_grow_39 : decode cX7_grow 39 = .ok (.iconst 4, 1) := by decide +kernel
theorem dX7_grow_40 : decode cX7_grow 40 = .ok (.goto 4, 3) := by decide +kernel
theorem dX7_grow_43 : decode cX7_grow 43 = .ok (.iconst 1, 1) := by decide +kernel
theorem dX7_grow_44 : decode cX7_grow 44 = .ok (.istore 4, 2) := by decide +kernel
theorem dX7_grow_46 : decode cX7_grow 46 = .ok (.aload_n 1, 1) := by decide +kernel
theorem dX7_grow_47 : decode cX7_grow 47 = .ok (.bipush 8, 2) := by decide +kernel
theorem dX7_grow_49 : decode cX7_grow 49 = .ok (.iaload, 1) := by decide +kernel
theorem dX7_grow_50 : decode cX7_grow 50 = .ok (.bipush 20, 2) := by decide +kernel
theorem dX7_grow_52 : decode cX7_grow 52 = .ok (.idiv, 1) := by decide +kernel
theorem dX7_grow_53 : decode cX7_grow 53 = .ok (.aload_n 1, 1) := by decide +kernel
theorem dX7_grow_54 : decode cX7_grow 54 = .ok (.iconst 1, 1) := by decide +kernel
theorem dX7_grow_55 : decode cX7_grow 55 = .ok (.iaload, 1) := by decide +kernel
theorem dX7_grow_56 : decode cX7_grow 56 = .ok (.iconst 2, 1) := by decide +kernel
theorem dX7_grow_57 : decode cX7_grow 57 = .ok (.if_icmp .ge 7, 3) := by decide +kernel
theorem dX7_grow_60 : decode cX7_grow 60 = .ok (.iload_n 3, 1) := by decide +kernel
theorem dX7_grow_61 : decode cX7_grow 61 = .ok (.goto 17, 3) := by decide +kernel
theorem dX7_grow_64 : decode cX7_grow 64 = .ok (.aload_n 1, 1) := by decide +kernel
theorem dX7_grow_65 : decode cX7_grow 65 = .ok (.iconst 1, 1) := by decide +kernel
theorem dX7_grow_66 : decode cX7_grow 66 = .ok (.iaload, 1) := by decide +kernel
theorem dX7_grow_67 : decode cX7_grow 67 = .ok (.bipush 20, 2) := by decide +kernel
theorem dX7_grow_69 : decode cX7_grow 69 = .ok (.if_icmp .le 8, 3) := by decide +kernel
theorem dX7_grow_72 : decode cX7_grow 72 = .ok (.iload 4, 2) := by decide +kernel
theorem dX7_grow_74 : decode cX7_grow 74 = .ok (.goto 4, 3) := by decide +kernel
theorem dX7_grow_77 : decode cX7_grow 77 = .ok (.iconst 0, 1) := by decide +kernel
theorem dX7_grow_78 : decode cX7_grow 78 = .ok (.iadd, 1) := by decide +kernel
theorem dX7_grow_79 : decode cX7_grow 79 = .ok (.istore 5, 2) := by decide +kernel
theorem dX7_grow_81 : decode cX7_grow 81 = .ok (.aload_n 1, 1) := by decide +kernel
theorem dX7_grow_82 : decode cX7_grow 82 = .ok (.bipush 7, 2) := by decide +kernel
theorem dX7_grow_84 : decode cX7_grow 84 = .ok (.iconst 0, 1) := by decide +kernel
theorem dX7_grow_85 : decode cX7_grow 85 = .ok (.aload_n 1, 1) := by decide +kernel
theorem dX7_grow_86 : decode cX7_grow 86 = .ok (.bipush 7, 2) := by decide +kernel
theorem dX7_grow_88 : decode cX7_grow 88 = .ok (.iaload, 1) := by decide +kernel
theorem dX7_grow_89 : decode cX7_grow 89 = .ok (.iload 5, 2) := by decide +kernel
theorem dX7_grow_91 : decode cX7_grow 91 = .ok (.isub, 1) := by decide +kernel
theorem dX7_grow_92 : decode cX7_grow 92 = .ok (.invokestatic 60, 3) := by decide +kernel
theorem dX7_grow_95 : decode cX7_grow 95 = .ok (.iastore, 1) := by decide +kernel
theorem dX7_grow_96 : decode cX7_grow 96 = .ok (.aload_n 1, 1) := by decide +kernel
theorem dX7_grow_97 : decode cX7_grow 97 = .ok (.bipush 6, 2) := by decide +kernel
theorem dX7_grow_99 : decode cX7_grow 99 = .ok (.dup2, 1) := by decide +kernel
theorem dX7_grow_100 : decode cX7_grow 100 = .ok (.iaload, 1) := by decide +kernel
theorem dX7_grow_101 : decode cX7_grow 101 = .ok (.aload_n 0, 1) := by decide +kernel
theorem dX7_grow_102 : decode cX7_grow 102 = .ok (.getfield 9, 3) := by decide +kernel
theorem dX7_grow_105 : decode cX7_grow 105 = .ok (.iconst 2, 1) := by decide +kernel
theorem dX7_grow_106 : decode cX7_grow 106 = .ok (.iaload, 1) := by decide +kernel
theorem dX7_grow_107 : decode cX7_grow 107 = .ok (.iadd, 1) := by decide +kernel
theorem dX7_grow_108 : decode cX7_grow 108 = .ok (.iastore, 1) := by decide +kernel
theorem dX7_grow_109 : decode cX7_grow 109 = .ok (.aload_n 1, 1) := by decide +kernel
theorem dX7_grow_110 : decode cX7_grow 110 = .ok (.iconst 5, 1) := by decide +kernel
theorem dX7_grow_111 : decode cX7_grow 111 = .ok (.iaload, 1) := by decide +kernel
theorem dX7_grow_112 : decode cX7_grow 112 = .ok (.istore 6, 2) := by decide +kernel
theorem dX7_grow_114 : decode cX7_grow 114 = .ok (.aload_n 1, 1) := by decide +kernel
theorem dX7_grow_115 : decode cX7_grow 115 = .ok (.iconst 4, 1) := by decide +kernel
theorem dX7_grow_116 : decode cX7_grow 116 = .ok (.iconst 2, 1) := by decide +kernel
theorem dX7_grow_117 : decode cX7_grow 117 = .ok (.aload_n 1, 1) := by decide +kernel
theorem dX7_grow_118 : decode cX7_grow 118 = .ok (.bipush 6, 2) := by decide +kernel
theorem dX7_grow_120 : decode cX7_grow 120 = .ok (.iaload, 1) := by decide +kernel
theorem dX7_grow_121 : decode cX7_grow 121 = .ok (.bipush 60, 2) := by decide +kernel
theorem dX7_grow_123 : decode cX7_grow 123 = .ok (.bipush 20, 2) := by decide +kernel
theorem dX7_grow_125 : decode cX7_grow 125 = .ok (.iload 6, 2) := by decide +kernel
theorem dX7_grow_127 : decode cX7_grow 127 = .ok (.imul, 1) := by decide +kernel
theorem dX7_grow_128 : decode cX7_grow 128 = .ok (.iadd, 1) := by decide +kernel
theorem dX7_grow_129 : decode cX7_grow 129 = .ok (.if_icmp .lt 7, 3) := by decide +kernel
theorem dX7_grow_132 : decode cX7_grow 132 = .ok (.iconst 1, 1) := by decide +kernel
theorem dX7_grow_133 : decode cX7_grow 133 = .ok (.goto 4, 3) := by decide +kernel
theorem dX7_grow_136 : decode cX7_grow 136 = .ok (.iconst 0, 1) := by decide +kernel
theorem dX7_grow_137 : decode cX7_grow 137 = .ok (.iadd, 1) := by decide +kernel
theorem dX7_grow_138 : decode cX7_grow 138 = .ok (.aload_n 1, 1) := by decide +kernel
theorem dX7_grow_139 : decode cX7_grow 139 = .ok (.bipush 6, 2) := by decide +kernel
theorem dX7_grow_141 : decode cX7_grow 141 = .ok (.iaload, 1) := by decide +kernel
theorem dX7_grow_142 : decode cX7_grow 142 = .ok (.bipush 100, 2) := by decide +kernel
theorem dX7_grow_144 : decode cX7_grow 144 = .ok (.bipush 40, 2) := by decide +kernel
theorem dX7_grow_146 : decode cX7_grow 146 = .ok (.iload 6, 2) := by decide +kernel
theorem dX7_grow_148 : decode cX7_grow 148 = .ok (.imul, 1) := by decide +kernel
theorem dX7_grow_149 : decode cX7_grow 149 = .ok (.iadd, 1) := by decide +kernel
theorem dX7_grow_150 : decode cX7_grow 150 = .ok (.if_icmp .lt 7, 3) := by decide +kernel
theorem dX7_grow_153 : decode cX7_grow 153 = .ok (.iconst 1, 1) := by decide +kernel
theorem dX7_grow_154 : decode cX7_grow 154 = .ok (.goto 4, 3) := by decide +kernel
theorem dX7_grow_157 : decode cX7_grow 157 = .ok (.iconst 0, 1) := by decide +kernel
theorem dX7_grow_158 : decode cX7_grow 158 = .ok (.iadd, 1) := by decide +kernel
theorem dX7_grow_159 : decode cX7_grow 159 = .ok (.aload_n 1, 1) := by decide +kernel
theorem dX7_grow_160 : decode cX7_grow 160 = .ok (.bipush 6, 2) := by decide +kernel
theorem dX7_grow_162 : decode cX7_grow 162 = .ok (.iaload, 1) := by decide +kernel
theorem dX7_grow_163 : decode cX7_grow 163 = .ok (.iload 6, 2) := by decide +kernel
theorem dX7_grow_165 : decode cX7_grow 165 = .ok (.iconst 2, 1) := by decide +kernel
theorem dX7_grow_166 : decode cX7_grow 166 = .ok (.if_icmp .ne 9, 3) := by decide +kernel
theorem dX7_grow_169 : decode cX7_grow 169 = .ok (.sipush 260, 3) := by decide +kernel
theorem dX7_grow_172 : decode cX7_grow 172 = .ok (.goto 12, 3) := by decide +kernel
theorem dX7_grow_175 : decode cX7_grow 175 = .ok (.sipush 150, 3) := by decide +kernel
theorem dX7_grow_178 : decode cX7_grow 178 = .ok (.bipush 50, 2) := by decide +kernel
theorem dX7_grow_180 : decode cX7_grow 180 = .ok (.iload 6, 2) := by decide +kernel
theorem dX7_grow_182 : decode cX7_grow 182 = .ok (.imul, 1) := by decide +kernel
theorem dX7_grow_183 : decode cX7_grow 183 = .ok (.iadd, 1) := by decide +kernel
theorem dX7_grow_184 : decode cX7_grow 184 = .ok (.if_icmp .lt 7, 3) := by decide +kernel
theorem dX7_grow_187 : decode cX7_grow 187 = .ok (.iconst 1, 1) := by decide +kernel
theorem dX7_grow_188 : decode cX7_grow 188 = .ok (.goto 4, 3) := by decide +kernel
theorem dX7_grow_191 : decode cX7_grow 191 = .ok (.iconst 0, 1) := by decide +kernel
theorem dX7_grow_192 : decode cX7_grow 192 = .ok (.iadd, 1) := by decide +kernel
theorem dX7_grow_193 : decode cX7_grow 193 = .ok (.iastore, 1) := by decide +kernel
theorem dX7_grow_194 : decode cX7_grow 194 = .ok (.aload_n 1, 1) := by decide +kernel
theorem dX7_grow_195 : decode cX7_grow 195 = .ok (.iconst 4, 1) := by decide +kernel
theorem dX7_grow_196 : decode cX7_grow 196 = .ok (.iaload, 1) := by decide +kernel
theorem dX7_grow_197 : decode cX7_grow 197 = .ok (.iconst 5, 1) := by decide +kernel
theorem dX7_grow_198 : decode cX7_grow 198 = .ok (.if_icmp .ge 17, 3) := by decide +kernel
theorem dX7_grow_201 : decode cX7_grow 201 = .ok (.aload_n 1, 1) := by decide +kernel
theorem dX7_grow_202 : decode cX7_grow 202 = .ok (.bipush 9, 2) := by decide +kernel
theorem dX7_grow_204 : decode cX7_grow 204 = .ok (.iconst 0, 1) := by decide +kernel
theorem dX7_grow_205 : decode cX7_grow 205 = .ok (.aload_n 1, 1) := by decide +kernel
theorem dX7_grow_206 : decode cX7_grow 206 = .ok (.bipush 9, 2) := by decide +kernel
theorem dX7_grow_208 : decode cX7_grow 208 = .ok (.iaload, 1) := by decide +kernel
theorem dX7_grow_209 : decode cX7_grow 209 = .ok (.iconst 1, 1) := by decide +kernel
theorem dX7_grow_210 : decode cX7_grow 210 = .ok (.isub, 1) := by decide +kernel
theorem dX7_grow_211 : decode cX7_grow 211 = .ok (.invokestatic 60, 3) := by decide +kernel
theorem dX7_grow_214 : decode cX7_grow 214 = .ok (.iastore, 1) := by decide +kernel
theorem dX7_grow_215 : decode cX7_grow 215 = .ok (.return_, 1) := by decide +kernel
theorem dX7_live_0 : decode cX7_live 0 = .ok (.aload_n 1, 1) := by decide +kernel
theorem dX7_live_1 : decode cX7_live 1 = .ok (.bipush 8, 2) := by decide +kernel
theorem dX7_live_3 : decode cX7_live 3 = .ok (.iaload, 1) := by decide +kernel
theorem dX7_live_4 : decode cX7_live 4 = .ok (.istore_n 2, 1) := by decide +kernel
theorem dX7_live_5 : decode cX7_live 5 = .ok (.aload_n 1, 1) := by decide +kernel
theorem dX7_live_6 : decode cX7_live 6 = .ok (.iconst 4, 1) := by decide +kernel
theorem dX7_live_7 : decode cX7_live 7 = .ok (.iaload, 1) := by decide +kernel
theorem dX7_live_8 : decode cX7_live 8 = .ok (.iconst 2, 1) := by decide +kernel
theorem dX7_live_9 : decode cX7_live 9 = .ok (.if_icmp .ge 10, 3) := by decide +kernel
theorem dX7_live_12 : decode cX7_live 12 = .ok (.iload_n 2, 1) := by decide +kernel
theorem dX7_live_13 : decode cX7_live 13 = .ok (.iconst 2, 1) := by decide +kernel
theorem dX7_live_14 : decode cX7_live 14 = .ok (.idiv, 1) := by decide +kernel
theorem dX7_live_15 : decode cX7_live 15 = .ok (.istore_n 2, 1) := by decide +kernel
theorem dX7_live_16 : decode cX7_live 16 = .ok (.goto 18, 3) := by decide +kernel
theorem dX7_live_19 : decode cX7_live 19 = .ok (.aload_n 1, 1) := by decide +kernel
theorem dX7_live_20 : decode cX7_live 20 = .ok (.iconst 4, 1) := by decide +kernel
theorem dX7_live_21 : decode cX7_live 21 = .ok (.iaload, 1) := by decide +kernel
theorem dX7_live_22 : decode cX7_live 22 = .ok (.iconst 5, 1) := by decide +kernel
theorem dX7_live_23 : decode cX7_live 23 = .ok (.if_icmp .ge 11, 3) := by decide +kernel
theorem dX7_live_26 : decode cX7_live 26 = .ok (.iload_n 2, 1) := by decide +kernel
theorem dX7_live_27 : decode cX7_live 27 = .ok (.iconst 1, 1) := by decide +kernel
theorem dX7_live_28 : decode cX7_live 28 = .ok (.iload_n 2, 1) := by decide +kernel
theorem dX7_live_29 : decode cX7_live 29 = .ok (.iconst 4, 1) := by decide +kernel
theorem dX7_live_30 : decode cX7_live 30 = .ok (.idiv, 1) := by decide +kernel
theorem dX7_live_31 : decode cX7_live 31 = .ok (.iadd, 1) := by decide +kernel
theorem dX7_live_32 : decode cX7_live 32 = .ok (.iadd, 1) := by decide +kernel
theorem dX7_live_33 : decode cX7_live 33 = .ok (.istore_n 2, 1) := by decide +kernel
theorem dX7_live_34 : decode cX7_live 34 = .ok (.aload_n 1, 1) := by decide +kernel
theorem dX7_live_35 : decode cX7_live 35 = .ok (.bipush 16, 2) := by decide +kernel
theorem dX7_live_37 : decode cX7_live 37 = .ok (.iaload, 1) := by decide +kernel
theorem dX7_live_38 : decode cX7_live 38 = .ok (.iconst 1, 1) := by decide +kernel
theorem dX7_live_39 : decode cX7_live 39 = .ok (.if_icmp .ne 6, 3) := by decide +kernel
theorem dX7_live_42 : decode cX7_live 42 = .ok (.iinc 2 (-4), 3) := by decide +kernel
theorem dX7_live_45 : decode cX7_live 45 = .ok (.aload_n 1, 1) := by decide +kernel
theorem dX7_live_46 : decode cX7_live 46 = .ok (.bipush 8, 2) := by decide +kernel
theorem dX7_live_48 : decode cX7_live 48 = .ok (.iconst 0, 1) := by decide +kernel
theorem dX7_live_49 : decode cX7_live 49 = .ok (.bipush 99, 2) := by decide +kernel
theorem dX7_live_51 : decode cX7_live 51 = .ok (.iload_n 2, 1) := by decide +kernel
theorem dX7_live_52 : decode cX7_live 52 = .ok (.invokestatic 66, 3) := by decide +kernel
theorem dX7_live_55 : decode cX7_live 55 = .ok (.invokestatic 60, 3) := by decide +kernel
theorem dX7_live_58 : decode cX7_live 58 = .ok (.iastore, 1) := by decide +kernel
theorem dX7_live_59 : decode cX7_live 59 = .ok (.return_, 1) := by decide +kernel
theorem dX7_fly_0 : decode cX7_fly 0 = .ok (.iconst 0, 1) := by decide +kernel
theorem dX7_fly_1 : decode cX7_fly 1 = .ok (.istore_n 1, 1) := by decide +kernel
theorem dX7_fly_2 : decode cX7_fly 2 = .ok (.iload_n 1, 1) := by decide +kernel
theorem dX7_fly_3 : decode cX7_fly 3 = .ok (.aload_n 0, 1) := by decide +kernel
theorem dX7_fly_4 : decode cX7_fly 4 = .ok (.getfield 26, 3) := by decide +kernel
theorem dX7_fly_7 : decode cX7_fly 7 = .ok (.arraylength, 1) := by decide +kernel
theorem dX7_fly_8 : decode cX7_fly 8 = .ok (.if_icmp .ge 16, 3) := by decide +kernel
theorem dX7_fly_11 : decode cX7_fly 11 = .ok (.aload_n 0, 1) := by decide +kernel
theorem dX7_fly_12 : decode cX7_fly 12 = .ok (.getfield 18, 3) := by decide +kernel
theorem dX7_fly_15 : decode cX7_fly 15 = .ok (.iload_n 1, 1) := by decide +kernel
theorem dX7_fly_16 : decode cX7_fly 16 = .ok (.iconst 0, 1) := by decide +kernel
theorem dX7_fly_17 : decode cX7_fly 17 = .ok (.iastore, 1) := by decide +kernel
theorem dX7_fly_18 : decode cX7_fly 18 = .ok (.iinc 1 1, 3) := by decide +kernel
theorem dX7_fly_21 : decode cX7_fly 21 = .ok (.goto (-19), 3) := by decide +kernel
theorem dX7_fly_24 : decode cX7_fly 24 = .ok (.iconst 0, 1) := by decide +kernel
theorem dX7_fly_25 : decode cX7_fly 25 = .ok (.istore_n 1, 1) := by decide +kernel
theorem dX7_fly_26 : decode cX7_fly 26 = .ok (.iload_n 1, 1) := by decide +kernel
theorem dX7_fly_27 : decode cX7_fly 27 = .ok (.aload_n 0, 1) := by decide +kernel
theorem dX7_fly_28 : decode cX7_fly 28 = .ok (.getfield 26, 3) := by decide +kernel
theorem dX7_fly_31 : decode cX7_fly 31 = .ok (.arraylength, 1) := by decide +kernel
theorem dX7_fly_32 : decode cX7_fly 32 = .ok (.if_icmp .ge 137, 3) := by decide +kernel
theorem dX7_fly_35 : decode cX7_fly 35 = .ok (.aload_n 0, 1) := by decide +kernel
theorem dX7_fly_36 : decode cX7_fly 36 = .ok (.getfield 26, 3) := by decide +kernel
theorem dX7_fly_39 : decode cX7_fly 39 = .ok (.iload_n 1, 1) := by decide +kernel
theorem dX7_fly_40 : decode cX7_fly 40 = .ok (.aaload, 1) := by decide +kernel
theorem dX7_fly_41 : decode cX7_fly 41 = .ok (.bipush 8, 2) := by decide +kernel
theorem dX7_fly_43 : decode cX7_fly 43 = .ok (.iaload, 1) := by decide +kernel
theorem dX7_fly_44 : decode cX7_fly 44 = .ok (.bipush 20, 2) := by decide +kernel
theorem dX7_fly_46 : decode cX7_fly 46 = .ok (.if_icmp .le 17, 3) := by decide +kernel
theorem dX7_fly_49 : decode cX7_fly 49 = .ok (.aload_n 0, 1) := by decide +kernel
theorem dX7_fly_50 : decode cX7_fly 50 = .ok (.getfield 26, 3) := by decide +kernel
theorem dX7_fly_53 : decode cX7_fly 53 = .ok (.iload_n 1, 1) := by decide +kernel
theorem dX7_fly_54 : decode cX7_fly 54 = .ok (.aaload, 1) := by decide +kernel
theorem dX7_fly_55 : decode cX7_fly 55 = .ok (.bipush 8, 2) := by decide +kernel
theorem dX7_fly_57 : decode cX7_fly 57 = .ok (.iaload, 1) := by decide +kernel
theorem dX7_fly_58 : decode cX7_fly 58 = .ok (.iconst 5, 1) := by decide +kernel
theorem dX7_fly_59 : decode cX7_fly 59 = .ok (.idiv, 1) := by decide +kernel
theorem dX7_fly_60 : decode cX7_fly 60 = .ok (.goto 4, 3) := by decide +kernel
theorem dX7_fly_63 : decode cX7_fly 63 = .ok (.iconst 0, 1) := by decide +kernel
theorem dX7_fly_64 : decode cX7_fly 64 = .ok (.istore_n 2, 1) := by decide +kernel
theorem dX7_fly_65 : decode cX7_fly 65 = .ok (.iconst (-1), 1) := by decide +kernel
theorem dX7_fly_66 : decode cX7_fly 66 = .ok (.istore_n 3, 1) := by decide +kernel
theorem dX7_fly_67 : decode cX7_fly 67 = .ok (.iload_n 3, 1) := by decide +kernel
theorem dX7_fly_68 : decode cX7_fly 68 = .ok (.iconst 2, 1) := by decide +kernel
theorem dX7_fly_69 : decode cX7_fly 69 = .ok (.if_icmp .ge 94, 3) := by decide +kernel
theorem dX7_fly_72 : decode cX7_fly 72 = .ok (.iload_n 1, 1) := by decide +kernel
theorem dX7_fly_73 : decode cX7_fly 73 = .ok (.iload_n 3, 1) := by decide +kernel
theorem dX7_fly_74 : decode cX7_fly 74 = .ok (.iadd, 1) := by decide +kernel
theorem dX7_fly_75 : decode cX7_fly 75 = .ok (.istore 4, 2) := by decide +kernel
theorem dX7_fly_77 : decode cX7_fly 77 = .ok (.iload 4, 2) := by decide +kernel
theorem dX7_fly_79 : decode cX7_fly 79 = .ok (.ifCond .lt 39, 3) := by decide +kernel
theorem dX7_fly_82 : decode cX7_fly 82 = .ok (.iload 4, 2) := by decide +kernel
theorem dX7_fly_84 : decode cX7_fly 84 = .ok (.aload_n 0, 1) := by decide +kernel
theorem dX7_fly_85 : decode cX7_fly 85 = .ok (.getfield 26, 3) := by decide +kernel
theorem dX7_fly_88 : decode cX7_fly 88 = .ok (.arraylength, 1) := by decide +kernel
theorem dX7_fly_89 : decode cX7_fly 89 = .ok (.if_icmp .ge 29, 3) := by decide +kernel
theorem dX7_fly_92 : decode cX7_fly 92 = .ok (.aload_n 0, 1) := by decide +kernel
theorem dX7_fly_93 : decode cX7_fly 93 = .ok (.getfield 26, 3) := by decide +kernel
theorem dX7_fly_96 : decode cX7_fly 96 = .ok (.iload 4, 2) := by decide +kernel
theorem dX7_fly_98 : decode cX7_fly 98 = .ok (.aaload, 1) := by decide +kernel
theorem dX7_fly_99 : decode cX7_fly 99 = .ok (.iconst 4, 1) := by decide +kernel
theorem dX7_fly_100 : decode cX7_fly 100 = .ok (.iaload, 1) := by decide +kernel
theorem dX7_fly_101 : decode cX7_fly 101 = .ok (.iconst 2, 1) := by decide +kernel
theorem dX7_fly_102 : decode cX7_fly 102 = .ok (.iconst 4, 1) := by decide +kernel
theorem dX7_fly_103 : decode cX7_fly 103 = .ok (.invokestatic 72, 3) := by decide +kernel
theorem dX7_fly_106 : decode cX7_fly 106 = .ok (.ifCond .ne 12, 3) := by decide +kernel
theorem dX7_fly_109 : decode cX7_fly 109 = .ok (.iload 4, 2) := by decide +kernel
theorem dX7_fly_111 : decode cX7_fly 111 = .ok (.iload_n 3, 1) := by decide +kernel
theorem dX7_fly_112 : decode cX7_fly 112 = .ok (.iadd, 1) := by decide +kernel
theorem dX7_fly_113 : decode cX7_fly 113 = .ok (.istore 4, 2) := by decide +kernel
theorem dX7_fly_115 : decode cX7_fly 115 = .ok (.goto (-38), 3) := by decide +kernel
theorem dX7_fly_118 : decode cX7_fly 118 = .ok (.iload 4, 2) := by decide +kernel
theorem dX7_fly_120 : decode cX7_fly 120 = .ok (.ifCond .lt 37, 3) := by decide +kernel
theorem dX7_fly_123 : decode cX7_fly 123 = .ok (.iload 4, 2) := by decide +kernel
theorem dX7_fly_125 : decode cX7_fly 125 = .ok (.aload_n 0, 1) := by decide +kernel
theorem dX7_fly_126 : decode cX7_fly 126 = .ok (.getfield 26, 3) := by decide +kernel
theorem dX7_fly_129 : decode cX7_fly 129 = .ok (.arraylength, 1) := by decide +kernel
theorem dX7_fly_130 : decode cX7_fly 130 = .ok (.if_icmp .lt 6, 3) := by decide +kernel
theorem dX7_fly_133 : decode cX7_fly 133 = .ok (.goto 24, 3) := by decide +kernel
theorem dX7_fly_136 : decode cX7_fly 136 = .ok (.aload_n 0, 1) := by decide +kernel
theorem dX7_fly_137 : decode cX7_fly 137 = .ok (.getfield 18, 3) := by decide +kernel
theorem dX7_fly_140 : decode cX7_fly 140 = .ok (.iload_n 1, 1) := by decide +kernel
theorem dX7_fly_141 : decode cX7_fly 141 = .ok (.dup2, 1) := by decide +kernel
theorem dX7_fly_142 : decode cX7_fly 142 = .ok (.iaload, 1) := by decide +kernel
theorem dX7_fly_143 : decode cX7_fly 143 = .ok (.iload_n 2, 1) := by decide +kernel
theorem dX7_fly_144 : decode cX7_fly 144 = .ok (.isub, 1) := by decide +kernel
theorem dX7_fly_145 : decode cX7_fly 145 = .ok (.iastore, 1) := by decide +kernel
theorem dX7_fly_146 : decode cX7_fly 146 = .ok (.aload_n 0, 1) := by decide +kernel
theorem dX7_fly_147 : decode cX7_fly 147 = .ok (.getfield 18, 3) := by decide +kernel
theorem dX7_fly_150 : decode cX7_fly 150 = .ok (.iload 4, 2) := by decide +kernel
theorem dX7_fly_152 : decode cX7_fly 152 = .ok (.dup2, 1) := by decide +kernel
theorem dX7_fly_153 : decode cX7_fly 153 = .ok (.iaload, 1) := by decide +kernel
theorem dX7_fly_154 : decode cX7_fly 154 = .ok (.iload_n 2, 1) := by decide +kernel
theorem dX7_fly_155 : decode cX7_fly 155 = .ok (.iadd, 1) := by decide +kernel
theorem dX7_fly_156 : decode cX7_fly 156 = .ok (.iastore, 1) := by decide +kernel
theorem dX7_fly_157 : decode cX7_fly 157 = .ok (.iinc 3 2, 3) := by decide +kernel
theorem dX7_fly_160 : decode cX7_fly 160 = .ok (.goto (-93), 3) := by decide +kernel
theorem dX7_fly_163 : decode cX7_fly 163 = .ok (.iinc 1 1, 3) := by decide +kernel
theorem dX7_fly_166 : decode cX7_fly 166 = .ok (.goto (-140), 3) := by decide +kernel
theorem dX7_fly_169 : decode cX7_fly 169 = .ok (.iconst 0, 1) := by decide +kernel
theorem dX7_fly_170 : decode cX7_fly 170 = .ok (.istore_n 1, 1) := by decide +kernel
theorem dX7_fly_171 : decode cX7_fly 171 = .ok (.iload_n 1, 1) := by decide +kernel
theorem dX7_fly_172 : decode cX7_fly 172 = .ok (.aload_n 0, 1) := by decide +kernel
theorem dX7_fly_173 : decode cX7_fly 173 = .ok (.getfield 26, 3) := by decide +kernel
theorem dX7_fly_176 : decode cX7_fly 176 = .ok (.arraylength, 1) := by decide +kernel
theorem dX7_fly_177 : decode cX7_fly 177 = .ok (.if_icmp .ge 39, 3) := by decide +kernel
theorem dX7_fly_180 : decode cX7_fly 180 = .ok (.aload_n 0, 1) := by decide +kernel
theorem dX7_fly_181 : decode cX7_fly 181 = .ok (.getfield 26, 3) := by decide +kernel
theorem dX7_fly_184 : decode cX7_fly 184 = .ok (.iload_n 1, 1) := by decide +kernel
theorem dX7_fly_185 : decode cX7_fly 185 = .ok (.aaload, 1) := by decide +kernel
theorem dX7_fly_186 : decode cX7_fly 186 = .ok (.bipush 8, 2) := by decide +kernel
theorem dX7_fly_188 : decode cX7_fly 188 = .ok (.bipush 99, 2) := by decide +kernel
theorem dX7_fly_190 : decode cX7_fly 190 = .ok (.aload_n 0, 1) := by decide +kernel
theorem dX7_fly_191 : decode cX7_fly 191 = .ok (.getfield 26, 3) := by decide +kernel
theorem dX7_fly_194 : decode cX7_fly 194 = .ok (.iload_n 1, 1) := by decide +kernel
theorem dX7_fly_195 : decode cX7_fly 195 = .ok (.aaload, 1) := by decide +kernel
theorem dX7_fly_196 : decode cX7_fly 196 = .ok (.bipush 8, 2) := by decide +kernel
theorem dX7_fly_198 : decode cX7_fly 198 = .ok (.iaload, 1) := by decide +kernel
theorem dX7_fly_199 : decode cX7_fly 199 = .ok (.aload_n 0, 1) := by decide +kernel
theorem dX7_fly_200 : decode cX7_fly 200 = .ok (.getfield 18, 3) := by decide +kernel
theorem dX7_fly_203 : decode cX7_fly 203 = .ok (.iload_n 1, 1) := by decide +kernel
theorem dX7_fly_204 : decode cX7_fly 204 = .ok (.iaload, 1) := by decide +kernel
theorem dX7_fly_205 : decode cX7_fly 205 = .ok (.iadd, 1) := by decide +kernel
theorem dX7_fly_206 : decode cX7_fly 206 = .ok (.invokestatic 66, 3) := by decide +kernel
theorem dX7_fly_209 : decode cX7_fly 209 = .ok (.iastore, 1) := by decide +kernel
theorem dX7_fly_210 : decode cX7_fly 210 = .ok (.iinc 1 1, 3) := by decide +kernel
theorem dX7_fly_213 : decode cX7_fly 213 = .ok (.goto (-42), 3) := by decide +kernel
theorem dX7_fly_216 : decode cX7_fly 216 = .ok (.return_, 1) := by decide +kernel
theorem dX7_plant_0 : decode cX7_plant 0 = .ok (.aload_n 0, 1) := by decide +kernel
theorem dX7_plant_1 : decode cX7_plant 1 = .ok (.getfield 26, 3) := by decide +kernel
theorem dX7_plant_4 : decode cX7_plant 4 = .ok (.iload_n 1, 1) := by decide +kernel
theorem dX7_plant_5 : decode cX7_plant 5 = .ok (.aaload, 1) := by decide +kernel
theorem dX7_plant_6 : decode cX7_plant 6 = .ok (.astore_n 3, 1) := by decide +kernel
theorem dX7_plant_7 : decode cX7_plant 7 = .ok (.aload_n 3, 1) := by decide +kernel
theorem dX7_plant_8 : decode cX7_plant 8 = .ok (.iconst 4, 1) := by decide +kernel
theorem dX7_plant_9 : decode cX7_plant 9 = .ok (.iconst 2, 1) := by decide +kernel
theorem dX7_plant_10 : decode cX7_plant 10 = .ok (.iastore, 1) := by decide +kernel
theorem dX7_plant_11 : decode cX7_plant 11 = .ok (.aload_n 3, 1) := by decide +kernel
theorem dX7_plant_12 : decode cX7_plant 12 = .ok (.iconst 5, 1) := by decide +kernel
theorem dX7_plant_13 : decode cX7_plant 13 = .ok (.iload_n 2, 1) := by decide +kernel
theorem dX7_plant_14 : decode cX7_plant 14 = .ok (.iastore, 1) := by decide +kernel
theorem dX7_plant_15 : decode cX7_plant 15 = .ok (.aload_n 3, 1) := by decide +kernel
theorem dX7_plant_16 : decode cX7_plant 16 = .ok (.bipush 6, 2) := by decide +kernel
theorem dX7_plant_18 : decode cX7_plant 18 = .ok (.iconst 0, 1) := by decide +kernel
theorem dX7_plant_19 : decode cX7_plant 19 = .ok (.iastore, 1) := by decide +kernel
theorem dX7_plant_20 : decode cX7_plant 20 = .ok (.aload_n 3, 1) := by decide +kernel
theorem dX7_plant_21 : decode cX7_plant 21 = .ok (.bipush 7, 2) := by decide +kernel
theorem dX7_plant_23 : decode cX7_plant 23 = .ok (.bipush 100, 2) := by decide +kernel
theorem dX7_plant_25 : decode cX7_plant 25 = .ok (.iastore, 1) := by decide +kernel
theorem dX7_plant_26 : decode cX7_plant 26 = .ok (.aload_n 3, 1) := by decide +kernel
theorem dX7_plant_27 : decode cX7_plant 27 = .ok (.bipush 10, 2) := by decide +kernel
theorem dX7_plant_29 : decode cX7_plant 29 = .ok (.iconst 0, 1) := by decide +kernel
theorem dX7_plant_30 : decode cX7_plant 30 = .ok (.iastore, 1) := by decide +kernel
theorem dX7_plant_31 : decode cX7_plant 31 = .ok (.aload_n 3, 1) := by decide +kernel
theorem dX7_plant_32 : decode cX7_plant 32 = .ok (.bipush 20, 2) := by decide +kernel
theorem dX7_plant_34 : decode cX7_plant 34 = .ok (.iconst 0, 1) := by decide +kernel
theorem dX7_plant_35 : decode cX7_plant 35 = .ok (.iastore, 1) := by decide +kernel
theorem dX7_plant_36 : decode cX7_plant 36 = .ok (.aload_n 3, 1) := by decide +kernel
theorem dX7_plant_37 : decode cX7_plant 37 = .ok (.bipush 21, 2) := by decide +kernel
theorem dX7_plant_39 : decode cX7_plant 39 = .ok (.bipush 120, 2) := by decide +kernel
theorem dX7_plant_41 : decode cX7_plant 41 = .ok (.iastore, 1) := by decide +kernel
theorem dX7_plant_42 : decode cX7_plant 42 = .ok (.return_, 1) := by decide +kernel
theorem dX7_isRipe_0 : decode cX7_isRipe 0 = .ok (.iconst 0, 1) := by decide +kernel
theorem dX7_isRipe_1 : decode cX7_isRipe 1 = .ok (.istore_n 1, 1) := by decide +kernel
theorem dX7_isRipe_2 : decode cX7_isRipe 2 = .ok (.iconst 0, 1) := by decide +kernel
theorem dX7_isRipe_3 : decode cX7_isRipe 3 = .ok (.istore_n 2, 1) := by decide +kernel
theorem dX7_isRipe_4 : decode cX7_isRipe 4 = .ok (.iload_n 2, 1) := by decide +kernel
theorem dX7_isRipe_5 : decode cX7_isRipe 5 = .ok (.aload_n 0, 1) := by decide +kernel
theorem dX7_isRipe_6 : decode cX7_isRipe 6 = .ok (.getfield 26, 3) := by decide +kernel
theorem dX7_isRipe_9 : decode cX7_isRipe 9 = .ok (.arraylength, 1) := by decide +kernel
theorem dX7_isRipe_10 : decode cX7_isRipe 10 = .ok (.if_icmp .ge 31, 3) := by decide +kernel
theorem dX7_isRipe_13 : decode cX7_isRipe 13 = .ok (.iload_n 1, 1) := by decide +kernel
theorem dX7_isRipe_14 : decode cX7_isRipe 14 = .ok (.aload_n 0, 1) := by decide +kernel
theorem dX7_isRipe_15 : decode cX7_isRipe 15 = .ok (.getfield 26, 3) := by decide +kernel
theorem dX7_isRipe_18 : decode cX7_isRipe 18 = .ok (.iload_n 2, 1) := by decide +kernel
theorem dX7_isRipe_19 : decode cX7_isRipe 19 = .ok (.aaload, 1) := by decide +kernel
theorem dX7_isRipe_20 : decode cX7_isRipe 20 = .ok (.iconst 4, 1) := by decide +kernel
theorem dX7_isRipe_21 : decode cX7_isRipe 21 = .ok (.iaload, 1) := by decide +kernel
theorem dX7_isRipe_22 : decode cX7_isRipe 22 = .ok (.iconst 5, 1) := by decide +kernel
theorem dX7_isRipe_23 : decode cX7_isRipe 23 = .ok (.if_icmp .ne 9, 3) := by decide +kernel
theorem dX7_isRipe_26 : decode cX7_isRipe 26 = .ok (.iconst 1, 1) := by decide +kernel
theorem dX7_isRipe_27 : decode cX7_isRipe 27 = .ok (.iload_n 2, 1) := by decide +kernel
theorem dX7_isRipe_28 : decode cX7_isRipe 28 = .ok (.ishl, 1) := by decide +kernel
theorem dX7_isRipe_29 : decode cX7_isRipe 29 = .ok (.goto 4, 3) := by decide +kernel
theorem dX7_isRipe_32 : decode cX7_isRipe 32 = .ok (.iconst 0, 1) := by decide +kernel
theorem dX7_isRipe_33 : decode cX7_isRipe 33 = .ok (.ior, 1) := by decide +kernel
theorem dX7_isRipe_34 : decode cX7_isRipe 34 = .ok (.istore_n 1, 1) := by decide +kernel
theorem dX7_isRipe_35 : decode cX7_isRipe 35 = .ok (.iinc 2 1, 3) := by decide +kernel
theorem dX7_isRipe_38 : decode cX7_isRipe 38 = .ok (.goto (-34), 3) := by decide +kernel
theorem dX7_isRipe_41 : decode cX7_isRipe 41 = .ok (.iload_n 1, 1) := by decide +kernel
theorem dX7_isRipe_42 : decode cX7_isRipe 42 = .ok (.ireturn, 1) := by decide +kernel
theorem dX8_init_0 : decode cX8_init 0 = .ok (.aload_n 0, 1) := by decide +kernel
theorem dX8_init_1 : decode cX8_init 1 = .ok (.invokespecial 1, 3) := by decide +kernel
theorem dX8_init_4 : decode cX8_init 4 = .ok (.aload_n 0, 1) := by decide +kernel
theorem dX8_init_5 : decode cX8_init 5 = .ok (.new 7, 3) := by decide +kernel
theorem dX8_init_8 : decode cX8_init 8 = .ok (.dup, 1) := by decide +kernel
theorem dX8_init_9 : decode cX8_init 9 = .ok (.iconst 0, 1) := by decide +kernel
theorem dX8_init_10 : decode cX8_init 10 = .ok (.iconst 0, 1) := by decide +kernel
theorem dX8_init_11 : decode cX8_init 11 = .ok (.invokespecial 9, 3) := by decide +kernel
theorem dX8_init_14 : decode cX8_init 14 = .ok (.putfield 12, 3) := by decide +kernel
theorem dX8_init_17 : decode cX8_init 17 = .ok (.return_, 1) := by decide +kernel
theorem dX8_thrown_0 : decode cX8_thrown 0 = .ok (.aload_n 0, 1) := by decide +kernel
theorem dX8_thrown_1 : decode cX8_thrown 1 = .ok (.getfield 18, 3) := by decide +kernel
theorem dX8_thrown_4 : decode cX8_thrown 4 = .ok (.ireturn, 1) := by decide +kernel
theorem dX8_refuse_0 : decode cX8_refuse 0 = .ok (.aload_n 0, 1) := by decide +kernel
theorem dX8_refuse_1 : decode cX8_refuse 1 = .ok (.iload_n 1, 1) := by decide +kernel
theorem dX8_refuse_2 : decode cX8_refuse 2 = .ok (.putfield 18, 3) := by decide +kernel
theorem dX8_refuse_5 : decode cX8_refuse 5 = .ok (.iconst 0, 1) := by decide +kernel
theorem dX8_refuse_6 : decode cX8_refuse 6 = .ok (.ireturn, 1) := by decide +kernel
theorem dX8_is_0 : decode cX8_is 0 = .ok (.iload_n 0, 1) := by decide +kernel
theorem dX8_is_1 : decode cX8_is 1 = .ok (.iload_n 1, 1) := by decide +kernel
theorem dX8_is_2 : decode cX8_is 2 = .ok (.if_icmp .lt 12, 3) := by decide +kernel
theorem dX8_is_5 : decode cX8_is 5 = .ok (.iload_n 0, 1) := by decide +kernel
theorem dX8_is_6 : decode cX8_is 6 = .ok (.iload_n 2, 1) := by decide +kernel
theorem dX8_is_7 : decode cX8_is 7 = .ok (.if_icmp .gt 7, 3) := by decide +kernel
theorem dX8_is_10 : decode cX8_is 10 = .ok (.iconst 1, 1) := by decide +kernel
theorem dX8_is_11 : decode cX8_is 11 = .ok (.goto 4, 3) := by decide +kernel
theorem dX8_is_14 : decode cX8_is 14 = .ok (.iconst 0, 1) := by decide +kernel
theorem dX8_is_15 : decode cX8_is 15 = .ok (.ireturn, 1) := by decide +kernel
theorem dX8_isSociety_0 : decode cX8_isSociety 0 = .ok (.iload_n 1, 1) := by decide +kernel
theorem dX8_isSociety_1 : decode cX8_isSociety 1 = .ok (.iconst 0, 1) := by decide +kernel
theorem dX8_isSociety_2 : decode cX8_isSociety 2 = .ok (.aload_n 0, 1) := by decide +kernel
theorem dX8_isSociety_3 : decode cX8_isSociety 3 = .ok (.getfield 12, 3) := by decide +kernel
theorem dX8_isSociety_6 : decode cX8_isSociety 6 = .ok (.getfield 22, 3) := by decide +kernel
theorem dX8_isSociety_9 : decode cX8_isSociety 9 = .ok (.arraylength, 1) := by decide +kernel
theorem dX8_isSociety_10 : decode cX8_isSociety 10 = .ok (.iconst 1, 1) := by decide +kernel
theorem dX8_isSociety_11 : decode cX8_isSociety 11 = .ok (.isub, 1) := by decide +kernel
theorem dX8_isSociety_12 : decode cX8_isSociety 12 = .ok (.invokestatic 26, 3) := by decide +kernel
theorem dX8_isSociety_15 : decode cX8_isSociety 15 = .ok (.ireturn, 1) := by decide +kernel
theorem dX8_isField_0 : decode cX8_isField 0 = .ok (.iload_n 1, 1) := by decide +kernel
theorem dX8_isField_1 : decode cX8_isField 1 = .ok (.iconst 0, 1) := by decide +kernel
theorem dX8_isField_2 : decode cX8_isField 2 = .ok (.aload_n 0, 1) := by decide +kernel
theorem dX8_isField_3 : decode cX8_isField 3 = .ok (.getfield 12, 3) := by decide +kernel
theorem dX8_isField_6 : decode cX8_isField 6 = .ok (.getfield 30, 3) := by decide +kernel
theorem dX8_isField_9 : decode cX8_isField 9 = .ok (.arraylength, 1) := by decide +kernel
theorem dX8_isField_10 : decode cX8_isField 10 = .ok (.iconst 1, 1) := by decide +kernel
theorem dX8_isField_11 : decode cX8_isField 11 = .ok (.isub, 1) := by decide +kernel
theorem dX8_isField_12 : decode cX8_isField 12 = .ok (.invokestatic 26, 3) := by decide +kernel
theorem dX8_isField_15 : decode cX8_isField 15 = .ok (.ireturn, 1) := by decide +kernel
theorem dX8_society_0 : decode cX8_society 0 = .ok (.aload_n 0, 1) := by decide +kernel
theorem dX8_society_1 : decode cX8_society 1 = .ok (.iconst 0, 1) := by decide +kernel
theorem dX8_society_2 : decode cX8_society 2 = .ok (.putfield 18, 3) := by decide +kernel
theorem dX8_society_5 : decode cX8_society 5 = .ok (.iload_n 1, 1) := by decide +kernel
theorem dX8_society_6 : decode cX8_society 6 = .ok (.iconst 1, 1) := by decide +kernel
theorem dX8_society_7 : decode cX8_society 7 = .ok (.bipush 9, 2) := by decide +kernel
theorem dX8_society_9 : decode cX8_society 9 = .ok (.invokestatic 26, 3) := by decide +kernel
theorem dX8_society_12 : decode cX8_society 12 = .ok (.ifCond .eq 36, 3) := by decide +kernel
theorem dX8_society_15 : decode cX8_society 15 = .ok (.iload_n 2, 1) := by decide +kernel
theorem dX8_society_16 : decode cX8_society 16 = .ok (.iconst 0, 1) := by decide +kernel
theorem dX8_society_17 : decode cX8_society 17 = .ok (.bipush 50, 2) := by decide +kernel
theorem dX8_society_19 : decode cX8_society 19 = .ok (.invokestatic 26, 3) := by decide +kernel
theorem dX8_society_22 : decode cX8_society 22 = .ok (.ifCond .eq 26, 3) := by decide +kernel
theorem dX8_society_25 : decode cX8_society 25 = .ok (.iload_n 3, 1) := by decide +kernel
theorem dX8_society_26 : decode cX8_society 26 = .ok (.iconst 0, 1) := by decide +kernel
theorem dX8_society_27 : decode cX8_society 27 = .ok (.sipush 209, 3) := by decide +kernel
theorem dX8_society_30 : decode cX8_society 30 = .ok (.invokestatic 26, 3) := by decide +kernel
theorem dX8_society_33 : decode cX8_society 33 = .ok (.ifCond .eq 15, 3) := by decide +kernel
theorem dX8_society_36 : decode cX8_society 36 = .ok (.iload 4, 2) := by decide +kernel
theorem dX8_society_38 : decode cX8_society 38 = .ok (.iconst 1, 1) := by decide +kernel
theorem dX8_society_39 : decode cX8_society 39 = .ok (.sipush 210, 3) := by decide +kernel
theorem dX8_society_42 : decode cX8_society 42 = .ok (.invokestatic 26, 3) := by decide +kernel
theorem dX8_society_45 : decode cX8_society 45 = .ok (.ifCond .ne 9, 3) := by decide +kernel
theorem dX8_society_48 : decode cX8_society 48 = .ok (.aload_n 0, 1) := by decide +kernel
theorem dX8_society_49 : decode cX8_society 49 = .ok (.iconst 1, 1) := by decide +kernel
theorem dX8_society_50 : decode cX8_society 50 = .ok (.invokevirtual 33, 3) := by decide +kernel
theorem dX8_society_53 : decode cX8_society 53 = .ok (.ireturn, 1) := by decide +kernel
theorem dX8_society_54 : decode cX8_society 54 = .ok (.aload_n 0, 1) := by decide +kernel
theorem dX8_society_55 : decode cX8_society 55 = .ok (.getfield 12, 3) := by decide +kernel
theorem dX8_society_58 : decode cX8_society 58 = .ok (.getfield 22, 3) := by decide +kernel
theorem dX8_society_61 : decode cX8_society 61 = .ok (.arraylength, 1) := by decide +kernel
theorem dX8_society_62 : decode cX8_society 62 = .ok (.iconst 3, 1) := by decide +kernel
theorem dX8_society_63 : decode cX8_society 63 = .ok (.if_icmp .ne 9, 3) := by decide +kernel
theorem dX8_society_66 : decode cX8_society 66 = .ok (.aload_n 0, 1) := by decide +kernel
theorem dX8_society_67 : decode cX8_society 67 = .ok (.iconst 2, 1) := by decide +kernel
theorem dX8_society_68 : decode cX8_society 68 = .ok (.invokevirtual 33, 3) := by decide +kernel
theorem dX8_society_71 : decode cX8_society 71 = .ok (.ireturn, 1) := by decide +kernel
theorem dX8_society_72 : decode cX8_society 72 = .ok (.aload_n 0, 1) := by decide +kernel
theorem dX8_society_73 : decode cX8_society 73 = .ok (.aload_n 0, 1) := by decide +kernel
theorem dX8_society_74 : decode cX8_society 74 = .ok (.getfield 12, 3) := by decide +kernel
theorem dX8_society_77 : decode cX8_society 77 = .ok (.iconst 1, 1) := by decide +kernel
theorem dX8_society_78 : decode cX8_society 78 = .ok (.iconst 0, 1) := by decide +kernel
theorem dX8_society_79 : decode cX8_society 79 = .ok (.invokevirtual 37, 3) := by decide +kernel
theorem dX8_society_82 : decode cX8_society 82 = .ok (.putfield 12, 3) := by decide +kernel
theorem dX8_society_85 : decode cX8_society 85 = .ok (.aload_n 0, 1) := by decide +kernel
theorem dX8_society_86 : decode cX8_society 86 = .ok (.getfield 12, 3) := by decide +kernel
theorem dX8_society_89 : decode cX8_society 89 = .ok (.getfield 22, 3) := by decide +kernel
theorem dX8_society_92 : decode cX8_society 92 = .ok (.aload_n 0, 1) := by decide +kernel
theorem dX8_society_93 : decode cX8_society 93 = .ok (.getfield 12, 3) := by decide +kernel
theorem dX8_society_96 : decode cX8_society 96 = .ok (.getfield 22, 3) := by decide +kernel
theorem dX8_society_99 : decode cX8_society 99 = .ok (.arraylength, 1) := by decide +kernel
theorem dX8_society_100 : decode cX8_society 100 = .ok (.iconst 1, 1) := by decide +kernel
theorem dX8_society_101 : decode cX8_society 101 = .ok (.isub, 1) := by decide +kernel
theorem dX8_society_102 : decode cX8_society 102 = .ok (.aaload, 1) := by decide +kernel
theorem dX8_society_103 : decode cX8_society 103 = .ok (.astore 5, 2) := by decide +kernel
theorem dX8_society_105 : decode cX8_society 105 = .ok (.aload 5, 2) := by decide +kernel
theorem dX8_society_107 : decode cX8_society 107 = .ok (.iconst 0, 1) := by decide +kernel
theorem dX8_society_108 : decode cX8_society 108 = .ok (.iload_n 1, 1) := by decide +kernel
theorem dX8_society_109 : decode cX8_society 109 = .ok (.iastore, 1) := by decide +kernel
theorem dX8_society_110 : decode cX8_society 110 = .ok (.aload 5, 2) := by decide +kernel
theorem dX8_society_112 : decode cX8_society 112 = .ok (.iconst 1, 1) := by decide +kernel
theorem dX8_society_113 : decode cX8_society 113 = .ok (.iload_n 2, 1) := by decide +kernel
theorem dX8_society_114 : decode cX8_society 114 = .ok (.iastore, 1) := by decide +kernel
theorem dX8_society_115 : decode cX8_society 115 = .ok (.aload 5, 2) := by decide +kernel
theorem dX8_society_117 : decode cX8_society 117 = .ok (.iconst 2, 1) := by decide +kernel
theorem dX8_society_118 : decode cX8_society 118 = .ok (.iload_n 3, 1) := by decide +kernel
theorem dX8_society_119 : decode cX8_society 119 = .ok (.iastore, 1) := by decide +kernel
theorem dX8_society_120 : decode cX8_society 120 = .ok (.aload 5, 2) := by decide +kernel
theorem dX8_society_122 : decode cX8_society 122 = .ok (.iconst 3, 1) := by decide +kernel
theorem dX8_society_123 : decode cX8_society 123 = .ok (.iload 4, 2) := by decide +kernel
theorem dX8_society_125 : decode cX8_society 125 = .ok (.iastore, 1) := by decide +kernel
theorem dX8_society_126 : decode cX8_society 126 = .ok (.aload 5, 2) := by decide +kernel
theorem dX8_society_128 : decode cX8_society 128 = .ok (.bipush 7, 2) := by decide +kernel
theorem dX8_society_130 : decode cX8_society 130 = .ok (.iconst (-1), 1) := by decide +kernel
theorem dX8_society_131 : decode cX8_society 131 = .ok (.iastore, 1) := by decide +kernel
theorem dX8_society_132 : decode cX8_society 132 = .ok (.aload_n 0, 1) := by decide +kernel
theorem dX8_society_133 : decode cX8_society 133 = .ok (.getfield 12, 3) := by decide +kernel
theorem dX8_society_136 : decode cX8_society 136 = .ok (.getfield 22, 3) := by decide +kernel
theorem dX8_society_139 : decode cX8_society 139 = .ok (.arraylength, 1) := by decide +kernel
theorem dX8_society_140 : decode cX8_society 140 = .ok (.iconst 1, 1) := by decide +kernel
theorem dX8_society_141 : decode cX8_society 141 = .ok (.isub, 1) := by decide +kernel
theorem dX8_society_142 : decode cX8_society 142 = .ok (.ireturn, 1) := by decide +kernel
theorem dX8_field_0 : decode cX8_field 0 = .ok (.aload_n 0, 1) := by decide +kernel
theorem dX8_field_1 : decode cX8_field 1 = .ok (.iconst 0, 1) := by decide +kernel
theorem dX8_field_2 : decode cX8_field 2 = .ok (.putfield 18, 3) := by decide +kernel
theorem dX8_field_5 : decode cX8_field 5 = .ok (.aload_n 0, 1) := by decide +kernel
theorem dX8_field_6 : decode cX8_field 6 = .ok (.iload_n 1, 1) := by decide +kernel
theorem dX8_field_7 : decode cX8_field 7 = .ok (.invokevirtual 41, 3) := by decide +kernel
theorem dX8_field_10 : decode cX8_field 10 = .ok (.ifCond .ne 9, 3) := by decide +kernel
theorem dX8_field_13 : decode cX8_field 13 = .ok (.aload_n 0, 1) := by decide +kernel
theorem dX8_field_14 : decode cX8_field 14 = .ok (.iconst 1, 1) := by decide +kernel
theorem dX8_field_15 : decode cX8_field 15 = .ok (.invokevirtual 33, 3) := by decide +kernel
theorem dX8_field_18 : decode cX8_field 18 = .ok (.ireturn, 1) := by decide +kernel
theorem dX8_field_19 : decode cX8_field 19 = .ok (.iload_n 2, 1) := by decide +kernel
theorem dX8_field_20 : decode cX8_field 20 = .ok (.iconst 1, 1) := by decide +kernel
theorem dX8_field_21 : decode cX8_field 21 = .ok (.bipush 9, 2) := by decide +kernel
theorem dX8_field_23 : decode cX8_field 23 = .ok (.invokestatic 26, 3) := by decide +kernel
theorem dX8_field_26 : decode cX8_field 26 = .ok (.ifCond .eq 13, 3) := by decide +kernel
theorem dX8_field_29 : decode cX8_field 29 = .ok (.iload_n 3, 1) := by decide +kernel
theorem dX8_field_30 : decode cX8_field 30 = .ok (.iconst 5, 1) := by decide +kernel
theorem dX8_field_31 : decode cX8_field 31 = .ok (.bipush 60, 2) := by decide +kernel
theorem dX8_field_33 : decode cX8_field 33 = .ok (.invokestatic 26, 3) := by decide +kernel
theorem dX8_field_36 : decode cX8_field 36 = .ok (.ifCond .ne 9, 3) := by decide +kernel
theorem dX8_field_39 : decode cX8_field 39 = .ok (.aload_n 0, 1) := by decide +kernel
theorem dX8_field_40 : decode cX8_field 40 = .ok (.iconst 2, 1) := by decide +kernel
theorem dX8_field_41 : decode cX8_field 41 = .ok (.invokevirtual 33, 3) := by decide +kernel
theorem dX8_field_44 : decode cX8_field 44 = .ok (.ireturn, 1) := by decide +kernel
theorem dX8_field_45 : decode cX8_field 45 = .ok (.aload_n 0, 1) := by decide +kernel
theorem dX8_field_46 : decode cX8_field 46 = .ok (.getfield 12, 3) := by decide +kernel
theorem dX8_field_49 : decode cX8_field 49 = .ok (.getfield 30, 3) := by decide +kernel
theorem dX8_field_52 : decode cX8_field 52 = .ok (.arraylength, 1) := by decide +kernel
theorem dX8_field_53 : decode cX8_field 53 = .ok (.bipush 12, 2) := by decide +kernel
theorem dX8_field_55 : decode cX8_field 55 = .ok (.if_icmp .ne 9, 3) := by decide +kernel
theorem dX8_field_58 : decode cX8_field 58 = .ok (.aload_n 0, 1) := by decide +kernel
theorem dX8_field_59 : decode cX8_field 59 = .ok (.iconst 3, 1) := by decide +kernel
theorem dX8_field_60 : decode cX8_field 60 = .ok (.invokevirtual 33, 3) := by decide +kernel
theorem dX8_field_63 : decode cX8_field 63 = .ok (.ireturn, 1) := by decide +kernel
theorem dX8_field_64 : decode cX8_field 64 = .ok (.aload_n 0, 1) := by decide +kernel
theorem dX8_field_65 : decode cX8_field 65 = .ok (.aload_n 0, 1) := by decide +kernel
theorem dX8_field_66 : decode cX8_field 66 = .ok (.getfield 12, 3) := by decide +kernel
theorem dX8_field_69 : decode cX8_field 69 = .ok (.iconst 0, 1) := by decide +kernel
theorem dX8_field_70 : decode cX8_field 70 = .ok (.iconst 1, 1) := by decide +kernel
theorem dX8_field_71 : decode cX8_field 71 = .ok (.invokevirtual 37, 3) := by decide +kernel
theorem dX8_field_74 : decode cX8_field 74 = .ok (.putfield 12, 3) := by decide +kernel
theorem dX8_field_77 : decode cX8_field 77 = .ok (.aload_n 0, 1) := by decide +kernel
theorem dX8_field_78 : decode cX8_field 78 = .ok (.getfield 12, 3) := by decide +kernel
theorem dX8_field_81 : decode cX8_field 81 = .ok (.getfield 30, 3) := by decide +kernel
theorem dX8_field_84 : decode cX8_field 84 = .ok (.aload_n 0, 1) := by decide +kernel
theorem dX8_field_85 : decode cX8_field 85 = .ok (.getfield 12, 3) := by decide +kernel
theorem dX8_field_88 : decode cX8_field 88 = .ok (.getfield 30, 3) := by decide +kernel
theorem dX8_field_91 : decode cX8_field 91 = .ok (.arraylength, 1) := by decide +kernel
theorem dX8_field_92 : decode cX8_field 92 = .ok (.iconst 1, 1) := by decide +kernel
theorem dX8_field_93 : decode cX8_field 93 = .ok (.isub, 1) := by decide +kernel
theorem dX8_field_94 : decode cX8_field 94 = .ok (.aaload, 1) := by decide +kernel
theorem dX8_field_95 : decode cX8_field 95 = .ok (.astore 4, 2) := by decide +kernel
theorem dX8_field_97 : decode cX8_field 97 = .ok (.aload 4, 2) := by decide +kernel
theorem dX8_field_99 : decode cX8_field 99 = .ok (.iconst 0, 1) := by decide +kernel
theorem dX8_field_100 : decode cX8_field 100 = .ok (.iload_n 1, 1) := by decide +kernel
theorem dX8_field_101 : decode cX8_field 101 = .ok (.iastore, 1) := by decide +kernel
theorem dX8_field_102 : decode cX8_field 102 = .ok (.aload 4, 2) := by decide +kernel
theorem dX8_field_104 : decode cX8_field 104 = .ok (.bipush 13, 2) := by decide +kernel
theorem dX8_field_106 : decode cX8_field 106 = .ok (.iload_n 2, 1) := by decide +kernel
theorem dX8_field_107 : decode cX8_field 107 = .ok (.iastore, 1) := by decide +kernel
theorem dX8_field_108 : decode cX8_field 108 = .ok (.aload 4, 2) := by decide +kernel
theorem dX8_field_110 : decode cX8_field 110 = .ok (.bipush 14, 2) := by decide +kernel
theorem dX8_field_112 : decode cX8_field 112 = .ok (.iload_n 3, 1) := by decide +kernel
theorem dX8_field_113 : decode cX8_field 113 = .ok (.iastore, 1) := by decide +kernel
theorem dX8_field_114 : decode cX8_field 114 = .ok (.aload 4, 2) := by decide +kernel
theorem dX8_field_116 : decode cX8_field 116 = .ok (.bipush 9, 2) := by decide +kernel
theorem dX8_field_118 : decode cX8_field 118 = .ok (.bipush 20, 2) := by decide +kernel
theorem dX8_field_120 : decode cX8_field 120 = .ok (.iastore, 1) := by decide +kernel
theorem dX8_field_121 : decode cX8_field 121 = .ok (.aload 4, 2) := by decide +kernel
theorem dX8_field_123 : decode cX8_field 123 = .ok (.bipush 17, 2) := by decide +kernel
theorem dX8_field_125 : decode cX8_field 125 = .ok (.bipush 20, 2) := by decide +kernel
theorem dX8_field_127 : decode cX8_field 127 = .ok (.iastore, 1) := by decide +kernel
theorem dX8_field_128 : decode cX8_field 128 = .ok (.aload 4, 2) := by decide +kernel
theorem dX8_field_130 : decode cX8_field 130 = .ok (.bipush 21, 2) := by decide +kernel
theorem dX8_field_132 : decode cX8_field 132 = .ok (.bipush 120, 2) := by decide +kernel
theorem dX8_field_134 : decode cX8_field 134 = .ok (.iastore, 1) := by decide +kernel
theorem dX8_field_135 : decode cX8_field 135 = .ok (.aload_n 0, 1) := by decide +kernel
theorem dX8_field_136 : decode cX8_field 136 = .ok (.getfield 12, 3) := by decide +kernel
theorem dX8_field_139 : decode cX8_field 139 = .ok (.getfield 30, 3) := by decide +kernel
theorem dX8_field_142 : decode cX8_field 142 = .ok (.arraylength, 1) := by decide +kernel
theorem dX8_field_143 : decode cX8_field 143 = .ok (.iconst 1, 1) := by decide +kernel
theorem dX8_field_144 : decode cX8_field 144 = .ok (.isub, 1) := by decide +kernel
theorem dX8_field_145 : decode cX8_field 145 = .ok (.ireturn, 1) := by decide +kernel
theorem dX8_gate_0 : decode cX8_gate 0 = .ok (.aload_n 0, 1) := by decide +kernel
theorem dX8_gate_1 : decode cX8_gate 1 = .ok (.aload_n 0, 1) := by decide +kernel
theorem dX8_gate_2 : decode cX8_gate 2 = .ok (.iload_n 1, 1) := by decide +kernel
theorem dX8_gate_3 : decode cX8_gate 3 = .ok (.invokevirtual 45, 3) := by decide +kernel
theorem dX8_gate_6 : decode cX8_gate 6 = .ok (.ifCond .eq 7, 3) := by decide +kernel
theorem dX8_gate_9 : decode cX8_gate 9 = .ok (.iconst 0, 1) := by decide +kernel
theorem dX8_gate_10 : decode cX8_gate 10 = .ok (.goto 4, 3) := by decide +kernel
theorem dX8_gate_13 : decode cX8_gate 13 = .ok (.iconst 1, 1) := by decide +kernel
theorem dX8_gate_14 : decode cX8_gate 14 = .ok (.putfield 18, 3) := by decide +kernel
theorem dX8_gate_17 : decode cX8_gate 17 = .ok (.aload_n 0, 1) := by decide +kernel
theorem dX8_gate_18 : decode cX8_gate 18 = .ok (.getfield 18, 3) := by decide +kernel
theorem dX8_gate_21 : decode cX8_gate 21 = .ok (.ifCond .le 5, 3) := by decide +kernel
theorem dX8_gate_24 : decode cX8_gate 24 = .ok (.iconst 0, 1) := by decide +kernel
theorem dX8_gate_25 : decode cX8_gate 25 = .ok (.ireturn, 1) := by decide +kernel
theorem dX8_gate_26 : decode cX8_gate 26 = .ok (.aload_n 0, 1) := by decide +kernel
theorem dX8_gate_27 : decode cX8_gate 27 = .ok (.getfield 12, 3) := by decide +kernel
theorem dX8_gate_30 : decode cX8_gate 30 = .ok (.getfield 30, 3) := by decide +kernel
theorem dX8_gate_33 : decode cX8_gate 33 = .ok (.iload_n 1, 1) := by decide +kernel
theorem dX8_gate_34 : decode cX8_gate 34 = .ok (.aaload, 1) := by decide +kernel
theorem dX8_gate_35 : decode cX8_gate 35 = .ok (.bipush 12, 2) := by decide +kernel
theorem dX8_gate_37 : decode cX8_gate 37 = .ok (.iaload, 1) := by decide +kernel
theorem dX8_gate_38 : decode cX8_gate 38 = .ok (.iconst 1, 1) := by decide +kernel
theorem dX8_gate_39 : decode cX8_gate 39 = .ok (.if_icmp .ne 7, 3) := by decide +kernel
theorem dX8_gate_42 : decode cX8_gate 42 = .ok (.iconst 1, 1) := by decide +kernel
theorem dX8_gate_43 : decode cX8_gate 43 = .ok (.goto 4, 3) := by decide +kernel
theorem dX8_gate_46 : decode cX8_gate 46 = .ok (.iconst 0, 1) := by decide +kernel
theorem dX8_gate_47 : decode cX8_gate 47 = .ok (.istore_n 3, 1) := by decide +kernel
theorem dX8_gate_48 : decode cX8_gate 48 = .ok (.aload_n 0, 1) := by decide +kernel
theorem dX8_gate_49 : decode cX8_gate 49 = .ok (.getfield 12, 3) := by decide +kernel
theorem dX8_gate_52 : decode cX8_gate 52 = .ok (.getfield 30, 3) := by decide +kernel
theorem dX8_gate_55 : decode cX8_gate 55 = .ok (.iload_n 1, 1) := by decide +kernel
theorem dX8_gate_56 : decode cX8_gate 56 = .ok (.aaload, 1) := by decide +kernel
theorem dX8_gate_57 : decode cX8_gate 57 = .ok (.bipush 12, 2) := by decide +kernel
theorem dX8_gate_59 : decode cX8_gate 59 = .ok (.iload_n 2, 1) := by decide +kernel
theorem dX8_gate_60 : decode cX8_gate 60 = .ok (.ifCond .eq 7, 3) := by decide +kernel
theorem dX8_gate_63 : decode cX8_gate 63 = .ok (.iconst 1, 1) := by decide +kernel
theorem dX8_gate_64 : decode cX8_gate 64 = .ok (.goto 4, 3) := by decide +kernel
theorem dX8_gate_67 : decode cX8_gate 67 = .ok (.iconst 0, 1) := by decide +kernel
theorem dX8_gate_68 : decode cX8_gate 68 = .ok (.iastore, 1) := by decide +kernel
theorem dX8_gate_69 : decode cX8_gate 69 = .ok (.iload_n 3, 1) := by decide +kernel
theorem dX8_gate_70 : decode cX8_gate 70 = .ok (.ireturn, 1) := by decide +kernel
theorem dX8_stones_0 : decode cX8_stones 0 = .ok (.aload_n 0, 1) := by decide +kernel
theorem dX8_stones_1 : decode cX8_stones 1 = .ok (.iconst 0, 1) := by decide +kernel
theorem dX8_stones_2 : decode cX8_stones 2 = .ok (.putfield 18, 3) := by decide +kernel
theorem dX8_stones_5 : decode cX8_stones 5 = .ok (.aload_n 0, 1) := by decide +kernel
theorem dX8_stones_6 : decode cX8_stones 6 = .ok (.iload_n 1, 1) := by decide +kernel
theorem dX8_stones_7 : decode cX8_stones 7 = .ok (.invokevirtual 45, 3) := by decide +kernel
theorem dX8_stones_10 : decode cX8_stones 10 = .ok (.ifCond .ne 9, 3) := by decide +kernel
theorem dX8_stones_13 : decode cX8_stones 13 = .ok (.aload_n 0, 1) := by decide +kernel
theorem dX8_stones_14 : decode cX8_stones 14 = .ok (.iconst 1, 1) := by decide +kernel
theorem dX8_stones_15 : decode cX8_stones 15 = .ok (.invokevirtual 33, 3) := by decide +kernel
theorem dX8_stones_18 : decode cX8_stones 18 = .ok (.ireturn, 1) := by decide +kernel
theorem dX8_stones_19 : decode cX8_stones 19 = .ok (.iload_n 2, 1) := by decide +kernel
theorem dX8_stones_20 : decode cX8_stones 20 = .ok (.iconst 0, 1) := by decide +kernel
theorem dX8_stones_21 : decode cX8_stones 21 = .ok (.iconst 5, 1) := by decide +kernel
theorem dX8_stones_22 : decode cX8_stones 22 = .ok (.invokestatic 26, 3) := by decide +kernel
theorem dX8_stones_25 : decode cX8_stones 25 = .ok (.ifCond .ne 9, 3) := by decide +kernel
theorem dX8_stones_28 : decode cX8_stones 28 = .ok (.aload_n 0, 1) := by decide +kernel
theorem dX8_stones_29 : decode cX8_stones 29 = .ok (.iconst 2, 1) := by decide +kernel
theorem dX8_stones_30 : decode cX8_stones 30 = .ok (.invokevirtual 33, 3) := by decide +kernel
theorem dX8_stones_33 : decode cX8_stones 33 = .ok (.ireturn, 1) := by decide +kernel
theorem dX8_stones_34 : decode cX8_stones 34 = .ok (.aload_n 0, 1) := by decide +kernel
theorem dX8_stones_35 : decode cX8_stones 35 = .ok (.getfield 12, 3) := by decide +kernel
theorem dX8_stones_38 : decode cX8_stones 38 = .ok (.getfield 30, 3) := by decide +kernel
theorem dX8_stones_41 : decode cX8_stones 41 = .ok (.iload_n 1, 1) := by decide +kernel
theorem dX8_stones_42 : decode cX8_stones 42 = .ok (.aaload, 1) := by decide +kernel
theorem dX8_stones_43 : decode cX8_stones 43 = .ok (.bipush 15, 2) := by decide +kernel
theorem dX8_stones_45 : decode cX8_stones 45 = .ok (.iaload, 1) := by decide +kernel
theorem dX8_stones_46 : decode cX8_stones 46 = .ok (.istore_n 3, 1) := by decide +kernel
theorem dX8_stones_47 : decode cX8_stones 47 = .ok (.aload_n 0, 1) := by decide +kernel
theorem dX8_stones_48 : decode cX8_stones 48 = .ok (.getfield 12, 3) := by decide +kernel
theorem dX8_stones_51 : decode cX8_stones 51 = .ok (.getfield 30, 3) := by decide +kernel
theorem dX8_stones_54 : decode cX8_stones 54 = .ok (.iload_n 1, 1) := by decide +kernel
theorem dX8_stones_55 : decode cX8_stones 55 = .ok (.aaload, 1) := by decide +kernel
theorem dX8_stones_56 : decode cX8_stones 56 = .ok (.bipush 15, 2) := by decide +kernel
theorem dX8_stones_58 : decode cX8_stones 58 = .ok (.iload_n 2, 1) := by decide +kernel
theorem dX8_stones_59 : decode cX8_stones 59 = .ok (.iastore, 1) := by decide +kernel
theorem dX8_stones_60 : decode cX8_stones 60 = .ok (.iload_n 3, 1) := by decide +kernel
theorem dX8_stones_61 : decode cX8_stones 61 = .ok (.ireturn, 1) := by decide +kernel
theorem dX8_rotate_0 : decode cX8_rotate 0 = .ok (.aload_n 0, 1) := by decide +kernel
theorem dX8_rotate_1 : decode cX8_rotate 1 = .ok (.aload_n 0, 1) := by decide +kernel
theorem dX8_rotate_2 : decode cX8_rotate 2 = .ok (.iload_n 1, 1) := by decide +kernel
theorem dX8_rotate_3 : decode cX8_rotate 3 = .ok (.invokevirtual 41, 3) := by decide +kernel
theorem dX8_rotate_6 : decode cX8_rotate 6 = .ok (.ifCond .eq 7, 3) := by decide +kernel
theorem dX8_rotate_9 : decode cX8_rotate 9 = .ok (.iconst 0, 1) := by decide +kernel
theorem dX8_rotate_10 : decode cX8_rotate 10 = .ok (.goto 4, 3) := by decide +kernel
theorem dX8_rotate_13 : decode cX8_rotate 13 = .ok (.iconst 1, 1) := by decide +kernel
theorem dX8_rotate_14 : decode cX8_rotate 14 = .ok (.putfield 18, 3) := by decide +kernel
theorem dX8_rotate_17 : decode cX8_rotate 17 = .ok (.aload_n 0, 1) := by decide +kernel
theorem dX8_rotate_18 : decode cX8_rotate 18 = .ok (.getfield 18, 3) := by decide +kernel
theorem dX8_rotate_21 : decode cX8_rotate 21 = .ok (.ifCond .le 5, 3) := by decide +kernel
theorem dX8_rotate_24 : decode cX8_rotate 24 = .ok (.iconst 0, 1) := by decide +kernel
theorem dX8_rotate_25 : decode cX8_rotate 25 = .ok (.ireturn, 1) := by decide +kernel
theorem dX8_rotate_26 : decode cX8_rotate 26 = .ok (.aload_n 0, 1) := by decide +kernel
theorem dX8_rotate_27 : decode cX8_rotate 27 = .ok (.getfield 12, 3) := by decide +kernel
theorem dX8_rotate_30 : decode cX8_rotate 30 = .ok (.getfield 22, 3) := by decide +kernel
theorem dX8_rotate_33 : decode cX8_rotate 33 = .ok (.iload_n 1, 1) := by decide +kernel
theorem dX8_rotate_34 : decode cX8_rotate 34 = .ok (.aaload, 1) := by decide +kernel
theorem dX8_rotate_35 : decode cX8_rotate 35 = .ok (.bipush 6, 2) := by decide +kernel
theorem dX8_rotate_37 : decode cX8_rotate 37 = .ok (.iaload, 1) := by decide +kernel
theorem dX8_rotate_38 : decode cX8_rotate 38 = .ok (.iconst 1, 1) := by decide +kernel
theorem dX8_rotate_39 : decode cX8_rotate 39 = .ok (.if_icmp .ne 7, 3) := by decide +kernel
theorem dX8_rotate_42 : decode cX8_rotate 42 = .ok (.iconst 1, 1) := by decide +kernel
theorem dX8_rotate_43 : decode cX8_rotate 43 = .ok (.goto 4, 3) := by decide +kernel
theorem dX8_rotate_46 : decode cX8_rotate 46 = .ok (.iconst 0, 1) := by decide +kernel
theorem dX8_rotate_47 : decode cX8_rotate 47 = .ok (.istore_n 3, 1) := by decide +kernel
theorem dX8_rotate_48 : decode cX8_rotate 48 = .ok (.aload_n 0, 1) := by decide +kernel
theorem dX8_rotate_49 : decode cX8_rotate 49 = .ok (.getfield 12, 3) := by decide +kernel
theorem dX8_rotate_52 : decode cX8_rotate 52 = .ok (.getfield 22, 3) := by decide +kernel
theorem dX8_rotate_55 : decode cX8_rotate 55 = .ok (.iload_n 1, 1) := by decide +kernel
theorem dX8_rotate_56 : decode cX8_rotate 56 = .ok (.aaload, 1) := by decide +kernel
theorem dX8_rotate_57 : decode cX8_rotate 57 = .ok (.bipush 6, 2) := by decide +kernel
theorem dX8_rotate_59 : decode cX8_rotate 59 = .ok (.iload_n 2, 1) := by decide +kernel
theorem dX8_rotate_60 : decode cX8_rotate 60 = .ok (.ifCond .eq 7, 3) := by decide +kernel
theorem dX8_rotate_63 : decode cX8_rotate 63 = .ok (.iconst 1, 1) := by decide +kernel
theorem dX8_rotate_64 : decode cX8_rotate 64 = .ok (.goto 4, 3) := by decide +kernel
theorem dX8_rotate_67 : decode cX8_rotate 67 = .ok (.iconst 0, 1) := by decide +kernel
theorem dX8_rotate_68 : decode cX8_rotate 68 = .ok (.iastore, 1) := by decide +kernel
theorem dX8_rotate_69 : decode cX8_rotate 69 = .ok (.iload_n 3, 1) := by decide +kernel
theorem dX8_rotate_70 : decode cX8_rotate 70 = .ok (.ireturn, 1) := by decide +kernel
theorem dX8_puddle_0 : decode cX8_puddle 0 = .ok (.aload_n 0, 1) := by decide +kernel
theorem dX8_puddle_1 : decode cX8_puddle 1 = .ok (.iconst 0, 1) := by decide +kernel
theorem dX8_puddle_2 : decode cX8_puddle 2 = .ok (.putfield 18, 3) := by decide +kernel
theorem dX8_puddle_5 : decode cX8_puddle 5 = .ok (.aload_n 0, 1) := by decide +kernel
theorem dX8_puddle_6 : decode cX8_puddle 6 = .ok (.iload_n 1, 1) := by decide +kernel
theorem dX8_puddle_7 : decode cX8_puddle 7 = .ok (.invokevirtual 45, 3) := by decide +kernel
theorem dX8_puddle_10 : decode cX8_puddle 10 = .ok (.ifCond .ne 9, 3) := by decide +kernel
theorem dX8_puddle_13 : decode cX8_puddle 13 = .ok (.aload_n 0, 1) := by decide +kernel
theorem dX8_puddle_14 : decode cX8_puddle 14 = .ok (.iconst 1, 1) := by decide +kernel
theorem dX8_puddle_15 : decode cX8_puddle 15 = .ok (.invokevirtual 33, 3) := by decide +kernel
theorem dX8_puddle_18 : decode cX8_puddle 18 = .ok (.ireturn, 1) := by decide +kernel
theorem dX8_puddle_19 : decode cX8_puddle 19 = .ok (.aload_n 0, 1) := by decide +kernel
theorem dX8_puddle_20 : decode cX8_puddle 20 = .ok (.getfield 12, 3) := by decide +kernel
theorem dX8_puddle_23 : decode cX8_puddle 23 = .ok (.getfield 30, 3) := by decide +kernel
theorem dX8_puddle_26 : decode cX8_puddle 26 = .ok (.iload_n 1, 1) := by decide +kernel
theorem dX8_puddle_27 : decode cX8_puddle 27 = .ok (.aaload, 1) := by decide +kernel
theorem dX8_puddle_28 : decode cX8_puddle 28 = .ok (.astore_n 2, 1) := by decide +kernel
theorem dX8_puddle_29 : decode cX8_puddle 29 = .ok (.aload_n 2, 1) := by decide +kernel
theorem dX8_puddle_30 : decode cX8_puddle 30 = .ok (.iconst 4, 1) := by decide +kernel
theorem dX8_puddle_31 : decode cX8_puddle 31 = .ok (.iaload, 1) := by decide +kernel
theorem dX8_puddle_32 : decode cX8_puddle 32 = .ok (.ifCond .ne 11, 3) := by decide +kernel
theorem dX8_puddle_35 : decode cX8_puddle 35 = .ok (.aload_n 2, 1) := by decide +kernel
theorem dX8_puddle_36 : decode cX8_puddle 36 = .ok (.iconst 1, 1) := by decide +kernel
theorem dX8_puddle_37 : decode cX8_puddle 37 = .ok (.iaload, 1) := by decide +kernel
theorem dX8_puddle_38 : decode cX8_puddle 38 = .ok (.bipush 10, 2) := by decide +kernel
theorem dX8_puddle_40 : decode cX8_puddle 40 = .ok (.if_icmp .ge 9, 3) := by decide +kernel
theorem dX8_puddle_43 : decode cX8_puddle 43 = .ok (.aload_n 0, 1) := by decide +kernel
theorem dX8_puddle_44 : decode cX8_puddle 44 = .ok (.iconst 2, 1) := by decide +kernel
theorem dX8_puddle_45 : decode cX8_puddle 45 = .ok (.invokevirtual 33, 3) := by decide +kernel
theorem dX8_puddle_48 : decode cX8_puddle 48 = .ok (.ireturn, 1) := by decide +kernel
theorem dX8_puddle_49 : decode cX8_puddle 49 = .ok (.aload_n 2, 1) := by decide +kernel
theorem dX8_puddle_50 : decode cX8_puddle 50 = .ok (.iconst 4, 1) := by decide +kernel
theorem dX8_puddle_51 : decode cX8_puddle 51 = .ok (.iconst 1, 1) := by decide +kernel
theorem dX8_puddle_52 : decode cX8_puddle 52 = .ok (.iastore, 1) := by decide +kernel
theorem dX8_puddle_53 : decode cX8_puddle 53 = .ok (.aload_n 2, 1) := by decide +kernel
theorem dX8_puddle_54 : decode cX8_puddle 54 = .ok (.iconst 2, 1) := by decide +kernel
theorem dX8_puddle_55 : decode cX8_puddle 55 = .ok (.iconst 0, 1) := by decide +kernel
theorem dX8_puddle_56 : decode cX8_puddle 56 = .ok (.iastore, 1) := by decide +kernel
theorem dX8_puddle_57 : decode cX8_puddle 57 = .ok (.aload_n 2, 1) := by decide +kernel
theorem dX8_puddle_58 : decode cX8_puddle 58 = .ok (.iconst 1, 1) := by decide +kernel
theorem dX8_puddle_59 : decode cX8_puddle 59 = .ok (.iaload, 1) := by decide +kernel
theorem dX8_puddle_60 : decode cX8_puddle 60 = .ok (.ireturn, 1) := by decide +kernel
theorem dX8_isKind_0 : decode cX8_isKind 0 = .ok (.iload_n 0, 1) := by decide +kernel
theorem dX8_isKind_1 : decode cX8_isKind 1 = .ok (.iconst 0, 1) := by decide +kernel
theorem dX8_isKind_2 : decode cX8_isKind 2 = .ok (.iconst 2, 1) := by decide +kernel
theorem dX8_isKind_3 : decode cX8_isKind 3 = .ok (.invokestatic 26, 3) := by decide +kernel
theorem dX8_isKind_6 : decode cX8_isKind 6 = .ok (.ireturn, 1) := by decide +kernel
theorem dX8_plant_0 : decode cX8_plant 0 = .ok (.aload_n 0, 1) := by decide +kernel
theorem dX8_plant_1 : decode cX8_plant 1 = .ok (.iconst 0, 1) := by decide +kernel
theorem dX8_plant_2 : decode cX8_plant 2 = .ok (.putfield 18, 3) := by decide +kernel
theorem dX8_plant_5 : decode cX8_plant 5 = .ok (.aload_n 0, 1) := by decide +kernel
theorem dX8_plant_6 : decode cX8_plant 6 = .ok (.iload_n 1, 1) := by decide +kernel
theorem dX8_plant_7 : decode cX8_plant 7 = .ok (.invokevirtual 45, 3) := by decide +kernel
theorem dX8_plant_10 : decode cX8_plant 10 = .ok (.ifCond .ne 9, 3) := by decide +kernel
theorem dX8_plant_13 : decode cX8_plant 13 = .ok (.aload_n 0, 1) := by decide +kernel
theorem dX8_plant_14 : decode cX8_plant 14 = .ok (.iconst 1, 1) := by decide +kernel
theorem dX8_plant_15 : decode cX8_plant 15 = .ok (.invokevirtual 33, 3) := by decide +kernel
theorem dX8_plant_18 : decode cX8_plant 18 = .ok (.ireturn, 1) := by decide +kernel
theorem dX8_plant_19 : decode cX8_plant 19 = .ok (.iload_n 2, 1) := by decide +kernel
theorem dX8_plant_20 : decode cX8_plant 20 = .ok (.invokestatic 48, 3) := by decide +kernel
theorem dX8_plant_23 : decode cX8_plant 23 = .ok (.ifCond .ne 9, 3) := by decide +kernel
theorem dX8_plant_26 : decode cX8_plant 26 = .ok (.aload_n 0, 1) := by decide +kernel
theorem dX8_plant_27 : decode cX8_plant 27 = .ok (.iconst 2, 1) := by decide +kernel
theorem dX8_plant_28 : decode cX8_plant 28 = .ok (.invokevirtual 33, 3) := by decide +kernel
theorem dX8_plant_31 : decode cX8_plant 31 = .ok (.ireturn, 1) := by decide +kernel
theorem dX8_plant_32 : decode cX8_plant 32 = .ok (.aload_n 0, 1) := by decide +kernel
theorem dX8_plant_33 : decode cX8_plant 33 = .ok (.getfield 12, 3) := by decide +kernel
theorem dX8_plant_36 : decode cX8_plant 36 = .ok (.getfield 30, 3) := by decide +kernel
theorem dX8_plant_39 : decode cX8_plant 39 = .ok (.iload_n 1, 1) := by decide +kernel
theorem dX8_plant_40 : decode cX8_plant 40 = .ok (.aaload, 1) := by decide +kernel
theorem dX8_plant_41 : decode cX8_plant 41 = .ok (.astore_n 3, 1) := by decide +kernel
theorem dX8_plant_42 : decode cX8_plant 42 = .ok (.aload_n 3, 1) := by decide +kernel
theorem dX8_plant_43 : decode cX8_plant 43 = .ok (.iconst 4, 1) := by decide +kernel
theorem dX8_plant_44 : decode cX8_plant 44 = .ok (.iaload, 1) := by decide +kernel
theorem dX8_plant_45 : decode cX8_plant 45 = .ok (.iconst 1, 1) := by decide +kernel
theorem dX8_plant_46 : decode cX8_plant 46 = .ok (.if_icmp .ne 26, 3) := by decide +kernel
theorem dX8_plant_49 : decode cX8_plant 49 = .ok (.aload_n 0, 1) := by decide +kernel
theorem dX8_plant_50 : decode cX8_plant 50 = .ok (.getfield 12, 3) := by decide +kernel
theorem dX8_plant_53 : decode cX8_plant 53 = .ok (.getfield 51, 3) := by decide +kernel
theorem dX8_plant_56 : decode cX8_plant 56 = .ok (.iconst 0, 1) := by decide +kernel
theorem dX8_plant_57 : decode cX8_plant 57 = .ok (.iaload, 1) := by decide +kernel
theorem dX8_plant_58 : decode cX8_plant 58 = .ok (.bipush 30, 2) := by decide +kernel
theorem dX8_plant_60 : decode cX8_plant 60 = .ok (.irem, 1) := by decide +kernel
theorem dX8_plant_61 : decode cX8_plant 61 = .ok (.ifCond .eq 11, 3) := by decide +kernel
theorem dX8_plant_64 : decode cX8_plant 64 = .ok (.aload_n 3, 1) := by decide +kernel
theorem dX8_plant_65 : decode cX8_plant 65 = .ok (.bipush 10, 2) := by decide +kernel
theorem dX8_plant_67 : decode cX8_plant 67 = .ok (.iaload, 1) := by decide +kernel
theorem dX8_plant_68 : decode cX8_plant 68 = .ok (.iconst 3, 1) := by decide +kernel
theorem dX8_plant_69 : decode cX8_plant 69 = .ok (.if_icmp .ge 9, 3) := by decide +kernel
theorem dX8_plant_72 : decode cX8_plant 72 = .ok (.aload_n 0, 1) := by decide +kernel
theorem dX8_plant_73 : decode cX8_plant 73 = .ok (.iconst 3, 1) := by decide +kernel
theorem dX8_plant_74 : decode cX8_plant 74 = .ok (.invokevirtual 33, 3) := by decide +kernel
theorem dX8_plant_77 : decode cX8_plant 77 = .ok (.ireturn, 1) := by decide +kernel
theorem dX8_plant_78 : decode cX8_plant 78 = .ok (.aload_n 0, 1) := by decide +kernel
theorem dX8_plant_79 : decode cX8_plant 79 = .ok (.getfield 12, 3) := by decide +kernel
theorem dX8_plant_82 : decode cX8_plant 82 = .ok (.iload_n 1, 1) := by decide +kernel
theorem dX8_plant_83 : decode cX8_plant 83 = .ok (.iload_n 2, 1) := by decide +kernel
theorem dX8_plant_84 : decode cX8_plant 84 = .ok (.invokevirtual 55, 3) := by decide +kernel
theorem dX8_plant_87 : decode cX8_plant 87 = .ok (.aload_n 0, 1) := by decide +kernel
theorem dX8_plant_88 : decode cX8_plant 88 = .ok (.getfield 12, 3) := by decide +kernel
theorem dX8_plant_91 : decode cX8_plant 91 = .ok (.getfield 51, 3) := by decide +kernel
theorem dX8_plant_94 : decode cX8_plant 94 = .ok (.iconst 0, 1) := by decide +kernel
theorem dX8_plant_95 : decode cX8_plant 95 = .ok (.iaload, 1) := by decide +kernel
theorem dX8_plant_96 : decode cX8_plant 96 = .ok (.ireturn, 1) := by decide +kernel
theorem dX8_help_0 : decode cX8_help 0 = .ok (.aload_n 0, 1) := by decide +kernel
theorem dX8_help_1 : decode cX8_help 1 = .ok (.iconst 0, 1) := by decide +kernel
theorem dX8_help_2 : decode cX8_help 2 = .ok (.putfield 18, 3) := by decide +kernel
theorem dX8_help_5 : decode cX8_help 5 = .ok (.aload_n 0, 1) := by decide +kernel
theorem dX8_help_6 : decode cX8_help 6 = .ok (.iload_n 1, 1) := by decide +kernel
theorem dX8_help_7 : decode cX8_help 7 = .ok (.invokevirtual 45, 3) := by decide +kernel
theorem dX8_help_10 : decode cX8_help 10 = .ok (.ifCond .eq 11, 3) := by decide +kernel
theorem dX8_help_13 : decode cX8_help 13 = .ok (.aload_n 0, 1) := by decide +kernel
theorem dX8_help_14 : decode cX8_help 14 = .ok (.iload_n 2, 1) := by decide +kernel
theorem dX8_help_15 : decode cX8_help 15 = .ok (.invokevirtual 45, 3) := by decide +kernel
theorem dX8_help_18 : decode cX8_help 18 = .ok (.ifCond .ne 9, 3) := by decide +kernel
theorem dX8_help_21 : decode cX8_help 21 = .ok (.aload_n 0, 1) := by decide +kernel
theorem dX8_help_22 : decode cX8_help 22 = .ok (.iconst 1, 1) := by decide +kernel
theorem dX8_help_23 : decode cX8_help 23 = .ok (.invokevirtual 33, 3) := by decide +kernel
theorem dX8_help_26 : decode cX8_help 26 = .ok (.ireturn, 1) := by decide +kernel
theorem dX8_help_27 : decode cX8_help 27 = .ok (.aload_n 0, 1) := by decide +kernel
theorem dX8_help_28 : decode cX8_help 28 = .ok (.getfield 12, 3) := by decide +kernel
theorem dX8_help_31 : decode cX8_help 31 = .ok (.getfield 30, 3) := by decide +kernel
theorem dX8_help_34 : decode cX8_help 34 = .ok (.iload_n 1, 1) := by decide +kernel
theorem dX8_help_35 : decode cX8_help 35 = .ok (.aaload, 1) := by decide +kernel
theorem dX8_help_36 : decode cX8_help 36 = .ok (.bipush 18, 2) := by decide +kernel
theorem dX8_help_38 : decode cX8_help 38 = .ok (.dup2, 1) := by decide +kernel
theorem dX8_help_39 : decode cX8_help 39 = .ok (.iaload, 1) := by decide +kernel
theorem dX8_help_40 : decode cX8_help 40 = .ok (.iconst 1, 1) := by decide +kernel
theorem dX8_help_41 : decode cX8_help 41 = .ok (.iadd, 1) := by decide +kernel
theorem dX8_help_42 : decode cX8_help 42 = .ok (.iastore, 1) := by decide +kernel
theorem dX8_help_43 : decode cX8_help 43 = .ok (.aload_n 0, 1) := by decide +kernel
theorem dX8_help_44 : decode cX8_help 44 = .ok (.getfield 12, 3) := by decide +kernel
theorem dX8_help_47 : decode cX8_help 47 = .ok (.getfield 30, 3) := by decide +kernel
theorem dX8_help_50 : decode cX8_help 50 = .ok (.iload_n 2, 1) := by decide +kernel
theorem dX8_help_51 : decode cX8_help 51 = .ok (.aaload, 1) := by decide +kernel
theorem dX8_help_52 : decode cX8_help 52 = .ok (.bipush 18, 2) := by decide +kernel
theorem dX8_help_54 : decode cX8_help 54 = .ok (.dup2, 1) := by decide +kernel
theorem dX8_help_55 : decode cX8_help 55 = .ok (.iaload, 1) := by decide +kernel
theorem dX8_help_56 : decode cX8_help 56 = .ok (.iconst 1, 1) := by decide +kernel
theorem dX8_help_57 : decode cX8_help 57 = .ok (.isub, 1) := by decide +kernel
theorem dX8_help_58 : decode cX8_help 58 = .ok (.iastore, 1) := by decide +kernel
theorem dX8_help_59 : decode cX8_help 59 = .ok (.aload_n 0, 1) := by decide +kernel
theorem dX8_help_60 : decode cX8_help 60 = .ok (.getfield 12, 3) := by decide +kernel
theorem dX8_help_63 : decode cX8_help 63 = .ok (.getfield 30, 3) := by decide +kernel
theorem dX8_help_66 : decode cX8_help 66 = .ok (.iload_n 2, 1) := by decide +kernel
theorem dX8_help_67 : decode cX8_help 67 = .ok (.aaload, 1) := by decide +kernel
theorem dX8_help_68 : decode cX8_help 68 = .ok (.bipush 10, 2) := by decide +kernel
theorem dX8_help_70 : decode cX8_help 70 = .ok (.dup2, 1) := by decide +kernel
theorem dX8_help_71 : decode cX8_help 71 = .ok (.iaload, 1) := by decide +kernel
theorem dX8_help_72 : decode cX8_help 72 = .ok (.iconst 1, 1) := by decide +kernel
theorem dX8_help_73 : decode cX8_help 73 = .ok (.iadd, 1) := by decide +kernel
theorem dX8_help_74 : decode cX8_help 74 = .ok (.iastore, 1) := by decide +kernel
theorem dX8_help_75 : decode cX8_help 75 = .ok (.aload_n 0, 1) := by decide +kernel
theorem dX8_help_76 : decode cX8_help 76 = .ok (.getfield 12, 3) := by decide +kernel
theorem dX8_help_79 : decode cX8_help 79 = .ok (.getfield 30, 3) := by decide +kernel
theorem dX8_help_82 : decode cX8_help 82 = .ok (.iload_n 2, 1) := by decide +kernel
theorem dX8_help_83 : decode cX8_help 83 = .ok (.aaload, 1) := by decide +kernel
theorem dX8_help_84 : decode cX8_help 84 = .ok (.bipush 10, 2) := by decide +kernel
theorem dX8_help_86 : decode cX8_help 86 = .ok (.iaload, 1) := by decide +kernel
theorem dX8_help_87 : decode cX8_help 87 = .ok (.ireturn, 1) := by decide +kernel
theorem dX8_ducks_0 : decode cX8_ducks 0 = .ok (.aload_n 0, 1) := by decide +kernel
theorem dX8_ducks_1 : decode cX8_ducks 1 = .ok (.iconst 0, 1) := by decide +kernel
theorem dX8_ducks_2 : decode cX8_ducks 2 = .ok (.putfield 18, 3) := by decide +kernel
theorem dX8_ducks_5 : decode cX8_ducks 5 = .ok (.aload_n 0, 1) := by decide +kernel
theorem dX8_ducks_6 : decode cX8_ducks 6 = .ok (.iload_n 1, 1) := by decide +kernel
theorem dX8_ducks_7 : decode cX8_ducks 7 = .ok (.invokevirtual 45, 3) := by decide +kernel
theorem dX8_ducks_10 : decode cX8_ducks 10 = .ok (.ifCond .ne 9, 3) := by decide +kernel
theorem dX8_ducks_13 : decode cX8_ducks 13 = .ok (.aload_n 0, 1) := by decide +kernel
theorem dX8_ducks_14 : decode cX8_ducks 14 = .ok (.iconst 1, 1) := by decide +kernel
theorem dX8_ducks_15 : decode cX8_ducks 15 = .ok (.invokevirtual 33, 3) := by decide +kernel
theorem dX8_ducks_18 : decode cX8_ducks 18 = .ok (.ireturn, 1) := by decide +kernel
theorem dX8_ducks_19 : decode cX8_ducks 19 = .ok (.aload_n 0, 1) := by decide +kernel
theorem dX8_ducks_20 : decode cX8_ducks 20 = .ok (.getfield 12, 3) := by decide +kernel
theorem dX8_ducks_23 : decode cX8_ducks 23 = .ok (.getfield 30, 3) := by decide +kernel
theorem dX8_ducks_26 : decode cX8_ducks 26 = .ok (.iload_n 1, 1) := by decide +kernel
theorem dX8_ducks_27 : decode cX8_ducks 27 = .ok (.aaload, 1) := by decide +kernel
theorem dX8_ducks_28 : decode cX8_ducks 28 = .ok (.bipush 16, 2) := by decide +kernel
theorem dX8_ducks_30 : decode cX8_ducks 30 = .ok (.iload_n 2, 1) := by decide +kernel
theorem dX8_ducks_31 : decode cX8_ducks 31 = .ok (.ifCond .eq 7, 3) := by decide +kernel
theorem dX8_ducks_34 : decode cX8_ducks 34 = .ok (.iconst 1, 1) := by decide +kernel
theorem dX8_ducks_35 : decode cX8_ducks 35 = .ok (.goto 4, 3) := by decide +kernel
theorem dX8_ducks_38 : decode cX8_ducks 38 = .ok (.iconst 0, 1) := by decide +kernel
theorem dX8_ducks_39 : decode cX8_ducks 39 = .ok (.iastore, 1) := by decide +kernel
theorem dX8_ducks_40 : decode cX8_ducks 40 = .ok (.aload_n 0, 1) := by decide +kernel
theorem dX8_ducks_41 : decode cX8_ducks 41 = .ok (.getfield 12, 3) := by decide +kernel
theorem dX8_ducks_44 : decode cX8_ducks 44 = .ok (.getfield 30, 3) := by decide +kernel
theorem dX8_ducks_47 : decode cX8_ducks 47 = .ok (.iload_n 1, 1) := by decide +kernel
theorem dX8_ducks_48 : decode cX8_ducks 48 = .ok (.aaload, 1) := by decide +kernel
theorem dX8_ducks_49 : decode cX8_ducks 49 = .ok (.bipush 8, 2) := by decide +kernel
theorem dX8_ducks_51 : decode cX8_ducks 51 = .ok (.iaload, 1) := by decide +kernel
theorem dX8_ducks_52 : decode cX8_ducks 52 = .ok (.ireturn, 1) := by decide +kernel
theorem dX8_harvest_0 : decode cX8_harvest 0 = .ok (.aload_n 0, 1) := by decide +kernel
theorem dX8_harvest_1 : decode cX8_harvest 1 = .ok (.iconst 0, 1) := by decide +kernel
theorem dX8_harvest_2 : decode cX8_harvest 2 = .ok (.putfield 18, 3) := by decide +kernel
theorem dX8_harvest_5 : decode cX8_harvest 5 = .ok (.aload_n 0, 1) := by decide +kernel
theorem dX8_harvest_6 : decode cX8_harvest 6 = .ok (.iload_n 1, 1) := by decide +kernel
theorem dX8_harvest_7 : decode cX8_harvest 7 = .ok (.invokevirtual 45, 3) := by decide +kernel
theorem dX8_harvest_10 : decode cX8_harvest 10 = .ok (.ifCond .ne 9, 3) := by decide +kernel
theorem dX8_harvest_13 : decode cX8_harvest 13 = .ok (.aload_n 0, 1) := by decide +kernel
theorem dX8_harvest_14 : decode cX8_harvest 14 = .ok (.iconst 1, 1) := by decide +kernel
theorem dX8_harvest_15 : decode cX8_harvest 15 = .ok (.invokevirtual 33, 3) := by decide +kernel
theorem dX8_harvest_18 : decode cX8_harvest 18 = .ok (.ireturn, 1) := by decide +kernel
theorem dX8_harvest_19 : decode cX8_harvest 19 = .ok (.aload_n 0, 1) := by decide +kernel
theorem dX8_harvest_20 : decode cX8_harvest 20 = .ok (.getfield 12, 3) := by decide +kernel
theorem dX8_harvest_23 : decode cX8_harvest 23 = .ok (.getfield 30, 3) := by decide +kernel
theorem dX8_harvest_26 : decode cX8_harvest 26 = .ok (.iload_n 1, 1) := by decide +kernel
theorem dX8_harvest_27 : decode cX8_harvest 27 = .ok (.aaload, 1) := by decide +kernel
theorem dX8_harvest_28 : decode cX8_harvest 28 = .ok (.astore_n 3, 1) := by decide +kernel
theorem dX8_harvest_29 : decode cX8_harvest 29 = .ok (.aload_n 3, 1) := by decide +kernel
theorem dX8_harvest_30 : decode cX8_harvest 30 = .ok (.iconst 4, 1) := by decide +kernel
theorem dX8_harvest_31 : decode cX8_harvest 31 = .ok (.iaload, 1) := by decide +kernel
theorem dX8_harvest_32 : decode cX8_harvest 32 = .ok (.iconst 5, 1) := by decide +kernel
theorem dX8_harvest_33 : decode cX8_harvest 33 = .ok (.if_icmp .eq 9, 3) := by decide +kernel
theorem dX8_harvest_36 : decode cX8_harvest 36 = .ok (.aload_n 0, 1) := by decide +kernel
theorem dX8_harvest_37 : decode cX8_harvest 37 = .ok (.iconst 2, 1) := by decide +kernel
theorem dX8_harvest_38 : decode cX8_harvest 38 = .ok (.invokevirtual 33, 3) := by decide +kernel
theorem dX8_harvest_41 : decode cX8_harvest 41 = .ok (.ireturn, 1) := by decide +kernel
theorem dX8_harvest_42 : decode cX8_harvest 42 = .ok (.aload_n 0, 1) := by decide +kernel
theorem dX8_harvest_43 : decode cX8_harvest 43 = .ok (.getfield 12, 3) := by decide +kernel
theorem dX8_harvest_46 : decode cX8_harvest 46 = .ok (.aload_n 3, 1) := by decide +kernel
theorem dX8_harvest_47 : decode cX8_harvest 47 = .ok (.invokevirtual 58, 3) := by decide +kernel
theorem dX8_harvest_50 : decode cX8_harvest 50 = .ok (.istore 4, 2) := by decide +kernel
theorem dX8_harvest_52 : decode cX8_harvest 52 = .ok (.aload_n 0, 1) := by decide +kernel
theorem dX8_harvest_53 : decode cX8_harvest 53 = .ok (.getfield 12, 3) := by decide +kernel
theorem dX8_harvest_56 : decode cX8_harvest 56 = .ok (.getfield 51, 3) := by decide +kernel
theorem dX8_harvest_59 : decode cX8_harvest 59 = .ok (.bipush 10, 2) := by decide +kernel
theorem dX8_harvest_61 : decode cX8_harvest 61 = .ok (.dup2, 1) := by decide +kernel
theorem dX8_harvest_62 : decode cX8_harvest 62 = .ok (.iaload, 1) := by decide +kernel
theorem dX8_harvest_63 : decode cX8_harvest 63 = .ok (.iload 4, 2) := by decide +kernel
theorem dX8_harvest_65 : decode cX8_harvest 65 = .ok (.iadd, 1) := by decide +kernel
theorem dX8_harvest_66 : decode cX8_harvest 66 = .ok (.iastore, 1) := by decide +kernel
theorem dX8_harvest_67 : decode cX8_harvest 67 = .ok (.aload_n 0, 1) := by decide +kernel
theorem dX8_harvest_68 : decode cX8_harvest 68 = .ok (.getfield 12, 3) := by decide +kernel
theorem dX8_harvest_71 : decode cX8_harvest 71 = .ok (.getfield 22, 3) := by decide +kernel
theorem dX8_harvest_74 : decode cX8_harvest 74 = .ok (.aload_n 3, 1) := by decide +kernel
theorem dX8_harvest_75 : decode cX8_harvest 75 = .ok (.iconst 0, 1) := by decide +kernel
theorem dX8_harvest_76 : decode cX8_harvest 76 = .ok (.iaload, 1) := by decide +kernel
theorem dX8_harvest_77 : decode cX8_harvest 77 = .ok (.aaload, 1) := by decide +kernel
theorem dX8_harvest_78 : decode cX8_harvest 78 = .ok (.bipush 8, 2) := by decide +kernel
theorem dX8_harvest_80 : decode cX8_harvest 80 = .ok (.dup2, 1) := by decide +kernel
theorem dX8_harvest_81 : decode cX8_harvest 81 = .ok (.iaload, 1) := by decide +kernel
theorem dX8_harvest_82 : decode cX8_harvest 82 = .ok (.iload 4, 2) := by decide +kernel
theorem dX8_harvest_84 : decode cX8_harvest 84 = .ok (.iadd, 1) := by decide +kernel
theorem dX8_harvest_85 : decode cX8_harvest 85 = .ok (.iastore, 1) := by decide +kernel
theorem dX8_harvest_86 : decode cX8_harvest 86 = .ok (.aload_n 0, 1) := by decide +kernel
theorem dX8_harvest_87 : decode cX8_harvest 87 = .ok (.getfield 12, 3) := by decide +kernel
theorem dX8_harvest_90 : decode cX8_harvest 90 = .ok (.getfield 22, 3) := by decide +kernel
theorem dX8_harvest_93 : decode cX8_harvest 93 = .ok (.aload_n 3, 1) := by decide +kernel
theorem dX8_harvest_94 : decode cX8_harvest 94 = .ok (.iconst 0, 1) := by decide +kernel
theorem dX8_harvest_95 : decode cX8_harvest 95 = .ok (.iaload, 1) := by decide +kernel
theorem dX8_harvest_96 : decode cX8_harvest 96 = .ok (.aaload, 1) := by decide +kernel
theorem dX8_harvest_97 : decode cX8_harvest 97 = .ok (.iconst 4, 1) := by decide +kernel
theorem dX8_harvest_98 : decode cX8_harvest 98 = .ok (.dup2, 1) := by decide +kernel
theorem dX8_harvest_99 : decode cX8_harvest 99 = .ok (.iaload, 1) := by decide +kernel
theorem dX8_harvest_100 : decode cX8_harvest 100 = .ok (.iload 4, 2) := by decide +kernel
theorem dX8_harvest_102 : decode cX8_harvest 102 = .ok (.bipush 10, 2) := by decide +kernel
theorem dX8_harvest_104 : decode cX8_harvest 104 = .ok (.idiv, 1) := by decide +kernel
theorem dX8_harvest_105 : decode cX8_harvest 105 = .ok (.iadd, 1) := by decide +kernel
theorem dX8_harvest_106 : decode cX8_harvest 106 = .ok (.iastore, 1) := by decide +kernel
theorem dX8_harvest_107 : decode cX8_harvest 107 = .ok (.aload_n 3, 1) := by decide +kernel
theorem dX8_harvest_108 : decode cX8_harvest 108 = .ok (.bipush 19, 2) := by decide +kernel
theorem dX8_harvest_110 : decode cX8_harvest 110 = .ok (.dup2, 1) := by decide +kernel
theorem dX8_harvest_111 : decode cX8_harvest 111 = .ok (.iaload, 1) := by decide +kernel
theorem dX8_harvest_112 : decode cX8_harvest 112 = .ok (.iload 4, 2) := by decide +kernel
theorem dX8_harvest_114 : decode cX8_harvest 114 = .ok (.iload 4, 2) := by decide +kernel
theorem dX8_harvest_116 : decode cX8_harvest 116 = .ok (.bipush 10, 2) := by decide +kernel
theorem dX8_harvest_118 : decode cX8_harvest 118 = .ok (.idiv, 1) := by decide +kernel
theorem dX8_harvest_119 : decode cX8_harvest 119 = .ok (.isub, 1) := by decide +kernel
theorem dX8_harvest_120 : decode cX8_harvest 120 = .ok (.iadd, 1) := by decide +kernel
theorem dX8_harvest_121 : decode cX8_harvest 121 = .ok (.iastore, 1) := by decide +kernel
theorem dX8_harvest_122 : decode cX8_harvest 122 = .ok (.aload_n 3, 1) := by decide +kernel
theorem dX8_harvest_123 : decode cX8_harvest 123 = .ok (.iconst 4, 1) := by decide +kernel
theorem dX8_harvest_124 : decode cX8_harvest 124 = .ok (.iconst 0, 1) := by decide +kernel
theorem dX8_harvest_125 : decode cX8_harvest 125 = .ok (.iastore, 1) := by decide +kernel
theorem dX8_harvest_126 : decode cX8_harvest 126 = .ok (.iload_n 2, 1) := by decide +kernel
theorem dX8_harvest_127 : decode cX8_harvest 127 = .ok (.ifCond .eq 14, 3) := by decide +kernel
theorem dX8_harvest_130 : decode cX8_harvest 130 = .ok (.aload_n 3, 1) := by decide +kernel
theorem dX8_harvest_131 : decode cX8_harvest 131 = .ok (.bipush 8, 2) := by decide +kernel
theorem dX8_harvest_133 : decode cX8_harvest 133 = .ok (.dup2, 1) := by decide +kernel
theorem dX8_harvest_134 : decode cX8_harvest 134 = .ok (.iaload, 1) := by decide +kernel
theorem dX8_harvest_135 : decode cX8_harvest 135 = .ok (.iconst 2, 1) := by decide +kernel
theorem dX8_harvest_136 : decode cX8_harvest 136 = .ok (.idiv, 1) := by decide +kernel
theorem dX8_harvest_137 : decode cX8_harvest 137 = .ok (.iastore, 1) := by decide +kernel
theorem dX8_harvest_138 : decode cX8_harvest 138 = .ok (.goto 19, 3) := by decide +kernel
theorem dX8_harvest_141 : decode cX8_harvest 141 = .ok (.aload_n 3, 1) := by decide +kernel
theorem dX8_harvest_142 : decode cX8_harvest 142 = .ok (.bipush 9, 2) := by decide +kernel
theorem dX8_harvest_144 : decode cX8_harvest 144 = .ok (.bipush 50, 2) := by decide +kernel
theorem dX8_harvest_146 : decode cX8_harvest 146 = .ok (.aload_n 3, 1) := by decide +kernel
theorem dX8_harvest_147 : decode cX8_harvest 147 = .ok (.bipush 9, 2) := by decide +kernel
theorem dX8_harvest_149 : decode cX8_harvest 149 = .ok (.iaload, 1) := by decide +kernel
theorem dX8_harvest_150 : decode cX8_harvest 150 = .ok (.bipush 10, 2) := by decide +kernel
theorem dX8_harvest_152 : decode cX8_harvest 152 = .ok (.iadd, 1) := by decide +kernel
theorem dX8_harvest_153 : decode cX8_harvest 153 = .ok (.invokestatic 62, 3) := by decide +kernel
theorem dX8_harvest_156 : decode cX8_harvest 156 = .ok (.iastore, 1) := by decide +kernel
theorem dX8_harvest_157 : decode cX8_harvest 157 = .ok (.iload 4, 2) := by decide +kernel
theorem dX8_harvest_159 : decode cX8_harvest 159 = .ok (.ireturn, 1) := by decide +kernel
theorem dX8_cut_0 : decode cX8_cut 0 = .ok (.aload_n 0, 1) := by decide +kernel
theorem dX8_cut_1 : decode cX8_cut 1 = .ok (.iconst 0, 1) := by decide +kernel
theorem dX8_cut_2 : decode cX8_cut 2 = .ok (.putfield 18, 3) := by decide +kernel
theorem dX8_cut_5 : decode cX8_cut 5 = .ok (.aload_n 0, 1) := by decide +kernel
theorem dX8_cut_6 : decode cX8_cut 6 = .ok (.iload_n 1, 1) := by decide +kernel
theorem dX8_cut_7 : decode cX8_cut 7 = .ok (.invokevirtual 45, 3) := by decide +kernel
theorem dX8_cut_10 : decode cX8_cut 10 = .ok (.ifCond .ne 9, 3) := by decide +kernel
theorem dX8_cut_13 : decode cX8_cut 13 = .ok (.aload_n 0, 1) := by decide +kernel
theorem dX8_cut_14 : decode cX8_cut 14 = .ok (.iconst 1, 1) := by decide +kernel
theorem dX8_cut_15 : decode cX8_cut 15 = .ok (.invokevirtual 33, 3) := by decide +kernel
theorem dX8_cut_18 : decode cX8_cut 18 = .ok (.ireturn, 1) := by decide +kernel
theorem dX8_cut_19 : decode cX8_cut 19 = .ok (.aload_n 0, 1) := by decide +kernel
theorem dX8_cut_20 : decode cX8_cut 20 = .ok (.getfield 12, 3) := by decide +kernel
theorem dX8_cut_23 : decode cX8_cut 23 = .ok (.getfield 30, 3) := by decide +kernel
theorem dX8_cut_26 : decode cX8_cut 26 = .ok (.iload_n 1, 1) := by decide +kernel
theorem dX8_cut_27 : decode cX8_cut 27 = .ok (.aaload, 1) := by decide +kernel
theorem dX8_cut_28 : decode cX8_cut 28 = .ok (.astore_n 2, 1) := by decide +kernel
theorem dX8_cut_29 : decode cX8_cut 29 = .ok (.aload_n 2, 1) := by decide +kernel
theorem dX8_cut_30 : decode cX8_cut 30 = .ok (.iconst 4, 1) := by decide +kernel
theorem dX8_cut_31 : decode cX8_cut 31 = .ok (.iaload, 1) := by decide +kernel
theorem dX8_cut_32 : decode cX8_cut 32 = .ok (.iconst 5, 1) := by decide +kernel
theorem dX8_cut_33 : decode cX8_cut 33 = .ok (.if_icmp .eq 9, 3) := by decide +kernel
theorem dX8_cut_36 : decode cX8_cut 36 = .ok (.aload_n 0, 1) := by decide +kernel
theorem dX8_cut_37 : decode cX8_cut 37 = .ok (.iconst 2, 1) := by decide +kernel
theorem dX8_cut_38 : decode cX8_cut 38 = .ok (.invokevirtual 33, 3) := by decide +kernel
theorem dX8_cut_41 : decode cX8_cut 41 = .ok (.ireturn, 1) := by decide +kernel
theorem dX8_cut_42 : decode cX8_cut 42 = .ok (.bipush 7, 2) := by decide +kernel
theorem dX8_cut_44 : decode cX8_cut 44 = .ok (.aload_n 0, 1) := by decide +kernel
theorem dX8_cut_45 : decode cX8_cut 45 = .ok (.getfield 12, 3) := by decide +kernel
theorem dX8_cut_48 : decode cX8_cut 48 = .ok (.getfield 51, 3) := by decide +kernel
theorem dX8_cut_51 : decode cX8_cut 51 = .ok (.iconst 0, 1) := by decide +kernel
theorem dX8_cut_52 : decode cX8_cut 52 = .ok (.iaload, 1) := by decide +kernel
theorem dX8_cut_53 : decode cX8_cut 53 = .ok (.imul, 1) := by decide +kernel
theorem dX8_cut_54 : decode cX8_cut 54 = .ok (.bipush 13, 2) := by decide +kernel
theorem dX8_cut_56 : decode cX8_cut 56 = .ok (.iload_n 1, 1) := by decide +kernel
theorem dX8_cut_57 : decode cX8_cut 57 = .ok (.imul, 1) := by decide +kernel
theorem dX8_cut_58 : decode cX8_cut 58 = .ok (.iadd, 1) := by decide +kernel
theorem dX8_cut_59 : decode cX8_cut 59 = .ok (.iconst 5, 1) := by decide +kernel
theorem dX8_cut_60 : decode cX8_cut 60 = .ok (.aload_n 0, 1) := by decide +kernel
theorem dX8_cut_61 : decode cX8_cut 61 = .ok (.getfield 12, 3) := by decide +kernel
theorem dX8_cut_64 : decode cX8_cut 64 = .ok (.getfield 51, 3) := by decide +kernel
theorem dX8_cut_67 : decode cX8_cut 67 = .ok (.bipush 9, 2) := by decide +kernel
theorem dX8_cut_69 : decode cX8_cut 69 = .ok (.iaload, 1) := by decide +kernel
theorem dX8_cut_70 : decode cX8_cut 70 = .ok (.imul, 1) := by decide +kernel
theorem dX8_cut_71 : decode cX8_cut 71 = .ok (.iadd, 1) := by decide +kernel
theorem dX8_cut_72 : decode cX8_cut 72 = .ok (.bipush 21, 2) := by decide +kernel
theorem dX8_cut_74 : decode cX8_cut 74 = .ok (.irem, 1) := by decide +kernel
theorem dX8_cut_75 : decode cX8_cut 75 = .ok (.istore_n 3, 1) := by decide +kernel
theorem dX8_cut_76 : decode cX8_cut 76 = .ok (.aload_n 0, 1) := by decide +kernel
theorem dX8_cut_77 : decode cX8_cut 77 = .ok (.getfield 12, 3) := by decide +kernel
theorem dX8_cut_80 : decode cX8_cut 80 = .ok (.aload_n 2, 1) := by decide +kernel
theorem dX8_cut_81 : decode cX8_cut 81 = .ok (.invokevirtual 58, 3) := by decide +kernel
theorem dX8_cut_84 : decode cX8_cut 84 = .ok (.bipush 90, 2) := by decide +kernel
theorem dX8_cut_86 : decode cX8_cut 86 = .ok (.iload_n 3, 1) := by decide +kernel
theorem dX8_cut_87 : decode cX8_cut 87 = .ok (.iadd, 1) := by decide +kernel
theorem dX8_cut_88 : decode cX8_cut 88 = .ok (.imul, 1) := by decide +kernel
theorem dX8_cut_89 : decode cX8_cut 89 = .ok (.bipush 100, 2) := by decide +kernel
theorem dX8_cut_91 : decode cX8_cut 91 = .ok (.idiv, 1) := by decide +kernel
theorem dX8_cut_92 : decode cX8_cut 92 = .ok (.istore 4, 2) := by decide +kernel
theorem dX8_cut_94 : decode cX8_cut 94 = .ok (.aload_n 0, 1) := by decide +kernel
theorem dX8_cut_95 : decode cX8_cut 95 = .ok (.getfield 12, 3) := by decide +kernel
theorem dX8_cut_98 : decode cX8_cut 98 = .ok (.getfield 51, 3) := by decide +kernel
theorem dX8_cut_101 : decode cX8_cut 101 = .ok (.bipush 9, 2) := by decide +kernel
theorem dX8_cut_103 : decode cX8_cut 103 = .ok (.dup2, 1) := by decide +kernel
theorem dX8_cut_104 : decode cX8_cut 104 = .ok (.iaload, 1) := by decide +kernel
theorem dX8_cut_105 : decode cX8_cut 105 = .ok (.iconst 1, 1) := by decide +kernel
theorem dX8_cut_106 : decode cX8_cut 106 = .ok (.iadd, 1) := by decide +kernel
theorem dX8_cut_107 : decode cX8_cut 107 = .ok (.iastore, 1) := by decide +kernel
theorem dX8_cut_108 : decode cX8_cut 108 = .ok (.aload_n 2, 1) := by decide +kernel
theorem dX8_cut_109 : decode cX8_cut 109 = .ok (.bipush 20, 2) := by decide +kernel
theorem dX8_cut_111 : decode cX8_cut 111 = .ok (.aload_n 2, 1) := by decide +kernel
theorem dX8_cut_112 : decode cX8_cut 112 = .ok (.bipush 20, 2) := by decide +kernel
theorem dX8_cut_114 : decode cX8_cut 114 = .ok (.iaload, 1) := by decide +kernel
theorem dX8_cut_115 : decode cX8_cut 115 = .ok (.bipush 100, 2) := by decide +kernel
theorem dX8_cut_117 : decode cX8_cut 117 = .ok (.iload 4, 2) := by decide +kernel
theorem dX8_cut_119 : decode cX8_cut 119 = .ok (.imul, 1) := by decide +kernel
theorem dX8_cut_120 : decode cX8_cut 120 = .ok (.bipush 109, 2) := by decide +kernel
theorem dX8_cut_122 : decode cX8_cut 122 = .ok (.iadd, 1) := by decide +kernel
theorem dX8_cut_123 : decode cX8_cut 123 = .ok (.bipush 110, 2) := by decide +kernel
theorem dX8_cut_125 : decode cX8_cut 125 = .ok (.idiv, 1) := by decide +kernel
theorem dX8_cut_126 : decode cX8_cut 126 = .ok (.invokestatic 68, 3) := by decide +kernel
theorem dX8_cut_129 : decode cX8_cut 129 = .ok (.iastore, 1) := by decide +kernel
theorem dX8_cut_130 : decode cX8_cut 130 = .ok (.aload_n 2, 1) := by decide +kernel
theorem dX8_cut_131 : decode cX8_cut 131 = .ok (.bipush 21, 2) := by decide +kernel
theorem dX8_cut_133 : decode cX8_cut 133 = .ok (.aload_n 2, 1) := by decide +kernel
theorem dX8_cut_134 : decode cX8_cut 134 = .ok (.bipush 21, 2) := by decide +kernel
theorem dX8_cut_136 : decode cX8_cut 136 = .ok (.iaload, 1) := by decide +kernel
theorem dX8_cut_137 : decode cX8_cut 137 = .ok (.bipush 100, 2) := by decide +kernel
theorem dX8_cut_139 : decode cX8_cut 139 = .ok (.iload 4, 2) := by decide +kernel
theorem dX8_cut_141 : decode cX8_cut 141 = .ok (.iconst 1, 1) := by decide +kernel
theorem dX8_cut_142 : decode cX8_cut 142 = .ok (.iadd, 1) := by decide +kernel
theorem dX8_cut_143 : decode cX8_cut 143 = .ok (.imul, 1) := by decide +kernel
theorem dX8_cut_144 : decode cX8_cut 144 = .ok (.iconst 1, 1) := by decide +kernel
theorem dX8_cut_145 : decode cX8_cut 145 = .ok (.isub, 1) := by decide +kernel
theorem dX8_cut_146 : decode cX8_cut 146 = .ok (.bipush 90, 2) := by decide +kernel
theorem dX8_cut_148 : decode cX8_cut 148 = .ok (.idiv, 1) := by decide +kernel
theorem dX8_cut_149 : decode cX8_cut 149 = .ok (.invokestatic 62, 3) := by decide +kernel
theorem dX8_cut_152 : decode cX8_cut 152 = .ok (.iastore, 1) := by decide +kernel
theorem dX8_cut_153 : decode cX8_cut 153 = .ok (.iload 4, 2) := by decide +kernel
theorem dX8_cut_155 : decode cX8_cut 155 = .ok (.ireturn, 1) := by decide +kernel
theorem dX8_day_0 : decode cX8_day 0 = .ok (.aload_n 0, 1) := by decide +kernel
theorem dX8_day_1 : decode cX8_day 1 = .ok (.iconst 0, 1) := by decide +kernel
theorem dX8_day_2 : decode cX8_day 2 = .ok (.putfield 18, 3) := by decide +kernel
theorem dX8_day_5 : decode cX8_day 5 = .ok (.iload_n 1, 1) := by decide +kernel
theorem dX8_day_6 : decode cX8_day 6 = .ok (.iconst 0, 1) := by decide +kernel
theorem dX8_day_7 : decode cX8_day 7 = .ok (.sipush 200, 3) := by decide +kernel
theorem dX8_day_10 : decode cX8_day 10 = .ok (.invokestatic 26, 3) := by decide +kernel
theorem dX8_day_13 : decode cX8_day 13 = .ok (.ifCond .eq 23, 3) := by decide +kernel
theorem dX8_day_16 : decode cX8_day 16 = .ok (.iload_n 2, 1) := by decide +kernel
theorem dX8_day_17 : decode cX8_day 17 = .ok (.iconst 0, 1) := by decide +kernel
theorem dX8_day_18 : decode cX8_day 18 = .ok (.bipush 40, 2) := by decide +kernel
theorem dX8_day_20 : decode cX8_day 20 = .ok (.invokestatic 26, 3) := by decide +kernel
theorem dX8_day_23 : decode cX8_day 23 = .ok (.ifCond .eq 13, 3) := by decide +kernel
theorem dX8_day_26 : decode cX8_day 26 = .ok (.iload_n 3, 1) := by decide +kernel
theorem dX8_day_27 : decode cX8_day 27 = .ok (.iconst 0, 1) := by decide +kernel
theorem dX8_day_28 : decode cX8_day 28 = .ok (.bipush 30, 2) := by decide +kernel
theorem dX8_day_30 : decode cX8_day 30 = .ok (.invokestatic 26, 3) := by decide +kernel
theorem dX8_day_33 : decode cX8_day 33 = .ok (.ifCond .ne 9, 3) := by decide +kernel
theorem dX8_day_36 : decode cX8_day 36 = .ok (.aload_n 0, 1) := by decide +kernel
theorem dX8_day_37 : decode cX8_day 37 = .ok (.iconst 1, 1) := by decide +kernel
theorem dX8_day_38 : decode cX8_day 38 = .ok (.invokevirtual 33, 3) := by decide +kernel
theorem dX8_day_41 : decode cX8_day 41 = .ok (.ireturn, 1) := by decide +kernel
theorem dX8_day_42 : decode cX8_day 42 = .ok (.aload_n 0, 1) := by decide +kernel
theorem dX8_day_43 : decode cX8_day 43 = .ok (.getfield 12, 3) := by decide +kernel
theorem dX8_day_46 : decode cX8_day 46 = .ok (.getfield 51, 3) := by decide +kernel
theorem dX8_day_49 : decode cX8_day 49 = .ok (.iconst 1, 1) := by decide +kernel
theorem dX8_day_50 : decode cX8_day 50 = .ok (.iload_n 1, 1) := by decide +kernel
theorem dX8_day_51 : decode cX8_day 51 = .ok (.iastore, 1) := by decide +kernel
theorem dX8_day_52 : decode cX8_day 52 = .ok (.aload_n 0, 1) := by decide +kernel
theorem dX8_day_53 : decode cX8_day 53 = .ok (.getfield 12, 3) := by decide +kernel
theorem dX8_day_56 : decode cX8_day 56 = .ok (.getfield 51, 3) := by decide +kernel
theorem dX8_day_59 : decode cX8_day 59 = .ok (.iconst 2, 1) := by decide +kernel
theorem dX8_day_60 : decode cX8_day 60 = .ok (.iload_n 2, 1) := by decide +kernel
theorem dX8_day_61 : decode cX8_day 61 = .ok (.iastore, 1) := by decide +kernel
theorem dX8_day_62 : decode cX8_day 62 = .ok (.aload_n 0, 1) := by decide +kernel
theorem dX8_day_63 : decode cX8_day 63 = .ok (.getfield 12, 3) := by decide +kernel
theorem dX8_day_66 : decode cX8_day 66 = .ok (.getfield 51, 3) := by decide +kernel
theorem dX8_day_69 : decode cX8_day 69 = .ok (.iconst 3, 1) := by decide +kernel
theorem dX8_day_70 : decode cX8_day 70 = .ok (.iload_n 3, 1) := by decide +kernel
theorem dX8_day_71 : decode cX8_day 71 = .ok (.iastore, 1) := by decide +kernel
theorem dX8_day_72 : decode cX8_day 72 = .ok (.aload_n 0, 1) := by decide +kernel
theorem dX8_day_73 : decode cX8_day 73 = .ok (.getfield 12, 3) := by decide +kernel
theorem dX8_day_76 : decode cX8_day 76 = .ok (.invokevirtual 71, 3) := by decide +kernel
theorem dX8_day_79 : decode cX8_day 79 = .ok (.aload_n 0, 1) := by decide +kernel
theorem dX8_day_80 : decode cX8_day 80 = .ok (.getfield 12, 3) := by decide +kernel
theorem dX8_day_83 : decode cX8_day 83 = .ok (.getfield 51, 3) := by decide +kernel
theorem dX8_day_86 : decode cX8_day 86 = .ok (.iconst 0, 1) := by decide +kernel
theorem dX8_day_87 : decode cX8_day 87 = .ok (.iaload, 1) := by decide +kernel
theorem dX8_day_88 : decode cX8_day 88 = .ok (.ireturn, 1) := by decide +kernel
theorem dX8_inspect_0 : decode cX8_inspect 0 = .ok (.aload_n 0, 1) := by decide +kernel
theorem dX8_inspect_1 : decode cX8_inspect 1 = .ok (.iconst 0, 1) := by decide +kernel
theorem dX8_inspect_2 : decode cX8_inspect 2 = .ok (.putfield 18, 3) := by decide +kernel
theorem dX8_inspect_5 : decode cX8_inspect 5 = .ok (.aload_n 0, 1) := by decide +kernel
theorem dX8_inspect_6 : decode cX8_inspect 6 = .ok (.iload_n 1, 1) := by decide +kernel
theorem dX8_inspect_7 : decode cX8_inspect 7 = .ok (.invokevirtual 41, 3) := by decide +kernel
theorem dX8_inspect_10 : decode cX8_inspect 10 = .ok (.ifCond .ne 9, 3) := by decide +kernel
theorem dX8_inspect_13 : decode cX8_inspect 13 = .ok (.aload_n 0, 1) := by decide +kernel
theorem dX8_inspect_14 : decode cX8_inspect 14 = .ok (.iconst 1, 1) := by decide +kernel
theorem dX8_inspect_15 : decode cX8_inspect 15 = .ok (.invokevirtual 33, 3) := by decide +kernel
theorem dX8_inspect_18 : decode cX8_inspect 18 = .ok (.ireturn, 1) := by decide +kernel
theorem dX8_inspect_19 : decode cX8_inspect 19 = .ok (.iconst 0, 1) := by decide +kernel
theorem dX8_inspect_20 : decode cX8_inspect 20 = .ok (.istore_n 2, 1) := by decide +kernel
theorem dX8_inspect_21 : decode cX8_inspect 21 = .ok (.aload_n 0, 1) := by decide +kernel
theorem dX8_inspect_22 : decode cX8_inspect 22 = .ok (.getfield 12, 3) := by decide +kernel
theorem dX8_inspect_25 : decode cX8_inspect 25 = .ok (.getfield 30, 3) := by decide +kernel
theorem dX8_inspect_28 : decode cX8_inspect 28 = .ok (.astore_n 3, 1) := by decide +kernel
theorem dX8_inspect_29 : decode cX8_inspect 29 = .ok (.aload_n 3, 1) := by decide +kernel
theorem dX8_inspect_30 : decode cX8_inspect 30 = .ok (.arraylength, 1) := by decide +kernel
theorem dX8_inspect_31 : decode cX8_inspect 31 = .ok (.istore 4, 2) := by decide +kernel
theorem dX8_inspect_33 : decode cX8_inspect 33 = .ok (.iconst 0, 1) := by decide +kernel
theorem dX8_inspect_34 : decode cX8_inspect 34 = .ok (.istore 5, 2) := by decide +kernel
theorem dX8_inspect_36 : decode cX8_inspect 36 = .ok (.iload 5, 2) := by decide +kernel
theorem dX8_inspect_38 : decode cX8_inspect 38 = .ok (.iload 4, 2) := by decide +kernel
theorem dX8_inspect_40 : decode cX8_inspect 40 = .ok (.if_icmp .ge 57, 3) := by decide +kernel
theorem dX8_inspect_43 : decode cX8_inspect 43 = .ok (.aload_n 3, 1) := by decide +kernel
theorem dX8_inspect_44 : decode cX8_inspect 44 = .ok (.iload 5, 2) := by decide +kernel
theorem dX8_inspect_46 : decode cX8_inspect 46 = .ok (.aaload, 1) := by decide +kernel
theorem dX8_inspect_47 : decode cX8_inspect 47 = .ok (.astore 6, 2) := by decide +kernel
theorem dX8_inspect_49 : decode cX8_inspect 49 = .ok (.aload 6, 2) := by decide +kernel
theorem dX8_inspect_51 : decode cX8_inspect 51 = .ok (.iconst 0, 1) := by decide +kernel
theorem dX8_inspect_52 : decode cX8_inspect 52 = .ok (.iaload, 1) := by decide +kernel
theorem dX8_inspect_53 : decode cX8_inspect 53 = .ok (.iload_n 1, 1) := by decide +kernel
theorem dX8_inspect_54 : decode cX8_inspect 54 = .ok (.if_icmp .eq 6, 3) := by decide +kernel
theorem dX8_inspect_57 : decode cX8_inspect 57 = .ok (.goto 34, 3) := by decide +kernel
theorem dX8_inspect_60 : decode cX8_inspect 60 = .ok (.aload 6, 2) := by decide +kernel
theorem dX8_inspect_62 : decode cX8_inspect 62 = .ok (.bipush 17, 2) := by decide +kernel
theorem dX8_inspect_64 : decode cX8_inspect 64 = .ok (.dup2, 1) := by decide +kernel
theorem dX8_inspect_65 : decode cX8_inspect 65 = .ok (.iaload, 1) := by decide +kernel
theorem dX8_inspect_66 : decode cX8_inspect 66 = .ok (.iconst 5, 1) := by decide +kernel
theorem dX8_inspect_67 : decode cX8_inspect 67 = .ok (.aload 6, 2) := by decide +kernel
theorem dX8_inspect_69 : decode cX8_inspect 69 = .ok (.bipush 15, 2) := by decide +kernel
theorem dX8_inspect_71 : decode cX8_inspect 71 = .ok (.iaload, 1) := by decide +kernel
theorem dX8_inspect_72 : decode cX8_inspect 72 = .ok (.imul, 1) := by decide +kernel
theorem dX8_inspect_73 : decode cX8_inspect 73 = .ok (.isub, 1) := by decide +kernel
theorem dX8_inspect_74 : decode cX8_inspect 74 = .ok (.iastore, 1) := by decide +kernel
theorem dX8_inspect_75 : decode cX8_inspect 75 = .ok (.iload_n 2, 1) := by decide +kernel
theorem dX8_inspect_76 : decode cX8_inspect 76 = .ok (.iconst 5, 1) := by decide +kernel
theorem dX8_inspect_77 : decode cX8_inspect 77 = .ok (.aload 6, 2) := by decide +kernel
theorem dX8_inspect_79 : decode cX8_inspect 79 = .ok (.bipush 15, 2) := by decide +kernel
theorem dX8_inspect_81 : decode cX8_inspect 81 = .ok (.iaload, 1) := by decide +kernel
theorem dX8_inspect_82 : decode cX8_inspect 82 = .ok (.imul, 1) := by decide +kernel
theorem dX8_inspect_83 : decode cX8_inspect 83 = .ok (.iadd, 1) := by decide +kernel
theorem dX8_inspect_84 : decode cX8_inspect 84 = .ok (.istore_n 2, 1) := by decide +kernel
theorem dX8_inspect_85 : decode cX8_inspect 85 = .ok (.aload 6, 2) := by decide +kernel
theorem dX8_inspect_87 : decode cX8_inspect 87 = .ok (.bipush 15, 2) := by decide +kernel
theorem dX8_inspect_89 : decode cX8_inspect 89 = .ok (.iconst 0, 1) := by decide +kernel
theorem dX8_inspect_90 : decode cX8_inspect 90 = .ok (.iastore, 1) := by decide +kernel
theorem dX8_inspect_91 : decode cX8_inspect 91 = .ok (.iinc 5 1, 3) := by decide +kernel
theorem dX8_inspect_94 : decode cX8_inspect 94 = .ok (.goto (-58), 3) := by decide +kernel
theorem dX8_inspect_97 : decode cX8_inspect 97 = .ok (.aload_n 0, 1) := by decide +kernel
theorem dX8_inspect_98 : decode cX8_inspect 98 = .ok (.getfield 12, 3) := by decide +kernel
theorem dX8_inspect_101 : decode cX8_inspect 101 = .ok (.getfield 22, 3) := by decide +kernel
theorem dX8_inspect_104 : decode cX8_inspect 104 = .ok (.iload_n 1, 1) := by decide +kernel
theorem dX8_inspect_105 : decode cX8_inspect 105 = .ok (.aaload, 1) := by decide +kernel
theorem dX8_inspect_106 : decode cX8_inspect 106 = .ok (.iconst 4, 1) := by decide +kernel
theorem dX8_inspect_107 : decode cX8_inspect 107 = .ok (.dup2, 1) := by decide +kernel
theorem dX8_inspect_108 : decode cX8_inspect 108 = .ok (.iaload, 1) := by decide +kernel
theorem dX8_inspect_109 : decode cX8_inspect 109 = .ok (.iload_n 2, 1) := by decide +kernel
theorem dX8_inspect_110 : decode cX8_inspect 110 = .ok (.iadd, 1) := by decide +kernel
theorem dX8_inspect_111 : decode cX8_inspect 111 = .ok (.iastore, 1) := by decide +kernel
theorem dX8_inspect_112 : decode cX8_inspect 112 = .ok (.iload_n 2, 1) := by decide +kernel
theorem dX8_inspect_113 : decode cX8_inspect 113 = .ok (.ireturn, 1) := by decide +kernel
theorem dX8_sell_0 : decode cX8_sell 0 = .ok (.aload_n 0, 1) := by decide +kernel
theorem dX8_sell_1 : decode cX8_sell 1 = .ok (.iconst 0, 1) := by decide +kernel
theorem dX8_sell_2 : decode cX8_sell 2 = .ok (.putfield 18, 3) := by decide +kernel
theorem dX8_sell_5 : decode cX8_sell 5 = .ok (.aload_n 0, 1) := by decide +kernel
theorem dX8_sell_6 : decode cX8_sell 6 = .ok (.iload_n 1, 1) := by decide +kernel
theorem dX8_sell_7 : decode cX8_sell 7 = .ok (.invokevirtual 45, 3) := by decide +kernel
theorem dX8_sell_10 : decode cX8_sell 10 = .ok (.ifCond .ne 9, 3) := by decide +kernel
theorem dX8_sell_13 : decode cX8_sell 13 = .ok (.aload_n 0, 1) := by decide +kernel
theorem dX8_sell_14 : decode cX8_sell 14 = .ok (.iconst 1, 1) := by decide +kernel
theorem dX8_sell_15 : decode cX8_sell 15 = .ok (.invokevirtual 33, 3) := by decide +kernel
theorem dX8_sell_18 : decode cX8_sell 18 = .ok (.ireturn, 1) := by decide +kernel
theorem dX8_sell_19 : decode cX8_sell 19 = .ok (.iload_n 2, 1) := by decide +kernel
theorem dX8_sell_20 : decode cX8_sell 20 = .ok (.iconst 1, 1) := by decide +kernel
theorem dX8_sell_21 : decode cX8_sell 21 = .ok (.if_icmp .ge 9, 3) := by decide +kernel
theorem dX8_sell_24 : decode cX8_sell 24 = .ok (.aload_n 0, 1) := by decide +kernel
theorem dX8_sell_25 : decode cX8_sell 25 = .ok (.iconst 2, 1) := by decide +kernel
theorem dX8_sell_26 : decode cX8_sell 26 = .ok (.invokevirtual 33, 3) := by decide +kernel
theorem dX8_sell_29 : decode cX8_sell 29 = .ok (.ireturn, 1) := by decide +kernel
theorem dX8_sell_30 : decode cX8_sell 30 = .ok (.aload_n 0, 1) := by decide +kernel
theorem dX8_sell_31 : decode cX8_sell 31 = .ok (.getfield 12, 3) := by decide +kernel
theorem dX8_sell_34 : decode cX8_sell 34 = .ok (.getfield 30, 3) := by decide +kernel
theorem dX8_sell_37 : decode cX8_sell 37 = .ok (.iload_n 1, 1) := by decide +kernel
theorem dX8_sell_38 : decode cX8_sell 38 = .ok (.aaload, 1) := by decide +kernel
theorem dX8_sell_39 : decode cX8_sell 39 = .ok (.astore_n 3, 1) := by decide +kernel
theorem dX8_sell_40 : decode cX8_sell 40 = .ok (.aload_n 3, 1) := by decide +kernel
theorem dX8_sell_41 : decode cX8_sell 41 = .ok (.bipush 19, 2) := by decide +kernel
theorem dX8_sell_43 : decode cX8_sell 43 = .ok (.iaload, 1) := by decide +kernel
theorem dX8_sell_44 : decode cX8_sell 44 = .ok (.iload_n 2, 1) := by decide +kernel
theorem dX8_sell_45 : decode cX8_sell 45 = .ok (.if_icmp .ge 9, 3) := by decide +kernel
theorem dX8_sell_48 : decode cX8_sell 48 = .ok (.aload_n 0, 1) := by decide +kernel
theorem dX8_sell_49 : decode cX8_sell 49 = .ok (.iconst 3, 1) := by decide +kernel
theorem dX8_sell_50 : decode cX8_sell 50 = .ok (.invokevirtual 33, 3) := by decide +kernel
theorem dX8_sell_53 : decode cX8_sell 53 = .ok (.ireturn, 1) := by decide +kernel
theorem dX8_sell_54 : decode cX8_sell 54 = .ok (.aload_n 3, 1) := by decide +kernel
theorem dX8_sell_55 : decode cX8_sell 55 = .ok (.bipush 19, 2) := by decide +kernel
theorem dX8_sell_57 : decode cX8_sell 57 = .ok (.dup2, 1) := by decide +kernel
theorem dX8_sell_58 : decode cX8_sell 58 = .ok (.iaload, 1) := by decide +kernel
theorem dX8_sell_59 : decode cX8_sell 59 = .ok (.iload_n 2, 1) := by decide +kernel
theorem dX8_sell_60 : decode cX8_sell 60 = .ok (.isub, 1) := by decide +kernel
theorem dX8_sell_61 : decode cX8_sell 61 = .ok (.iastore, 1) := by decide +kernel
theorem dX8_sell_62 : decode cX8_sell 62 = .ok (.aload_n 3, 1) := by decide +kernel
theorem dX8_sell_63 : decode cX8_sell 63 = .ok (.bipush 17, 2) := by decide +kernel
theorem dX8_sell_65 : decode cX8_sell 65 = .ok (.dup2, 1) := by decide +kernel
theorem dX8_sell_66 : decode cX8_sell 66 = .ok (.iaload, 1) := by decide +kernel
theorem dX8_sell_67 : decode cX8_sell 67 = .ok (.iload_n 2, 1) := by decide +kernel
theorem dX8_sell_68 : decode cX8_sell 68 = .ok (.iadd, 1) := by decide +kernel
theorem dX8_sell_69 : decode cX8_sell 69 = .ok (.iastore, 1) := by decide +kernel
theorem dX8_sell_70 : decode cX8_sell 70 = .ok (.aload_n 3, 1) := by decide +kernel
theorem dX8_sell_71 : decode cX8_sell 71 = .ok (.bipush 17, 2) := by decide +kernel
theorem dX8_sell_73 : decode cX8_sell 73 = .ok (.iaload, 1) := by decide +kernel
theorem dX8_sell_74 : decode cX8_sell 74 = .ok (.ireturn, 1) := by decide +kernel
theorem dX8_size_0 : decode cX8_size 0 = .ok (.iconst 0, 1) := by decide +kernel
theorem dX8_size_1 : decode cX8_size 1 = .ok (.istore_n 2, 1) := by decide +kernel
theorem dX8_size_2 : decode cX8_size 2 = .ok (.aload_n 0, 1) := by decide +kernel
theorem dX8_size_3 : decode cX8_size 3 = .ok (.getfield 12, 3) := by decide +kernel
theorem dX8_size_6 : decode cX8_size 6 = .ok (.getfield 30, 3) := by decide +kernel
theorem dX8_size_9 : decode cX8_size 9 = .ok (.astore_n 3, 1) := by decide +kernel
theorem dX8_size_10 : decode cX8_size 10 = .ok (.aload_n 3, 1) := by decide +kernel
theorem dX8_size_11 : decode cX8_size 11 = .ok (.arraylength, 1) := by decide +kernel
theorem dX8_size_12 : decode cX8_size 12 = .ok (.istore 4, 2) := by decide +kernel
theorem dX8_size_14 : decode cX8_size 14 = .ok (.iconst 0, 1) := by decide +kernel
theorem dX8_size_15 : decode cX8_size 15 = .ok (.istore 5, 2) := by decide +kernel
theorem dX8_size_17 : decode cX8_size 17 = .ok (.iload 5, 2) := by decide +kernel
theorem dX8_size_19 : decode cX8_size 19 = .ok (.iload 4, 2) := by decide +kernel
theorem dX8_size_21 : decode cX8_size 21 = .ok (.if_icmp .ge 31, 3) := by decide +kernel
theorem dX8_size_24 : decode cX8_size 24 = .ok (.aload_n 3, 1) := by decide +kernel
theorem dX8_size_25 : decode cX8_size 25 = .ok (.iload 5, 2) := by decide +kernel
theorem dX8_size_27 : decode cX8_size 27 = .ok (.aaload, 1) := by decide +kernel
theorem dX8_size_28 : decode cX8_size 28 = .ok (.astore 6, 2) := by decide +kernel
theorem dX8_size_30 : decode cX8_size 30 = .ok (.iload_n 2, 1) := by decide +kernel
theorem dX8_size_31 : decode cX8_size 31 = .ok (.aload 6, 2) := by decide +kernel
theorem dX8_size_33 : decode cX8_size 33 = .ok (.iconst 0, 1) := by decide +kernel
theorem dX8_size_34 : decode cX8_size 34 = .ok (.iaload, 1) := by decide +kernel
theorem dX8_size_35 : decode cX8_size 35 = .ok (.iload_n 1, 1) := by decide +kernel
theorem dX8_size_36 : decode cX8_size 36 = .ok (.if_icmp .ne 7, 3) := by decide +kernel
theorem dX8_size_39 : decode cX8_size 39 = .ok (.iconst 1, 1) := by decide +kernel
theorem dX8_size_40 : decode cX8_size 40 = .ok (.goto 4, 3) := by decide +kernel
theorem dX8_size_43 : decode cX8_size 43 = .ok (.iconst 0, 1) := by decide +kernel
theorem dX8_size_44 : decode cX8_size 44 = .ok (.iadd, 1) := by decide +kernel
theorem dX8_size_45 : decode cX8_size 45 = .ok (.istore_n 2, 1) := by decide +kernel
theorem dX8_size_46 : decode cX8_size 46 = .ok (.iinc 5 1, 3) := by decide +kernel
theorem dX8_size_49 : decode cX8_size 49 = .ok (.goto (-32), 3) := by decide +kernel
theorem dX8_size_52 : decode cX8_size 52 = .ok (.iload_n 2, 1) := by decide +kernel
theorem dX8_size_53 : decode cX8_size 53 = .ok (.ireturn, 1) := by decide +kernel
theorem dX8_rate_0 : decode cX8_rate 0 = .ok (.aload_n 0, 1) := by decide +kernel
theorem dX8_rate_1 : decode cX8_rate 1 = .ok (.iload_n 1, 1) := by decide +kernel
theorem dX8_rate_2 : decode cX8_rate 2 = .ok (.invokevirtual 74, 3) := by decide +kernel
theorem dX8_rate_5 : decode cX8_rate 5 = .ok (.ifCond .ne 7, 3) := by decide +kernel
theorem dX8_rate_8 : decode cX8_rate 8 = .ok (.iconst 0, 1) := by decide +kernel
theorem dX8_rate_9 : decode cX8_rate 9 = .ok (.goto 21, 3) := by decide +kernel
theorem dX8_rate_12 : decode cX8_rate 12 = .ok (.aload_n 0, 1) := by decide +kernel
theorem dX8_rate_13 : decode cX8_rate 13 = .ok (.getfield 12, 3) := by decide +kernel
theorem dX8_rate_16 : decode cX8_rate 16 = .ok (.getfield 22, 3) := by decide +kernel
theorem dX8_rate_19 : decode cX8_rate 19 = .ok (.iload_n 1, 1) := by decide +kernel
theorem dX8_rate_20 : decode cX8_rate 20 = .ok (.aaload, 1) := by decide +kernel
theorem dX8_rate_21 : decode cX8_rate 21 = .ok (.bipush 8, 2) := by decide +kernel
theorem dX8_rate_23 : decode cX8_rate 23 = .ok (.iaload, 1) := by decide +kernel
theorem dX8_rate_24 : decode cX8_rate 24 = .ok (.aload_n 0, 1) := by decide +kernel
theorem dX8_rate_25 : decode cX8_rate 25 = .ok (.iload_n 1, 1) := by decide +kernel
theorem dX8_rate_26 : decode cX8_rate 26 = .ok (.invokevirtual 74, 3) := by decide +kernel
theorem dX8_rate_29 : decode cX8_rate 29 = .ok (.idiv, 1) := by decide +kernel
theorem dX8_rate_30 : decode cX8_rate 30 = .ok (.ireturn, 1) := by decide +kernel
theorem dX8_vote_0 : decode cX8_vote 0 = .ok (.aload_n 0, 1) := by decide +kernel
theorem dX8_vote_1 : decode cX8_vote 1 = .ok (.iconst 0, 1) := by decide +kernel
theorem dX8_vote_2 : decode cX8_vote 2 = .ok (.putfield 18, 3) := by decide +kernel
theorem dX8_vote_5 : decode cX8_vote 5 = .ok (.aload_n 0, 1) := by decide +kernel
theorem dX8_vote_6 : decode cX8_vote 6 = .ok (.iload_n 1, 1) := by decide +kernel
theorem dX8_vote_7 : decode cX8_vote 7 = .ok (.invokevirtual 41, 3) := by decide +kernel
theorem dX8_vote_10 : decode cX8_vote 10 = .ok (.ifCond .ne 9, 3) := by decide +kernel
theorem dX8_vote_13 : decode cX8_vote 13 = .ok (.aload_n 0, 1) := by decide +kernel
theorem dX8_vote_14 : decode cX8_vote 14 = .ok (.iconst 1, 1) := by decide +kernel
theorem dX8_vote_15 : decode cX8_vote 15 = .ok (.invokevirtual 33, 3) := by decide +kernel
theorem dX8_vote_18 : decode cX8_vote 18 = .ok (.ireturn, 1) := by decide +kernel
theorem dX8_vote_19 : decode cX8_vote 19 = .ok (.iconst (-1), 1) := by decide +kernel
theorem dX8_vote_20 : decode cX8_vote 20 = .ok (.istore_n 2, 1) := by decide +kernel
theorem dX8_vote_21 : decode cX8_vote 21 = .ok (.iload_n 1, 1) := by decide +kernel
theorem dX8_vote_22 : decode cX8_vote 22 = .ok (.iconst 1, 1) := by decide +kernel
theorem dX8_vote_23 : decode cX8_vote 23 = .ok (.isub, 1) := by decide +kernel
theorem dX8_vote_24 : decode cX8_vote 24 = .ok (.istore_n 3, 1) := by decide +kernel
theorem dX8_vote_25 : decode cX8_vote 25 = .ok (.iload_n 3, 1) := by decide +kernel
theorem dX8_vote_26 : decode cX8_vote 26 = .ok (.iload_n 1, 1) := by decide +kernel
theorem dX8_vote_27 : decode cX8_vote 27 = .ok (.iconst 1, 1) := by decide +kernel
theorem dX8_vote_28 : decode cX8_vote 28 = .ok (.iadd, 1) := by decide +kernel
theorem dX8_vote_29 : decode cX8_vote 29 = .ok (.if_icmp .gt 37, 3) := by decide +kernel
theorem dX8_vote_32 : decode cX8_vote 32 = .ok (.aload_n 0, 1) := by decide +kernel
theorem dX8_vote_33 : decode cX8_vote 33 = .ok (.iload_n 3, 1) := by decide +kernel
theorem dX8_vote_34 : decode cX8_vote 34 = .ok (.invokevirtual 41, 3) := by decide +kernel
theorem dX8_vote_37 : decode cX8_vote 37 = .ok (.ifCond .eq 23, 3) := by decide +kernel
theorem dX8_vote_40 : decode cX8_vote 40 = .ok (.iload_n 2, 1) := by decide +kernel
theorem dX8_vote_41 : decode cX8_vote 41 = .ok (.iconst (-1), 1) := by decide +kernel
theorem dX8_vote_42 : decode cX8_vote 42 = .ok (.if_icmp .eq 16, 3) := by decide +kernel
theorem dX8_vote_45 : decode cX8_vote 45 = .ok (.aload_n 0, 1) := by decide +kernel
theorem dX8_vote_46 : decode cX8_vote 46 = .ok (.iload_n 3, 1) := by decide +kernel
theorem dX8_vote_47 : decode cX8_vote 47 = .ok (.invokevirtual 77, 3) := by decide +kernel
theorem dX8_vote_50 : decode cX8_vote 50 = .ok (.aload_n 0, 1) := by decide +kernel
theorem dX8_vote_51 : decode cX8_vote 51 = .ok (.iload_n 2, 1) := by decide +kernel
theorem dX8_vote_52 : decode cX8_vote 52 = .ok (.invokevirtual 77, 3) := by decide +kernel
theorem dX8_vote_55 : decode cX8_vote 55 = .ok (.if_icmp .le 5, 3) := by decide +kernel
theorem dX8_vote_58 : decode cX8_vote 58 = .ok (.iload_n 3, 1) := by decide +kernel
theorem dX8_vote_59 : decode cX8_vote 59 = .ok (.istore_n 2, 1) := by decide +kernel
theorem dX8_vote_60 : decode cX8_vote 60 = .ok (.iinc 3 2, 3) := by decide +kernel
theorem dX8_vote_63 : decode cX8_vote 63 = .ok (.goto (-38), 3) := by decide +kernel
theorem dX8_vote_66 : decode cX8_vote 66 = .ok (.iconst 0, 1) := by decide +kernel
theorem dX8_vote_67 : decode cX8_vote 67 = .ok (.istore_n 3, 1) := by decide +kernel
theorem dX8_vote_68 : decode cX8_vote 68 = .ok (.aload_n 0, 1) := by decide +kernel
theorem dX8_vote_69 : decode cX8_vote 69 = .ok (.getfield 12, 3) := by decide +kernel
theorem dX8_vote_72 : decode cX8_vote 72 = .ok (.getfield 30, 3) := by decide +kernel
theorem dX8_vote_75 : decode cX8_vote 75 = .ok (.astore 4, 2) := by decide +kernel
theorem dX8_vote_77 : decode cX8_vote 77 = .ok (.aload 4, 2) := by decide +kernel
theorem dX8_vote_79 : decode cX8_vote 79 = .ok (.arraylength, 1) := by decide +kernel
theorem dX8_vote_80 : decode cX8_vote 80 = .ok (.istore 5, 2) := by decide +kernel
theorem dX8_vote_82 : decode cX8_vote 82 = .ok (.iconst 0, 1) := by decide +kernel
theorem dX8_vote_83 : decode cX8_vote 83 = .ok (.istore 6, 2) := by decide +kernel
theorem dX8_vote_85 : decode cX8_vote 85 = .ok (.iload 6, 2) := by decide +kernel
theorem dX8_vote_87 : decode cX8_vote 87 = .ok (.iload 5, 2) := by decide +kernel
theorem dX8_vote_89 : decode cX8_vote 89 = .ok (.if_icmp .ge 60, 3) := by decide +kernel
theorem dX8_vote_92 : decode cX8_vote 92 = .ok (.aload 4, 2) := by decide +kernel
theorem dX8_vote_94 : decode cX8_vote 94 = .ok (.iload 6, 2) := by decide +kernel
theorem dX8_vote_96 : decode cX8_vote 96 = .ok (.aaload, 1) := by decide +kernel
theorem dX8_vote_97 : decode cX8_vote 97 = .ok (.astore 7, 2) := by decide +kernel
theorem dX8_vote_99 : decode cX8_vote 99 = .ok (.iload_n 3, 1) := by decide +kernel
theorem dX8_vote_100 : decode cX8_vote 100 = .ok (.aload 7, 2) := by decide +kernel
theorem dX8_vote_102 : decode cX8_vote 102 = .ok (.iconst 0, 1) := by decide +kernel
theorem dX8_vote_103 : decode cX8_vote 103 = .ok (.iaload, 1) := by decide +kernel
theorem dX8_vote_104 : decode cX8_vote 104 = .ok (.iload_n 1, 1) := by decide +kernel
theorem dX8_vote_105 : decode cX8_vote 105 = .ok (.if_icmp .ne 35, 3) := by decide +kernel
theorem dX8_vote_108 : decode cX8_vote 108 = .ok (.aload 7, 2) := by decide +kernel
theorem dX8_vote_110 : decode cX8_vote 110 = .ok (.bipush 8, 2) := by decide +kernel
theorem dX8_vote_112 : decode cX8_vote 112 = .ok (.iaload, 1) := by decide +kernel
theorem dX8_vote_113 : decode cX8_vote 113 = .ok (.bipush 30, 2) := by decide +kernel
theorem dX8_vote_115 : decode cX8_vote 115 = .ok (.if_icmp .gt 21, 3) := by decide +kernel
theorem dX8_vote_118 : decode cX8_vote 118 = .ok (.iload_n 2, 1) := by decide +kernel
theorem dX8_vote_119 : decode cX8_vote 119 = .ok (.iconst (-1), 1) := by decide +kernel
theorem dX8_vote_120 : decode cX8_vote 120 = .ok (.if_icmp .eq 20, 3) := by decide +kernel
theorem dX8_vote_123 : decode cX8_vote 123 = .ok (.aload_n 0, 1) := by decide +kernel
theorem dX8_vote_124 : decode cX8_vote 124 = .ok (.iload_n 2, 1) := by decide +kernel
theorem dX8_vote_125 : decode cX8_vote 125 = .ok (.invokevirtual 77, 3) := by decide +kernel
theorem dX8_vote_128 : decode cX8_vote 128 = .ok (.aload_n 0, 1) := by decide +kernel
theorem dX8_vote_129 : decode cX8_vote 129 = .ok (.iload_n 1, 1) := by decide +kernel
theorem dX8_vote_130 : decode cX8_vote 130 = .ok (.invokevirtual 77, 3) := by decide +kernel
theorem dX8_vote_133 : decode cX8_vote 133 = .ok (.if_icmp .le 7, 3) := by decide +kernel
theorem dX8_vote_136 : decode cX8_vote 136 = .ok (.iconst 1, 1) := by decide +kernel
theorem dX8_vote_137 : decode cX8_vote 137 = .ok (.goto 4, 3) := by decide +kernel
theorem dX8_vote_140 : decode cX8_vote 140 = .ok (.iconst 0, 1) := by decide +kernel
theorem dX8_vote_141 : decode cX8_vote 141 = .ok (.iadd, 1) := by decide +kernel
theorem dX8_vote_142 : decode cX8_vote 142 = .ok (.istore_n 3, 1) := by decide +kernel
theorem dX8_vote_143 : decode cX8_vote 143 = .ok (.iinc 6 1, 3) := by decide +kernel
theorem dX8_vote_146 : decode cX8_vote 146 = .ok (.goto (-61), 3) := by decide +kernel
theorem dX8_vote_149 : decode cX8_vote 149 = .ok (.iconst 2, 1) := by decide +kernel
theorem dX8_vote_150 : decode cX8_vote 150 = .ok (.iload_n 3, 1) := by decide +kernel
theorem dX8_vote_151 : decode cX8_vote 151 = .ok (.imul, 1) := by decide +kernel
theorem dX8_vote_152 : decode cX8_vote 152 = .ok (.aload_n 0, 1) := by decide +kernel
theorem dX8_vote_153 : decode cX8_vote 153 = .ok (.iload_n 1, 1) := by decide +kernel
theorem dX8_vote_154 : decode cX8_vote 154 = .ok (.invokevirtual 74, 3) := by decide +kernel
theorem dX8_vote_157 : decode cX8_vote 157 = .ok (.if_icmp .le 52, 3) := by decide +kernel
theorem dX8_vote_160 : decode cX8_vote 160 = .ok (.iload_n 2, 1) := by decide +kernel
theorem dX8_vote_161 : decode cX8_vote 161 = .ok (.iconst (-1), 1) := by decide +kernel
theorem dX8_vote_162 : decode cX8_vote 162 = .ok (.if_icmp .eq 47, 3) := by decide +kernel
theorem dX8_vote_165 : decode cX8_vote 165 = .ok (.aload_n 0, 1) := by decide +kernel
theorem dX8_vote_166 : decode cX8_vote 166 = .ok (.getfield 12, 3) := by decide +kernel
theorem dX8_vote_169 : decode cX8_vote 169 = .ok (.getfield 22, 3) := by decide +kernel
theorem dX8_vote_172 : decode cX8_vote 172 = .ok (.iload_n 1, 1) := by decide +kernel
theorem dX8_vote_173 : decode cX8_vote 173 = .ok (.aaload, 1) := by decide +kernel
theorem dX8_vote_174 : decode cX8_vote 174 = .ok (.iconst 2, 1) := by decide +kernel
theorem dX8_vote_175 : decode cX8_vote 175 = .ok (.aload_n 0, 1) := by decide +kernel
theorem dX8_vote_176 : decode cX8_vote 176 = .ok (.getfield 12, 3) := by decide +kernel
theorem dX8_vote_179 : decode cX8_vote 179 = .ok (.getfield 22, 3) := by decide +kernel
theorem dX8_vote_182 : decode cX8_vote 182 = .ok (.iload_n 2, 1) := by decide +kernel
theorem dX8_vote_183 : decode cX8_vote 183 = .ok (.aaload, 1) := by decide +kernel
theorem dX8_vote_184 : decode cX8_vote 184 = .ok (.iconst 2, 1) := by decide +kernel
theorem dX8_vote_185 : decode cX8_vote 185 = .ok (.iaload, 1) := by decide +kernel
theorem dX8_vote_186 : decode cX8_vote 186 = .ok (.iastore, 1) := by decide +kernel
theorem dX8_vote_187 : decode cX8_vote 187 = .ok (.aload_n 0, 1) := by decide +kernel
theorem dX8_vote_188 : decode cX8_vote 188 = .ok (.getfield 12, 3) := by decide +kernel
theorem dX8_vote_191 : decode cX8_vote 191 = .ok (.getfield 22, 3) := by decide +kernel
theorem dX8_vote_194 : decode cX8_vote 194 = .ok (.iload_n 1, 1) := by decide +kernel
theorem dX8_vote_195 : decode cX8_vote 195 = .ok (.aaload, 1) := by decide +kernel
theorem dX8_vote_196 : decode cX8_vote 196 = .ok (.iconst 3, 1) := by decide +kernel
theorem dX8_vote_197 : decode cX8_vote 197 = .ok (.aload_n 0, 1) := by decide +kernel
theorem dX8_vote_198 : decode cX8_vote 198 = .ok (.getfield 12, 3) := by decide +kernel
theorem dX8_vote_201 : decode cX8_vote 201 = .ok (.getfield 22, 3) := by decide +kernel
theorem dX8_vote_204 : decode cX8_vote 204 = .ok (.iload_n 2, 1) := by decide +kernel
theorem dX8_vote_205 : decode cX8_vote 205 = .ok (.aaload, 1) := by decide +kernel
theorem dX8_vote_206 : decode cX8_vote 206 = .ok (.iconst 3, 1) := by decide +kernel
theorem dX8_vote_207 : decode cX8_vote 207 = .ok (.iaload, 1) := by decide +kernel
theorem dX8_vote_208 : decode cX8_vote 208 = .ok (.iastore, 1) := by decide +kernel
theorem dX8_vote_209 : decode cX8_vote 209 = .ok (.aload_n 0, 1) := by decide +kernel
theorem dX8_vote_210 : decode cX8_vote 210 = .ok (.getfield 12, 3) := by decide +kernel
theorem dX8_vote_213 : decode cX8_vote 213 = .ok (.getfield 22, 3) := by decide +kernel
theorem dX8_vote_216 : decode cX8_vote 216 = .ok (.iload_n 1, 1) := by decide +kernel
theorem dX8_vote_217 : decode cX8_vote 217 = .ok (.aaload, 1) := by decide +kernel
theorem dX8_vote_218 : decode cX8_vote 218 = .ok (.bipush 8, 2) := by decide +kernel
theorem dX8_vote_220 : decode cX8_vote 220 = .ok (.iconst 0, 1) := by decide +kernel
theorem dX8_vote_221 : decode cX8_vote 221 = .ok (.iastore, 1) := by decide +kernel
theorem dX8_vote_222 : decode cX8_vote 222 = .ok (.iload_n 3, 1) := by decide +kernel
theorem dX8_vote_223 : decode cX8_vote 223 = .ok (.ireturn, 1) := by decide +kernel
theorem dX8_ofFieldNow_0 : decode cX8_ofFieldNow 0 = .ok (.aload_n 0, 1) := by decide +kernel
theorem dX8_ofFieldNow_1 : decode cX8_ofFieldNow 1 = .ok (.getfield 12, 3) := by decide +kernel
theorem dX8_ofFieldNow_4 : decode cX8_ofFieldNow 4 = .ok (.getfield 30, 3) := by decide +kernel
theorem dX8_ofFieldNow_7 : decode cX8_ofFieldNow 7 = .ok (.iload_n 1, 1) := by decide +kernel
theorem dX8_ofFieldNow_8 : decode cX8_ofFieldNow 8 = .ok (.aaload, 1) := by decide +kernel
theorem dX8_ofFieldNow_9 : decode cX8_ofFieldNow 9 = .ok (.astore_n 3, 1) := by decide +kernel
theorem dX8_ofFieldNow_10 : decode cX8_ofFieldNow 10 = .ok (.aload_n 3, 1) := by decide +kernel
theorem dX8_ofFieldNow_11 : decode cX8_ofFieldNow 11 = .ok (.iconst 4, 1) := by decide +kernel
theorem dX8_ofFieldNow_12 : decode cX8_ofFieldNow 12 = .ok (.iaload, 1) := by decide +kernel
theorem dX8_ofFieldNow_13 : decode cX8_ofFieldNow 13 = .ok (.iconst 2, 1) := by decide +kernel
theorem dX8_ofFieldNow_14 : decode cX8_ofFieldNow 14 = .ok (.if_icmp .ge 7, 3) := by decide +kernel
theorem dX8_ofFieldNow_17 : decode cX8_ofFieldNow 17 = .ok (.iconst 1, 1) := by decide +kernel
theorem dX8_ofFieldNow_18 : decode cX8_ofFieldNow 18 = .ok (.goto 4, 3) := by decide +kernel
theorem dX8_ofFieldNow_21 : decode cX8_ofFieldNow 21 = .ok (.iconst 0, 1) := by decide +kernel
theorem dX8_ofFieldNow_22 : decode cX8_ofFieldNow 22 = .ok (.istore 4, 2) := by decide +kernel
theorem dX8_ofFieldNow_24 : decode cX8_ofFieldNow 24 = .ok (.iload_n 2, 1) := by decide +kernel
theorem dX8_ofFieldNow_25 : decode cX8_ofFieldNow 25 = .ok (.tableswitch 116 5 13 #[51, 64, 78, 116, 116, 92, 101, 106, 111], 51) := by decide +kernel
theorem dX8_ofFieldNow_76 : decode cX8_ofFieldNow 76 = .ok (.iload 4, 2) := by decide +kernel
theorem dX8_ofFieldNow_78 : decode cX8_ofFieldNow 78 = .ok (.ifCond .eq 7, 3) := by decide +kernel
theorem dX8_ofFieldNow_81 : decode cX8_ofFieldNow 81 = .ok (.iconst (-1), 1) := by decide +kernel
theorem dX8_ofFieldNow_82 : decode cX8_ofFieldNow 82 = .ok (.goto 6, 3) := by decide +kernel
theorem dX8_ofFieldNow_85 : decode cX8_ofFieldNow 85 = .ok (.aload_n 3, 1) := by decide +kernel
theorem dX8_ofFieldNow_86 : decode cX8_ofFieldNow 86 = .ok (.iconst 5, 1) := by decide +kernel
theorem dX8_ofFieldNow_87 : decode cX8_ofFieldNow 87 = .ok (.iaload, 1) := by decide +kernel
theorem dX8_ofFieldNow_88 : decode cX8_ofFieldNow 88 = .ok (.ireturn, 1) := by decide +kernel
theorem dX8_ofFieldNow_89 : decode cX8_ofFieldNow 89 = .ok (.iload 4, 2) := by decide +kernel
theorem dX8_ofFieldNow_91 : decode cX8_ofFieldNow 91 = .ok (.ifCond .eq 7, 3) := by decide +kernel
theorem dX8_ofFieldNow_94 : decode cX8_ofFieldNow 94 = .ok (.iconst 0, 1) := by decide +kernel
theorem dX8_ofFieldNow_95 : decode cX8_ofFieldNow 95 = .ok (.goto 7, 3) := by decide +kernel
theorem dX8_ofFieldNow_98 : decode cX8_ofFieldNow 98 = .ok (.aload_n 3, 1) := by decide +kernel
theorem dX8_ofFieldNow_99 : decode cX8_ofFieldNow 99 = .ok (.bipush 6, 2) := by decide +kernel
theorem dX8_ofFieldNow_101 : decode cX8_ofFieldNow 101 = .ok (.iaload, 1) := by decide +kernel
theorem dX8_ofFieldNow_102 : decode cX8_ofFieldNow 102 = .ok (.ireturn, 1) := by decide +kernel
theorem dX8_ofFieldNow_103 : decode cX8_ofFieldNow 103 = .ok (.iload 4, 2) := by decide +kernel
theorem dX8_ofFieldNow_105 : decode cX8_ofFieldNow 105 = .ok (.ifCond .eq 7, 3) := by decide +kernel
theorem dX8_ofFieldNow_108 : decode cX8_ofFieldNow 108 = .ok (.iconst 0, 1) := by decide +kernel
theorem dX8_ofFieldNow_109 : decode cX8_ofFieldNow 109 = .ok (.goto 7, 3) := by decide +kernel
theorem dX8_ofFieldNow_112 : decode cX8_ofFieldNow 112 = .ok (.aload_n 3, 1) := by decide +kernel
theorem dX8_ofFieldNow_113 : decode cX8_ofFieldNow 113 = .ok (.bipush 7, 2) := by decide +kernel
theorem dX8_ofFieldNow_115 : decode cX8_ofFieldNow 115 = .ok (.iaload, 1) := by decide +kernel
theorem dX8_ofFieldNow_116 : decode cX8_ofFieldNow 116 = .ok (.ireturn, 1) := by decide +kernel
theorem dX8_ofFieldNow_117 : decode cX8_ofFieldNow 117 = .ok (.aload_n 0, 1) := by decide +kernel
theorem dX8_ofFieldNow_118 : decode cX8_ofFieldNow 118 = .ok (.getfield 12, 3) := by decide +kernel
theorem dX8_ofFieldNow_121 : decode cX8_ofFieldNow 121 = .ok (.aload_n 3, 1) := by decide +kernel
theorem dX8_ofFieldNow_122 : decode cX8_ofFieldNow 122 = .ok (.invokevirtual 58, 3) := by decide +kernel
theorem dX8_ofFieldNow_125 : decode cX8_ofFieldNow 125 = .ok (.ireturn, 1) := by decide +kernel
theorem dX8_ofFieldNow_126 : decode cX8_ofFieldNow 126 = .ok (.aload_n 3, 1) := by decide +kernel
theorem dX8_ofFieldNow_127 : decode cX8_ofFieldNow 127 = .ok (.bipush 10, 2) := by decide +kernel
theorem dX8_ofFieldNow_129 : decode cX8_ofFieldNow 129 = .ok (.iaload, 1) := by decide +kernel
theorem dX8_ofFieldNow_130 : decode cX8_ofFieldNow 130 = .ok (.ireturn, 1) := by decide +kernel
theorem dX8_ofFieldNow_131 : decode cX8_ofFieldNow 131 = .ok (.aload_n 3, 1) := by decide +kernel
theorem dX8_ofFieldNow_132 : decode cX8_ofFieldNow 132 = .ok (.bipush 11, 2) := by decide +kernel
theorem dX8_ofFieldNow_134 : decode cX8_ofFieldNow 134 = .ok (.iaload, 1) := by decide +kernel
theorem dX8_ofFieldNow_135 : decode cX8_ofFieldNow 135 = .ok (.ireturn, 1) := by decide +kernel
theorem dX8_ofFieldNow_136 : decode cX8_ofFieldNow 136 = .ok (.aload_n 3, 1) := by decide +kernel
theorem dX8_ofFieldNow_137 : decode cX8_ofFieldNow 137 = .ok (.bipush 12, 2) := by decide +kernel
theorem dX8_ofFieldNow_139 : decode cX8_ofFieldNow 139 = .ok (.iaload, 1) := by decide +kernel
theorem dX8_ofFieldNow_140 : decode cX8_ofFieldNow 140 = .ok (.ireturn, 1) := by decide +kernel
theorem dX8_ofFieldNow_141 : decode cX8_ofFieldNow 141 = .ok (.aload_n 3, 1) := by decide +kernel
theorem dX8_ofFieldNow_142 : decode cX8_ofFieldNow 142 = .ok (.iload_n 2, 1) := by decide +kernel
theorem dX8_ofFieldNow_143 : decode cX8_ofFieldNow 143 = .ok (.iaload, 1) := by decide +kernel
theorem dX8_ofFieldNow_144 : decode cX8_ofFieldNow 144 = .ok (.ireturn, 1) := by decide +kernel
theorem dX8_ofField_0 : decode cX8_ofField 0 = .ok (.aload_n 0, 1) := by decide +kernel
theorem dX8_ofField_1 : decode cX8_ofField 1 = .ok (.iconst 0, 1) := by decide +kernel
theorem dX8_ofField_2 : decode cX8_ofField 2 = .ok (.putfield 18, 3) := by decide +kernel
theorem dX8_ofField_5 : decode cX8_ofField 5 = .ok (.aload_n 0, 1) := by decide +kernel
theorem dX8_ofField_6 : decode cX8_ofField 6 = .ok (.iload_n 1, 1) := by decide +kernel
theorem dX8_ofField_7 : decode cX8_ofField 7 = .ok (.invokevirtual 45, 3) := by decide +kernel
theorem dX8_ofField_10 : decode cX8_ofField 10 = .ok (.ifCond .ne 9, 3) := by decide +kernel
theorem dX8_ofField_13 : decode cX8_ofField 13 = .ok (.aload_n 0, 1) := by decide +kernel
theorem dX8_ofField_14 : decode cX8_ofField 14 = .ok (.iconst 1, 1) := by decide +kernel
theorem dX8_ofField_15 : decode cX8_ofField 15 = .ok (.invokevirtual 33, 3) := by decide +kernel
theorem dX8_ofField_18 : decode cX8_ofField 18 = .ok (.ireturn, 1) := by decide +kernel
theorem dX8_ofField_19 : decode cX8_ofField 19 = .ok (.iload_n 2, 1) := by decide +kernel
theorem dX8_ofField_20 : decode cX8_ofField 20 = .ok (.iconst 0, 1) := by decide +kernel
theorem dX8_ofField_21 : decode cX8_ofField 21 = .ok (.bipush 13, 2) := by decide +kernel
theorem dX8_ofField_23 : decode cX8_ofField 23 = .ok (.invokestatic 26, 3) := by decide +kernel
theorem dX8_ofField_26 : decode cX8_ofField 26 = .ok (.ifCond .eq 12, 3) := by decide +kernel
theorem dX8_ofField_29 : decode cX8_ofField 29 = .ok (.aload_n 0, 1) := by decide +kernel
theorem dX8_ofField_30 : decode cX8_ofField 30 = .ok (.iload_n 1, 1) := by decide +kernel
theorem dX8_ofField_31 : decode cX8_ofField 31 = .ok (.iload_n 2, 1) := by decide +kernel
theorem dX8_ofField_32 : decode cX8_ofField 32 = .ok (.invokevirtual 80, 3) := by decide +kernel
theorem dX8_ofField_35 : decode cX8_ofField 35 = .ok (.goto 8, 3) := by decide +kernel
theorem dX8_ofField_38 : decode cX8_ofField 38 = .ok (.aload_n 0, 1) := by decide +kernel
theorem dX8_ofField_39 : decode cX8_ofField 39 = .ok (.iconst 2, 1) := by decide +kernel
theorem dX8_ofField_40 : decode cX8_ofField 40 = .ok (.invokevirtual 33, 3) := by decide +kernel
theorem dX8_ofField_43 : decode cX8_ofField 43 = .ok (.ireturn, 1) := by decide +kernel
theorem dX8_ofOwnerNow_0 : decode cX8_ofOwnerNow 0 = .ok (.aload_n 0, 1) := by decide +kernel
theorem dX8_ofOwnerNow_1 : decode cX8_ofOwnerNow 1 = .ok (.getfield 12, 3) := by decide +kernel
theorem dX8_ofOwnerNow_4 : decode cX8_ofOwnerNow 4 = .ok (.getfield 30, 3) := by decide +kernel
theorem dX8_ofOwnerNow_7 : decode cX8_ofOwnerNow 7 = .ok (.iload_n 1, 1) := by decide +kernel
theorem dX8_ofOwnerNow_8 : decode cX8_ofOwnerNow 8 = .ok (.aaload, 1) := by decide +kernel
theorem dX8_ofOwnerNow_9 : decode cX8_ofOwnerNow 9 = .ok (.astore_n 3, 1) := by decide +kernel
theorem dX8_ofOwnerNow_10 : decode cX8_ofOwnerNow 10 = .ok (.iconst 4, 1) := by decide +kernel
theorem dX8_ofOwnerNow_11 : decode cX8_ofOwnerNow 11 = .ok (.newarray .int, 2) := by decide +kernel
theorem dX8_ofOwnerNow_13 : decode cX8_ofOwnerNow 13 = .ok (.dup, 1) := by decide +kernel
theorem dX8_ofOwnerNow_14 : decode cX8_ofOwnerNow 14 = .ok (.iconst 0, 1) := by decide +kernel
theorem dX8_ofOwnerNow_15 : decode cX8_ofOwnerNow 15 = .ok (.aload_n 3, 1) := by decide +kernel
theorem dX8_ofOwnerNow_16 : decode cX8_ofOwnerNow 16 = .ok (.bipush 17, 2) := by decide +kernel
theorem dX8_ofOwnerNow_18 : decode cX8_ofOwnerNow 18 = .ok (.iaload, 1) := by decide +kernel
theorem dX8_ofOwnerNow_19 : decode cX8_ofOwnerNow 19 = .ok (.iastore, 1) := by decide +kernel
theorem dX8_ofOwnerNow_20 : decode cX8_ofOwnerNow 20 = .ok (.dup, 1) := by decide +kernel
theorem dX8_ofOwnerNow_21 : decode cX8_ofOwnerNow 21 = .ok (.iconst 1, 1) := by decide +kernel
theorem dX8_ofOwnerNow_22 : decode cX8_ofOwnerNow 22 = .ok (.aload_n 3, 1) := by decide +kernel
theorem dX8_ofOwnerNow_23 : decode cX8_ofOwnerNow 23 = .ok (.bipush 18, 2) := by decide +kernel
theorem dX8_ofOwnerNow_25 : decode cX8_ofOwnerNow 25 = .ok (.iaload, 1) := by decide +kernel
theorem dX8_ofOwnerNow_26 : decode cX8_ofOwnerNow 26 = .ok (.iastore, 1) := by decide +kernel
theorem dX8_ofOwnerNow_27 : decode cX8_ofOwnerNow 27 = .ok (.dup, 1) := by decide +kernel
theorem dX8_ofOwnerNow_28 : decode cX8_ofOwnerNow 28 = .ok (.iconst 2, 1) := by decide +kernel
theorem dX8_ofOwnerNow_29 : decode cX8_ofOwnerNow 29 = .ok (.aload_n 3, 1) := by decide +kernel
theorem dX8_ofOwnerNow_30 : decode cX8_ofOwnerNow 30 = .ok (.bipush 19, 2) := by decide +kernel
theorem dX8_ofOwnerNow_32 : decode cX8_ofOwnerNow 32 = .ok (.iaload, 1) := by decide +kernel
theorem dX8_ofOwnerNow_33 : decode cX8_ofOwnerNow 33 = .ok (.iastore, 1) := by decide +kernel
theorem dX8_ofOwnerNow_34 : decode cX8_ofOwnerNow 34 = .ok (.dup, 1) := by decide +kernel
theorem dX8_ofOwnerNow_35 : decode cX8_ofOwnerNow 35 = .ok (.iconst 3, 1) := by decide +kernel
theorem dX8_ofOwnerNow_36 : decode cX8_ofOwnerNow 36 = .ok (.aload_n 3, 1) := by decide +kernel
theorem dX8_ofOwnerNow_37 : decode cX8_ofOwnerNow 37 = .ok (.bipush 17, 2) := by decide +kernel
theorem dX8_ofOwnerNow_39 : decode cX8_ofOwnerNow 39 = .ok (.iaload, 1) := by decide +kernel
theorem dX8_ofOwnerNow_40 : decode cX8_ofOwnerNow 40 = .ok (.ifCond .ge 7, 3) := by decide +kernel
theorem dX8_ofOwnerNow_43 : decode cX8_ofOwnerNow 43 = .ok (.iconst 1, 1) := by decide +kernel
theorem dX8_ofOwnerNow_44 : decode cX8_ofOwnerNow 44 = .ok (.goto 4, 3) := by decide +kernel
theorem dX8_ofOwnerNow_47 : decode cX8_ofOwnerNow 47 = .ok (.iconst 0, 1) := by decide +kernel
theorem dX8_ofOwnerNow_48 : decode cX8_ofOwnerNow 48 = .ok (.iastore, 1) := by decide +kernel
theorem dX8_ofOwnerNow_49 : decode cX8_ofOwnerNow 49 = .ok (.astore 4, 2) := by decide +kernel
theorem dX8_ofOwnerNow_51 : decode cX8_ofOwnerNow 51 = .ok (.aload 4, 2) := by decide +kernel
theorem dX8_ofOwnerNow_53 : decode cX8_ofOwnerNow 53 = .ok (.iload_n 2, 1) := by decide +kernel
theorem dX8_ofOwnerNow_54 : decode cX8_ofOwnerNow 54 = .ok (.iaload, 1) := by decide +kernel
theorem dX8_ofOwnerNow_55 : decode cX8_ofOwnerNow 55 = .ok (.ireturn, 1) := by decide +kernel
theorem dX8_ofOwner_0 : decode cX8_ofOwner 0 = .ok (.aload_n 0, 1) := by decide +kernel
theorem dX8_ofOwner_1 : decode cX8_ofOwner 1 = .ok (.iconst 0, 1) := by decide +kernel
theorem dX8_ofOwner_2 : decode cX8_ofOwner 2 = .ok (.putfield 18, 3) := by decide +kernel
theorem dX8_ofOwner_5 : decode cX8_ofOwner 5 = .ok (.aload_n 0, 1) := by decide +kernel
theorem dX8_ofOwner_6 : decode cX8_ofOwner 6 = .ok (.iload_n 1, 1) := by decide +kernel
theorem dX8_ofOwner_7 : decode cX8_ofOwner 7 = .ok (.invokevirtual 45, 3) := by decide +kernel
theorem dX8_ofOwner_10 : decode cX8_ofOwner 10 = .ok (.ifCond .ne 9, 3) := by decide +kernel
theorem dX8_ofOwner_13 : decode cX8_ofOwner 13 = .ok (.aload_n 0, 1) := by decide +kernel
theorem dX8_ofOwner_14 : decode cX8_ofOwner 14 = .ok (.iconst 1, 1) := by decide +kernel
theorem dX8_ofOwner_15 : decode cX8_ofOwner 15 = .ok (.invokevirtual 33, 3) := by decide +kernel
theorem dX8_ofOwner_18 : decode cX8_ofOwner 18 = .ok (.ireturn, 1) := by decide +kernel
theorem dX8_ofOwner_19 : decode cX8_ofOwner 19 = .ok (.iload_n 2, 1) := by decide +kernel
theorem dX8_ofOwner_20 : decode cX8_ofOwner 20 = .ok (.iconst 0, 1) := by decide +kernel
theorem dX8_ofOwner_21 : decode cX8_ofOwner 21 = .ok (.iconst 3, 1) := by decide +kernel
theorem dX8_ofOwner_22 : decode cX8_ofOwner 22 = .ok (.invokestatic 26, 3) := by decide +kernel
theorem dX8_ofOwner_25 : decode cX8_ofOwner 25 = .ok (.ifCond .eq 12, 3) := by decide +kernel
theorem dX8_ofOwner_28 : decode cX8_ofOwner 28 = .ok (.aload_n 0, 1) := by decide +kernel
theorem dX8_ofOwner_29 : decode cX8_ofOwner 29 = .ok (.iload_n 1, 1) := by decide +kernel
theorem dX8_ofOwner_30 : decode cX8_ofOwner 30 = .ok (.iload_n 2, 1) := by decide +kernel
theorem dX8_ofOwner_31 : decode cX8_ofOwner 31 = .ok (.invokevirtual 83, 3) := by decide +kernel
theorem dX8_ofOwner_34 : decode cX8_ofOwner 34 = .ok (.goto 8, 3) := by decide +kernel
theorem dX8_ofOwner_37 : decode cX8_ofOwner 37 = .ok (.aload_n 0, 1) := by decide +kernel
theorem dX8_ofOwner_38 : decode cX8_ofOwner 38 = .ok (.iconst 2, 1) := by decide +kernel
theorem dX8_ofOwner_39 : decode cX8_ofOwner 39 = .ok (.invokevirtual 33, 3) := by decide +kernel
theorem dX8_ofOwner_42 : decode cX8_ofOwner 42 = .ok (.ireturn, 1) := by decide +kernel
theorem dX8_ofSocietyNow_0 : decode cX8_ofSocietyNow 0 = .ok (.aload_n 0, 1) := by decide +kernel
theorem dX8_ofSocietyNow_1 : decode cX8_ofSocietyNow 1 = .ok (.getfield 12, 3) := by decide +kernel
theorem dX8_ofSocietyNow_4 : decode cX8_ofSocietyNow 4 = .ok (.getfield 22, 3) := by decide +kernel
theorem dX8_ofSocietyNow_7 : decode cX8_ofSocietyNow 7 = .ok (.iload_n 1, 1) := by decide +kernel
theorem dX8_ofSocietyNow_8 : decode cX8_ofSocietyNow 8 = .ok (.aaload, 1) := by decide +kernel
theorem dX8_ofSocietyNow_9 : decode cX8_ofSocietyNow 9 = .ok (.astore_n 3, 1) := by decide +kernel
theorem dX8_ofSocietyNow_10 : decode cX8_ofSocietyNow 10 = .ok (.bipush 9, 2) := by decide +kernel
theorem dX8_ofSocietyNow_12 : decode cX8_ofSocietyNow 12 = .ok (.newarray .int, 2) := by decide +kernel
theorem dX8_ofSocietyNow_14 : decode cX8_ofSocietyNow 14 = .ok (.dup, 1) := by decide +kernel
theorem dX8_ofSocietyNow_15 : decode cX8_ofSocietyNow 15 = .ok (.iconst 0, 1) := by decide +kernel
theorem dX8_ofSocietyNow_16 : decode cX8_ofSocietyNow 16 = .ok (.aload_n 3, 1) := by decide +kernel
theorem dX8_ofSocietyNow_17 : decode cX8_ofSocietyNow 17 = .ok (.iconst 2, 1) := by decide +kernel
theorem dX8_ofSocietyNow_18 : decode cX8_ofSocietyNow 18 = .ok (.iaload, 1) := by decide +kernel
theorem dX8_ofSocietyNow_19 : decode cX8_ofSocietyNow 19 = .ok (.iastore, 1) := by decide +kernel
theorem dX8_ofSocietyNow_20 : decode cX8_ofSocietyNow 20 = .ok (.dup, 1) := by decide +kernel
theorem dX8_ofSocietyNow_21 : decode cX8_ofSocietyNow 21 = .ok (.iconst 1, 1) := by decide +kernel
theorem dX8_ofSocietyNow_22 : decode cX8_ofSocietyNow 22 = .ok (.aload_n 3, 1) := by decide +kernel
theorem dX8_ofSocietyNow_23 : decode cX8_ofSocietyNow 23 = .ok (.iconst 3, 1) := by decide +kernel
theorem dX8_ofSocietyNow_24 : decode cX8_ofSocietyNow 24 = .ok (.iaload, 1) := by decide +kernel
theorem dX8_ofSocietyNow_25 : decode cX8_ofSocietyNow 25 = .ok (.iastore, 1) := by decide +kernel
theorem dX8_ofSocietyNow_26 : decode cX8_ofSocietyNow 26 = .ok (.dup, 1) := by decide +kernel
theorem dX8_ofSocietyNow_27 : decode cX8_ofSocietyNow 27 = .ok (.iconst 2, 1) := by decide +kernel
theorem dX8_ofSocietyNow_28 : decode cX8_ofSocietyNow 28 = .ok (.aload_n 3, 1) := by decide +kernel
theorem dX8_ofSocietyNow_29 : decode cX8_ofSocietyNow 29 = .ok (.iconst 4, 1) := by decide +kernel
theorem dX8_ofSocietyNow_30 : decode cX8_ofSocietyNow 30 = .ok (.iaload, 1) := by decide +kernel
theorem dX8_ofSocietyNow_31 : decode cX8_ofSocietyNow 31 = .ok (.iastore, 1) := by decide +kernel
theorem dX8_ofSocietyNow_32 : decode cX8_ofSocietyNow 32 = .ok (.dup, 1) := by decide +kernel
theorem dX8_ofSocietyNow_33 : decode cX8_ofSocietyNow 33 = .ok (.iconst 3, 1) := by decide +kernel
theorem dX8_ofSocietyNow_34 : decode cX8_ofSocietyNow 34 = .ok (.aload_n 3, 1) := by decide +kernel
theorem dX8_ofSocietyNow_35 : decode cX8_ofSocietyNow 35 = .ok (.iconst 5, 1) := by decide +kernel
theorem dX8_ofSocietyNow_36 : decode cX8_ofSocietyNow 36 = .ok (.iaload, 1) := by decide +kernel
theorem dX8_ofSocietyNow_37 : decode cX8_ofSocietyNow 37 = .ok (.iastore, 1) := by decide +kernel
theorem dX8_ofSocietyNow_38 : decode cX8_ofSocietyNow 38 = .ok (.dup, 1) := by decide +kernel
theorem dX8_ofSocietyNow_39 : decode cX8_ofSocietyNow 39 = .ok (.iconst 4, 1) := by decide +kernel
theorem dX8_ofSocietyNow_40 : decode cX8_ofSocietyNow 40 = .ok (.aload_n 0, 1) := by decide +kernel
theorem dX8_ofSocietyNow_41 : decode cX8_ofSocietyNow 41 = .ok (.getfield 12, 3) := by decide +kernel
theorem dX8_ofSocietyNow_44 : decode cX8_ofSocietyNow 44 = .ok (.iload_n 1, 1) := by decide +kernel
theorem dX8_ofSocietyNow_45 : decode cX8_ofSocietyNow 45 = .ok (.invokevirtual 86, 3) := by decide +kernel
theorem dX8_ofSocietyNow_48 : decode cX8_ofSocietyNow 48 = .ok (.ifCond .eq 7, 3) := by decide +kernel
theorem dX8_ofSocietyNow_51 : decode cX8_ofSocietyNow 51 = .ok (.iconst 1, 1) := by decide +kernel
theorem dX8_ofSocietyNow_52 : decode cX8_ofSocietyNow 52 = .ok (.goto 4, 3) := by decide +kernel
theorem dX8_ofSocietyNow_55 : decode cX8_ofSocietyNow 55 = .ok (.iconst 0, 1) := by decide +kernel
theorem dX8_ofSocietyNow_56 : decode cX8_ofSocietyNow 56 = .ok (.iastore, 1) := by decide +kernel
theorem dX8_ofSocietyNow_57 : decode cX8_ofSocietyNow 57 = .ok (.dup, 1) := by decide +kernel
theorem dX8_ofSocietyNow_58 : decode cX8_ofSocietyNow 58 = .ok (.iconst 5, 1) := by decide +kernel
theorem dX8_ofSocietyNow_59 : decode cX8_ofSocietyNow 59 = .ok (.aload_n 3, 1) := by decide +kernel
theorem dX8_ofSocietyNow_60 : decode cX8_ofSocietyNow 60 = .ok (.bipush 8, 2) := by decide +kernel
theorem dX8_ofSocietyNow_62 : decode cX8_ofSocietyNow 62 = .ok (.iaload, 1) := by decide +kernel
theorem dX8_ofSocietyNow_63 : decode cX8_ofSocietyNow 63 = .ok (.iastore, 1) := by decide +kernel
theorem dX8_ofSocietyNow_64 : decode cX8_ofSocietyNow 64 = .ok (.dup, 1) := by decide +kernel
theorem dX8_ofSocietyNow_65 : decode cX8_ofSocietyNow 65 = .ok (.bipush 6, 2) := by decide +kernel
theorem dX8_ofSocietyNow_67 : decode cX8_ofSocietyNow 67 = .ok (.aload_n 0, 1) := by decide +kernel
theorem dX8_ofSocietyNow_68 : decode cX8_ofSocietyNow 68 = .ok (.iload_n 1, 1) := by decide +kernel
theorem dX8_ofSocietyNow_69 : decode cX8_ofSocietyNow 69 = .ok (.invokevirtual 74, 3) := by decide +kernel
theorem dX8_ofSocietyNow_72 : decode cX8_ofSocietyNow 72 = .ok (.iastore, 1) := by decide +kernel
theorem dX8_ofSocietyNow_73 : decode cX8_ofSocietyNow 73 = .ok (.dup, 1) := by decide +kernel
theorem dX8_ofSocietyNow_74 : decode cX8_ofSocietyNow 74 = .ok (.bipush 7, 2) := by decide +kernel
theorem dX8_ofSocietyNow_76 : decode cX8_ofSocietyNow 76 = .ok (.aload_n 3, 1) := by decide +kernel
theorem dX8_ofSocietyNow_77 : decode cX8_ofSocietyNow 77 = .ok (.bipush 9, 2) := by decide +kernel
theorem dX8_ofSocietyNow_79 : decode cX8_ofSocietyNow 79 = .ok (.iaload, 1) := by decide +kernel
theorem dX8_ofSocietyNow_80 : decode cX8_ofSocietyNow 80 = .ok (.iastore, 1) := by decide +kernel
theorem dX8_ofSocietyNow_81 : decode cX8_ofSocietyNow 81 = .ok (.dup, 1) := by decide +kernel
theorem dX8_ofSocietyNow_82 : decode cX8_ofSocietyNow 82 = .ok (.bipush 8, 2) := by decide +kernel
theorem dX8_ofSocietyNow_84 : decode cX8_ofSocietyNow 84 = .ok (.aload_n 0, 1) := by decide +kernel
theorem dX8_ofSocietyNow_85 : decode cX8_ofSocietyNow 85 = .ok (.getfield 12, 3) := by decide +kernel
theorem dX8_ofSocietyNow_88 : decode cX8_ofSocietyNow 88 = .ok (.iload_n 1, 1) := by decide +kernel
theorem dX8_ofSocietyNow_89 : decode cX8_ofSocietyNow 89 = .ok (.invokevirtual 89, 3) := by decide +kernel
theorem dX8_ofSocietyNow_92 : decode cX8_ofSocietyNow 92 = .ok (.iastore, 1) := by decide +kernel
theorem dX8_ofSocietyNow_93 : decode cX8_ofSocietyNow 93 = .ok (.astore 4, 2) := by decide +kernel
theorem dX8_ofSocietyNow_95 : decode cX8_ofSocietyNow 95 = .ok (.aload 4, 2) := by decide +kernel
theorem dX8_ofSocietyNow_97 : decode cX8_ofSocietyNow 97 = .ok (.iload_n 2, 1) := by decide +kernel
theorem dX8_ofSocietyNow_98 : decode cX8_ofSocietyNow 98 = .ok (.iaload, 1) := by decide +kernel
theorem dX8_ofSocietyNow_99 : decode cX8_ofSocietyNow 99 = .ok (.ireturn, 1) := by decide +kernel
theorem dX8_ofSociety_0 : decode cX8_ofSociety 0 = .ok (.aload_n 0, 1) := by decide +kernel
theorem dX8_ofSociety_1 : decode cX8_ofSociety 1 = .ok (.iconst 0, 1) := by decide +kernel
theorem dX8_ofSociety_2 : decode cX8_ofSociety 2 = .ok (.putfield 18, 3) := by decide +kernel
theorem dX8_ofSociety_5 : decode cX8_ofSociety 5 = .ok (.aload_n 0, 1) := by decide +kernel
theorem dX8_ofSociety_6 : decode cX8_ofSociety 6 = .ok (.iload_n 1, 1) := by decide +kernel
theorem dX8_ofSociety_7 : decode cX8_ofSociety 7 = .ok (.invokevirtual 41, 3) := by decide +kernel
theorem dX8_ofSociety_10 : decode cX8_ofSociety 10 = .ok (.ifCond .ne 9, 3) := by decide +kernel
theorem dX8_ofSociety_13 : decode cX8_ofSociety 13 = .ok (.aload_n 0, 1) := by decide +kernel
theorem dX8_ofSociety_14 : decode cX8_ofSociety 14 = .ok (.iconst 1, 1) := by decide +kernel
theorem dX8_ofSociety_15 : decode cX8_ofSociety 15 = .ok (.invokevirtual 33, 3) := by decide +kernel
theorem dX8_ofSociety_18 : decode cX8_ofSociety 18 = .ok (.ireturn, 1) := by decide +kernel
theorem dX8_ofSociety_19 : decode cX8_ofSociety 19 = .ok (.iload_n 2, 1) := by decide +kernel
theorem dX8_ofSociety_20 : decode cX8_ofSociety 20 = .ok (.iconst 0, 1) := by decide +kernel
theorem dX8_ofSociety_21 : decode cX8_ofSociety 21 = .ok (.bipush 8, 2) := by decide +kernel
theorem dX8_ofSociety_23 : decode cX8_ofSociety 23 = .ok (.invokestatic 26, 3) := by decide +kernel
theorem dX8_ofSociety_26 : decode cX8_ofSociety 26 = .ok (.ifCond .eq 12, 3) := by decide +kernel
theorem dX8_ofSociety_29 : decode cX8_ofSociety 29 = .ok (.aload_n 0, 1) := by decide +kernel
theorem dX8_ofSociety_30 : decode cX8_ofSociety 30 = .ok (.iload_n 1, 1) := by decide +kernel
theorem dX8_ofSociety_31 : decode cX8_ofSociety 31 = .ok (.iload_n 2, 1) := by decide +kernel
theorem dX8_ofSociety_32 : decode cX8_ofSociety 32 = .ok (.invokevirtual 92, 3) := by decide +kernel
theorem dX8_ofSociety_35 : decode cX8_ofSociety 35 = .ok (.goto 8, 3) := by decide +kernel
theorem dX8_ofSociety_38 : decode cX8_ofSociety 38 = .ok (.aload_n 0, 1) := by decide +kernel
theorem dX8_ofSociety_39 : decode cX8_ofSociety 39 = .ok (.iconst 2, 1) := by decide +kernel
theorem dX8_ofSociety_40 : decode cX8_ofSociety 40 = .ok (.invokevirtual 33, 3) := by decide +kernel
theorem dX8_ofSociety_43 : decode cX8_ofSociety 43 = .ok (.ireturn, 1) := by decide +kernel
theorem dX8_waterNow_0 : decode cX8_waterNow 0 = .ok (.iconst 0, 1) := by decide +kernel
theorem dX8_waterNow_1 : decode cX8_waterNow 1 = .ok (.istore_n 2, 1) := by decide +kernel
theorem dX8_waterNow_2 : decode cX8_waterNow 2 = .ok (.aload_n 0, 1) := by decide +kernel
theorem dX8_waterNow_3 : decode cX8_waterNow 3 = .ok (.getfield 12, 3) := by decide +kernel
theorem dX8_waterNow_6 : decode cX8_waterNow 6 = .ok (.getfield 30, 3) := by decide +kernel
theorem dX8_waterNow_9 : decode cX8_waterNow 9 = .ok (.astore_n 3, 1) := by decide +kernel
theorem dX8_waterNow_10 : decode cX8_waterNow 10 = .ok (.aload_n 3, 1) := by decide +kernel
theorem dX8_waterNow_11 : decode cX8_waterNow 11 = .ok (.arraylength, 1) := by decide +kernel
theorem dX8_waterNow_12 : decode cX8_waterNow 12 = .ok (.istore 4, 2) := by decide +kernel
theorem dX8_waterNow_14 : decode cX8_waterNow 14 = .ok (.iconst 0, 1) := by decide +kernel
theorem dX8_waterNow_15 : decode cX8_waterNow 15 = .ok (.istore 5, 2) := by decide +kernel
theorem dX8_waterNow_17 : decode cX8_waterNow 17 = .ok (.iload 5, 2) := by decide +kernel
theorem dX8_waterNow_19 : decode cX8_waterNow 19 = .ok (.iload 4, 2) := by decide +kernel
theorem dX8_waterNow_21 : decode cX8_waterNow 21 = .ok (.if_icmp .ge 22, 3) := by decide +kernel
theorem dX8_waterNow_24 : decode cX8_waterNow 24 = .ok (.aload_n 3, 1) := by decide +kernel
theorem dX8_waterNow_25 : decode cX8_waterNow 25 = .ok (.iload 5, 2) := by decide +kernel
theorem dX8_waterNow_27 : decode cX8_waterNow 27 = .ok (.aaload, 1) := by decide +kernel
theorem dX8_waterNow_28 : decode cX8_waterNow 28 = .ok (.astore 6, 2) := by decide +kernel
theorem dX8_waterNow_30 : decode cX8_waterNow 30 = .ok (.iload_n 2, 1) := by decide +kernel
theorem dX8_waterNow_31 : decode cX8_waterNow 31 = .ok (.aload 6, 2) := by decide +kernel
theorem dX8_waterNow_33 : decode cX8_waterNow 33 = .ok (.iconst 1, 1) := by decide +kernel
theorem dX8_waterNow_34 : decode cX8_waterNow 34 = .ok (.iaload, 1) := by decide +kernel
theorem dX8_waterNow_35 : decode cX8_waterNow 35 = .ok (.iadd, 1) := by decide +kernel
theorem dX8_waterNow_36 : decode cX8_waterNow 36 = .ok (.istore_n 2, 1) := by decide +kernel
theorem dX8_waterNow_37 : decode cX8_waterNow 37 = .ok (.iinc 5 1, 3) := by decide +kernel
theorem dX8_waterNow_40 : decode cX8_waterNow 40 = .ok (.goto (-23), 3) := by decide +kernel
theorem dX8_waterNow_43 : decode cX8_waterNow 43 = .ok (.iconst 0, 1) := by decide +kernel
theorem dX8_waterNow_44 : decode cX8_waterNow 44 = .ok (.istore_n 3, 1) := by decide +kernel
theorem dX8_waterNow_45 : decode cX8_waterNow 45 = .ok (.aload_n 0, 1) := by decide +kernel
theorem dX8_waterNow_46 : decode cX8_waterNow 46 = .ok (.getfield 12, 3) := by decide +kernel
theorem dX8_waterNow_49 : decode cX8_waterNow 49 = .ok (.getfield 22, 3) := by decide +kernel
theorem dX8_waterNow_52 : decode cX8_waterNow 52 = .ok (.astore 4, 2) := by decide +kernel
theorem dX8_waterNow_54 : decode cX8_waterNow 54 = .ok (.aload 4, 2) := by decide +kernel
theorem dX8_waterNow_56 : decode cX8_waterNow 56 = .ok (.arraylength, 1) := by decide +kernel
theorem dX8_waterNow_57 : decode cX8_waterNow 57 = .ok (.istore 5, 2) := by decide +kernel
theorem dX8_waterNow_59 : decode cX8_waterNow 59 = .ok (.iconst 0, 1) := by decide +kernel
theorem dX8_waterNow_60 : decode cX8_waterNow 60 = .ok (.istore 6, 2) := by decide +kernel
theorem dX8_waterNow_62 : decode cX8_waterNow 62 = .ok (.iload 6, 2) := by decide +kernel
theorem dX8_waterNow_64 : decode cX8_waterNow 64 = .ok (.iload 5, 2) := by decide +kernel
theorem dX8_waterNow_66 : decode cX8_waterNow 66 = .ok (.if_icmp .ge 23, 3) := by decide +kernel
theorem dX8_waterNow_69 : decode cX8_waterNow 69 = .ok (.aload 4, 2) := by decide +kernel
theorem dX8_waterNow_71 : decode cX8_waterNow 71 = .ok (.iload 6, 2) := by decide +kernel
theorem dX8_waterNow_73 : decode cX8_waterNow 73 = .ok (.aaload, 1) := by decide +kernel
theorem dX8_waterNow_74 : decode cX8_waterNow 74 = .ok (.astore 7, 2) := by decide +kernel
theorem dX8_waterNow_76 : decode cX8_waterNow 76 = .ok (.iload_n 3, 1) := by decide +kernel
theorem dX8_waterNow_77 : decode cX8_waterNow 77 = .ok (.aload 7, 2) := by decide +kernel
theorem dX8_waterNow_79 : decode cX8_waterNow 79 = .ok (.iconst 5, 1) := by decide +kernel
theorem dX8_waterNow_80 : decode cX8_waterNow 80 = .ok (.iaload, 1) := by decide +kernel
theorem dX8_waterNow_81 : decode cX8_waterNow 81 = .ok (.iadd, 1) := by decide +kernel
theorem dX8_waterNow_82 : decode cX8_waterNow 82 = .ok (.istore_n 3, 1) := by decide +kernel
theorem dX8_waterNow_83 : decode cX8_waterNow 83 = .ok (.iinc 6 1, 3) := by decide +kernel
theorem dX8_waterNow_86 : decode cX8_waterNow 86 = .ok (.goto (-24), 3) := by decide +kernel
theorem dX8_waterNow_89 : decode cX8_waterNow 89 = .ok (.bipush 7, 2) := by decide +kernel
theorem dX8_waterNow_91 : decode cX8_waterNow 91 = .ok (.newarray .int, 2) := by decide +kernel
theorem dX8_waterNow_93 : decode cX8_waterNow 93 = .ok (.dup, 1) := by decide +kernel
theorem dX8_waterNow_94 : decode cX8_waterNow 94 = .ok (.iconst 0, 1) := by decide +kernel
theorem dX8_waterNow_95 : decode cX8_waterNow 95 = .ok (.aload_n 0, 1) := by decide +kernel
theorem dX8_waterNow_96 : decode cX8_waterNow 96 = .ok (.getfield 12, 3) := by decide +kernel
theorem dX8_waterNow_99 : decode cX8_waterNow 99 = .ok (.getfield 51, 3) := by decide +kernel
theorem dX8_waterNow_102 : decode cX8_waterNow 102 = .ok (.iconst 5, 1) := by decide +kernel
theorem dX8_waterNow_103 : decode cX8_waterNow 103 = .ok (.iaload, 1) := by decide +kernel
theorem dX8_waterNow_104 : decode cX8_waterNow 104 = .ok (.iastore, 1) := by decide +kernel
theorem dX8_waterNow_105 : decode cX8_waterNow 105 = .ok (.dup, 1) := by decide +kernel
theorem dX8_waterNow_106 : decode cX8_waterNow 106 = .ok (.iconst 1, 1) := by decide +kernel
theorem dX8_waterNow_107 : decode cX8_waterNow 107 = .ok (.iload_n 2, 1) := by decide +kernel
theorem dX8_waterNow_108 : decode cX8_waterNow 108 = .ok (.iastore, 1) := by decide +kernel
theorem dX8_waterNow_109 : decode cX8_waterNow 109 = .ok (.dup, 1) := by decide +kernel
theorem dX8_waterNow_110 : decode cX8_waterNow 110 = .ok (.iconst 2, 1) := by decide +kernel
theorem dX8_waterNow_111 : decode cX8_waterNow 111 = .ok (.aload_n 0, 1) := by decide +kernel
theorem dX8_waterNow_112 : decode cX8_waterNow 112 = .ok (.getfield 12, 3) := by decide +kernel
theorem dX8_waterNow_115 : decode cX8_waterNow 115 = .ok (.getfield 51, 3) := by decide +kernel
theorem dX8_waterNow_118 : decode cX8_waterNow 118 = .ok (.iconst 4, 1) := by decide +kernel
theorem dX8_waterNow_119 : decode cX8_waterNow 119 = .ok (.iaload, 1) := by decide +kernel
theorem dX8_waterNow_120 : decode cX8_waterNow 120 = .ok (.iastore, 1) := by decide +kernel
theorem dX8_waterNow_121 : decode cX8_waterNow 121 = .ok (.dup, 1) := by decide +kernel
theorem dX8_waterNow_122 : decode cX8_waterNow 122 = .ok (.iconst 3, 1) := by decide +kernel
theorem dX8_waterNow_123 : decode cX8_waterNow 123 = .ok (.iload_n 3, 1) := by decide +kernel
theorem dX8_waterNow_124 : decode cX8_waterNow 124 = .ok (.iastore, 1) := by decide +kernel
theorem dX8_waterNow_125 : decode cX8_waterNow 125 = .ok (.dup, 1) := by decide +kernel
theorem dX8_waterNow_126 : decode cX8_waterNow 126 = .ok (.iconst 4, 1) := by decide +kernel
theorem dX8_waterNow_127 : decode cX8_waterNow 127 = .ok (.aload_n 0, 1) := by decide +kernel
theorem dX8_waterNow_128 : decode cX8_waterNow 128 = .ok (.getfield 12, 3) := by decide +kernel
theorem dX8_waterNow_131 : decode cX8_waterNow 131 = .ok (.getfield 51, 3) := by decide +kernel
theorem dX8_waterNow_134 : decode cX8_waterNow 134 = .ok (.bipush 6, 2) := by decide +kernel
theorem dX8_waterNow_136 : decode cX8_waterNow 136 = .ok (.iaload, 1) := by decide +kernel
theorem dX8_waterNow_137 : decode cX8_waterNow 137 = .ok (.iastore, 1) := by decide +kernel
theorem dX8_waterNow_138 : decode cX8_waterNow 138 = .ok (.dup, 1) := by decide +kernel
theorem dX8_waterNow_139 : decode cX8_waterNow 139 = .ok (.iconst 5, 1) := by decide +kernel
theorem dX8_waterNow_140 : decode cX8_waterNow 140 = .ok (.aload_n 0, 1) := by decide +kernel
theorem dX8_waterNow_141 : decode cX8_waterNow 141 = .ok (.getfield 12, 3) := by decide +kernel
theorem dX8_waterNow_144 : decode cX8_waterNow 144 = .ok (.getfield 51, 3) := by decide +kernel
theorem dX8_waterNow_147 : decode cX8_waterNow 147 = .ok (.bipush 7, 2) := by decide +kernel
theorem dX8_waterNow_149 : decode cX8_waterNow 149 = .ok (.iaload, 1) := by decide +kernel
theorem dX8_waterNow_150 : decode cX8_waterNow 150 = .ok (.iastore, 1) := by decide +kernel
theorem dX8_waterNow_151 : decode cX8_waterNow 151 = .ok (.dup, 1) := by decide +kernel
theorem dX8_waterNow_152 : decode cX8_waterNow 152 = .ok (.bipush 6, 2) := by decide +kernel
theorem dX8_waterNow_154 : decode cX8_waterNow 154 = .ok (.aload_n 0, 1) := by decide +kernel
theorem dX8_waterNow_155 : decode cX8_waterNow 155 = .ok (.getfield 12, 3) := by decide +kernel
theorem dX8_waterNow_158 : decode cX8_waterNow 158 = .ok (.getfield 51, 3) := by decide +kernel
theorem dX8_waterNow_161 : decode cX8_waterNow 161 = .ok (.bipush 8, 2) := by decide +kernel
theorem dX8_waterNow_163 : decode cX8_waterNow 163 = .ok (.iaload, 1) := by decide +kernel
theorem dX8_waterNow_164 : decode cX8_waterNow 164 = .ok (.iastore, 1) := by decide +kernel
theorem dX8_waterNow_165 : decode cX8_waterNow 165 = .ok (.astore 4, 2) := by decide +kernel
theorem dX8_waterNow_167 : decode cX8_waterNow 167 = .ok (.aload 4, 2) := by decide +kernel
theorem dX8_waterNow_169 : decode cX8_waterNow 169 = .ok (.iload_n 1, 1) := by decide +kernel
theorem dX8_waterNow_170 : decode cX8_waterNow 170 = .ok (.iaload, 1) := by decide +kernel
theorem dX8_waterNow_171 : decode cX8_waterNow 171 = .ok (.ireturn, 1) := by decide +kernel
theorem dX8_water_0 : decode cX8_water 0 = .ok (.aload_n 0, 1) := by decide +kernel
theorem dX8_water_1 : decode cX8_water 1 = .ok (.iconst 0, 1) := by decide +kernel
theorem dX8_water_2 : decode cX8_water 2 = .ok (.putfield 18, 3) := by decide +kernel
theorem dX8_water_5 : decode cX8_water 5 = .ok (.iload_n 1, 1) := by decide +kernel
theorem dX8_water_6 : decode cX8_water 6 = .ok (.iconst 0, 1) := by decide +kernel
theorem dX8_water_7 : decode cX8_water 7 = .ok (.bipush 6, 2) := by decide +kernel
theorem dX8_water_9 : decode cX8_water 9 = .ok (.invokestatic 26, 3) := by decide +kernel
theorem dX8_water_12 : decode cX8_water 12 = .ok (.ifCond .eq 11, 3) := by decide +kernel
theorem dX8_water_15 : decode cX8_water 15 = .ok (.aload_n 0, 1) := by decide +kernel
theorem dX8_water_16 : decode cX8_water 16 = .ok (.iload_n 1, 1) := by decide +kernel
theorem dX8_water_17 : decode cX8_water 17 = .ok (.invokevirtual 95, 3) := by decide +kernel
theorem dX8_water_20 : decode cX8_water 20 = .ok (.goto 8, 3) := by decide +kernel
theorem dX8_water_23 : decode cX8_water 23 = .ok (.aload_n 0, 1) := by decide +kernel
theorem dX8_water_24 : decode cX8_water 24 = .ok (.iconst 1, 1) := by decide +kernel
theorem dX8_water_25 : decode cX8_water 25 = .ok (.invokevirtual 33, 3) := by decide +kernel
theorem dX8_water_28 : decode cX8_water 28 = .ok (.ireturn, 1) := by decide +kernel
theorem dX8_isClosedNow_0 : decode cX8_isClosedNow 0 = .ok (.iconst 0, 1) := by decide +kernel
theorem dX8_isClosedNow_1 : decode cX8_isClosedNow 1 = .ok (.istore_n 1, 1) := by decide +kernel
theorem dX8_isClosedNow_2 : decode cX8_isClosedNow 2 = .ok (.iconst 1, 1) := by decide +kernel
theorem dX8_isClosedNow_3 : decode cX8_isClosedNow 3 = .ok (.istore_n 2, 1) := by decide +kernel
theorem dX8_isClosedNow_4 : decode cX8_isClosedNow 4 = .ok (.iload_n 2, 1) := by decide +kernel
theorem dX8_isClosedNow_5 : decode cX8_isClosedNow 5 = .ok (.bipush 7, 2) := by decide +kernel
theorem dX8_isClosedNow_7 : decode cX8_isClosedNow 7 = .ok (.if_icmp .ge 17, 3) := by decide +kernel
theorem dX8_isClosedNow_10 : decode cX8_isClosedNow 10 = .ok (.iload_n 1, 1) := by decide +kernel
theorem dX8_isClosedNow_11 : decode cX8_isClosedNow 11 = .ok (.aload_n 0, 1) := by decide +kernel
theorem dX8_isClosedNow_12 : decode cX8_isClosedNow 12 = .ok (.iload_n 2, 1) := by decide +kernel
theorem dX8_isClosedNow_13 : decode cX8_isClosedNow 13 = .ok (.invokevirtual 95, 3) := by decide +kernel
theorem dX8_isClosedNow_16 : decode cX8_isClosedNow 16 = .ok (.iadd, 1) := by decide +kernel
theorem dX8_isClosedNow_17 : decode cX8_isClosedNow 17 = .ok (.istore_n 1, 1) := by decide +kernel
theorem dX8_isClosedNow_18 : decode cX8_isClosedNow 18 = .ok (.iinc 2 1, 3) := by decide +kernel
theorem dX8_isClosedNow_21 : decode cX8_isClosedNow 21 = .ok (.goto (-17), 3) := by decide +kernel
theorem dX8_isClosedNow_24 : decode cX8_isClosedNow 24 = .ok (.iload_n 1, 1) := by decide +kernel
theorem dX8_isClosedNow_25 : decode cX8_isClosedNow 25 = .ok (.aload_n 0, 1) := by decide +kernel
theorem dX8_isClosedNow_26 : decode cX8_isClosedNow 26 = .ok (.iconst 0, 1) := by decide +kernel
theorem dX8_isClosedNow_27 : decode cX8_isClosedNow 27 = .ok (.invokevirtual 95, 3) := by decide +kernel
theorem dX8_isClosedNow_30 : decode cX8_isClosedNow 30 = .ok (.if_icmp .ne 7, 3) := by decide +kernel
theorem dX8_isClosedNow_33 : decode cX8_isClosedNow 33 = .ok (.iconst 1, 1) := by decide +kernel
theorem dX8_isClosedNow_34 : decode cX8_isClosedNow 34 = .ok (.goto 4, 3) := by decide +kernel
theorem dX8_isClosedNow_37 : decode cX8_isClosedNow 37 = .ok (.iconst 0, 1) := by decide +kernel
theorem dX8_isClosedNow_38 : decode cX8_isClosedNow 38 = .ok (.ireturn, 1) := by decide +kernel
theorem dX8_isClosed_0 : decode cX8_isClosed 0 = .ok (.aload_n 0, 1) := by decide +kernel
theorem dX8_isClosed_1 : decode cX8_isClosed 1 = .ok (.iconst 0, 1) := by decide +kernel
theorem dX8_isClosed_2 : decode cX8_isClosed 2 = .ok (.putfield 18, 3) := by decide +kernel
theorem dX8_isClosed_5 : decode cX8_isClosed 5 = .ok (.aload_n 0, 1) := by decide +kernel
theorem dX8_isClosed_6 : decode cX8_isClosed 6 = .ok (.invokevirtual 98, 3) := by decide +kernel
theorem dX8_isClosed_9 : decode cX8_isClosed 9 = .ok (.ireturn, 1) := by decide +kernel
theorem dX8_thought_0 : decode cX8_thought 0 = .ok (.aload_n 0, 1) := by decide +kernel
theorem dX8_thought_1 : decode cX8_thought 1 = .ok (.iconst 0, 1) := by decide +kernel
theorem dX8_thought_2 : decode cX8_thought 2 = .ok (.putfield 18, 3) := by decide +kernel
theorem dX8_thought_5 : decode cX8_thought 5 = .ok (.aload_n 0, 1) := by decide +kernel
theorem dX8_thought_6 : decode cX8_thought 6 = .ok (.iload_n 1, 1) := by decide +kernel
theorem dX8_thought_7 : decode cX8_thought 7 = .ok (.invokevirtual 45, 3) := by decide +kernel
theorem dX8_thought_10 : decode cX8_thought 10 = .ok (.ifCond .eq 27, 3) := by decide +kernel
theorem dX8_thought_13 : decode cX8_thought 13 = .ok (.aload_n 0, 1) := by decide +kernel
theorem dX8_thought_14 : decode cX8_thought 14 = .ok (.getfield 12, 3) := by decide +kernel
theorem dX8_thought_17 : decode cX8_thought 17 = .ok (.getfield 30, 3) := by decide +kernel
theorem dX8_thought_20 : decode cX8_thought 20 = .ok (.iload_n 1, 1) := by decide +kernel
theorem dX8_thought_21 : decode cX8_thought 21 = .ok (.aaload, 1) := by decide +kernel
theorem dX8_thought_22 : decode cX8_thought 22 = .ok (.iload_n 2, 1) := by decide +kernel
theorem dX8_thought_23 : decode cX8_thought 23 = .ok (.ifCond .eq 8, 3) := by decide +kernel
theorem dX8_thought_26 : decode cX8_thought 26 = .ok (.bipush 21, 2) := by decide +kernel
theorem dX8_thought_28 : decode cX8_thought 28 = .ok (.goto 5, 3) := by decide +kernel
theorem dX8_thought_31 : decode cX8_thought 31 = .ok (.bipush 20, 2) := by decide +kernel
theorem dX8_thought_33 : decode cX8_thought 33 = .ok (.iaload, 1) := by decide +kernel
theorem dX8_thought_34 : decode cX8_thought 34 = .ok (.goto 8, 3) := by decide +kernel
theorem dX8_thought_37 : decode cX8_thought 37 = .ok (.aload_n 0, 1) := by decide +kernel
theorem dX8_thought_38 : decode cX8_thought 38 = .ok (.iconst 1, 1) := by decide +kernel
theorem dX8_thought_39 : decode cX8_thought 39 = .ok (.invokevirtual 33, 3) := by decide +kernel
theorem dX8_thought_42 : decode cX8_thought 42 = .ok (.ireturn, 1) := by decide +kernel
theorem dX8_manyNow_0 : decode cX8_manyNow 0 = .ok (.bipush 12, 2) := by decide +kernel
theorem dX8_manyNow_2 : decode cX8_manyNow 2 = .ok (.newarray .int, 2) := by decide +kernel
theorem dX8_manyNow_4 : decode cX8_manyNow 4 = .ok (.dup, 1) := by decide +kernel
theorem dX8_manyNow_5 : decode cX8_manyNow 5 = .ok (.iconst 0, 1) := by decide +kernel
theorem dX8_manyNow_6 : decode cX8_manyNow 6 = .ok (.iconst 0, 1) := by decide +kernel
theorem dX8_manyNow_7 : decode cX8_manyNow 7 = .ok (.iastore, 1) := by decide +kernel
theorem dX8_manyNow_8 : decode cX8_manyNow 8 = .ok (.dup, 1) := by decide +kernel
theorem dX8_manyNow_9 : decode cX8_manyNow 9 = .ok (.iconst 1, 1) := by decide +kernel
theorem dX8_manyNow_10 : decode cX8_manyNow 10 = .ok (.iconst 0, 1) := by decide +kernel
theorem dX8_manyNow_11 : decode cX8_manyNow 11 = .ok (.iastore, 1) := by decide +kernel
theorem dX8_manyNow_12 : decode cX8_manyNow 12 = .ok (.dup, 1) := by decide +kernel
theorem dX8_manyNow_13 : decode cX8_manyNow 13 = .ok (.iconst 2, 1) := by decide +kernel
theorem dX8_manyNow_14 : decode cX8_manyNow 14 = .ok (.iconst 0, 1) := by decide +kernel
theorem dX8_manyNow_15 : decode cX8_manyNow 15 = .ok (.iastore, 1) := by decide +kernel
theorem dX8_manyNow_16 : decode cX8_manyNow 16 = .ok (.dup, 1) := by decide +kernel
theorem dX8_manyNow_17 : decode cX8_manyNow 17 = .ok (.iconst 3, 1) := by decide +kernel
theorem dX8_manyNow_18 : decode cX8_manyNow 18 = .ok (.iconst 0, 1) := by decide +kernel
theorem dX8_manyNow_19 : decode cX8_manyNow 19 = .ok (.iastore, 1) := by decide +kernel
theorem dX8_manyNow_20 : decode cX8_manyNow 20 = .ok (.dup, 1) := by decide +kernel
theorem dX8_manyNow_21 : decode cX8_manyNow 21 = .ok (.iconst 4, 1) := by decide +kernel
theorem dX8_manyNow_22 : decode cX8_manyNow 22 = .ok (.iconst 0, 1) := by decide +kernel
theorem dX8_manyNow_23 : decode cX8_manyNow 23 = .ok (.iastore, 1) := by decide +kernel
theorem dX8_manyNow_24 : decode cX8_manyNow 24 = .ok (.dup, 1) := by decide +kernel
theorem dX8_manyNow_25 : decode cX8_manyNow 25 = .ok (.iconst 5, 1) := by decide +kernel
theorem dX8_manyNow_26 : decode cX8_manyNow 26 = .ok (.bipush 8, 2) := by decide +kernel
theorem dX8_manyNow_28 : decode cX8_manyNow 28 = .ok (.iastore, 1) := by decide +kernel
theorem dX8_manyNow_29 : decode cX8_manyNow 29 = .ok (.dup, 1) := by decide +kernel
theorem dX8_manyNow_30 : decode cX8_manyNow 30 = .ok (.bipush 6, 2) := by decide +kernel
theorem dX8_manyNow_32 : decode cX8_manyNow 32 = .ok (.bipush 17, 2) := by decide +kernel
theorem dX8_manyNow_34 : decode cX8_manyNow 34 = .ok (.iastore, 1) := by decide +kernel
theorem dX8_manyNow_35 : decode cX8_manyNow 35 = .ok (.dup, 1) := by decide +kernel
theorem dX8_manyNow_36 : decode cX8_manyNow 36 = .ok (.bipush 7, 2) := by decide +kernel
theorem dX8_manyNow_38 : decode cX8_manyNow 38 = .ok (.iconst 0, 1) := by decide +kernel
theorem dX8_manyNow_39 : decode cX8_manyNow 39 = .ok (.iastore, 1) := by decide +kernel
theorem dX8_manyNow_40 : decode cX8_manyNow 40 = .ok (.dup, 1) := by decide +kernel
theorem dX8_manyNow_41 : decode cX8_manyNow 41 = .ok (.bipush 8, 2) := by decide +kernel
theorem dX8_manyNow_43 : decode cX8_manyNow 43 = .ok (.iconst 0, 1) := by decide +kernel
theorem dX8_manyNow_44 : decode cX8_manyNow 44 = .ok (.iastore, 1) := by decide +kernel
theorem dX8_manyNow_45 : decode cX8_manyNow 45 = .ok (.dup, 1) := by decide +kernel
theorem dX8_manyNow_46 : decode cX8_manyNow 46 = .ok (.bipush 9, 2) := by decide +kernel
theorem dX8_manyNow_48 : decode cX8_manyNow 48 = .ok (.iconst 0, 1) := by decide +kernel
theorem dX8_manyNow_49 : decode cX8_manyNow 49 = .ok (.iastore, 1) := by decide +kernel
theorem dX8_manyNow_50 : decode cX8_manyNow 50 = .ok (.dup, 1) := by decide +kernel
theorem dX8_manyNow_51 : decode cX8_manyNow 51 = .ok (.bipush 10, 2) := by decide +kernel
theorem dX8_manyNow_53 : decode cX8_manyNow 53 = .ok (.iconst 0, 1) := by decide +kernel
theorem dX8_manyNow_54 : decode cX8_manyNow 54 = .ok (.iastore, 1) := by decide +kernel
theorem dX8_manyNow_55 : decode cX8_manyNow 55 = .ok (.dup, 1) := by decide +kernel
theorem dX8_manyNow_56 : decode cX8_manyNow 56 = .ok (.bipush 11, 2) := by decide +kernel
theorem dX8_manyNow_58 : decode cX8_manyNow 58 = .ok (.bipush 15, 2) := by decide +kernel
theorem dX8_manyNow_60 : decode cX8_manyNow 60 = .ok (.iastore, 1) := by decide +kernel
theorem dX8_manyNow_61 : decode cX8_manyNow 61 = .ok (.astore_n 2, 1) := by decide +kernel
theorem dX8_manyNow_62 : decode cX8_manyNow 62 = .ok (.iconst 0, 1) := by decide +kernel
theorem dX8_manyNow_63 : decode cX8_manyNow 63 = .ok (.istore_n 3, 1) := by decide +kernel
theorem dX8_manyNow_64 : decode cX8_manyNow 64 = .ok (.iload_n 1, 1) := by decide +kernel
theorem dX8_manyNow_65 : decode cX8_manyNow 65 = .ok (.tableswitch 245 0 10 #[59, 68, 77, 87, 101, 245, 245, 122, 168, 223, 234], 59) := by decide +kernel
theorem dX8_manyNow_124 : decode cX8_manyNow 124 = .ok (.aload_n 0, 1) := by decide +kernel
theorem dX8_manyNow_125 : decode cX8_manyNow 125 = .ok (.getfield 12, 3) := by decide +kernel
theorem dX8_manyNow_128 : decode cX8_manyNow 128 = .ok (.getfield 22, 3) := by decide +kernel
theorem dX8_manyNow_131 : decode cX8_manyNow 131 = .ok (.arraylength, 1) := by decide +kernel
theorem dX8_manyNow_132 : decode cX8_manyNow 132 = .ok (.ireturn, 1) := by decide +kernel
theorem dX8_manyNow_133 : decode cX8_manyNow 133 = .ok (.aload_n 0, 1) := by decide +kernel
theorem dX8_manyNow_134 : decode cX8_manyNow 134 = .ok (.getfield 12, 3) := by decide +kernel
theorem dX8_manyNow_137 : decode cX8_manyNow 137 = .ok (.getfield 30, 3) := by decide +kernel
theorem dX8_manyNow_140 : decode cX8_manyNow 140 = .ok (.arraylength, 1) := by decide +kernel
theorem dX8_manyNow_141 : decode cX8_manyNow 141 = .ok (.ireturn, 1) := by decide +kernel
theorem dX8_manyNow_142 : decode cX8_manyNow 142 = .ok (.aload_n 0, 1) := by decide +kernel
theorem dX8_manyNow_143 : decode cX8_manyNow 143 = .ok (.getfield 12, 3) := by decide +kernel
theorem dX8_manyNow_146 : decode cX8_manyNow 146 = .ok (.getfield 51, 3) := by decide +kernel
theorem dX8_manyNow_149 : decode cX8_manyNow 149 = .ok (.iconst 0, 1) := by decide +kernel
theorem dX8_manyNow_150 : decode cX8_manyNow 150 = .ok (.iaload, 1) := by decide +kernel
theorem dX8_manyNow_151 : decode cX8_manyNow 151 = .ok (.ireturn, 1) := by decide +kernel
theorem dX8_manyNow_152 : decode cX8_manyNow 152 = .ok (.aload_n 0, 1) := by decide +kernel
theorem dX8_manyNow_153 : decode cX8_manyNow 153 = .ok (.getfield 12, 3) := by decide +kernel
theorem dX8_manyNow_156 : decode cX8_manyNow 156 = .ok (.getfield 51, 3) := by decide +kernel
theorem dX8_manyNow_159 : decode cX8_manyNow 159 = .ok (.iconst 0, 1) := by decide +kernel
theorem dX8_manyNow_160 : decode cX8_manyNow 160 = .ok (.iaload, 1) := by decide +kernel
theorem dX8_manyNow_161 : decode cX8_manyNow 161 = .ok (.sipush 210, 3) := by decide +kernel
theorem dX8_manyNow_164 : decode cX8_manyNow 164 = .ok (.irem, 1) := by decide +kernel
theorem dX8_manyNow_165 : decode cX8_manyNow 165 = .ok (.ireturn, 1) := by decide +kernel
theorem dX8_manyNow_166 : decode cX8_manyNow 166 = .ok (.aload_n 0, 1) := by decide +kernel
theorem dX8_manyNow_167 : decode cX8_manyNow 167 = .ok (.getfield 12, 3) := by decide +kernel
theorem dX8_manyNow_170 : decode cX8_manyNow 170 = .ok (.getfield 51, 3) := by decide +kernel
theorem dX8_manyNow_173 : decode cX8_manyNow 173 = .ok (.iconst 0, 1) := by decide +kernel
theorem dX8_manyNow_174 : decode cX8_manyNow 174 = .ok (.iaload, 1) := by decide +kernel
theorem dX8_manyNow_175 : decode cX8_manyNow 175 = .ok (.bipush 30, 2) := by decide +kernel
theorem dX8_manyNow_177 : decode cX8_manyNow 177 = .ok (.irem, 1) := by decide +kernel
theorem dX8_manyNow_178 : decode cX8_manyNow 178 = .ok (.ifCond .ne 7, 3) := by decide +kernel
theorem dX8_manyNow_181 : decode cX8_manyNow 181 = .ok (.iconst 1, 1) := by decide +kernel
theorem dX8_manyNow_182 : decode cX8_manyNow 182 = .ok (.goto 4, 3) := by decide +kernel
theorem dX8_manyNow_185 : decode cX8_manyNow 185 = .ok (.iconst 0, 1) := by decide +kernel
theorem dX8_manyNow_186 : decode cX8_manyNow 186 = .ok (.ireturn, 1) := by decide +kernel
theorem dX8_manyNow_187 : decode cX8_manyNow 187 = .ok (.aload_n 0, 1) := by decide +kernel
theorem dX8_manyNow_188 : decode cX8_manyNow 188 = .ok (.getfield 12, 3) := by decide +kernel
theorem dX8_manyNow_191 : decode cX8_manyNow 191 = .ok (.getfield 22, 3) := by decide +kernel
theorem dX8_manyNow_194 : decode cX8_manyNow 194 = .ok (.astore 4, 2) := by decide +kernel
theorem dX8_manyNow_196 : decode cX8_manyNow 196 = .ok (.aload 4, 2) := by decide +kernel
theorem dX8_manyNow_198 : decode cX8_manyNow 198 = .ok (.arraylength, 1) := by decide +kernel
theorem dX8_manyNow_199 : decode cX8_manyNow 199 = .ok (.istore 5, 2) := by decide +kernel
theorem dX8_manyNow_201 : decode cX8_manyNow 201 = .ok (.iconst 0, 1) := by decide +kernel
theorem dX8_manyNow_202 : decode cX8_manyNow 202 = .ok (.istore 6, 2) := by decide +kernel
theorem dX8_manyNow_204 : decode cX8_manyNow 204 = .ok (.iload 6, 2) := by decide +kernel
theorem dX8_manyNow_206 : decode cX8_manyNow 206 = .ok (.iload 5, 2) := by decide +kernel
theorem dX8_manyNow_208 : decode cX8_manyNow 208 = .ok (.if_icmp .ge 23, 3) := by decide +kernel
theorem dX8_manyNow_211 : decode cX8_manyNow 211 = .ok (.aload 4, 2) := by decide +kernel
theorem dX8_manyNow_213 : decode cX8_manyNow 213 = .ok (.iload 6, 2) := by decide +kernel
theorem dX8_manyNow_215 : decode cX8_manyNow 215 = .ok (.aaload, 1) := by decide +kernel
theorem dX8_manyNow_216 : decode cX8_manyNow 216 = .ok (.astore 7, 2) := by decide +kernel
theorem dX8_manyNow_218 : decode cX8_manyNow 218 = .ok (.iload_n 3, 1) := by decide +kernel
theorem dX8_manyNow_219 : decode cX8_manyNow 219 = .ok (.aload 7, 2) := by decide +kernel
theorem dX8_manyNow_221 : decode cX8_manyNow 221 = .ok (.iconst 4, 1) := by decide +kernel
theorem dX8_manyNow_222 : decode cX8_manyNow 222 = .ok (.iaload, 1) := by decide +kernel
theorem dX8_manyNow_223 : decode cX8_manyNow 223 = .ok (.iadd, 1) := by decide +kernel
theorem dX8_manyNow_224 : decode cX8_manyNow 224 = .ok (.istore_n 3, 1) := by decide +kernel
theorem dX8_manyNow_225 : decode cX8_manyNow 225 = .ok (.iinc 6 1, 3) := by decide +kernel
theorem dX8_manyNow_228 : decode cX8_manyNow 228 = .ok (.goto (-24), 3) := by decide +kernel
theorem dX8_manyNow_231 : decode cX8_manyNow 231 = .ok (.iload_n 3, 1) := by decide +kernel
theorem dX8_manyNow_232 : decode cX8_manyNow 232 = .ok (.ireturn, 1) := by decide +kernel
theorem dX8_manyNow_233 : decode cX8_manyNow 233 = .ok (.aload_n 0, 1) := by decide +kernel
theorem dX8_manyNow_234 : decode cX8_manyNow 234 = .ok (.getfield 12, 3) := by decide +kernel
theorem dX8_manyNow_237 : decode cX8_manyNow 237 = .ok (.getfield 30, 3) := by decide +kernel
theorem dX8_manyNow_240 : decode cX8_manyNow 240 = .ok (.astore 4, 2) := by decide +kernel
theorem dX8_manyNow_242 : decode cX8_manyNow 242 = .ok (.aload 4, 2) := by decide +kernel
theorem dX8_manyNow_244 : decode cX8_manyNow 244 = .ok (.arraylength, 1) := by decide +kernel
theorem dX8_manyNow_245 : decode cX8_manyNow 245 = .ok (.istore 5, 2) := by decide +kernel
theorem dX8_manyNow_247 : decode cX8_manyNow 247 = .ok (.iconst 0, 1) := by decide +kernel
theorem dX8_manyNow_248 : decode cX8_manyNow 248 = .ok (.istore 6, 2) := by decide +kernel
theorem dX8_manyNow_250 : decode cX8_manyNow 250 = .ok (.iload 6, 2) := by decide +kernel
theorem dX8_manyNow_252 : decode cX8_manyNow 252 = .ok (.iload 5, 2) := by decide +kernel
theorem dX8_manyNow_254 : decode cX8_manyNow 254 = .ok (.if_icmp .ge 32, 3) := by decide +kernel
theorem dX8_manyNow_257 : decode cX8_manyNow 257 = .ok (.aload 4, 2) := by decide +kernel
theorem dX8_manyNow_259 : decode cX8_manyNow 259 = .ok (.iload 6, 2) := by decide +kernel
theorem dX8_manyNow_261 : decode cX8_manyNow 261 = .ok (.aaload, 1) := by decide +kernel
theorem dX8_manyNow_262 : decode cX8_manyNow 262 = .ok (.astore 7, 2) := by decide +kernel
theorem dX8_manyNow_264 : decode cX8_manyNow 264 = .ok (.iload_n 3, 1) := by decide +kernel
theorem dX8_manyNow_265 : decode cX8_manyNow 265 = .ok (.aload 7, 2) := by decide +kernel
theorem dX8_manyNow_267 : decode cX8_manyNow 267 = .ok (.bipush 17, 2) := by decide +kernel
theorem dX8_manyNow_269 : decode cX8_manyNow 269 = .ok (.iaload, 1) := by decide +kernel
theorem dX8_manyNow_270 : decode cX8_manyNow 270 = .ok (.ifCond .ge 7, 3) := by decide +kernel
theorem dX8_manyNow_273 : decode cX8_manyNow 273 = .ok (.iconst 1, 1) := by decide +kernel
theorem dX8_manyNow_274 : decode cX8_manyNow 274 = .ok (.goto 4, 3) := by decide +kernel
theorem dX8_manyNow_277 : decode cX8_manyNow 277 = .ok (.iconst 0, 1) := by decide +kernel
theorem dX8_manyNow_278 : decode cX8_manyNow 278 = .ok (.iadd, 1) := by decide +kernel
theorem dX8_manyNow_279 : decode cX8_manyNow 279 = .ok (.istore_n 3, 1) := by decide +kernel
theorem dX8_manyNow_280 : decode cX8_manyNow 280 = .ok (.iinc 6 1, 3) := by decide +kernel
theorem dX8_manyNow_283 : decode cX8_manyNow 283 = .ok (.goto (-33), 3) := by decide +kernel
theorem dX8_manyNow_286 : decode cX8_manyNow 286 = .ok (.iload_n 3, 1) := by decide +kernel
theorem dX8_manyNow_287 : decode cX8_manyNow 287 = .ok (.ireturn, 1) := by decide +kernel
theorem dX8_manyNow_288 : decode cX8_manyNow 288 = .ok (.aload_n 0, 1) := by decide +kernel
theorem dX8_manyNow_289 : decode cX8_manyNow 289 = .ok (.getfield 12, 3) := by decide +kernel
theorem dX8_manyNow_292 : decode cX8_manyNow 292 = .ok (.getfield 51, 3) := by decide +kernel
theorem dX8_manyNow_295 : decode cX8_manyNow 295 = .ok (.bipush 9, 2) := by decide +kernel
theorem dX8_manyNow_297 : decode cX8_manyNow 297 = .ok (.iaload, 1) := by decide +kernel
theorem dX8_manyNow_298 : decode cX8_manyNow 298 = .ok (.ireturn, 1) := by decide +kernel
theorem dX8_manyNow_299 : decode cX8_manyNow 299 = .ok (.aload_n 0, 1) := by decide +kernel
theorem dX8_manyNow_300 : decode cX8_manyNow 300 = .ok (.getfield 12, 3) := by decide +kernel
theorem dX8_manyNow_303 : decode cX8_manyNow 303 = .ok (.getfield 51, 3) := by decide +kernel
theorem dX8_manyNow_306 : decode cX8_manyNow 306 = .ok (.bipush 10, 2) := by decide +kernel
theorem dX8_manyNow_308 : decode cX8_manyNow 308 = .ok (.iaload, 1) := by decide +kernel
theorem dX8_manyNow_309 : decode cX8_manyNow 309 = .ok (.ireturn, 1) := by decide +kernel
theorem dX8_manyNow_310 : decode cX8_manyNow 310 = .ok (.aload_n 0, 1) := by decide +kernel
theorem dX8_manyNow_311 : decode cX8_manyNow 311 = .ok (.getfield 12, 3) := by decide +kernel
theorem dX8_manyNow_314 : decode cX8_manyNow 314 = .ok (.getfield 30, 3) := by decide +kernel
theorem dX8_manyNow_317 : decode cX8_manyNow 317 = .ok (.astore 4, 2) := by decide +kernel
theorem dX8_manyNow_319 : decode cX8_manyNow 319 = .ok (.aload 4, 2) := by decide +kernel
theorem dX8_manyNow_321 : decode cX8_manyNow 321 = .ok (.arraylength, 1) := by decide +kernel
theorem dX8_manyNow_322 : decode cX8_manyNow 322 = .ok (.istore 5, 2) := by decide +kernel
theorem dX8_manyNow_324 : decode cX8_manyNow 324 = .ok (.iconst 0, 1) := by decide +kernel
theorem dX8_manyNow_325 : decode cX8_manyNow 325 = .ok (.istore 6, 2) := by decide +kernel
theorem dX8_manyNow_327 : decode cX8_manyNow 327 = .ok (.iload 6, 2) := by decide +kernel
theorem dX8_manyNow_329 : decode cX8_manyNow 329 = .ok (.iload 5, 2) := by decide +kernel
theorem dX8_manyNow_331 : decode cX8_manyNow 331 = .ok (.if_icmp .ge 25, 3) := by decide +kernel
theorem dX8_manyNow_334 : decode cX8_manyNow 334 = .ok (.aload 4, 2) := by decide +kernel
theorem dX8_manyNow_336 : decode cX8_manyNow 336 = .ok (.iload 6, 2) := by decide +kernel
theorem dX8_manyNow_338 : decode cX8_manyNow 338 = .ok (.aaload, 1) := by decide +kernel
theorem dX8_manyNow_339 : decode cX8_manyNow 339 = .ok (.astore 7, 2) := by decide +kernel
theorem dX8_manyNow_341 : decode cX8_manyNow 341 = .ok (.iload_n 3, 1) := by decide +kernel
theorem dX8_manyNow_342 : decode cX8_manyNow 342 = .ok (.aload 7, 2) := by decide +kernel
theorem dX8_manyNow_344 : decode cX8_manyNow 344 = .ok (.aload_n 2, 1) := by decide +kernel
theorem dX8_manyNow_345 : decode cX8_manyNow 345 = .ok (.iload_n 1, 1) := by decide +kernel
theorem dX8_manyNow_346 : decode cX8_manyNow 346 = .ok (.iaload, 1) := by decide +kernel
theorem dX8_manyNow_347 : decode cX8_manyNow 347 = .ok (.iaload, 1) := by decide +kernel
theorem dX8_manyNow_348 : decode cX8_manyNow 348 = .ok (.iadd, 1) := by decide +kernel
theorem dX8_manyNow_349 : decode cX8_manyNow 349 = .ok (.istore_n 3, 1) := by decide +kernel
theorem dX8_manyNow_350 : decode cX8_manyNow 350 = .ok (.iinc 6 1, 3) := by decide +kernel
theorem dX8_manyNow_353 : decode cX8_manyNow 353 = .ok (.goto (-26), 3) := by decide +kernel
theorem dX8_manyNow_356 : decode cX8_manyNow 356 = .ok (.iload_n 3, 1) := by decide +kernel
theorem dX8_manyNow_357 : decode cX8_manyNow 357 = .ok (.ireturn, 1) := by decide +kernel
theorem dX8_many_0 : decode cX8_many 0 = .ok (.aload_n 0, 1) := by decide +kernel
theorem dX8_many_1 : decode cX8_many 1 = .ok (.iconst 0, 1) := by decide +kernel
theorem dX8_many_2 : decode cX8_many 2 = .ok (.putfield 18, 3) := by decide +kernel
theorem dX8_many_5 : decode cX8_many 5 = .ok (.iload_n 1, 1) := by decide +kernel
theorem dX8_many_6 : decode cX8_many 6 = .ok (.iconst 0, 1) := by decide +kernel
theorem dX8_many_7 : decode cX8_many 7 = .ok (.bipush 11, 2) := by decide +kernel
theorem dX8_many_9 : decode cX8_many 9 = .ok (.invokestatic 26, 3) := by decide +kernel
theorem dX8_many_12 : decode cX8_many 12 = .ok (.ifCond .eq 11, 3) := by decide +kernel
theorem dX8_many_15 : decode cX8_many 15 = .ok (.aload_n 0, 1) := by decide +kernel
theorem dX8_many_16 : decode cX8_many 16 = .ok (.iload_n 1, 1) := by decide +kernel
theorem dX8_many_17 : decode cX8_many 17 = .ok (.invokevirtual 102, 3) := by decide +kernel
theorem dX8_many_20 : decode cX8_many 20 = .ok (.goto 8, 3) := by decide +kernel
theorem dX8_many_23 : decode cX8_many 23 = .ok (.aload_n 0, 1) := by decide +kernel
theorem dX8_many_24 : decode cX8_many 24 = .ok (.iconst 1, 1) := by decide +kernel
theorem dX8_many_25 : decode cX8_many 25 = .ok (.invokevirtual 33, 3) := by decide +kernel
theorem dX8_many_28 : decode cX8_many 28 = .ok (.ireturn, 1) := by decide +kernel
theorem dX8_meanDepth_0 : decode cX8_meanDepth 0 = .ok (.aload_n 0, 1) := by decide +kernel
theorem dX8_meanDepth_1 : decode cX8_meanDepth 1 = .ok (.aload_n 0, 1) := by decide +kernel
theorem dX8_meanDepth_2 : decode cX8_meanDepth 2 = .ok (.iload_n 1, 1) := by decide +kernel
theorem dX8_meanDepth_3 : decode cX8_meanDepth 3 = .ok (.invokevirtual 41, 3) := by decide +kernel
theorem dX8_meanDepth_6 : decode cX8_meanDepth 6 = .ok (.ifCond .eq 7, 3) := by decide +kernel
theorem dX8_meanDepth_9 : decode cX8_meanDepth 9 = .ok (.iconst 0, 1) := by decide +kernel
theorem dX8_meanDepth_10 : decode cX8_meanDepth 10 = .ok (.goto 4, 3) := by decide +kernel
theorem dX8_meanDepth_13 : decode cX8_meanDepth 13 = .ok (.iconst 1, 1) := by decide +kernel
theorem dX8_meanDepth_14 : decode cX8_meanDepth 14 = .ok (.putfield 18, 3) := by decide +kernel
theorem dX8_meanDepth_17 : decode cX8_meanDepth 17 = .ok (.aload_n 0, 1) := by decide +kernel
theorem dX8_meanDepth_18 : decode cX8_meanDepth 18 = .ok (.getfield 18, 3) := by decide +kernel
theorem dX8_meanDepth_21 : decode cX8_meanDepth 21 = .ok (.ifCond .gt 11, 3) := by decide +kernel
theorem dX8_meanDepth_24 : decode cX8_meanDepth 24 = .ok (.aload_n 0, 1) := by decide +kernel
theorem dX8_meanDepth_25 : decode cX8_meanDepth 25 = .ok (.iload_n 1, 1) := by decide +kernel
theorem dX8_meanDepth_26 : decode cX8_meanDepth 26 = .ok (.invokevirtual 74, 3) := by decide +kernel
theorem dX8_meanDepth_29 : decode cX8_meanDepth 29 = .ok (.ifCond .ne 5, 3) := by decide +kernel
theorem dX8_meanDepth_32 : decode cX8_meanDepth 32 = .ok (.dconst 0, 1) := by decide +kernel
theorem dX8_meanDepth_33 : decode cX8_meanDepth 33 = .ok (.dreturn, 1) := by decide +kernel
theorem dX8_meanDepth_34 : decode cX8_meanDepth 34 = .ok (.iconst 0, 1) := by decide +kernel
theorem dX8_meanDepth_35 : decode cX8_meanDepth 35 = .ok (.istore_n 2, 1) := by decide +kernel
theorem dX8_meanDepth_36 : decode cX8_meanDepth 36 = .ok (.aload_n 0, 1) := by decide +kernel
theorem dX8_meanDepth_37 : decode cX8_meanDepth 37 = .ok (.getfield 12, 3) := by decide +kernel
theorem dX8_meanDepth_40 : decode cX8_meanDepth 40 = .ok (.getfield 30, 3) := by decide +kernel
theorem dX8_meanDepth_43 : decode cX8_meanDepth 43 = .ok (.astore_n 3, 1) := by decide +kernel
theorem dX8_meanDepth_44 : decode cX8_meanDepth 44 = .ok (.aload_n 3, 1) := by decide +kernel
theorem dX8_meanDepth_45 : decode cX8_meanDepth 45 = .ok (.arraylength, 1) := by decide +kernel
theorem dX8_meanDepth_46 : decode cX8_meanDepth 46 = .ok (.istore 4, 2) := by decide +kernel
theorem dX8_meanDepth_48 : decode cX8_meanDepth 48 = .ok (.iconst 0, 1) := by decide +kernel
theorem dX8_meanDepth_49 : decode cX8_meanDepth 49 = .ok (.istore 5, 2) := by decide +kernel
theorem dX8_meanDepth_51 : decode cX8_meanDepth 51 = .ok (.iload 5, 2) := by decide +kernel
theorem dX8_meanDepth_53 : decode cX8_meanDepth 53 = .ok (.iload 4, 2) := by decide +kernel
theorem dX8_meanDepth_55 : decode cX8_meanDepth 55 = .ok (.if_icmp .ge 34, 3) := by decide +kernel
theorem dX8_meanDepth_58 : decode cX8_meanDepth 58 = .ok (.aload_n 3, 1) := by decide +kernel
theorem dX8_meanDepth_59 : decode cX8_meanDepth 59 = .ok (.iload 5, 2) := by decide +kernel
theorem dX8_meanDepth_61 : decode cX8_meanDepth 61 = .ok (.aaload, 1) := by decide +kernel
theorem dX8_meanDepth_62 : decode cX8_meanDepth 62 = .ok (.astore 6, 2) := by decide +kernel
theorem dX8_meanDepth_64 : decode cX8_meanDepth 64 = .ok (.iload_n 2, 1) := by decide +kernel
theorem dX8_meanDepth_65 : decode cX8_meanDepth 65 = .ok (.aload 6, 2) := by decide +kernel
theorem dX8_meanDepth_67 : decode cX8_meanDepth 67 = .ok (.iconst 0, 1) := by decide +kernel
theorem dX8_meanDepth_68 : decode cX8_meanDepth 68 = .ok (.iaload, 1) := by decide +kernel
theorem dX8_meanDepth_69 : decode cX8_meanDepth 69 = .ok (.iload_n 1, 1) := by decide +kernel
theorem dX8_meanDepth_70 : decode cX8_meanDepth 70 = .ok (.if_icmp .ne 10, 3) := by decide +kernel
theorem dX8_meanDepth_73 : decode cX8_meanDepth 73 = .ok (.aload 6, 2) := by decide +kernel
theorem dX8_meanDepth_75 : decode cX8_meanDepth 75 = .ok (.iconst 1, 1) := by decide +kernel
theorem dX8_meanDepth_76 : decode cX8_meanDepth 76 = .ok (.iaload, 1) := by decide +kernel
theorem dX8_meanDepth_77 : decode cX8_meanDepth 77 = .ok (.goto 4, 3) := by decide +kernel
theorem dX8_meanDepth_80 : decode cX8_meanDepth 80 = .ok (.iconst 0, 1) := by decide +kernel
theorem dX8_meanDepth_81 : decode cX8_meanDepth 81 = .ok (.iadd, 1) := by decide +kernel
theorem dX8_meanDepth_82 : decode cX8_meanDepth 82 = .ok (.istore_n 2, 1) := by decide +kernel
theorem dX8_meanDepth_83 : decode cX8_meanDepth 83 = .ok (.iinc 5 1, 3) := by decide +kernel
theorem dX8_meanDepth_86 : decode cX8_meanDepth 86 = .ok (.goto (-35), 3) := by decide +kernel
theorem dX8_meanDepth_89 : decode cX8_meanDepth 89 = .ok (.iload_n 2, 1) := by decide +kernel
theorem dX8_meanDepth_90 : decode cX8_meanDepth 90 = .ok (.i2d, 1) := by decide +kernel
theorem dX8_meanDepth_91 : decode cX8_meanDepth 91 = .ok (.aload_n 0, 1) := by decide +kernel
theorem dX8_meanDepth_92 : decode cX8_meanDepth 92 = .ok (.iload_n 1, 1) := by decide +kernel
theorem dX8_meanDepth_93 : decode cX8_meanDepth 93 = .ok (.invokevirtual 74, 3) := by decide +kernel
theorem dX8_meanDepth_96 : decode cX8_meanDepth 96 = .ok (.i2d, 1) := by decide +kernel
theorem dX8_meanDepth_97 : decode cX8_meanDepth 97 = .ok (.ddiv, 1) := by decide +kernel
theorem dX8_meanDepth_98 : decode cX8_meanDepth 98 = .ok (.dreturn, 1) := by decide +kernel
theorem dX8_suspectNow_0 : decode cX8_suspectNow 0 = .ok (.iconst 0, 1) := by decide +kernel
theorem dX8_suspectNow_1 : decode cX8_suspectNow 1 = .ok (.istore_n 2, 1) := by decide +kernel
theorem dX8_suspectNow_2 : decode cX8_suspectNow 2 = .ok (.iconst 0, 1) := by decide +kernel
theorem dX8_suspectNow_3 : decode cX8_suspectNow 3 = .ok (.istore_n 3, 1) := by decide +kernel
theorem dX8_suspectNow_4 : decode cX8_suspectNow 4 = .ok (.aload_n 0, 1) := by decide +kernel
theorem dX8_suspectNow_5 : decode cX8_suspectNow 5 = .ok (.getfield 12, 3) := by decide +kernel
theorem dX8_suspectNow_8 : decode cX8_suspectNow 8 = .ok (.getfield 30, 3) := by decide +kernel
theorem dX8_suspectNow_11 : decode cX8_suspectNow 11 = .ok (.astore 4, 2) := by decide +kernel
theorem dX8_suspectNow_13 : decode cX8_suspectNow 13 = .ok (.aload 4, 2) := by decide +kernel
theorem dX8_suspectNow_15 : decode cX8_suspectNow 15 = .ok (.arraylength, 1) := by decide +kernel
theorem dX8_suspectNow_16 : decode cX8_suspectNow 16 = .ok (.istore 5, 2) := by decide +kernel
theorem dX8_suspectNow_18 : decode cX8_suspectNow 18 = .ok (.iconst 0, 1) := by decide +kernel
theorem dX8_suspectNow_19 : decode cX8_suspectNow 19 = .ok (.istore 6, 2) := by decide +kernel
theorem dX8_suspectNow_21 : decode cX8_suspectNow 21 = .ok (.iload 6, 2) := by decide +kernel
theorem dX8_suspectNow_23 : decode cX8_suspectNow 23 = .ok (.iload 5, 2) := by decide +kernel
theorem dX8_suspectNow_25 : decode cX8_suspectNow 25 = .ok (.if_icmp .ge 51, 3) := by decide +kernel
theorem dX8_suspectNow_28 : decode cX8_suspectNow 28 = .ok (.aload 4, 2) := by decide +kernel
theorem dX8_suspectNow_30 : decode cX8_suspectNow 30 = .ok (.iload 6, 2) := by decide +kernel
theorem dX8_suspectNow_32 : decode cX8_suspectNow 32 = .ok (.aaload, 1) := by decide +kernel
theorem dX8_suspectNow_33 : decode cX8_suspectNow 33 = .ok (.astore 7, 2) := by decide +kernel
theorem dX8_suspectNow_35 : decode cX8_suspectNow 35 = .ok (.aload 7, 2) := by decide +kernel
theorem dX8_suspectNow_37 : decode cX8_suspectNow 37 = .ok (.iconst 0, 1) := by decide +kernel
theorem dX8_suspectNow_38 : decode cX8_suspectNow 38 = .ok (.iaload, 1) := by decide +kernel
theorem dX8_suspectNow_39 : decode cX8_suspectNow 39 = .ok (.iload_n 1, 1) := by decide +kernel
theorem dX8_suspectNow_40 : decode cX8_suspectNow 40 = .ok (.if_icmp .ne 30, 3) := by decide +kernel
theorem dX8_suspectNow_43 : decode cX8_suspectNow 43 = .ok (.aload 7, 2) := by decide +kernel
theorem dX8_suspectNow_45 : decode cX8_suspectNow 45 = .ok (.bipush 11, 2) := by decide +kernel
theorem dX8_suspectNow_47 : decode cX8_suspectNow 47 = .ok (.iaload, 1) := by decide +kernel
theorem dX8_suspectNow_48 : decode cX8_suspectNow 48 = .ok (.ifCond .ne 6, 3) := by decide +kernel
theorem dX8_suspectNow_51 : decode cX8_suspectNow 51 = .ok (.goto 19, 3) := by decide +kernel
theorem dX8_suspectNow_54 : decode cX8_suspectNow 54 = .ok (.iload_n 2, 1) := by decide +kernel
theorem dX8_suspectNow_55 : decode cX8_suspectNow 55 = .ok (.aload 7, 2) := by decide +kernel
theorem dX8_suspectNow_57 : decode cX8_suspectNow 57 = .ok (.bipush 11, 2) := by decide +kernel
theorem dX8_suspectNow_59 : decode cX8_suspectNow 59 = .ok (.iaload, 1) := by decide +kernel
theorem dX8_suspectNow_60 : decode cX8_suspectNow 60 = .ok (.iadd, 1) := by decide +kernel
theorem dX8_suspectNow_61 : decode cX8_suspectNow 61 = .ok (.istore_n 2, 1) := by decide +kernel
theorem dX8_suspectNow_62 : decode cX8_suspectNow 62 = .ok (.iload_n 3, 1) := by decide +kernel
theorem dX8_suspectNow_63 : decode cX8_suspectNow 63 = .ok (.aload 7, 2) := by decide +kernel
theorem dX8_suspectNow_65 : decode cX8_suspectNow 65 = .ok (.bipush 13, 2) := by decide +kernel
theorem dX8_suspectNow_67 : decode cX8_suspectNow 67 = .ok (.iaload, 1) := by decide +kernel
theorem dX8_suspectNow_68 : decode cX8_suspectNow 68 = .ok (.iadd, 1) := by decide +kernel
theorem dX8_suspectNow_69 : decode cX8_suspectNow 69 = .ok (.istore_n 3, 1) := by decide +kernel
theorem dX8_suspectNow_70 : decode cX8_suspectNow 70 = .ok (.iinc 6 1, 3) := by decide +kernel
theorem dX8_suspectNow_73 : decode cX8_suspectNow 73 = .ok (.goto (-52), 3) := by decide +kernel
theorem dX8_suspectNow_76 : decode cX8_suspectNow 76 = .ok (.iconst (-1), 1) := by decide +kernel
theorem dX8_suspectNow_77 : decode cX8_suspectNow 77 = .ok (.istore 4, 2) := by decide +kernel
theorem dX8_suspectNow_79 : decode cX8_suspectNow 79 = .ok (.iconst 0, 1) := by decide +kernel
theorem dX8_suspectNow_80 : decode cX8_suspectNow 80 = .ok (.istore 5, 2) := by decide +kernel
theorem dX8_suspectNow_82 : decode cX8_suspectNow 82 = .ok (.iconst 0, 1) := by decide +kernel
theorem dX8_suspectNow_83 : decode cX8_suspectNow 83 = .ok (.istore 6, 2) := by decide +kernel
theorem dX8_suspectNow_85 : decode cX8_suspectNow 85 = .ok (.iload 6, 2) := by decide +kernel
theorem dX8_suspectNow_87 : decode cX8_suspectNow 87 = .ok (.aload_n 0, 1) := by decide +kernel
theorem dX8_suspectNow_88 : decode cX8_suspectNow 88 = .ok (.getfield 12, 3) := by decide +kernel
theorem dX8_suspectNow_91 : decode cX8_suspectNow 91 = .ok (.getfield 30, 3) := by decide +kernel
theorem dX8_suspectNow_94 : decode cX8_suspectNow 94 = .ok (.arraylength, 1) := by decide +kernel
theorem dX8_suspectNow_95 : decode cX8_suspectNow 95 = .ok (.if_icmp .ge 75, 3) := by decide +kernel
theorem dX8_suspectNow_98 : decode cX8_suspectNow 98 = .ok (.aload_n 0, 1) := by decide +kernel
theorem dX8_suspectNow_99 : decode cX8_suspectNow 99 = .ok (.getfield 12, 3) := by decide +kernel
theorem dX8_suspectNow_102 : decode cX8_suspectNow 102 = .ok (.getfield 30, 3) := by decide +kernel
theorem dX8_suspectNow_105 : decode cX8_suspectNow 105 = .ok (.iload 6, 2) := by decide +kernel
theorem dX8_suspectNow_107 : decode cX8_suspectNow 107 = .ok (.aaload, 1) := by decide +kernel
theorem dX8_suspectNow_108 : decode cX8_suspectNow 108 = .ok (.astore 7, 2) := by decide +kernel
theorem dX8_suspectNow_110 : decode cX8_suspectNow 110 = .ok (.aload 7, 2) := by decide +kernel
theorem dX8_suspectNow_112 : decode cX8_suspectNow 112 = .ok (.iconst 0, 1) := by decide +kernel
theorem dX8_suspectNow_113 : decode cX8_suspectNow 113 = .ok (.iaload, 1) := by decide +kernel
theorem dX8_suspectNow_114 : decode cX8_suspectNow 114 = .ok (.iload_n 1, 1) := by decide +kernel
theorem dX8_suspectNow_115 : decode cX8_suspectNow 115 = .ok (.if_icmp .ne 49, 3) := by decide +kernel
theorem dX8_suspectNow_118 : decode cX8_suspectNow 118 = .ok (.aload 7, 2) := by decide +kernel
theorem dX8_suspectNow_120 : decode cX8_suspectNow 120 = .ok (.bipush 11, 2) := by decide +kernel
theorem dX8_suspectNow_122 : decode cX8_suspectNow 122 = .ok (.iaload, 1) := by decide +kernel
theorem dX8_suspectNow_123 : decode cX8_suspectNow 123 = .ok (.ifCond .ne 6, 3) := by decide +kernel
theorem dX8_suspectNow_126 : decode cX8_suspectNow 126 = .ok (.goto 38, 3) := by decide +kernel
theorem dX8_suspectNow_129 : decode cX8_suspectNow 129 = .ok (.aload 7, 2) := by decide +kernel
theorem dX8_suspectNow_131 : decode cX8_suspectNow 131 = .ok (.bipush 11, 2) := by decide +kernel
theorem dX8_suspectNow_133 : decode cX8_suspectNow 133 = .ok (.iaload, 1) := by decide +kernel
theorem dX8_suspectNow_134 : decode cX8_suspectNow 134 = .ok (.iload_n 2, 1) := by decide +kernel
theorem dX8_suspectNow_135 : decode cX8_suspectNow 135 = .ok (.aload 7, 2) := by decide +kernel
theorem dX8_suspectNow_137 : decode cX8_suspectNow 137 = .ok (.bipush 13, 2) := by decide +kernel
theorem dX8_suspectNow_139 : decode cX8_suspectNow 139 = .ok (.iaload, 1) := by decide +kernel
theorem dX8_suspectNow_140 : decode cX8_suspectNow 140 = .ok (.imul, 1) := by decide +kernel
theorem dX8_suspectNow_141 : decode cX8_suspectNow 141 = .ok (.iload_n 3, 1) := by decide +kernel
theorem dX8_suspectNow_142 : decode cX8_suspectNow 142 = .ok (.idiv, 1) := by decide +kernel
theorem dX8_suspectNow_143 : decode cX8_suspectNow 143 = .ok (.isub, 1) := by decide +kernel
theorem dX8_suspectNow_144 : decode cX8_suspectNow 144 = .ok (.istore 8, 2) := by decide +kernel
theorem dX8_suspectNow_146 : decode cX8_suspectNow 146 = .ok (.iload 8, 2) := by decide +kernel
theorem dX8_suspectNow_148 : decode cX8_suspectNow 148 = .ok (.iload 5, 2) := by decide +kernel
theorem dX8_suspectNow_150 : decode cX8_suspectNow 150 = .ok (.if_icmp .gt 6, 3) := by decide +kernel
theorem dX8_suspectNow_153 : decode cX8_suspectNow 153 = .ok (.goto 11, 3) := by decide +kernel
theorem dX8_suspectNow_156 : decode cX8_suspectNow 156 = .ok (.iload 6, 2) := by decide +kernel
theorem dX8_suspectNow_158 : decode cX8_suspectNow 158 = .ok (.istore 4, 2) := by decide +kernel
theorem dX8_suspectNow_160 : decode cX8_suspectNow 160 = .ok (.iload 8, 2) := by decide +kernel
theorem dX8_suspectNow_162 : decode cX8_suspectNow 162 = .ok (.istore 5, 2) := by decide +kernel
theorem dX8_suspectNow_164 : decode cX8_suspectNow 164 = .ok (.iinc 6 1, 3) := by decide +kernel
theorem dX8_suspectNow_167 : decode cX8_suspectNow 167 = .ok (.goto (-82), 3) := by decide +kernel
theorem dX8_suspectNow_170 : decode cX8_suspectNow 170 = .ok (.iload 4, 2) := by decide +kernel
theorem dX8_suspectNow_172 : decode cX8_suspectNow 172 = .ok (.ireturn, 1) := by decide +kernel
theorem dX8_suspect_0 : decode cX8_suspect 0 = .ok (.aload_n 0, 1) := by decide +kernel
theorem dX8_suspect_1 : decode cX8_suspect 1 = .ok (.iconst 0, 1) := by decide +kernel
theorem dX8_suspect_2 : decode cX8_suspect 2 = .ok (.putfield 18, 3) := by decide +kernel
theorem dX8_suspect_5 : decode cX8_suspect 5 = .ok (.aload_n 0, 1) := by decide +kernel
theorem dX8_suspect_6 : decode cX8_suspect 6 = .ok (.iload_n 1, 1) := by decide +kernel
theorem dX8_suspect_7 : decode cX8_suspect 7 = .ok (.invokevirtual 41, 3) := by decide +kernel
theorem dX8_suspect_10 : decode cX8_suspect 10 = .ok (.ifCond .eq 11, 3) := by decide +kernel
theorem dX8_suspect_13 : decode cX8_suspect 13 = .ok (.aload_n 0, 1) := by decide +kernel
theorem dX8_suspect_14 : decode cX8_suspect 14 = .ok (.iload_n 1, 1) := by decide +kernel
theorem dX8_suspect_15 : decode cX8_suspect 15 = .ok (.invokevirtual 105, 3) := by decide +kernel
theorem dX8_suspect_18 : decode cX8_suspect 18 = .ok (.goto 8, 3) := by decide +kernel
theorem dX8_suspect_21 : decode cX8_suspect 21 = .ok (.aload_n 0, 1) := by decide +kernel
theorem dX8_suspect_22 : decode cX8_suspect 22 = .ok (.iconst 1, 1) := by decide +kernel
theorem dX8_suspect_23 : decode cX8_suspect 23 = .ok (.invokevirtual 33, 3) := by decide +kernel
theorem dX8_suspect_26 : decode cX8_suspect 26 = .ok (.ireturn, 1) := by decide +kernel
theorem dX8_isLong_0 : decode cX8_isLong 0 = .ok (.iload_n 0, 1) := by decide +kernel
theorem dX8_isLong_1 : decode cX8_isLong 1 = .ok (.iconst 1, 1) := by decide +kernel
theorem dX8_isLong_2 : decode cX8_isLong 2 = .ok (.bipush 40, 2) := by decide +kernel
theorem dX8_isLong_4 : decode cX8_isLong 4 = .ok (.invokestatic 26, 3) := by decide +kernel
theorem dX8_isLong_7 : decode cX8_isLong 7 = .ok (.ireturn, 1) := by decide +kernel
theorem dX8_wouldYieldNow_0 : decode cX8_wouldYieldNow 0 = .ok (.aload_n 0, 1) := by decide +kernel
theorem dX8_wouldYieldNow_1 : decode cX8_wouldYieldNow 1 = .ok (.getfield 12, 3) := by decide +kernel
theorem dX8_wouldYieldNow_4 : decode cX8_wouldYieldNow 4 = .ok (.iconst 0, 1) := by decide +kernel
theorem dX8_wouldYieldNow_5 : decode cX8_wouldYieldNow 5 = .ok (.iconst 0, 1) := by decide +kernel
theorem dX8_wouldYieldNow_6 : decode cX8_wouldYieldNow 6 = .ok (.invokevirtual 37, 3) := by decide +kernel
theorem dX8_wouldYieldNow_9 : decode cX8_wouldYieldNow 9 = .ok (.astore_n 3, 1) := by decide +kernel
theorem dX8_wouldYieldNow_10 : decode cX8_wouldYieldNow 10 = .ok (.iconst 0, 1) := by decide +kernel
theorem dX8_wouldYieldNow_11 : decode cX8_wouldYieldNow 11 = .ok (.istore 4, 2) := by decide +kernel
theorem dX8_wouldYieldNow_13 : decode cX8_wouldYieldNow 13 = .ok (.iload 4, 2) := by decide +kernel
theorem dX8_wouldYieldNow_15 : decode cX8_wouldYieldNow 15 = .ok (.iload_n 2, 1) := by decide +kernel
theorem dX8_wouldYieldNow_16 : decode cX8_wouldYieldNow 16 = .ok (.if_icmp .ge 13, 3) := by decide +kernel
theorem dX8_wouldYieldNow_19 : decode cX8_wouldYieldNow 19 = .ok (.aload_n 3, 1) := by decide +kernel
theorem dX8_wouldYieldNow_20 : decode cX8_wouldYieldNow 20 = .ok (.invokevirtual 71, 3) := by decide +kernel
theorem dX8_wouldYieldNow_23 : decode cX8_wouldYieldNow 23 = .ok (.iinc 4 1, 3) := by decide +kernel
theorem dX8_wouldYieldNow_26 : decode cX8_wouldYieldNow 26 = .ok (.goto (-13), 3) := by decide +kernel
theorem dX8_wouldYieldNow_29 : decode cX8_wouldYieldNow 29 = .ok (.aload_n 3, 1) := by decide +kernel
theorem dX8_wouldYieldNow_30 : decode cX8_wouldYieldNow 30 = .ok (.aload_n 3, 1) := by decide +kernel
theorem dX8_wouldYieldNow_31 : decode cX8_wouldYieldNow 31 = .ok (.getfield 30, 3) := by decide +kernel
theorem dX8_wouldYieldNow_34 : decode cX8_wouldYieldNow 34 = .ok (.iload_n 1, 1) := by decide +kernel
theorem dX8_wouldYieldNow_35 : decode cX8_wouldYieldNow 35 = .ok (.aaload, 1) := by decide +kernel
theorem dX8_wouldYieldNow_36 : decode cX8_wouldYieldNow 36 = .ok (.invokevirtual 58, 3) := by decide +kernel
theorem dX8_wouldYieldNow_39 : decode cX8_wouldYieldNow 39 = .ok (.ireturn, 1) := by decide +kernel
theorem dX8_wouldYield_0 : decode cX8_wouldYield 0 = .ok (.aload_n 0, 1) := by decide +kernel
theorem dX8_wouldYield_1 : decode cX8_wouldYield 1 = .ok (.iconst 0, 1) := by decide +kernel
theorem dX8_wouldYield_2 : decode cX8_wouldYield 2 = .ok (.putfield 18, 3) := by decide +kernel
theorem dX8_wouldYield_5 : decode cX8_wouldYield 5 = .ok (.aload_n 0, 1) := by decide +kernel
theorem dX8_wouldYield_6 : decode cX8_wouldYield 6 = .ok (.iload_n 1, 1) := by decide +kernel
theorem dX8_wouldYield_7 : decode cX8_wouldYield 7 = .ok (.invokevirtual 45, 3) := by decide +kernel
theorem dX8_wouldYield_10 : decode cX8_wouldYield 10 = .ok (.ifCond .ne 9, 3) := by decide +kernel
theorem dX8_wouldYield_13 : decode cX8_wouldYield 13 = .ok (.aload_n 0, 1) := by decide +kernel
theorem dX8_wouldYield_14 : decode cX8_wouldYield 14 = .ok (.iconst 1, 1) := by decide +kernel
theorem dX8_wouldYield_15 : decode cX8_wouldYield 15 = .ok (.invokevirtual 33, 3) := by decide +kernel
theorem dX8_wouldYield_18 : decode cX8_wouldYield 18 = .ok (.ireturn, 1) := by decide +kernel
theorem dX8_wouldYield_19 : decode cX8_wouldYield 19 = .ok (.iload_n 2, 1) := by decide +kernel
theorem dX8_wouldYield_20 : decode cX8_wouldYield 20 = .ok (.invokestatic 108, 3) := by decide +kernel
theorem dX8_wouldYield_23 : decode cX8_wouldYield 23 = .ok (.ifCond .eq 12, 3) := by decide +kernel
theorem dX8_wouldYield_26 : decode cX8_wouldYield 26 = .ok (.aload_n 0, 1) := by decide +kernel
theorem dX8_wouldYield_27 : decode cX8_wouldYield 27 = .ok (.iload_n 1, 1) := by decide +kernel
theorem dX8_wouldYield_28 : decode cX8_wouldYield 28 = .ok (.iload_n 2, 1) := by decide +kernel
theorem dX8_wouldYield_29 : decode cX8_wouldYield 29 = .ok (.invokevirtual 111, 3) := by decide +kernel
theorem dX8_wouldYield_32 : decode cX8_wouldYield 32 = .ok (.goto 8, 3) := by decide +kernel
theorem dX8_wouldYield_35 : decode cX8_wouldYield 35 = .ok (.aload_n 0, 1) := by decide +kernel
theorem dX8_wouldYield_36 : decode cX8_wouldYield 36 = .ok (.iconst 2, 1) := by decide +kernel
theorem dX8_wouldYield_37 : decode cX8_wouldYield 37 = .ok (.invokevirtual 33, 3) := by decide +kernel
theorem dX8_wouldYield_40 : decode cX8_wouldYield 40 = .ok (.ireturn, 1) := by decide +kernel
theorem dX8_ripeInNow_0 : decode cX8_ripeInNow 0 = .ok (.aload_n 0, 1) := by decide +kernel
theorem dX8_ripeInNow_1 : decode cX8_ripeInNow 1 = .ok (.getfield 12, 3) := by decide +kernel
theorem dX8_ripeInNow_4 : decode cX8_ripeInNow 4 = .ok (.iconst 0, 1) := by decide +kernel
theorem dX8_ripeInNow_5 : decode cX8_ripeInNow 5 = .ok (.iconst 0, 1) := by decide +kernel
theorem dX8_ripeInNow_6 : decode cX8_ripeInNow 6 = .ok (.invokevirtual 37, 3) := by decide +kernel
theorem dX8_ripeInNow_9 : decode cX8_ripeInNow 9 = .ok (.astore_n 2, 1) := by decide +kernel
theorem dX8_ripeInNow_10 : decode cX8_ripeInNow 10 = .ok (.iconst 1, 1) := by decide +kernel
theorem dX8_ripeInNow_11 : decode cX8_ripeInNow 11 = .ok (.istore_n 3, 1) := by decide +kernel
theorem dX8_ripeInNow_12 : decode cX8_ripeInNow 12 = .ok (.iload_n 3, 1) := by decide +kernel
theorem dX8_ripeInNow_13 : decode cX8_ripeInNow 13 = .ok (.iload_n 1, 1) := by decide +kernel
theorem dX8_ripeInNow_14 : decode cX8_ripeInNow 14 = .ok (.if_icmp .gt 29, 3) := by decide +kernel
theorem dX8_ripeInNow_17 : decode cX8_ripeInNow 17 = .ok (.aload_n 2, 1) := by decide +kernel
theorem dX8_ripeInNow_18 : decode cX8_ripeInNow 18 = .ok (.invokevirtual 71, 3) := by decide +kernel
theorem dX8_ripeInNow_21 : decode cX8_ripeInNow 21 = .ok (.aload_n 2, 1) := by decide +kernel
theorem dX8_ripeInNow_22 : decode cX8_ripeInNow 22 = .ok (.invokevirtual 114, 3) := by decide +kernel
theorem dX8_ripeInNow_25 : decode cX8_ripeInNow 25 = .ok (.aload_n 0, 1) := by decide +kernel
theorem dX8_ripeInNow_26 : decode cX8_ripeInNow 26 = .ok (.getfield 12, 3) := by decide +kernel
theorem dX8_ripeInNow_29 : decode cX8_ripeInNow 29 = .ok (.invokevirtual 114, 3) := by decide +kernel
theorem dX8_ripeInNow_32 : decode cX8_ripeInNow 32 = .ok (.if_icmp .eq 5, 3) := by decide +kernel
theorem dX8_ripeInNow_35 : decode cX8_ripeInNow 35 = .ok (.iload_n 3, 1) := by decide +kernel
theorem dX8_ripeInNow_36 : decode cX8_ripeInNow 36 = .ok (.ireturn, 1) := by decide +kernel
theorem dX8_ripeInNow_37 : decode cX8_ripeInNow 37 = .ok (.iinc 3 1, 3) := by decide +kernel
theorem dX8_ripeInNow_40 : decode cX8_ripeInNow 40 = .ok (.goto (-28), 3) := by decide +kernel
theorem dX8_ripeInNow_43 : decode cX8_ripeInNow 43 = .ok (.iconst (-1), 1) := by decide +kernel
theorem dX8_ripeInNow_44 : decode cX8_ripeInNow 44 = .ok (.ireturn, 1) := by decide +kernel
theorem dX8_ripeIn_0 : decode cX8_ripeIn 0 = .ok (.aload_n 0, 1) := by decide +kernel
theorem dX8_ripeIn_1 : decode cX8_ripeIn 1 = .ok (.iconst 0, 1) := by decide +kernel
theorem dX8_ripeIn_2 : decode cX8_ripeIn 2 = .ok (.putfield 18, 3) := by decide +kernel
theorem dX8_ripeIn_5 : decode cX8_ripeIn 5 = .ok (.iload_n 1, 1) := by decide +kernel
theorem dX8_ripeIn_6 : decode cX8_ripeIn 6 = .ok (.invokestatic 108, 3) := by decide +kernel
theorem dX8_ripeIn_9 : decode cX8_ripeIn 9 = .ok (.ifCond .eq 11, 3) := by decide +kernel
theorem dX8_ripeIn_12 : decode cX8_ripeIn 12 = .ok (.aload_n 0, 1) := by decide +kernel
theorem dX8_ripeIn_13 : decode cX8_ripeIn 13 = .ok (.iload_n 1, 1) := by decide +kernel
theorem dX8_ripeIn_14 : decode cX8_ripeIn 14 = .ok (.invokevirtual 118, 3) := by decide +kernel
theorem dX8_ripeIn_17 : decode cX8_ripeIn 17 = .ok (.goto 8, 3) := by decide +kernel
theorem dX8_ripeIn_20 : decode cX8_ripeIn 20 = .ok (.aload_n 0, 1) := by decide +kernel
theorem dX8_ripeIn_21 : decode cX8_ripeIn 21 = .ok (.iconst 1, 1) := by decide +kernel
theorem dX8_ripeIn_22 : decode cX8_ripeIn 22 = .ok (.invokevirtual 33, 3) := by decide +kernel
theorem dX8_ripeIn_25 : decode cX8_ripeIn 25 = .ok (.ireturn, 1) := by decide +kernel
theorem dX8_yieldOf_0 : decode cX8_yieldOf 0 = .ok (.aload_n 0, 1) := by decide +kernel
theorem dX8_yieldOf_1 : decode cX8_yieldOf 1 = .ok (.getfield 12, 3) := by decide +kernel
theorem dX8_yieldOf_4 : decode cX8_yieldOf 4 = .ok (.iconst 0, 1) := by decide +kernel
theorem dX8_yieldOf_5 : decode cX8_yieldOf 5 = .ok (.iconst 0, 1) := by decide +kernel
theorem dX8_yieldOf_6 : decode cX8_yieldOf 6 = .ok (.invokevirtual 37, 3) := by decide +kernel
theorem dX8_yieldOf_9 : decode cX8_yieldOf 9 = .ok (.astore 4, 2) := by decide +kernel
theorem dX8_yieldOf_11 : decode cX8_yieldOf 11 = .ok (.iconst 0, 1) := by decide +kernel
theorem dX8_yieldOf_12 : decode cX8_yieldOf 12 = .ok (.istore 5, 2) := by decide +kernel
theorem dX8_yieldOf_14 : decode cX8_yieldOf 14 = .ok (.iload 5, 2) := by decide +kernel
theorem dX8_yieldOf_16 : decode cX8_yieldOf 16 = .ok (.iload_n 3, 1) := by decide +kernel
theorem dX8_yieldOf_17 : decode cX8_yieldOf 17 = .ok (.if_icmp .ge 62, 3) := by decide +kernel
theorem dX8_yieldOf_20 : decode cX8_yieldOf 20 = .ok (.iload_n 1, 1) := by decide +kernel
theorem dX8_yieldOf_21 : decode cX8_yieldOf 21 = .ok (.istore 6, 2) := by decide +kernel
theorem dX8_yieldOf_23 : decode cX8_yieldOf 23 = .ok (.iconst 0, 1) := by decide +kernel
theorem dX8_yieldOf_24 : decode cX8_yieldOf 24 = .ok (.istore 7, 2) := by decide +kernel
theorem dX8_yieldOf_26 : decode cX8_yieldOf 26 = .ok (.iload 7, 2) := by decide +kernel
theorem dX8_yieldOf_28 : decode cX8_yieldOf 28 = .ok (.aload 4, 2) := by decide +kernel
theorem dX8_yieldOf_30 : decode cX8_yieldOf 30 = .ok (.getfield 22, 3) := by decide +kernel
theorem dX8_yieldOf_33 : decode cX8_yieldOf 33 = .ok (.arraylength, 1) := by decide +kernel
theorem dX8_yieldOf_34 : decode cX8_yieldOf 34 = .ok (.if_icmp .ge 34, 3) := by decide +kernel
theorem dX8_yieldOf_37 : decode cX8_yieldOf 37 = .ok (.iload 6, 2) := by decide +kernel
theorem dX8_yieldOf_39 : decode cX8_yieldOf 39 = .ok (.iconst 3, 1) := by decide +kernel
theorem dX8_yieldOf_40 : decode cX8_yieldOf 40 = .ok (.irem, 1) := by decide +kernel
theorem dX8_yieldOf_41 : decode cX8_yieldOf 41 = .ok (.iconst 5, 1) := by decide +kernel
theorem dX8_yieldOf_42 : decode cX8_yieldOf 42 = .ok (.imul, 1) := by decide +kernel
theorem dX8_yieldOf_43 : decode cX8_yieldOf 43 = .ok (.iload 5, 2) := by decide +kernel
theorem dX8_yieldOf_45 : decode cX8_yieldOf 45 = .ok (.if_icmp .ne 11, 3) := by decide +kernel
theorem dX8_yieldOf_48 : decode cX8_yieldOf 48 = .ok (.aload 4, 2) := by decide +kernel
theorem dX8_yieldOf_50 : decode cX8_yieldOf 50 = .ok (.iload 7, 2) := by decide +kernel
theorem dX8_yieldOf_52 : decode cX8_yieldOf 52 = .ok (.iload_n 2, 1) := by decide +kernel
theorem dX8_yieldOf_53 : decode cX8_yieldOf 53 = .ok (.invokestatic 121, 3) := by decide +kernel
theorem dX8_yieldOf_56 : decode cX8_yieldOf 56 = .ok (.iload 6, 2) := by decide +kernel
theorem dX8_yieldOf_58 : decode cX8_yieldOf 58 = .ok (.iconst 3, 1) := by decide +kernel
theorem dX8_yieldOf_59 : decode cX8_yieldOf 59 = .ok (.idiv, 1) := by decide +kernel
theorem dX8_yieldOf_60 : decode cX8_yieldOf 60 = .ok (.istore 6, 2) := by decide +kernel
theorem dX8_yieldOf_62 : decode cX8_yieldOf 62 = .ok (.iinc 7 1, 3) := by decide +kernel
theorem dX8_yieldOf_65 : decode cX8_yieldOf 65 = .ok (.goto (-39), 3) := by decide +kernel
theorem dX8_yieldOf_68 : decode cX8_yieldOf 68 = .ok (.aload 4, 2) := by decide +kernel
theorem dX8_yieldOf_70 : decode cX8_yieldOf 70 = .ok (.invokevirtual 71, 3) := by decide +kernel
theorem dX8_yieldOf_73 : decode cX8_yieldOf 73 = .ok (.iinc 5 1, 3) := by decide +kernel
theorem dX8_yieldOf_76 : decode cX8_yieldOf 76 = .ok (.goto (-62), 3) := by decide +kernel
theorem dX8_yieldOf_79 : decode cX8_yieldOf 79 = .ok (.iconst 0, 1) := by decide +kernel
theorem dX8_yieldOf_80 : decode cX8_yieldOf 80 = .ok (.istore 5, 2) := by decide +kernel
theorem dX8_yieldOf_82 : decode cX8_yieldOf 82 = .ok (.aload 4, 2) := by decide +kernel
theorem dX8_yieldOf_84 : decode cX8_yieldOf 84 = .ok (.getfield 30, 3) := by decide +kernel
theorem dX8_yieldOf_87 : decode cX8_yieldOf 87 = .ok (.astore 6, 2) := by decide +kernel
theorem dX8_yieldOf_89 : decode cX8_yieldOf 89 = .ok (.aload 6, 2) := by decide +kernel
theorem dX8_yieldOf_91 : decode cX8_yieldOf 91 = .ok (.arraylength, 1) := by decide +kernel
theorem dX8_yieldOf_92 : decode cX8_yieldOf 92 = .ok (.istore 7, 2) := by decide +kernel
theorem dX8_yieldOf_94 : decode cX8_yieldOf 94 = .ok (.iconst 0, 1) := by decide +kernel
theorem dX8_yieldOf_95 : decode cX8_yieldOf 95 = .ok (.istore 8, 2) := by decide +kernel
theorem dX8_yieldOf_97 : decode cX8_yieldOf 97 = .ok (.iload 8, 2) := by decide +kernel
theorem dX8_yieldOf_99 : decode cX8_yieldOf 99 = .ok (.iload 7, 2) := by decide +kernel
theorem dX8_yieldOf_101 : decode cX8_yieldOf 101 = .ok (.if_icmp .ge 28, 3) := by decide +kernel
theorem dX8_yieldOf_104 : decode cX8_yieldOf 104 = .ok (.aload 6, 2) := by decide +kernel
theorem dX8_yieldOf_106 : decode cX8_yieldOf 106 = .ok (.iload 8, 2) := by decide +kernel
theorem dX8_yieldOf_108 : decode cX8_yieldOf 108 = .ok (.aaload, 1) := by decide +kernel
theorem dX8_yieldOf_109 : decode cX8_yieldOf 109 = .ok (.astore 9, 2) := by decide +kernel
theorem dX8_yieldOf_111 : decode cX8_yieldOf 111 = .ok (.iload 5, 2) := by decide +kernel
theorem dX8_yieldOf_113 : decode cX8_yieldOf 113 = .ok (.aload 4, 2) := by decide +kernel
theorem dX8_yieldOf_115 : decode cX8_yieldOf 115 = .ok (.aload 9, 2) := by decide +kernel
theorem dX8_yieldOf_117 : decode cX8_yieldOf 117 = .ok (.invokevirtual 58, 3) := by decide +kernel
theorem dX8_yieldOf_120 : decode cX8_yieldOf 120 = .ok (.iadd, 1) := by decide +kernel
theorem dX8_yieldOf_121 : decode cX8_yieldOf 121 = .ok (.istore 5, 2) := by decide +kernel
theorem dX8_yieldOf_123 : decode cX8_yieldOf 123 = .ok (.iinc 8 1, 3) := by decide +kernel
theorem dX8_yieldOf_126 : decode cX8_yieldOf 126 = .ok (.goto (-29), 3) := by decide +kernel
theorem dX8_yieldOf_129 : decode cX8_yieldOf 129 = .ok (.iload 5, 2) := by decide +kernel
theorem dX8_yieldOf_131 : decode cX8_yieldOf 131 = .ok (.ireturn, 1) := by decide +kernel
theorem dX8_plantAll_0 : decode cX8_plantAll 0 = .ok (.iconst 0, 1) := by decide +kernel
theorem dX8_plantAll_1 : decode cX8_plantAll 1 = .ok (.istore_n 3, 1) := by decide +kernel
theorem dX8_plantAll_2 : decode cX8_plantAll 2 = .ok (.iload_n 3, 1) := by decide +kernel
theorem dX8_plantAll_3 : decode cX8_plantAll 3 = .ok (.aload_n 0, 1) := by decide +kernel
theorem dX8_plantAll_4 : decode cX8_plantAll 4 = .ok (.getfield 30, 3) := by decide +kernel
theorem dX8_plantAll_7 : decode cX8_plantAll 7 = .ok (.arraylength, 1) := by decide +kernel
theorem dX8_plantAll_8 : decode cX8_plantAll 8 = .ok (.if_icmp .ge 47, 3) := by decide +kernel
theorem dX8_plantAll_11 : decode cX8_plantAll 11 = .ok (.aload_n 0, 1) := by decide +kernel
theorem dX8_plantAll_12 : decode cX8_plantAll 12 = .ok (.getfield 30, 3) := by decide +kernel
theorem dX8_plantAll_15 : decode cX8_plantAll 15 = .ok (.iload_n 3, 1) := by decide +kernel
theorem dX8_plantAll_16 : decode cX8_plantAll 16 = .ok (.aaload, 1) := by decide +kernel
theorem dX8_plantAll_17 : decode cX8_plantAll 17 = .ok (.astore 4, 2) := by decide +kernel
theorem dX8_plantAll_19 : decode cX8_plantAll 19 = .ok (.aload 4, 2) := by decide +kernel
theorem dX8_plantAll_21 : decode cX8_plantAll 21 = .ok (.iconst 0, 1) := by decide +kernel
theorem dX8_plantAll_22 : decode cX8_plantAll 22 = .ok (.iaload, 1) := by decide +kernel
theorem dX8_plantAll_23 : decode cX8_plantAll 23 = .ok (.iload_n 1, 1) := by decide +kernel
theorem dX8_plantAll_24 : decode cX8_plantAll 24 = .ok (.if_icmp .ne 25, 3) := by decide +kernel
theorem dX8_plantAll_27 : decode cX8_plantAll 27 = .ok (.aload 4, 2) := by decide +kernel
theorem dX8_plantAll_29 : decode cX8_plantAll 29 = .ok (.iconst 4, 1) := by decide +kernel
theorem dX8_plantAll_30 : decode cX8_plantAll 30 = .ok (.iaload, 1) := by decide +kernel
theorem dX8_plantAll_31 : decode cX8_plantAll 31 = .ok (.iconst 1, 1) := by decide +kernel
theorem dX8_plantAll_32 : decode cX8_plantAll 32 = .ok (.if_icmp .le 6, 3) := by decide +kernel
theorem dX8_plantAll_35 : decode cX8_plantAll 35 = .ok (.goto 14, 3) := by decide +kernel
theorem dX8_plantAll_38 : decode cX8_plantAll 38 = .ok (.aload_n 0, 1) := by decide +kernel
theorem dX8_plantAll_39 : decode cX8_plantAll 39 = .ok (.iload_n 3, 1) := by decide +kernel
theorem dX8_plantAll_40 : decode cX8_plantAll 40 = .ok (.iload_n 2, 1) := by decide +kernel
theorem dX8_plantAll_41 : decode cX8_plantAll 41 = .ok (.invokevirtual 55, 3) := by decide +kernel
theorem dX8_plantAll_44 : decode cX8_plantAll 44 = .ok (.aload 4, 2) := by decide +kernel
theorem dX8_plantAll_46 : decode cX8_plantAll 46 = .ok (.iconst 2, 1) := by decide +kernel
theorem dX8_plantAll_47 : decode cX8_plantAll 47 = .ok (.iconst 0, 1) := by decide +kernel
theorem dX8_plantAll_48 : decode cX8_plantAll 48 = .ok (.iastore, 1) := by decide +kernel
theorem dX8_plantAll_49 : decode cX8_plantAll 49 = .ok (.iinc 3 1, 3) := by decide +kernel
theorem dX8_plantAll_52 : decode cX8_plantAll 52 = .ok (.goto (-50), 3) := by decide +kernel
theorem dX8_plantAll_55 : decode cX8_plantAll 55 = .ok (.return_, 1) := by decide +kernel
theorem dX8_planNow_0 : decode cX8_planNow 0 = .ok (.iconst 1, 1) := by decide +kernel
theorem dX8_planNow_1 : decode cX8_planNow 1 = .ok (.istore_n 3, 1) := by decide +kernel
theorem dX8_planNow_2 : decode cX8_planNow 2 = .ok (.iconst 0, 1) := by decide +kernel
theorem dX8_planNow_3 : decode cX8_planNow 3 = .ok (.istore 4, 2) := by decide +kernel
theorem dX8_planNow_5 : decode cX8_planNow 5 = .ok (.iload 4, 2) := by decide +kernel
theorem dX8_planNow_7 : decode cX8_planNow 7 = .ok (.aload_n 0, 1) := by decide +kernel
theorem dX8_planNow_8 : decode cX8_planNow 8 = .ok (.getfield 12, 3) := by decide +kernel
theorem dX8_planNow_11 : decode cX8_planNow 11 = .ok (.getfield 22, 3) := by decide +kernel
theorem dX8_planNow_14 : decode cX8_planNow 14 = .ok (.arraylength, 1) := by decide +kernel
theorem dX8_planNow_15 : decode cX8_planNow 15 = .ok (.if_icmp .ge 13, 3) := by decide +kernel
theorem dX8_planNow_18 : decode cX8_planNow 18 = .ok (.iload_n 3, 1) := by decide +kernel
theorem dX8_planNow_19 : decode cX8_planNow 19 = .ok (.iconst 3, 1) := by decide +kernel
theorem dX8_planNow_20 : decode cX8_planNow 20 = .ok (.imul, 1) := by decide +kernel
theorem dX8_planNow_21 : decode cX8_planNow 21 = .ok (.istore_n 3, 1) := by decide +kernel
theorem dX8_planNow_22 : decode cX8_planNow 22 = .ok (.iinc 4 1, 3) := by decide +kernel
theorem dX8_planNow_25 : decode cX8_planNow 25 = .ok (.goto (-20), 3) := by decide +kernel
theorem dX8_planNow_28 : decode cX8_planNow 28 = .ok (.iconst (-1), 1) := by decide +kernel
theorem dX8_planNow_29 : decode cX8_planNow 29 = .ok (.istore 4, 2) := by decide +kernel
theorem dX8_planNow_31 : decode cX8_planNow 31 = .ok (.iconst (-1), 1) := by decide +kernel
theorem dX8_planNow_32 : decode cX8_planNow 32 = .ok (.istore 5, 2) := by decide +kernel
theorem dX8_planNow_34 : decode cX8_planNow 34 = .ok (.iconst 0, 1) := by decide +kernel
theorem dX8_planNow_35 : decode cX8_planNow 35 = .ok (.istore 6, 2) := by decide +kernel
theorem dX8_planNow_37 : decode cX8_planNow 37 = .ok (.iload 6, 2) := by decide +kernel
theorem dX8_planNow_39 : decode cX8_planNow 39 = .ok (.iload_n 3, 1) := by decide +kernel
theorem dX8_planNow_40 : decode cX8_planNow 40 = .ok (.if_icmp .ge 37, 3) := by decide +kernel
theorem dX8_planNow_43 : decode cX8_planNow 43 = .ok (.aload_n 0, 1) := by decide +kernel
theorem dX8_planNow_44 : decode cX8_planNow 44 = .ok (.iload 6, 2) := by decide +kernel
theorem dX8_planNow_46 : decode cX8_planNow 46 = .ok (.iload_n 1, 1) := by decide +kernel
theorem dX8_planNow_47 : decode cX8_planNow 47 = .ok (.iload_n 2, 1) := by decide +kernel
theorem dX8_planNow_48 : decode cX8_planNow 48 = .ok (.invokevirtual 125, 3) := by decide +kernel
theorem dX8_planNow_51 : decode cX8_planNow 51 = .ok (.istore 7, 2) := by decide +kernel
theorem dX8_planNow_53 : decode cX8_planNow 53 = .ok (.iload 7, 2) := by decide +kernel
theorem dX8_planNow_55 : decode cX8_planNow 55 = .ok (.iload 5, 2) := by decide +kernel
theorem dX8_planNow_57 : decode cX8_planNow 57 = .ok (.if_icmp .gt 6, 3) := by decide +kernel
theorem dX8_planNow_60 : decode cX8_planNow 60 = .ok (.goto 11, 3) := by decide +kernel
theorem dX8_planNow_63 : decode cX8_planNow 63 = .ok (.iload 6, 2) := by decide +kernel
theorem dX8_planNow_65 : decode cX8_planNow 65 = .ok (.istore 4, 2) := by decide +kernel
theorem dX8_planNow_67 : decode cX8_planNow 67 = .ok (.iload 7, 2) := by decide +kernel
theorem dX8_planNow_69 : decode cX8_planNow 69 = .ok (.istore 5, 2) := by decide +kernel
theorem dX8_planNow_71 : decode cX8_planNow 71 = .ok (.iinc 6 1, 3) := by decide +kernel
theorem dX8_planNow_74 : decode cX8_planNow 74 = .ok (.goto (-37), 3) := by decide +kernel
theorem dX8_planNow_77 : decode cX8_planNow 77 = .ok (.iload 4, 2) := by decide +kernel
theorem dX8_planNow_79 : decode cX8_planNow 79 = .ok (.ireturn, 1) := by decide +kernel
theorem dX8_plan_0 : decode cX8_plan 0 = .ok (.aload_n 0, 1) := by decide +kernel
theorem dX8_plan_1 : decode cX8_plan 1 = .ok (.iconst 0, 1) := by decide +kernel
theorem dX8_plan_2 : decode cX8_plan 2 = .ok (.putfield 18, 3) := by decide +kernel
theorem dX8_plan_5 : decode cX8_plan 5 = .ok (.iload_n 1, 1) := by decide +kernel
theorem dX8_plan_6 : decode cX8_plan 6 = .ok (.invokestatic 48, 3) := by decide +kernel
theorem dX8_plan_9 : decode cX8_plan 9 = .ok (.ifCond .eq 22, 3) := by decide +kernel
theorem dX8_plan_12 : decode cX8_plan 12 = .ok (.iload_n 2, 1) := by decide +kernel
theorem dX8_plan_13 : decode cX8_plan 13 = .ok (.iconst 1, 1) := by decide +kernel
theorem dX8_plan_14 : decode cX8_plan 14 = .ok (.bipush 30, 2) := by decide +kernel
theorem dX8_plan_16 : decode cX8_plan 16 = .ok (.invokestatic 26, 3) := by decide +kernel
theorem dX8_plan_19 : decode cX8_plan 19 = .ok (.ifCond .eq 12, 3) := by decide +kernel
theorem dX8_plan_22 : decode cX8_plan 22 = .ok (.aload_n 0, 1) := by decide +kernel
theorem dX8_plan_23 : decode cX8_plan 23 = .ok (.iload_n 1, 1) := by decide +kernel
theorem dX8_plan_24 : decode cX8_plan 24 = .ok (.iload_n 2, 1) := by decide +kernel
theorem dX8_plan_25 : decode cX8_plan 25 = .ok (.invokevirtual 129, 3) := by decide +kernel
theorem dX8_plan_28 : decode cX8_plan 28 = .ok (.goto 8, 3) := by decide +kernel
theorem dX8_plan_31 : decode cX8_plan 31 = .ok (.aload_n 0, 1) := by decide +kernel
theorem dX8_plan_32 : decode cX8_plan 32 = .ok (.iconst 1, 1) := by decide +kernel
theorem dX8_plan_33 : decode cX8_plan 33 = .ok (.invokevirtual 33, 3) := by decide +kernel
theorem dX8_plan_36 : decode cX8_plan 36 = .ok (.ireturn, 1) := by decide +kernel
theorem dX8_add_0 : decode cX8_add 0 = .ok (.aload_n 0, 1) := by decide +kernel
theorem dX8_add_1 : decode cX8_add 1 = .ok (.aload_n 0, 1) := by decide +kernel
theorem dX8_add_2 : decode cX8_add 2 = .ok (.getfield 132, 3) := by decide +kernel
theorem dX8_add_5 : decode cX8_add 5 = .ok (.ldc2_w 136, 3) := by decide +kernel
theorem dX8_add_8 : decode cX8_add 8 = .ok (.lmul, 1) := by decide +kernel
theorem dX8_add_9 : decode cX8_add 9 = .ok (.iload_n 1, 1) := by decide +kernel
theorem dX8_add_10 : decode cX8_add 10 = .ok (.i2l, 1) := by decide +kernel
theorem dX8_add_11 : decode cX8_add 11 = .ok (.ladd, 1) := by decide +kernel
theorem dX8_add_12 : decode cX8_add 12 = .ok (.putfield 132, 3) := by decide +kernel
theorem dX8_add_15 : decode cX8_add 15 = .ok (.return_, 1) := by decide +kernel
theorem dX8_addField_0 : decode cX8_addField 0 = .ok (.iconst 0, 1) := by decide +kernel
theorem dX8_addField_1 : decode cX8_addField 1 = .ok (.istore_n 2, 1) := by decide +kernel
theorem dX8_addField_2 : decode cX8_addField 2 = .ok (.iload_n 2, 1) := by decide +kernel
theorem dX8_addField_3 : decode cX8_addField 3 = .ok (.bipush 14, 2) := by decide +kernel
theorem dX8_addField_5 : decode cX8_addField 5 = .ok (.if_icmp .ge 19, 3) := by decide +kernel
theorem dX8_addField_8 : decode cX8_addField 8 = .ok (.aload_n 0, 1) := by decide +kernel
theorem dX8_addField_9 : decode cX8_addField 9 = .ok (.aload_n 0, 1) := by decide +kernel
theorem dX8_addField_10 : decode cX8_addField 10 = .ok (.iload_n 1, 1) := by decide +kernel
theorem dX8_addField_11 : decode cX8_addField 11 = .ok (.iload_n 2, 1) := by decide +kernel
theorem dX8_addField_12 : decode cX8_addField 12 = .ok (.invokevirtual 80, 3) := by decide +kernel
theorem dX8_addField_15 : decode cX8_addField 15 = .ok (.invokevirtual 138, 3) := by decide +kernel
theorem dX8_addField_18 : decode cX8_addField 18 = .ok (.iinc 2 1, 3) := by decide +kernel
theorem dX8_addField_21 : decode cX8_addField 21 = .ok (.goto (-19), 3) := by decide +kernel
theorem dX8_addField_24 : decode cX8_addField 24 = .ok (.iconst 0, 1) := by decide +kernel
theorem dX8_addField_25 : decode cX8_addField 25 = .ok (.istore_n 2, 1) := by decide +kernel
theorem dX8_addField_26 : decode cX8_addField 26 = .ok (.iload_n 2, 1) := by decide +kernel
theorem dX8_addField_27 : decode cX8_addField 27 = .ok (.iconst 4, 1) := by decide +kernel
theorem dX8_addField_28 : decode cX8_addField 28 = .ok (.if_icmp .ge 19, 3) := by decide +kernel
theorem dX8_addField_31 : decode cX8_addField 31 = .ok (.aload_n 0, 1) := by decide +kernel
theorem dX8_addField_32 : decode cX8_addField 32 = .ok (.aload_n 0, 1) := by decide +kernel
theorem dX8_addField_33 : decode cX8_addField 33 = .ok (.iload_n 1, 1) := by decide +kernel
theorem dX8_addField_34 : decode cX8_addField 34 = .ok (.iload_n 2, 1) := by decide +kernel
theorem dX8_addField_35 : decode cX8_addField 35 = .ok (.invokevirtual 83, 3) := by decide +kernel
theorem dX8_addField_38 : decode cX8_addField 38 = .ok (.invokevirtual 138, 3) := by decide +kernel
theorem dX8_addField_41 : decode cX8_addField 41 = .ok (.iinc 2 1, 3) := by decide +kernel
theorem dX8_addField_44 : decode cX8_addField 44 = .ok (.goto (-18), 3) := by decide +kernel
theorem dX8_addField_47 : decode cX8_addField 47 = .ok (.aload_n 0, 1) := by decide +kernel
theorem dX8_addField_48 : decode cX8_addField 48 = .ok (.aload_n 0, 1) := by decide +kernel
theorem dX8_addField_49 : decode cX8_addField 49 = .ok (.getfield 12, 3) := by decide +kernel
theorem dX8_addField_52 : decode cX8_addField 52 = .ok (.getfield 30, 3) := by decide +kernel
theorem dX8_addField_55 : decode cX8_addField 55 = .ok (.iload_n 1, 1) := by decide +kernel
theorem dX8_addField_56 : decode cX8_addField 56 = .ok (.aaload, 1) := by decide +kernel
theorem dX8_addField_57 : decode cX8_addField 57 = .ok (.bipush 20, 2) := by decide +kernel
theorem dX8_addField_59 : decode cX8_addField 59 = .ok (.iaload, 1) := by decide +kernel
theorem dX8_addField_60 : decode cX8_addField 60 = .ok (.invokevirtual 138, 3) := by decide +kernel
theorem dX8_addField_63 : decode cX8_addField 63 = .ok (.aload_n 0, 1) := by decide +kernel
theorem dX8_addField_64 : decode cX8_addField 64 = .ok (.aload_n 0, 1) := by decide +kernel
theorem dX8_addField_65 : decode cX8_addField 65 = .ok (.getfield 12, 3) := by decide +kernel
theorem dX8_addField_68 : decode cX8_addField 68 = .ok (.getfield 30, 3) := by decide +kernel
theorem dX8_addField_71 : decode cX8_addField 71 = .ok (.iload_n 1, 1) := by decide +kernel
theorem dX8_addField_72 : decode cX8_addField 72 = .ok (.aaload, 1) := by decide +kernel
theorem dX8_addField_73 : decode cX8_addField 73 = .ok (.bipush 21, 2) := by decide +kernel
theorem dX8_addField_75 : decode cX8_addField 75 = .ok (.iaload, 1) := by decide +kernel
theorem dX8_addField_76 : decode cX8_addField 76 = .ok (.invokevirtual 138, 3) := by decide +kernel
theorem dX8_addField_79 : decode cX8_addField 79 = .ok (.aload_n 0, 1) := by decide +kernel
theorem dX8_addField_80 : decode cX8_addField 80 = .ok (.aload_n 0, 1) := by decide +kernel
theorem dX8_addField_81 : decode cX8_addField 81 = .ok (.iload_n 1, 1) := by decide +kernel
theorem dX8_addField_82 : decode cX8_addField 82 = .ok (.iconst 5, 1) := by decide +kernel
theorem dX8_addField_83 : decode cX8_addField 83 = .ok (.invokevirtual 111, 3) := by decide +kernel
theorem dX8_addField_86 : decode cX8_addField 86 = .ok (.invokevirtual 138, 3) := by decide +kernel
theorem dX8_addField_89 : decode cX8_addField 89 = .ok (.return_, 1) := by decide +kernel
theorem dX8_digest_0 : decode cX8_digest 0 = .ok (.aload_n 0, 1) := by decide +kernel
theorem dX8_digest_1 : decode cX8_digest 1 = .ok (.iconst 0, 1) := by decide +kernel
theorem dX8_digest_2 : decode cX8_digest 2 = .ok (.putfield 18, 3) := by decide +kernel
theorem dX8_digest_5 : decode cX8_digest 5 = .ok (.aload_n 0, 1) := by decide +kernel
theorem dX8_digest_6 : decode cX8_digest 6 = .ok (.ldc2_w 142, 3) := by decide +kernel
theorem dX8_digest_9 : decode cX8_digest 9 = .ok (.putfield 132, 3) := by decide +kernel
theorem dX8_digest_12 : decode cX8_digest 12 = .ok (.iconst 0, 1) := by decide +kernel
theorem dX8_digest_13 : decode cX8_digest 13 = .ok (.istore_n 1, 1) := by decide +kernel
theorem dX8_digest_14 : decode cX8_digest 14 = .ok (.iload_n 1, 1) := by decide +kernel
theorem dX8_digest_15 : decode cX8_digest 15 = .ok (.bipush 12, 2) := by decide +kernel
theorem dX8_digest_17 : decode cX8_digest 17 = .ok (.if_icmp .ge 18, 3) := by decide +kernel
theorem dX8_digest_20 : decode cX8_digest 20 = .ok (.aload_n 0, 1) := by decide +kernel
theorem dX8_digest_21 : decode cX8_digest 21 = .ok (.aload_n 0, 1) := by decide +kernel
theorem dX8_digest_22 : decode cX8_digest 22 = .ok (.iload_n 1, 1) := by decide +kernel
theorem dX8_digest_23 : decode cX8_digest 23 = .ok (.invokevirtual 102, 3) := by decide +kernel
theorem dX8_digest_26 : decode cX8_digest 26 = .ok (.invokevirtual 138, 3) := by decide +kernel
theorem dX8_digest_29 : decode cX8_digest 29 = .ok (.iinc 1 1, 3) := by decide +kernel
theorem dX8_digest_32 : decode cX8_digest 32 = .ok (.goto (-18), 3) := by decide +kernel
theorem dX8_digest_35 : decode cX8_digest 35 = .ok (.iconst 0, 1) := by decide +kernel
theorem dX8_digest_36 : decode cX8_digest 36 = .ok (.istore_n 1, 1) := by decide +kernel
theorem dX8_digest_37 : decode cX8_digest 37 = .ok (.iload_n 1, 1) := by decide +kernel
theorem dX8_digest_38 : decode cX8_digest 38 = .ok (.bipush 7, 2) := by decide +kernel
theorem dX8_digest_40 : decode cX8_digest 40 = .ok (.if_icmp .ge 18, 3) := by decide +kernel
theorem dX8_digest_43 : decode cX8_digest 43 = .ok (.aload_n 0, 1) := by decide +kernel
theorem dX8_digest_44 : decode cX8_digest 44 = .ok (.aload_n 0, 1) := by decide +kernel
theorem dX8_digest_45 : decode cX8_digest 45 = .ok (.iload_n 1, 1) := by decide +kernel
theorem dX8_digest_46 : decode cX8_digest 46 = .ok (.invokevirtual 95, 3) := by decide +kernel
theorem dX8_digest_49 : decode cX8_digest 49 = .ok (.invokevirtual 138, 3) := by decide +kernel
theorem dX8_digest_52 : decode cX8_digest 52 = .ok (.iinc 1 1, 3) := by decide +kernel
theorem dX8_digest_55 : decode cX8_digest 55 = .ok (.goto (-18), 3) := by decide +kernel
theorem dX8_digest_58 : decode cX8_digest 58 = .ok (.aload_n 0, 1) := by decide +kernel
theorem dX8_digest_59 : decode cX8_digest 59 = .ok (.aload_n 0, 1) := by decide +kernel
theorem dX8_digest_60 : decode cX8_digest 60 = .ok (.invokevirtual 98, 3) := by decide +kernel
theorem dX8_digest_63 : decode cX8_digest 63 = .ok (.ifCond .eq 7, 3) := by decide +kernel
theorem dX8_digest_66 : decode cX8_digest 66 = .ok (.iconst 1, 1) := by decide +kernel
theorem dX8_digest_67 : decode cX8_digest 67 = .ok (.goto 4, 3) := by decide +kernel
theorem dX8_digest_70 : decode cX8_digest 70 = .ok (.iconst 0, 1) := by decide +kernel
theorem dX8_digest_71 : decode cX8_digest 71 = .ok (.invokevirtual 138, 3) := by decide +kernel
theorem dX8_digest_74 : decode cX8_digest 74 = .ok (.iconst 0, 1) := by decide +kernel
theorem dX8_digest_75 : decode cX8_digest 75 = .ok (.istore_n 1, 1) := by decide +kernel
theorem dX8_digest_76 : decode cX8_digest 76 = .ok (.iload_n 1, 1) := by decide +kernel
theorem dX8_digest_77 : decode cX8_digest 77 = .ok (.aload_n 0, 1) := by decide +kernel
theorem dX8_digest_78 : decode cX8_digest 78 = .ok (.getfield 12, 3) := by decide +kernel
theorem dX8_digest_81 : decode cX8_digest 81 = .ok (.getfield 22, 3) := by decide +kernel
theorem dX8_digest_84 : decode cX8_digest 84 = .ok (.arraylength, 1) := by decide +kernel
theorem dX8_digest_85 : decode cX8_digest 85 = .ok (.if_icmp .ge 42, 3) := by decide +kernel
theorem dX8_digest_88 : decode cX8_digest 88 = .ok (.iconst 0, 1) := by decide +kernel
theorem dX8_digest_89 : decode cX8_digest 89 = .ok (.istore_n 2, 1) := by decide +kernel
theorem dX8_digest_90 : decode cX8_digest 90 = .ok (.iload_n 2, 1) := by decide +kernel
theorem dX8_digest_91 : decode cX8_digest 91 = .ok (.bipush 9, 2) := by decide +kernel
theorem dX8_digest_93 : decode cX8_digest 93 = .ok (.if_icmp .ge 19, 3) := by decide +kernel
theorem dX8_digest_96 : decode cX8_digest 96 = .ok (.aload_n 0, 1) := by decide +kernel
theorem dX8_digest_97 : decode cX8_digest 97 = .ok (.aload_n 0, 1) := by decide +kernel
theorem dX8_digest_98 : decode cX8_digest 98 = .ok (.iload_n 1, 1) := by decide +kernel
theorem dX8_digest_99 : decode cX8_digest 99 = .ok (.iload_n 2, 1) := by decide +kernel
theorem dX8_digest_100 : decode cX8_digest 100 = .ok (.invokevirtual 92, 3) := by decide +kernel
theorem dX8_digest_103 : decode cX8_digest 103 = .ok (.invokevirtual 138, 3) := by decide +kernel
theorem dX8_digest_106 : decode cX8_digest 106 = .ok (.iinc 2 1, 3) := by decide +kernel
theorem dX8_digest_109 : decode cX8_digest 109 = .ok (.goto (-19), 3) := by decide +kernel
theorem dX8_digest_112 : decode cX8_digest 112 = .ok (.aload_n 0, 1) := by decide +kernel
theorem dX8_digest_113 : decode cX8_digest 113 = .ok (.aload_n 0, 1) := by decide +kernel
theorem dX8_digest_114 : decode cX8_digest 114 = .ok (.iload_n 1, 1) := by decide +kernel
theorem dX8_digest_115 : decode cX8_digest 115 = .ok (.invokevirtual 105, 3) := by decide +kernel
theorem dX8_digest_118 : decode cX8_digest 118 = .ok (.invokevirtual 138, 3) := by decide +kernel
theorem dX8_digest_121 : decode cX8_digest 121 = .ok (.iinc 1 1, 3) := by decide +kernel
theorem dX8_digest_124 : decode cX8_digest 124 = .ok (.goto (-48), 3) := by decide +kernel
theorem dX8_digest_127 : decode cX8_digest 127 = .ok (.iconst 0, 1) := by decide +kernel
theorem dX8_digest_128 : decode cX8_digest 128 = .ok (.istore_n 1, 1) := by decide +kernel
theorem dX8_digest_129 : decode cX8_digest 129 = .ok (.iload_n 1, 1) := by decide +kernel
theorem dX8_digest_130 : decode cX8_digest 130 = .ok (.aload_n 0, 1) := by decide +kernel
theorem dX8_digest_131 : decode cX8_digest 131 = .ok (.getfield 12, 3) := by decide +kernel
theorem dX8_digest_134 : decode cX8_digest 134 = .ok (.getfield 30, 3) := by decide +kernel
theorem dX8_digest_137 : decode cX8_digest 137 = .ok (.arraylength, 1) := by decide +kernel
theorem dX8_digest_138 : decode cX8_digest 138 = .ok (.if_icmp .ge 14, 3) := by decide +kernel
theorem dX8_digest_141 : decode cX8_digest 141 = .ok (.aload_n 0, 1) := by decide +kernel
theorem dX8_digest_142 : decode cX8_digest 142 = .ok (.iload_n 1, 1) := by decide +kernel
theorem dX8_digest_143 : decode cX8_digest 143 = .ok (.invokevirtual 144, 3) := by decide +kernel
theorem dX8_digest_146 : decode cX8_digest 146 = .ok (.iinc 1 1, 3) := by decide +kernel
theorem dX8_digest_149 : decode cX8_digest 149 = .ok (.goto (-20), 3) := by decide +kernel
theorem dX8_digest_152 : decode cX8_digest 152 = .ok (.aload_n 0, 1) := by decide +kernel
theorem dX8_digest_153 : decode cX8_digest 153 = .ok (.aload_n 0, 1) := by decide +kernel
theorem dX8_digest_154 : decode cX8_digest 154 = .ok (.bipush 10, 2) := by decide +kernel
theorem dX8_digest_156 : decode cX8_digest 156 = .ok (.invokevirtual 118, 3) := by decide +kernel
theorem dX8_digest_159 : decode cX8_digest 159 = .ok (.invokevirtual 138, 3) := by decide +kernel
theorem dX8_digest_162 : decode cX8_digest 162 = .ok (.aload_n 0, 1) := by decide +kernel
theorem dX8_digest_163 : decode cX8_digest 163 = .ok (.aload_n 0, 1) := by decide +kernel
theorem dX8_digest_164 : decode cX8_digest 164 = .ok (.iconst 0, 1) := by decide +kernel
theorem dX8_digest_165 : decode cX8_digest 165 = .ok (.bipush 12, 2) := by decide +kernel
theorem dX8_digest_167 : decode cX8_digest 167 = .ok (.invokevirtual 129, 3) := by decide +kernel
theorem dX8_digest_170 : decode cX8_digest 170 = .ok (.invokevirtual 138, 3) := by decide +kernel
theorem dX8_digest_173 : decode cX8_digest 173 = .ok (.aload_n 0, 1) := by decide +kernel
theorem dX8_digest_174 : decode cX8_digest 174 = .ok (.getfield 132, 3) := by decide +kernel
theorem dX8_digest_177 : decode cX8_digest 177 = .ok (.lreturn, 1) := by decide +kernel
theorem dJ9_floorMod_7cf53_0 : decode cJ9_floorMod_7cf53 0 = .ok (.iload_n 0, 1) := by decide +kernel
theorem dJ9_floorMod_7cf53_1 : decode cJ9_floorMod_7cf53 1 = .ok (.iload_n 1, 1) := by decide +kernel
theorem dJ9_floorMod_7cf53_2 : decode cJ9_floorMod_7cf53 2 = .ok (.irem, 1) := by decide +kernel
theorem dJ9_floorMod_7cf53_3 : decode cJ9_floorMod_7cf53 3 = .ok (.istore_n 2, 1) := by decide +kernel
theorem dJ9_floorMod_7cf53_4 : decode cJ9_floorMod_7cf53 4 = .ok (.iload_n 0, 1) := by decide +kernel
theorem dJ9_floorMod_7cf53_5 : decode cJ9_floorMod_7cf53 5 = .ok (.iload_n 1, 1) := by decide +kernel
theorem dJ9_floorMod_7cf53_6 : decode cJ9_floorMod_7cf53 6 = .ok (.ixor, 1) := by decide +kernel
theorem dJ9_floorMod_7cf53_7 : decode cJ9_floorMod_7cf53 7 = .ok (.ifCond .ge 11, 3) := by decide +kernel
theorem dJ9_floorMod_7cf53_10 : decode cJ9_floorMod_7cf53 10 = .ok (.iload_n 2, 1) := by decide +kernel
theorem dJ9_floorMod_7cf53_11 : decode cJ9_floorMod_7cf53 11 = .ok (.ifCond .eq 7, 3) := by decide +kernel
theorem dJ9_floorMod_7cf53_14 : decode cJ9_floorMod_7cf53 14 = .ok (.iload_n 2, 1) := by decide +kernel
theorem dJ9_floorMod_7cf53_15 : decode cJ9_floorMod_7cf53 15 = .ok (.iload_n 1, 1) := by decide +kernel
theorem dJ9_floorMod_7cf53_16 : decode cJ9_floorMod_7cf53 16 = .ok (.iadd, 1) := by decide +kernel
theorem dJ9_floorMod_7cf53_17 : decode cJ9_floorMod_7cf53 17 = .ok (.ireturn, 1) := by decide +kernel
theorem dJ9_floorMod_7cf53_18 : decode cJ9_floorMod_7cf53 18 = .ok (.iload_n 2, 1) := by decide +kernel
theorem dJ9_floorMod_7cf53_19 : decode cJ9_floorMod_7cf53 19 = .ok (.ireturn, 1) := by decide +kernel
theorem dJ9_max_7cf53_0 : decode cJ9_max_7cf53 0 = .ok (.iload_n 0, 1) := by decide +kernel
theorem dJ9_max_7cf53_1 : decode cJ9_max_7cf53 1 = .ok (.iload_n 1, 1) := by decide +kernel
theorem dJ9_max_7cf53_2 : decode cJ9_max_7cf53 2 = .ok (.if_icmp .lt 7, 3) := by decide +kernel
theorem dJ9_max_7cf53_5 : decode cJ9_max_7cf53 5 = .ok (.iload_n 0, 1) := by decide +kernel
theorem dJ9_max_7cf53_6 : decode cJ9_max_7cf53 6 = .ok (.goto 4, 3) := by decide +kernel
theorem dJ9_max_7cf53_9 : decode cJ9_max_7cf53 9 = .ok (.iload_n 1, 1) := by decide +kernel
theorem dJ9_max_7cf53_10 : decode cJ9_max_7cf53 10 = .ok (.ireturn, 1) := by decide +kernel
theorem dJ9_min_7cf53_0 : decode cJ9_min_7cf53 0 = .ok (.iload_n 0, 1) := by decide +kernel
theorem dJ9_min_7cf53_1 : decode cJ9_min_7cf53 1 = .ok (.iload_n 1, 1) := by decide +kernel
theorem dJ9_min_7cf53_2 : decode cJ9_min_7cf53 2 = .ok (.if_icmp .gt 7, 3) := by decide +kernel
theorem dJ9_min_7cf53_5 : decode cJ9_min_7cf53 5 = .ok (.iload_n 0, 1) := by decide +kernel
theorem dJ9_min_7cf53_6 : decode cJ9_min_7cf53 6 = .ok (.goto 4, 3) := by decide +kernel
theorem dJ9_min_7cf53_9 : decode cJ9_min_7cf53 9 = .ok (.iload_n 1, 1) := by decide +kernel
theorem dJ9_min_7cf53_10 : decode cJ9_min_7cf53 10 = .ok (.ireturn, 1) := by decide +kernel
theorem dJxa1e45_init_da8c8_0 : decode cJxa1e45_init_da8c8 0 = .ok (.aload_n 0, 1) := by decide +kernel
theorem dJxa1e45_init_da8c8_1 : decode cJxa1e45_init_da8c8 1 = .ok (.invokespecial 1, 3) := by decide +kernel
theorem dJxa1e45_init_da8c8_4 : decode cJxa1e45_init_da8c8 4 = .ok (.return_, 1) := by decide +kernel
theorem dJxc12de_init_da8c8_0 : decode cJxc12de_init_da8c8 0 = .ok (.aload_n 0, 1) := by decide +kernel
theorem dJxc12de_init_da8c8_1 : decode cJxc12de_init_da8c8 1 = .ok (.invokespecial 1, 3) := by decide +kernel
theorem dJxc12de_init_da8c8_4 : decode cJxc12de_init_da8c8 4 = .ok (.aload_n 0, 1) := by decide +kernel
theorem dJxc12de_init_da8c8_5 : decode cJxc12de_init_da8c8 5 = .ok (.iconst 0, 1) := by decide +kernel
theorem dJxc12de_init_da8c8_6 : decode cJxc12de_init_da8c8 6 = .ok (.putfield 7, 3) := by decide +kernel
theorem dJxc12de_init_da8c8_9 : decode cJxc12de_init_da8c8 9 = .ok (.return_, 1) := by decide +kernel
theorem dJx4a65c_init_da8c8_0 : decode cJx4a65c_init_da8c8 0 = .ok (.aload_n 0, 1) := by decide +kernel
theorem dJx4a65c_init_da8c8_1 : decode cJx4a65c_init_da8c8 1 = .ok (.invokespecial 1, 3) := by decide +kernel
theorem dJx4a65c_init_da8c8_4 : decode cJx4a65c_init_da8c8 4 = .ok (.aload_n 0, 1) := by decide +kernel
theorem dJx4a65c_init_da8c8_5 : decode cJx4a65c_init_da8c8 5 = .ok (.getstatic 39, 3) := by decide +kernel
theorem dJx4a65c_init_da8c8_8 : decode cJx4a65c_init_da8c8 8 = .ok (.putfield 9, 3) := by decide +kernel
theorem dJx4a65c_init_da8c8_11 : decode cJx4a65c_init_da8c8 11 = .ok (.return_, 1) := by decide +kernel
theorem dJx4a65c_grow_92f84_0 : decode cJx4a65c_grow_92f84 0 = .ok (.aload_n 0, 1) := by decide +kernel
theorem dJx4a65c_grow_92f84_1 : decode cJx4a65c_grow_92f84 1 = .ok (.getfield 9, 3) := by decide +kernel
theorem dJx4a65c_grow_92f84_4 : decode cJx4a65c_grow_92f84 4 = .ok (.arraylength, 1) := by decide +kernel
theorem dJx4a65c_grow_92f84_5 : decode cJx4a65c_grow_92f84 5 = .ok (.istore_n 2, 1) := by decide +kernel
theorem dJx4a65c_grow_92f84_6 : decode cJx4a65c_grow_92f84 6 = .ok (.iload_n 2, 1) := by decide +kernel
theorem dJx4a65c_grow_92f84_7 : decode cJx4a65c_grow_92f84 7 = .ok (.ifCond .gt 13, 3) := by decide +kernel
theorem dJx4a65c_grow_92f84_10 : decode cJx4a65c_grow_92f84 10 = .ok (.aload_n 0, 1) := by decide +kernel
theorem dJx4a65c_grow_92f84_11 : decode cJx4a65c_grow_92f84 11 = .ok (.getfield 9, 3) := by decide +kernel
theorem dJx4a65c_grow_92f84_14 : decode cJx4a65c_grow_92f84 14 = .ok (.getstatic 39, 3) := by decide +kernel
theorem dJx4a65c_grow_92f84_17 : decode cJx4a65c_grow_92f84 17 = .ok (.if_acmp .eq 28, 3) := by decide +kernel
theorem dJx4a65c_grow_92f84_20 : decode cJx4a65c_grow_92f84 20 = .ok (.iload_n 2, 1) := by decide +kernel
theorem dJx4a65c_grow_92f84_21 : decode cJx4a65c_grow_92f84 21 = .ok (.iload_n 1, 1) := by decide +kernel
theorem dJx4a65c_grow_92f84_22 : decode cJx4a65c_grow_92f84 22 = .ok (.iload_n 2, 1) := by decide +kernel
theorem dJx4a65c_grow_92f84_23 : decode cJx4a65c_grow_92f84 23 = .ok (.isub, 1) := by decide +kernel
theorem dJx4a65c_grow_92f84_24 : decode cJx4a65c_grow_92f84 24 = .ok (.iload_n 2, 1) := by decide +kernel
theorem dJx4a65c_grow_92f84_25 : decode cJx4a65c_grow_92f84 25 = .ok (.iconst 1, 1) := by decide +kernel
theorem dJx4a65c_grow_92f84_26 : decode cJx4a65c_grow_92f84 26 = .ok (.ishr, 1) := by decide +kernel
theorem dJx4a65c_grow_92f84_27 : decode cJx4a65c_grow_92f84 27 = .ok (.invokestatic 73, 3) := by decide +kernel
theorem dJx4a65c_grow_92f84_30 : decode cJx4a65c_grow_92f84 30 = .ok (.istore_n 3, 1) := by decide +kernel
theorem dJx4a65c_grow_92f84_31 : decode cJx4a65c_grow_92f84 31 = .ok (.aload_n 0, 1) := by decide +kernel
theorem dJx4a65c_grow_92f84_32 : decode cJx4a65c_grow_92f84 32 = .ok (.aload_n 0, 1) := by decide +kernel
theorem dJx4a65c_grow_92f84_33 : decode cJx4a65c_grow_92f84 33 = .ok (.getfield 9, 3) := by decide +kernel
theorem dJx4a65c_grow_92f84_36 : decode cJx4a65c_grow_92f84 36 = .ok (.iload_n 3, 1) := by decide +kernel
theorem dJx4a65c_grow_92f84_37 : decode cJx4a65c_grow_92f84 37 = .ok (.invokestatic 66, 3) := by decide +kernel
theorem dJx4a65c_grow_92f84_40 : decode cJx4a65c_grow_92f84 40 = .ok (.dup_x1, 1) := by decide +kernel
theorem dJx4a65c_grow_92f84_41 : decode cJx4a65c_grow_92f84 41 = .ok (.putfield 9, 3) := by decide +kernel
theorem dJx4a65c_grow_92f84_44 : decode cJx4a65c_grow_92f84 44 = .ok (.areturn, 1) := by decide +kernel
theorem dJx4a65c_grow_92f84_45 : decode cJx4a65c_grow_92f84 45 = .ok (.aload_n 0, 1) := by decide +kernel
theorem dJx4a65c_grow_92f84_46 : decode cJx4a65c_grow_92f84 46 = .ok (.bipush 10, 2) := by decide +kernel
theorem dJx4a65c_grow_92f84_48 : decode cJx4a65c_grow_92f84 48 = .ok (.iload_n 1, 1) := by decide +kernel
theorem dJx4a65c_grow_92f84_49 : decode cJx4a65c_grow_92f84 49 = .ok (.invokestatic 79, 3) := by decide +kernel
theorem dJx4a65c_grow_92f84_52 : decode cJx4a65c_grow_92f84 52 = .ok (.anewarray 7, 3) := by decide +kernel
theorem dJx4a65c_grow_92f84_55 : decode cJx4a65c_grow_92f84 55 = .ok (.dup_x1, 1) := by decide +kernel
theorem dJx4a65c_grow_92f84_56 : decode cJx4a65c_grow_92f84 56 = .ok (.putfield 9, 3) := by decide +kernel
theorem dJx4a65c_grow_92f84_59 : decode cJx4a65c_grow_92f84 59 = .ok (.areturn, 1) := by decide +kernel
theorem dJx4a65c_grow_d5877_0 : decode cJx4a65c_grow_d5877 0 = .ok (.aload_n 0, 1) := by decide +kernel
theorem dJx4a65c_grow_d5877_1 : decode cJx4a65c_grow_d5877 1 = .ok (.aload_n 0, 1) := by decide +kernel
theorem dJx4a65c_grow_d5877_2 : decode cJx4a65c_grow_d5877 2 = .ok (.getfield 48, 3) := by decide +kernel
theorem dJx4a65c_grow_d5877_5 : decode cJx4a65c_grow_d5877 5 = .ok (.iconst 1, 1) := by decide +kernel
theorem dJx4a65c_grow_d5877_6 : decode cJx4a65c_grow_d5877 6 = .ok (.iadd, 1) := by decide +kernel
theorem dJx4a65c_grow_d5877_7 : decode cJx4a65c_grow_d5877 7 = .ok (.invokevirtual 69, 3) := by decide +kernel
theorem dJx4a65c_grow_d5877_10 : decode cJx4a65c_grow_d5877 10 = .ok (.areturn, 1) := by decide +kernel
theorem dJx4a65c_size_8abf5_0 : decode cJx4a65c_size_8abf5 0 = .ok (.aload_n 0, 1) := by decide +kernel
theorem dJx4a65c_size_8abf5_1 : decode cJx4a65c_size_8abf5 1 = .ok (.getfield 48, 3) := by decide +kernel
theorem dJx4a65c_size_8abf5_4 : decode cJx4a65c_size_8abf5 4 = .ok (.ireturn, 1) := by decide +kernel
theorem dJx4a65c_isEmpty_aae02_0 : decode cJx4a65c_isEmpty_aae02 0 = .ok (.aload_n 0, 1) := by decide +kernel
theorem dJx4a65c_isEmpty_aae02_1 : decode cJx4a65c_isEmpty_aae02 1 = .ok (.getfield 48, 3) := by decide +kernel
theorem dJx4a65c_isEmpty_aae02_4 : decode cJx4a65c_isEmpty_aae02 4 = .ok (.ifCond .ne 7, 3) := by decide +kernel
theorem dJx4a65c_isEmpty_aae02_7 : decode cJx4a65c_isEmpty_aae02 7 = .ok (.iconst 1, 1) := by decide +kernel
theorem dJx4a65c_isEmpty_aae02_8 : decode cJx4a65c_isEmpty_aae02 8 = .ok (.goto 4, 3) := by decide +kernel
theorem dJx4a65c_isEmpty_aae02_11 : decode cJx4a65c_isEmpty_aae02 11 = .ok (.iconst 0, 1) := by decide +kernel
theorem dJx4a65c_isEmpty_aae02_12 : decode cJx4a65c_isEmpty_aae02 12 = .ok (.ireturn, 1) := by decide +kernel
theorem dJx4a65c_elementData_915e3_0 : decode cJx4a65c_elementData_915e3 0 = .ok (.aload_n 0, 1) := by decide +kernel
theorem dJx4a65c_elementData_915e3_1 : decode cJx4a65c_elementData_915e3 1 = .ok (.getfield 9, 3) := by decide +kernel
theorem dJx4a65c_elementData_915e3_4 : decode cJx4a65c_elementData_915e3 4 = .ok (.iload_n 1, 1) := by decide +kernel
theorem dJx4a65c_elementData_915e3_5 : decode cJx4a65c_elementData_915e3 5 = .ok (.aaload, 1) := by decide +kernel
theorem dJx4a65c_elementData_915e3_6 : decode cJx4a65c_elementData_915e3 6 = .ok (.areturn, 1) := by decide +kernel
theorem dJx4a65c_get_915e3_0 : decode cJx4a65c_get_915e3 0 = .ok (.iload_n 1, 1) := by decide +kernel
theorem dJx4a65c_get_915e3_1 : decode cJx4a65c_get_915e3 1 = .ok (.aload_n 0, 1) := by decide +kernel
theorem dJx4a65c_get_915e3_2 : decode cJx4a65c_get_915e3 2 = .ok (.getfield 48, 3) := by decide +kernel
theorem dJx4a65c_get_915e3_5 : decode cJx4a65c_get_915e3 5 = .ok (.invokestatic 118, 3) := by decide +kernel
theorem dJx4a65c_get_915e3_8 : decode cJx4a65c_get_915e3 8 = .ok (.pop, 1) := by decide +kernel
theorem dJx4a65c_get_915e3_9 : decode cJx4a65c_get_915e3 9 = .ok (.aload_n 0, 1) := by decide +kernel
theorem dJx4a65c_get_915e3_10 : decode cJx4a65c_get_915e3 10 = .ok (.iload_n 1, 1) := by decide +kernel
theorem dJx4a65c_get_915e3_11 : decode cJx4a65c_get_915e3 11 = .ok (.invokevirtual 123, 3) := by decide +kernel
theorem dJx4a65c_get_915e3_14 : decode cJx4a65c_get_915e3 14 = .ok (.areturn, 1) := by decide +kernel
theorem dJx4a65c_add_72be8_0 : decode cJx4a65c_add_72be8 0 = .ok (.iload_n 3, 1) := by decide +kernel
theorem dJx4a65c_add_72be8_1 : decode cJx4a65c_add_72be8 1 = .ok (.aload_n 2, 1) := by decide +kernel
theorem dJx4a65c_add_72be8_2 : decode cJx4a65c_add_72be8 2 = .ok (.arraylength, 1) := by decide +kernel
theorem dJx4a65c_add_72be8_3 : decode cJx4a65c_add_72be8 3 = .ok (.if_icmp .ne 8, 3) := by decide +kernel
theorem dJx4a65c_add_72be8_6 : decode cJx4a65c_add_72be8 6 = .ok (.aload_n 0, 1) := by decide +kernel
theorem dJx4a65c_add_72be8_7 : decode cJx4a65c_add_72be8 7 = .ok (.invokevirtual 129, 3) := by decide +kernel
theorem dJx4a65c_add_72be8_10 : decode cJx4a65c_add_72be8 10 = .ok (.astore_n 2, 1) := by decide +kernel
theorem dJx4a65c_add_72be8_11 : decode cJx4a65c_add_72be8 11 = .ok (.aload_n 2, 1) := by decide +kernel
theorem dJx4a65c_add_72be8_12 : decode cJx4a65c_add_72be8 12 = .ok (.iload_n 3, 1) := by decide +kernel
theorem dJx4a65c_add_72be8_13 : decode cJx4a65c_add_72be8 13 = .ok (.aload_n 1, 1) := by decide +kernel
theorem dJx4a65c_add_72be8_14 : decode cJx4a65c_add_72be8 14 = .ok (.aastore, 1) := by decide +kernel
theorem dJx4a65c_add_72be8_15 : decode cJx4a65c_add_72be8 15 = .ok (.aload_n 0, 1) := by decide +kernel
theorem dJx4a65c_add_72be8_16 : decode cJx4a65c_add_72be8 16 = .ok (.iload_n 3, 1) := by decide +kernel
theorem dJx4a65c_add_72be8_17 : decode cJx4a65c_add_72be8 17 = .ok (.iconst 1, 1) := by decide +kernel
theorem dJx4a65c_add_72be8_18 : decode cJx4a65c_add_72be8 18 = .ok (.iadd, 1) := by decide +kernel
theorem dJx4a65c_add_72be8_19 : decode cJx4a65c_add_72be8 19 = .ok (.putfield 48, 3) := by decide +kernel
theorem dJx4a65c_add_72be8_22 : decode cJx4a65c_add_72be8 22 = .ok (.return_, 1) := by decide +kernel
theorem dJx4a65c_add_9ea2d_0 : decode cJx4a65c_add_9ea2d 0 = .ok (.aload_n 0, 1) := by decide +kernel
theorem dJx4a65c_add_9ea2d_1 : decode cJx4a65c_add_9ea2d 1 = .ok (.dup, 1) := by decide +kernel
theorem dJx4a65c_add_9ea2d_2 : decode cJx4a65c_add_9ea2d 2 = .ok (.getfield 63, 3) := by decide +kernel
theorem dJx4a65c_add_9ea2d_5 : decode cJx4a65c_add_9ea2d 5 = .ok (.iconst 1, 1) := by decide +kernel
theorem dJx4a65c_add_9ea2d_6 : decode cJx4a65c_add_9ea2d 6 = .ok (.iadd, 1) := by decide +kernel
theorem dJx4a65c_add_9ea2d_7 : decode cJx4a65c_add_9ea2d 7 = .ok (.putfield 63, 3) := by decide +kernel
theorem dJx4a65c_add_9ea2d_10 : decode cJx4a65c_add_9ea2d 10 = .ok (.aload_n 0, 1) := by decide +kernel
theorem dJx4a65c_add_9ea2d_11 : decode cJx4a65c_add_9ea2d 11 = .ok (.aload_n 1, 1) := by decide +kernel
theorem dJx4a65c_add_9ea2d_12 : decode cJx4a65c_add_9ea2d 12 = .ok (.aload_n 0, 1) := by decide +kernel
theorem dJx4a65c_add_9ea2d_13 : decode cJx4a65c_add_9ea2d 13 = .ok (.getfield 9, 3) := by decide +kernel
theorem dJx4a65c_add_9ea2d_16 : decode cJx4a65c_add_9ea2d 16 = .ok (.aload_n 0, 1) := by decide +kernel
theorem dJx4a65c_add_9ea2d_17 : decode cJx4a65c_add_9ea2d 17 = .ok (.getfield 48, 3) := by decide +kernel
theorem dJx4a65c_add_9ea2d_20 : decode cJx4a65c_add_9ea2d 20 = .ok (.invokevirtual 131, 3) := by decide +kernel
theorem dJx4a65c_add_9ea2d_23 : decode cJx4a65c_add_9ea2d 23 = .ok (.iconst 1, 1) := by decide +kernel
theorem dJx4a65c_add_9ea2d_24 : decode cJx4a65c_add_9ea2d 24 = .ok (.ireturn, 1) := by decide +kernel
theorem dJ7_copyOf_1904c_0 : decode cJ7_copyOf_1904c 0 = .ok (.aload_n 0, 1) := by decide +kernel
theorem dJ7_copyOf_1904c_1 : decode cJ7_copyOf_1904c 1 = .ok (.iload_n 1, 1) := by decide +kernel
theorem dJ7_copyOf_1904c_2 : decode cJ7_copyOf_1904c 2 = .ok (.aload_n 0, 1) := by decide +kernel
theorem dJ7_copyOf_1904c_3 : decode cJ7_copyOf_1904c 3 = .ok (.invokevirtual 86, 3) := by decide +kernel
theorem dJ7_copyOf_1904c_6 : decode cJ7_copyOf_1904c 6 = .ok (.invokestatic 300, 3) := by decide +kernel
theorem dJ7_copyOf_1904c_9 : decode cJ7_copyOf_1904c 9 = .ok (.areturn, 1) := by decide +kernel
theorem dJ7_copyOf_6403c_0 : decode cJ7_copyOf_6403c 0 = .ok (.aload_n 2, 1) := by decide +kernel
theorem dJ7_copyOf_6403c_1 : decode cJ7_copyOf_6403c 1 = .ok (.ldc 110, 2) := by decide +kernel
theorem dJ7_copyOf_6403c_3 : decode cJ7_copyOf_6403c 3 = .ok (.if_acmp .ne 10, 3) := by decide +kernel
theorem dJ7_copyOf_6403c_6 : decode cJ7_copyOf_6403c 6 = .ok (.iload_n 1, 1) := by decide +kernel
theorem dJ7_copyOf_6403c_7 : decode cJ7_copyOf_6403c 7 = .ok (.anewarray 2, 3) := by decide +kernel
theorem dJ7_copyOf_6403c_10 : decode cJ7_copyOf_6403c 10 = .ok (.goto 14, 3) := by decide +kernel
theorem dJ7_copyOf_6403c_13 : decode cJ7_copyOf_6403c 13 = .ok (.aload_n 2, 1) := by decide +kernel
theorem dJ7_copyOf_6403c_14 : decode cJ7_copyOf_6403c 14 = .ok (.invokevirtual 90, 3) := by decide +kernel
theorem dJ7_copyOf_6403c_17 : decode cJ7_copyOf_6403c 17 = .ok (.iload_n 1, 1) := by decide +kernel
theorem dJ7_copyOf_6403c_18 : decode cJ7_copyOf_6403c 18 = .ok (.invokestatic 95, 3) := by decide +kernel
theorem dJ7_copyOf_6403c_21 : decode cJ7_copyOf_6403c 21 = .ok (.checkcast 110, 3) := by decide +kernel
theorem dJ7_copyOf_6403c_24 : decode cJ7_copyOf_6403c 24 = .ok (.astore_n 3, 1) := by decide +kernel
theorem dJ7_copyOf_6403c_25 : decode cJ7_copyOf_6403c 25 = .ok (.aload_n 0, 1) := by decide +kernel
theorem dJ7_copyOf_6403c_26 : decode cJ7_copyOf_6403c 26 = .ok (.iconst 0, 1) := by decide +kernel
theorem dJ7_copyOf_6403c_27 : decode cJ7_copyOf_6403c 27 = .ok (.aload_n 3, 1) := by decide +kernel
theorem dJ7_copyOf_6403c_28 : decode cJ7_copyOf_6403c 28 = .ok (.iconst 0, 1) := by decide +kernel
theorem dJ7_copyOf_6403c_29 : decode cJ7_copyOf_6403c 29 = .ok (.aload_n 0, 1) := by decide +kernel
theorem dJ7_copyOf_6403c_30 : decode cJ7_copyOf_6403c 30 = .ok (.arraylength, 1) := by decide +kernel
theorem dJ7_copyOf_6403c_31 : decode cJ7_copyOf_6403c 31 = .ok (.iload_n 1, 1) := by decide +kernel
theorem dJ7_copyOf_6403c_32 : decode cJ7_copyOf_6403c 32 = .ok (.invokestatic 304, 3) := by decide +kernel
theorem dJ7_copyOf_6403c_35 : decode cJ7_copyOf_6403c 35 = .ok (.invokestatic 150, 3) := by decide +kernel
theorem dJ7_copyOf_6403c_38 : decode cJ7_copyOf_6403c 38 = .ok (.aload_n 3, 1) := by decide +kernel
theorem dJ7_copyOf_6403c_39 : decode cJ7_copyOf_6403c 39 = .ok (.areturn, 1) := by decide +kernel
theorem dJ15_checkIndex_7cf53_0 : decode cJ15_checkIndex_7cf53 0 = .ok (.iload_n 0, 1) := by decide +kernel
theorem dJ15_checkIndex_7cf53_1 : decode cJ15_checkIndex_7cf53 1 = .ok (.iload_n 1, 1) := by decide +kernel
theorem dJ15_checkIndex_7cf53_2 : decode cJ15_checkIndex_7cf53 2 = .ok (.aconst_null, 1) := by decide +kernel
theorem dJ15_checkIndex_7cf53_3 : decode cJ15_checkIndex_7cf53 3 = .ok (.invokestatic 105, 3) := by decide +kernel
theorem dJ15_checkIndex_7cf53_6 : decode cJ15_checkIndex_7cf53 6 = .ok (.ireturn, 1) := by decide +kernel
theorem dJ8_newLength_cabcc_0 : decode cJ8_newLength_cabcc 0 = .ok (.iload_n 0, 1) := by decide +kernel
theorem dJ8_newLength_cabcc_1 : decode cJ8_newLength_cabcc 1 = .ok (.iload_n 1, 1) := by decide +kernel
theorem dJ8_newLength_cabcc_2 : decode cJ8_newLength_cabcc 2 = .ok (.iload_n 2, 1) := by decide +kernel
theorem dJ8_newLength_cabcc_3 : decode cJ8_newLength_cabcc 3 = .ok (.invokestatic 194, 3) := by decide +kernel
theorem dJ8_newLength_cabcc_6 : decode cJ8_newLength_cabcc 6 = .ok (.iadd, 1) := by decide +kernel
theorem dJ8_newLength_cabcc_7 : decode cJ8_newLength_cabcc 7 = .ok (.istore_n 3, 1) := by decide +kernel
theorem dJ8_newLength_cabcc_8 : decode cJ8_newLength_cabcc 8 = .ok (.iconst 0, 1) := by decide +kernel
theorem dJ8_newLength_cabcc_9 : decode cJ8_newLength_cabcc 9 = .ok (.iload_n 3, 1) := by decide +kernel
theorem dJ8_newLength_cabcc_10 : decode cJ8_newLength_cabcc 10 = .ok (.if_icmp .ge 11, 3) := by decide +kernel
theorem dJ8_newLength_cabcc_13 : decode cJ8_newLength_cabcc 13 = .ok (.iload_n 3, 1) := by decide +kernel
theorem dJ8_newLength_cabcc_14 : decode cJ8_newLength_cabcc 14 = .ok (.ldc 200, 2) := by decide +kernel
theorem dJ8_newLength_cabcc_16 : decode cJ8_newLength_cabcc 16 = .ok (.if_icmp .gt 5, 3) := by decide +kernel
theorem dJ8_newLength_cabcc_19 : decode cJ8_newLength_cabcc 19 = .ok (.iload_n 3, 1) := by decide +kernel
theorem dJ8_newLength_cabcc_20 : decode cJ8_newLength_cabcc 20 = .ok (.ireturn, 1) := by decide +kernel
theorem dJ8_newLength_cabcc_21 : decode cJ8_newLength_cabcc 21 = .ok (.iload_n 0, 1) := by decide +kernel
theorem dJ8_newLength_cabcc_22 : decode cJ8_newLength_cabcc 22 = .ok (.iload_n 1, 1) := by decide +kernel
theorem dJ8_newLength_cabcc_23 : decode cJ8_newLength_cabcc 23 = .ok (.invokestatic 201, 3) := by decide +kernel
theorem dJ8_newLength_cabcc_26 : decode cJ8_newLength_cabcc 26 = .ok (.ireturn, 1) := by decide +kernel
theorem dJ8_hugeLength_7cf53_0 : decode cJ8_hugeLength_7cf53 0 = .ok (.iload_n 0, 1) := by decide +kernel
theorem dJ8_hugeLength_7cf53_1 : decode cJ8_hugeLength_7cf53 1 = .ok (.iload_n 1, 1) := by decide +kernel
theorem dJ8_hugeLength_7cf53_2 : decode cJ8_hugeLength_7cf53 2 = .ok (.iadd, 1) := by decide +kernel
theorem dJ8_hugeLength_7cf53_3 : decode cJ8_hugeLength_7cf53 3 = .ok (.istore_n 2, 1) := by decide +kernel
theorem dJ8_hugeLength_7cf53_4 : decode cJ8_hugeLength_7cf53 4 = .ok (.iload_n 2, 1) := by decide +kernel
theorem dJ8_hugeLength_7cf53_5 : decode cJ8_hugeLength_7cf53 5 = .ok (.ifCond .ge 44, 3) := by decide +kernel
theorem dJ8_hugeLength_7cf53_8 : decode cJ8_hugeLength_7cf53 8 = .ok (.new 204, 3) := by decide +kernel
theorem dJ8_hugeLength_7cf53_11 : decode cJ8_hugeLength_7cf53 11 = .ok (.dup, 1) := by decide +kernel
theorem dJ8_hugeLength_7cf53_12 : decode cJ8_hugeLength_7cf53 12 = .ok (.new 89, 3) := by decide +kernel
theorem dJ8_hugeLength_7cf53_15 : decode cJ8_hugeLength_7cf53 15 = .ok (.dup, 1) := by decide +kernel
theorem dJ8_hugeLength_7cf53_16 : decode cJ8_hugeLength_7cf53 16 = .ok (.invokespecial 91, 3) := by decide +kernel
theorem dJ8_hugeLength_7cf53_19 : decode cJ8_hugeLength_7cf53 19 = .ok (.ldc 206, 2) := by decide +kernel
theorem dJ8_hugeLength_7cf53_21 : decode cJ8_hugeLength_7cf53 21 = .ok (.invokevirtual 94, 3) := by decide +kernel
theorem dJ8_hugeLength_7cf53_24 : decode cJ8_hugeLength_7cf53 24 = .ok (.iload_n 0, 1) := by decide +kernel
theorem dJ8_hugeLength_7cf53_25 : decode cJ8_hugeLength_7cf53 25 = .ok (.invokevirtual 98, 3) := by decide +kernel
theorem dJ8_hugeLength_7cf53_28 : decode cJ8_hugeLength_7cf53 28 = .ok (.ldc 208, 2) := by decide +kernel
theorem dJ8_hugeLength_7cf53_30 : decode cJ8_hugeLength_7cf53 30 = .ok (.invokevirtual 94, 3) := by decide +kernel
theorem dJ8_hugeLength_7cf53_33 : decode cJ8_hugeLength_7cf53 33 = .ok (.iload_n 1, 1) := by decide +kernel
theorem dJ8_hugeLength_7cf53_34 : decode cJ8_hugeLength_7cf53 34 = .ok (.invokevirtual 98, 3) := by decide +kernel
theorem dJ8_hugeLength_7cf53_37 : decode cJ8_hugeLength_7cf53 37 = .ok (.ldc 210, 2) := by decide +kernel
theorem dJ8_hugeLength_7cf53_39 : decode cJ8_hugeLength_7cf53 39 = .ok (.invokevirtual 94, 3) := by decide +kernel
theorem dJ8_hugeLength_7cf53_42 : decode cJ8_hugeLength_7cf53 42 = .ok (.invokevirtual 101, 3) := by decide +kernel
theorem dJ8_hugeLength_7cf53_45 : decode cJ8_hugeLength_7cf53 45 = .ok (.invokespecial 212, 3) := by decide +kernel
theorem dJ8_hugeLength_7cf53_48 : decode cJ8_hugeLength_7cf53 48 = .ok (.athrow, 1) := by decide +kernel
theorem dJ8_hugeLength_7cf53_49 : decode cJ8_hugeLength_7cf53 49 = .ok (.iload_n 2, 1) := by decide +kernel
theorem dJ8_hugeLength_7cf53_50 : decode cJ8_hugeLength_7cf53 50 = .ok (.ldc 200, 2) := by decide +kernel
theorem dJ8_hugeLength_7cf53_52 : decode cJ8_hugeLength_7cf53 52 = .ok (.if_icmp .gt 6, 3) := by decide +kernel
theorem dJ8_hugeLength_7cf53_55 : decode cJ8_hugeLength_7cf53 55 = .ok (.ldc 200, 2) := by decide +kernel
theorem dJ8_hugeLength_7cf53_57 : decode cJ8_hugeLength_7cf53 57 = .ok (.ireturn, 1) := by decide +kernel
theorem dJ8_hugeLength_7cf53_58 : decode cJ8_hugeLength_7cf53 58 = .ok (.iload_n 2, 1) := by decide +kernel
theorem dJ8_hugeLength_7cf53_59 : decode cJ8_hugeLength_7cf53 59 = .ok (.ireturn, 1) := by decide +kernel
theorem dJ3_checkIndex_8e157_0 : decode cJ3_checkIndex_8e157 0 = .ok (.iload_n 0, 1) := by decide +kernel
theorem dJ3_checkIndex_8e157_1 : decode cJ3_checkIndex_8e157 1 = .ok (.ifCond .lt 8, 3) := by decide +kernel
theorem dJ3_checkIndex_8e157_4 : decode cJ3_checkIndex_8e157 4 = .ok (.iload_n 0, 1) := by decide +kernel
theorem dJ3_checkIndex_8e157_5 : decode cJ3_checkIndex_8e157 5 = .ok (.iload_n 1, 1) := by decide +kernel
theorem dJ3_checkIndex_8e157_6 : decode cJ3_checkIndex_8e157 6 = .ok (.if_icmp .lt 10, 3) := by decide +kernel
theorem dJ3_checkIndex_8e157_9 : decode cJ3_checkIndex_8e157 9 = .ok (.aload_n 2, 1) := by decide +kernel
theorem dJ3_checkIndex_8e157_10 : decode cJ3_checkIndex_8e157 10 = .ok (.iload_n 0, 1) := by decide +kernel
theorem dJ3_checkIndex_8e157_11 : decode cJ3_checkIndex_8e157 11 = .ok (.iload_n 1, 1) := by decide +kernel
theorem dJ3_checkIndex_8e157_12 : decode cJ3_checkIndex_8e157 12 = .ok (.invokestatic 95, 3) := by decide +kernel
theorem dJ3_checkIndex_8e157_15 : decode cJ3_checkIndex_8e157 15 = .ok (.athrow, 1) := by decide +kernel
theorem dJ3_checkIndex_8e157_16 : decode cJ3_checkIndex_8e157 16 = .ok (.iload_n 0, 1) := by decide +kernel
theorem dJ3_checkIndex_8e157_17 : decode cJ3_checkIndex_8e157 17 = .ok (.ireturn, 1) := by decide +kernel
theorem dL_society_0 : decode cL_society 0 = .ok (.aload 5, 2) := by decide +kernel
theorem dL_society_2 : decode cL_society 2 = .ok (.iconst 0, 1) := by decide +kernel
theorem dL_society_3 : decode cL_society 3 = .ok (.aload_n 0, 1) := by decide +kernel
theorem dL_society_4 : decode cL_society 4 = .ok (.iload_n 1, 1) := by decide +kernel
theorem dL_society_5 : decode cL_society 5 = .ok (.iload_n 2, 1) := by decide +kernel
theorem dL_society_6 : decode cL_society 6 = .ok (.iload_n 3, 1) := by decide +kernel
theorem dL_society_7 : decode cL_society 7 = .ok (.iload 4, 2) := by decide +kernel
theorem dL_society_9 : decode cL_society 9 = .ok (.invokevirtual 7, 3) := by decide +kernel
theorem dL_society_12 : decode cL_society 12 = .ok (.i2l, 1) := by decide +kernel
theorem dL_society_13 : decode cL_society 13 = .ok (.lastore, 1) := by decide +kernel
theorem dL_society_14 : decode cL_society 14 = .ok (.goto 11, 3) := by decide +kernel
theorem dL_society_17 : decode cL_society 17 = .ok (.astore 6, 2) := by decide +kernel
theorem dL_society_19 : decode cL_society 19 = .ok (.iconst 1, 1) := by decide +kernel
theorem dL_society_20 : decode cL_society 20 = .ok (.ireturn, 1) := by decide +kernel
theorem dL_society_21 : decode cL_society 21 = .ok (.astore 6, 2) := by decide +kernel
theorem dL_society_23 : decode cL_society 23 = .ok (.iconst 2, 1) := by decide +kernel
theorem dL_society_24 : decode cL_society 24 = .ok (.ireturn, 1) := by decide +kernel
theorem dL_society_25 : decode cL_society 25 = .ok (.iconst 0, 1) := by decide +kernel
theorem dL_society_26 : decode cL_society 26 = .ok (.ireturn, 1) := by decide +kernel
theorem dL_field_0 : decode cL_field 0 = .ok (.aload 4, 2) := by decide +kernel
theorem dL_field_2 : decode cL_field 2 = .ok (.iconst 0, 1) := by decide +kernel
theorem dL_field_3 : decode cL_field 3 = .ok (.aload_n 0, 1) := by decide +kernel
theorem dL_field_4 : decode cL_field 4 = .ok (.iload_n 1, 1) := by decide +kernel
theorem dL_field_5 : decode cL_field 5 = .ok (.iload_n 2, 1) := by decide +kernel
theorem dL_field_6 : decode cL_field 6 = .ok (.iload_n 3, 1) := by decide +kernel
theorem dL_field_7 : decode cL_field 7 = .ok (.invokevirtual 17, 3) := by decide +kernel
theorem dL_field_10 : decode cL_field 10 = .ok (.i2l, 1) := by decide +kernel
theorem dL_field_11 : decode cL_field 11 = .ok (.lastore, 1) := by decide +kernel
theorem dL_field_12 : decode cL_field 12 = .ok (.goto 15, 3) := by decide +kernel
theorem dL_field_15 : decode cL_field 15 = .ok (.astore 5, 2) := by decide +kernel
theorem dL_field_17 : decode cL_field 17 = .ok (.iconst 1, 1) := by decide +kernel
theorem dL_field_18 : decode cL_field 18 = .ok (.ireturn, 1) := by decide +kernel
theorem dL_field_19 : decode cL_field 19 = .ok (.astore 5, 2) := by decide +kernel
theorem dL_field_21 : decode cL_field 21 = .ok (.iconst 2, 1) := by decide +kernel
theorem dL_field_22 : decode cL_field 22 = .ok (.ireturn, 1) := by decide +kernel
theorem dL_field_23 : decode cL_field 23 = .ok (.astore 5, 2) := by decide +kernel
theorem dL_field_25 : decode cL_field 25 = .ok (.iconst 3, 1) := by decide +kernel
theorem dL_field_26 : decode cL_field 26 = .ok (.ireturn, 1) := by decide +kernel
theorem dL_field_27 : decode cL_field 27 = .ok (.iconst 0, 1) := by decide +kernel
theorem dL_field_28 : decode cL_field 28 = .ok (.ireturn, 1) := by decide +kernel
theorem dL_gate_0 : decode cL_gate 0 = .ok (.aload_n 3, 1) := by decide +kernel
theorem dL_gate_1 : decode cL_gate 1 = .ok (.iconst 0, 1) := by decide +kernel
theorem dL_gate_2 : decode cL_gate 2 = .ok (.aload_n 0, 1) := by decide +kernel
theorem dL_gate_3 : decode cL_gate 3 = .ok (.iload_n 1, 1) := by decide +kernel
theorem dL_gate_4 : decode cL_gate 4 = .ok (.iload_n 2, 1) := by decide +kernel
theorem dL_gate_5 : decode cL_gate 5 = .ok (.invokevirtual 23, 3) := by decide +kernel
theorem dL_gate_8 : decode cL_gate 8 = .ok (.ifCond .eq 7, 3) := by decide +kernel
theorem dL_gate_11 : decode cL_gate 11 = .ok (.lconst 1, 1) := by decide +kernel
theorem dL_gate_12 : decode cL_gate 12 = .ok (.goto 4, 3) := by decide +kernel
theorem dL_gate_15 : decode cL_gate 15 = .ok (.lconst 0, 1) := by decide +kernel
theorem dL_gate_16 : decode cL_gate 16 = .ok (.lastore, 1) := by decide +kernel
theorem dL_gate_17 : decode cL_gate 17 = .ok (.goto 7, 3) := by decide +kernel
theorem dL_gate_20 : decode cL_gate 20 = .ok (.astore 4, 2) := by decide +kernel
theorem dL_gate_22 : decode cL_gate 22 = .ok (.iconst 1, 1) := by decide +kernel
theorem dL_gate_23 : decode cL_gate 23 = .ok (.ireturn, 1) := by decide +kernel
theorem dL_gate_24 : decode cL_gate 24 = .ok (.iconst 0, 1) := by decide +kernel
theorem dL_gate_25 : decode cL_gate 25 = .ok (.ireturn, 1) := by decide +kernel
theorem dL_stones_0 : decode cL_stones 0 = .ok (.aload_n 3, 1) := by decide +kernel
theorem dL_stones_1 : decode cL_stones 1 = .ok (.iconst 0, 1) := by decide +kernel
theorem dL_stones_2 : decode cL_stones 2 = .ok (.aload_n 0, 1) := by decide +kernel
theorem dL_stones_3 : decode cL_stones 3 = .ok (.iload_n 1, 1) := by decide +kernel
theorem dL_stones_4 : decode cL_stones 4 = .ok (.iload_n 2, 1) := by decide +kernel
theorem dL_stones_5 : decode cL_stones 5 = .ok (.invokevirtual 27, 3) := by decide +kernel
theorem dL_stones_8 : decode cL_stones 8 = .ok (.i2l, 1) := by decide +kernel
theorem dL_stones_9 : decode cL_stones 9 = .ok (.lastore, 1) := by decide +kernel
theorem dL_stones_10 : decode cL_stones 10 = .ok (.goto 11, 3) := by decide +kernel
theorem dL_stones_13 : decode cL_stones 13 = .ok (.astore 4, 2) := by decide +kernel
theorem dL_stones_15 : decode cL_stones 15 = .ok (.iconst 1, 1) := by decide +kernel
theorem dL_stones_16 : decode cL_stones 16 = .ok (.ireturn, 1) := by decide +kernel
theorem dL_stones_17 : decode cL_stones 17 = .ok (.astore 4, 2) := by decide +kernel
theorem dL_stones_19 : decode cL_stones 19 = .ok (.iconst 2, 1) := by decide +kernel
theorem dL_stones_20 : decode cL_stones 20 = .ok (.ireturn, 1) := by decide +kernel
theorem dL_stones_21 : decode cL_stones 21 = .ok (.iconst 0, 1) := by decide +kernel
theorem dL_stones_22 : decode cL_stones 22 = .ok (.ireturn, 1) := by decide +kernel
theorem dL_rotate_0 : decode cL_rotate 0 = .ok (.aload_n 3, 1) := by decide +kernel
theorem dL_rotate_1 : decode cL_rotate 1 = .ok (.iconst 0, 1) := by decide +kernel
theorem dL_rotate_2 : decode cL_rotate 2 = .ok (.aload_n 0, 1) := by decide +kernel
theorem dL_rotate_3 : decode cL_rotate 3 = .ok (.iload_n 1, 1) := by decide +kernel
theorem dL_rotate_4 : decode cL_rotate 4 = .ok (.iload_n 2, 1) := by decide +kernel
theorem dL_rotate_5 : decode cL_rotate 5 = .ok (.invokevirtual 31, 3) := by decide +kernel
theorem dL_rotate_8 : decode cL_rotate 8 = .ok (.ifCond .eq 7, 3) := by decide +kernel
theorem dL_rotate_11 : decode cL_rotate 11 = .ok (.lconst 1, 1) := by decide +kernel
theorem dL_rotate_12 : decode cL_rotate 12 = .ok (.goto 4, 3) := by decide +kernel
theorem dL_rotate_15 : decode cL_rotate 15 = .ok (.lconst 0, 1) := by decide +kernel
theorem dL_rotate_16 : decode cL_rotate 16 = .ok (.lastore, 1) := by decide +kernel
theorem dL_rotate_17 : decode cL_rotate 17 = .ok (.goto 7, 3) := by decide +kernel
theorem dL_rotate_20 : decode cL_rotate 20 = .ok (.astore 4, 2) := by decide +kernel
theorem dL_rotate_22 : decode cL_rotate 22 = .ok (.iconst 1, 1) := by decide +kernel
theorem dL_rotate_23 : decode cL_rotate 23 = .ok (.ireturn, 1) := by decide +kernel
theorem dL_rotate_24 : decode cL_rotate 24 = .ok (.iconst 0, 1) := by decide +kernel
theorem dL_rotate_25 : decode cL_rotate 25 = .ok (.ireturn, 1) := by decide +kernel
theorem dL_puddle_0 : decode cL_puddle 0 = .ok (.aload_n 2, 1) := by decide +kernel
theorem dL_puddle_1 : decode cL_puddle 1 = .ok (.iconst 0, 1) := by decide +kernel
theorem dL_puddle_2 : decode cL_puddle 2 = .ok (.aload_n 0, 1) := by decide +kernel
theorem dL_puddle_3 : decode cL_puddle 3 = .ok (.iload_n 1, 1) := by decide +kernel
theorem dL_puddle_4 : decode cL_puddle 4 = .ok (.invokevirtual 34, 3) := by decide +kernel
theorem dL_puddle_7 : decode cL_puddle 7 = .ok (.i2l, 1) := by decide +kernel
theorem dL_puddle_8 : decode cL_puddle 8 = .ok (.lastore, 1) := by decide +kernel
theorem dL_puddle_9 : decode cL_puddle 9 = .ok (.goto 9, 3) := by decide +kernel
theorem dL_puddle_12 : decode cL_puddle 12 = .ok (.astore_n 3, 1) := by decide +kernel
theorem dL_puddle_13 : decode cL_puddle 13 = .ok (.iconst 1, 1) := by decide +kernel
theorem dL_puddle_14 : decode cL_puddle 14 = .ok (.ireturn, 1) := by decide +kernel
theorem dL_puddle_15 : decode cL_puddle 15 = .ok (.astore_n 3, 1) := by decide +kernel
theorem dL_puddle_16 : decode cL_puddle 16 = .ok (.iconst 2, 1) := by decide +kernel
theorem dL_puddle_17 : decode cL_puddle 17 = .ok (.ireturn, 1) := by decide +kernel
theorem dL_puddle_18 : decode cL_puddle 18 = .ok (.iconst 0, 1) := by decide +kernel
theorem dL_puddle_19 : decode cL_puddle 19 = .ok (.ireturn, 1) := by decide +kernel
theorem dL_plant_0 : decode cL_plant 0 = .ok (.aload_n 3, 1) := by decide +kernel
theorem dL_plant_1 : decode cL_plant 1 = .ok (.iconst 0, 1) := by decide +kernel
theorem dL_plant_2 : decode cL_plant 2 = .ok (.aload_n 0, 1) := by decide +kernel
theorem dL_plant_3 : decode cL_plant 3 = .ok (.iload_n 1, 1) := by decide +kernel
theorem dL_plant_4 : decode cL_plant 4 = .ok (.iload_n 2, 1) := by decide +kernel
theorem dL_plant_5 : decode cL_plant 5 = .ok (.invokevirtual 38, 3) := by decide +kernel
theorem dL_plant_8 : decode cL_plant 8 = .ok (.i2l, 1) := by decide +kernel
theorem dL_plant_9 : decode cL_plant 9 = .ok (.lastore, 1) := by decide +kernel
theorem dL_plant_10 : decode cL_plant 10 = .ok (.goto 15, 3) := by decide +kernel
theorem dL_plant_13 : decode cL_plant 13 = .ok (.astore 4, 2) := by decide +kernel
theorem dL_plant_15 : decode cL_plant 15 = .ok (.iconst 1, 1) := by decide +kernel
theorem dL_plant_16 : decode cL_plant 16 = .ok (.ireturn, 1) := by decide +kernel
theorem dL_plant_17 : decode cL_plant 17 = .ok (.astore 4, 2) := by decide +kernel
theorem dL_plant_19 : decode cL_plant 19 = .ok (.iconst 2, 1) := by decide +kernel
theorem dL_plant_20 : decode cL_plant 20 = .ok (.ireturn, 1) := by decide +kernel
theorem dL_plant_21 : decode cL_plant 21 = .ok (.astore 4, 2) := by decide +kernel
theorem dL_plant_23 : decode cL_plant 23 = .ok (.iconst 3, 1) := by decide +kernel
theorem dL_plant_24 : decode cL_plant 24 = .ok (.ireturn, 1) := by decide +kernel
theorem dL_plant_25 : decode cL_plant 25 = .ok (.iconst 0, 1) := by decide +kernel
theorem dL_plant_26 : decode cL_plant 26 = .ok (.ireturn, 1) := by decide +kernel
theorem dL_help_0 : decode cL_help 0 = .ok (.aload_n 3, 1) := by decide +kernel
theorem dL_help_1 : decode cL_help 1 = .ok (.iconst 0, 1) := by decide +kernel
theorem dL_help_2 : decode cL_help 2 = .ok (.aload_n 0, 1) := by decide +kernel
theorem dL_help_3 : decode cL_help 3 = .ok (.iload_n 1, 1) := by decide +kernel
theorem dL_help_4 : decode cL_help 4 = .ok (.iload_n 2, 1) := by decide +kernel
theorem dL_help_5 : decode cL_help 5 = .ok (.invokevirtual 41, 3) := by decide +kernel
theorem dL_help_8 : decode cL_help 8 = .ok (.i2l, 1) := by decide +kernel
theorem dL_help_9 : decode cL_help 9 = .ok (.lastore, 1) := by decide +kernel
theorem dL_help_10 : decode cL_help 10 = .ok (.goto 7, 3) := by decide +kernel
theorem dL_help_13 : decode cL_help 13 = .ok (.astore 4, 2) := by decide +kernel
theorem dL_help_15 : decode cL_help 15 = .ok (.iconst 1, 1) := by decide +kernel
theorem dL_help_16 : decode cL_help 16 = .ok (.ireturn, 1) := by decide +kernel
theorem dL_help_17 : decode cL_help 17 = .ok (.iconst 0, 1) := by decide +kernel
theorem dL_help_18 : decode cL_help 18 = .ok (.ireturn, 1) := by decide +kernel
theorem dL_ducks_0 : decode cL_ducks 0 = .ok (.aload_n 3, 1) := by decide +kernel
theorem dL_ducks_1 : decode cL_ducks 1 = .ok (.iconst 0, 1) := by decide +kernel
theorem dL_ducks_2 : decode cL_ducks 2 = .ok (.aload_n 0, 1) := by decide +kernel
theorem dL_ducks_3 : decode cL_ducks 3 = .ok (.iload_n 1, 1) := by decide +kernel
theorem dL_ducks_4 : decode cL_ducks 4 = .ok (.iload_n 2, 1) := by decide +kernel
theorem dL_ducks_5 : decode cL_ducks 5 = .ok (.invokevirtual 44, 3) := by decide +kernel
theorem dL_ducks_8 : decode cL_ducks 8 = .ok (.i2l, 1) := by decide +kernel
theorem dL_ducks_9 : decode cL_ducks 9 = .ok (.lastore, 1) := by decide +kernel
theorem dL_ducks_10 : decode cL_ducks 10 = .ok (.goto 7, 3) := by decide +kernel
theorem dL_ducks_13 : decode cL_ducks 13 = .ok (.astore 4, 2) := by decide +kernel
theorem dL_ducks_15 : decode cL_ducks 15 = .ok (.iconst 1, 1) := by decide +kernel
theorem dL_ducks_16 : decode cL_ducks 16 = .ok (.ireturn, 1) := by decide +kernel
theorem dL_ducks_17 : decode cL_ducks 17 = .ok (.iconst 0, 1) := by decide +kernel
theorem dL_ducks_18 : decode cL_ducks 18 = .ok (.ireturn, 1) := by decide +kernel
theorem dL_harvest_0 : decode cL_harvest 0 = .ok (.aload_n 3, 1) := by decide +kernel
theorem dL_harvest_1 : decode cL_harvest 1 = .ok (.iconst 0, 1) := by decide +kernel
theorem dL_harvest_2 : decode cL_harvest 2 = .ok (.aload_n 0, 1) := by decide +kernel
theorem dL_harvest_3 : decode cL_harvest 3 = .ok (.iload_n 1, 1) := by decide +kernel
theorem dL_harvest_4 : decode cL_harvest 4 = .ok (.iload_n 2, 1) := by decide +kernel
theorem dL_harvest_5 : decode cL_harvest 5 = .ok (.invokevirtual 48, 3) := by decide +kernel
theorem dL_harvest_8 : decode cL_harvest 8 = .ok (.i2l, 1) := by decide +kernel
theorem dL_harvest_9 : decode cL_harvest 9 = .ok (.lastore, 1) := by decide +kernel
theorem dL_harvest_10 : decode cL_harvest 10 = .ok (.goto 11, 3) := by decide +kernel
theorem dL_harvest_13 : decode cL_harvest 13 = .ok (.astore 4, 2) := by decide +kernel
theorem dL_harvest_15 : decode cL_harvest 15 = .ok (.iconst 1, 1) := by decide +kernel
theorem dL_harvest_16 : decode cL_harvest 16 = .ok (.ireturn, 1) := by decide +kernel
theorem dL_harvest_17 : decode cL_harvest 17 = .ok (.astore 4, 2) := by decide +kernel
theorem dL_harvest_19 : decode cL_harvest 19 = .ok (.iconst 2, 1) := by decide +kernel
theorem dL_harvest_20 : decode cL_harvest 20 = .ok (.ireturn, 1) := by decide +kernel
theorem dL_harvest_21 : decode cL_harvest 21 = .ok (.iconst 0, 1) := by decide +kernel
theorem dL_harvest_22 : decode cL_harvest 22 = .ok (.ireturn, 1) := by decide +kernel
theorem dL_cut_0 : decode cL_cut 0 = .ok (.aload_n 2, 1) := by decide +kernel
theorem dL_cut_1 : decode cL_cut 1 = .ok (.iconst 0, 1) := by decide +kernel
theorem dL_cut_2 : decode cL_cut 2 = .ok (.aload_n 0, 1) := by decide +kernel
theorem dL_cut_3 : decode cL_cut 3 = .ok (.iload_n 1, 1) := by decide +kernel
theorem dL_cut_4 : decode cL_cut 4 = .ok (.invokevirtual 51, 3) := by decide +kernel
theorem dL_cut_7 : decode cL_cut 7 = .ok (.i2l, 1) := by decide +kernel
theorem dL_cut_8 : decode cL_cut 8 = .ok (.lastore, 1) := by decide +kernel
theorem dL_cut_9 : decode cL_cut 9 = .ok (.goto 9, 3) := by decide +kernel
theorem dL_cut_12 : decode cL_cut 12 = .ok (.astore_n 3, 1) := by decide +kernel
theorem dL_cut_13 : decode cL_cut 13 = .ok (.iconst 1, 1) := by decide +kernel
theorem dL_cut_14 : decode cL_cut 14 = .ok (.ireturn, 1) := by decide +kernel
theorem dL_cut_15 : decode cL_cut 15 = .ok (.astore_n 3, 1) := by decide +kernel
theorem dL_cut_16 : decode cL_cut 16 = .ok (.iconst 2, 1) := by decide +kernel
theorem dL_cut_17 : decode cL_cut 17 = .ok (.ireturn, 1) := by decide +kernel
theorem dL_cut_18 : decode cL_cut 18 = .ok (.iconst 0, 1) := by decide +kernel
theorem dL_cut_19 : decode cL_cut 19 = .ok (.ireturn, 1) := by decide +kernel
theorem dL_day_0 : decode cL_day 0 = .ok (.aload 4, 2) := by decide +kernel
theorem dL_day_2 : decode cL_day 2 = .ok (.iconst 0, 1) := by decide +kernel
theorem dL_day_3 : decode cL_day 3 = .ok (.aload_n 0, 1) := by decide +kernel
theorem dL_day_4 : decode cL_day 4 = .ok (.iload_n 1, 1) := by decide +kernel
theorem dL_day_5 : decode cL_day 5 = .ok (.iload_n 2, 1) := by decide +kernel
theorem dL_day_6 : decode cL_day 6 = .ok (.iload_n 3, 1) := by decide +kernel
theorem dL_day_7 : decode cL_day 7 = .ok (.invokevirtual 54, 3) := by decide +kernel
theorem dL_day_10 : decode cL_day 10 = .ok (.i2l, 1) := by decide +kernel
theorem dL_day_11 : decode cL_day 11 = .ok (.lastore, 1) := by decide +kernel
theorem dL_day_12 : decode cL_day 12 = .ok (.goto 7, 3) := by decide +kernel
theorem dL_day_15 : decode cL_day 15 = .ok (.astore 5, 2) := by decide +kernel
theorem dL_day_17 : decode cL_day 17 = .ok (.iconst 1, 1) := by decide +kernel
theorem dL_day_18 : decode cL_day 18 = .ok (.ireturn, 1) := by decide +kernel
theorem dL_day_19 : decode cL_day 19 = .ok (.iconst 0, 1) := by decide +kernel
theorem dL_day_20 : decode cL_day 20 = .ok (.ireturn, 1) := by decide +kernel
theorem dL_inspect_0 : decode cL_inspect 0 = .ok (.aload_n 2, 1) := by decide +kernel
theorem dL_inspect_1 : decode cL_inspect 1 = .ok (.iconst 0, 1) := by decide +kernel
theorem dL_inspect_2 : decode cL_inspect 2 = .ok (.aload_n 0, 1) := by decide +kernel
theorem dL_inspect_3 : decode cL_inspect 3 = .ok (.iload_n 1, 1) := by decide +kernel
theorem dL_inspect_4 : decode cL_inspect 4 = .ok (.invokevirtual 57, 3) := by decide +kernel
theorem dL_inspect_7 : decode cL_inspect 7 = .ok (.i2l, 1) := by decide +kernel
theorem dL_inspect_8 : decode cL_inspect 8 = .ok (.lastore, 1) := by decide +kernel
theorem dL_inspect_9 : decode cL_inspect 9 = .ok (.goto 6, 3) := by decide +kernel
theorem dL_inspect_12 : decode cL_inspect 12 = .ok (.astore_n 3, 1) := by decide +kernel
theorem dL_inspect_13 : decode cL_inspect 13 = .ok (.iconst 1, 1) := by decide +kernel
theorem dL_inspect_14 : decode cL_inspect 14 = .ok (.ireturn, 1) := by decide +kernel
theorem dL_inspect_15 : decode cL_inspect 15 = .ok (.iconst 0, 1) := by decide +kernel
theorem dL_inspect_16 : decode cL_inspect 16 = .ok (.ireturn, 1) := by decide +kernel
theorem dL_sell_0 : decode cL_sell 0 = .ok (.aload_n 3, 1) := by decide +kernel
theorem dL_sell_1 : decode cL_sell 1 = .ok (.iconst 0, 1) := by decide +kernel
theorem dL_sell_2 : decode cL_sell 2 = .ok (.aload_n 0, 1) := by decide +kernel
theorem dL_sell_3 : decode cL_sell 3 = .ok (.iload_n 1, 1) := by decide +kernel
theorem dL_sell_4 : decode cL_sell 4 = .ok (.iload_n 2, 1) := by decide +kernel
theorem dL_sell_5 : decode cL_sell 5 = .ok (.invokevirtual 60, 3) := by decide +kernel
theorem dL_sell_8 : decode cL_sell 8 = .ok (.i2l, 1) := by decide +kernel
theorem dL_sell_9 : decode cL_sell 9 = .ok (.lastore, 1) := by decide +kernel
theorem dL_sell_10 : decode cL_sell 10 = .ok (.goto 15, 3) := by decide +kernel
theorem dL_sell_13 : decode cL_sell 13 = .ok (.astore 4, 2) := by decide +kernel
theorem dL_sell_15 : decode cL_sell 15 = .ok (.iconst 1, 1) := by decide +kernel
theorem dL_sell_16 : decode cL_sell 16 = .ok (.ireturn, 1) := by decide +kernel
theorem dL_sell_17 : decode cL_sell 17 = .ok (.astore 4, 2) := by decide +kernel
theorem dL_sell_19 : decode cL_sell 19 = .ok (.iconst 2, 1) := by decide +kernel
theorem dL_sell_20 : decode cL_sell 20 = .ok (.ireturn, 1) := by decide +kernel
theorem dL_sell_21 : decode cL_sell 21 = .ok (.astore 4, 2) := by decide +kernel
theorem dL_sell_23 : decode cL_sell 23 = .ok (.iconst 3, 1) := by decide +kernel
theorem dL_sell_24 : decode cL_sell 24 = .ok (.ireturn, 1) := by decide +kernel
theorem dL_sell_25 : decode cL_sell 25 = .ok (.iconst 0, 1) := by decide +kernel
theorem dL_sell_26 : decode cL_sell 26 = .ok (.ireturn, 1) := by decide +kernel
theorem dL_vote_0 : decode cL_vote 0 = .ok (.aload_n 2, 1) := by decide +kernel
theorem dL_vote_1 : decode cL_vote 1 = .ok (.iconst 0, 1) := by decide +kernel
theorem dL_vote_2 : decode cL_vote 2 = .ok (.aload_n 0, 1) := by decide +kernel
theorem dL_vote_3 : decode cL_vote 3 = .ok (.iload_n 1, 1) := by decide +kernel
theorem dL_vote_4 : decode cL_vote 4 = .ok (.invokevirtual 63, 3) := by decide +kernel
theorem dL_vote_7 : decode cL_vote 7 = .ok (.i2l, 1) := by decide +kernel
theorem dL_vote_8 : decode cL_vote 8 = .ok (.lastore, 1) := by decide +kernel
theorem dL_vote_9 : decode cL_vote 9 = .ok (.goto 6, 3) := by decide +kernel
theorem dL_vote_12 : decode cL_vote 12 = .ok (.astore_n 3, 1) := by decide +kernel
theorem dL_vote_13 : decode cL_vote 13 = .ok (.iconst 1, 1) := by decide +kernel
theorem dL_vote_14 : decode cL_vote 14 = .ok (.ireturn, 1) := by decide +kernel
theorem dL_vote_15 : decode cL_vote 15 = .ok (.iconst 0, 1) := by decide +kernel
theorem dL_vote_16 : decode cL_vote 16 = .ok (.ireturn, 1) := by decide +kernel
theorem dL_ofField_0 : decode cL_ofField 0 = .ok (.aload_n 3, 1) := by decide +kernel
theorem dL_ofField_1 : decode cL_ofField 1 = .ok (.iconst 0, 1) := by decide +kernel
theorem dL_ofField_2 : decode cL_ofField 2 = .ok (.aload_n 0, 1) := by decide +kernel
theorem dL_ofField_3 : decode cL_ofField 3 = .ok (.iload_n 1, 1) := by decide +kernel
theorem dL_ofField_4 : decode cL_ofField 4 = .ok (.iload_n 2, 1) := by decide +kernel
theorem dL_ofField_5 : decode cL_ofField 5 = .ok (.invokevirtual 66, 3) := by decide +kernel
theorem dL_ofField_8 : decode cL_ofField 8 = .ok (.i2l, 1) := by decide +kernel
theorem dL_ofField_9 : decode cL_ofField 9 = .ok (.lastore, 1) := by decide +kernel
theorem dL_ofField_10 : decode cL_ofField 10 = .ok (.goto 11, 3) := by decide +kernel
theorem dL_ofField_13 : decode cL_ofField 13 = .ok (.astore 4, 2) := by decide +kernel
theorem dL_ofField_15 : decode cL_ofField 15 = .ok (.iconst 1, 1) := by decide +kernel
theorem dL_ofField_16 : decode cL_ofField 16 = .ok (.ireturn, 1) := by decide +kernel
theorem dL_ofField_17 : decode cL_ofField 17 = .ok (.astore 4, 2) := by decide +kernel
theorem dL_ofField_19 : decode cL_ofField 19 = .ok (.iconst 2, 1) := by decide +kernel
theorem dL_ofField_20 : decode cL_ofField 20 = .ok (.ireturn, 1) := by decide +kernel
theorem dL_ofField_21 : decode cL_ofField 21 = .ok (.iconst 0, 1) := by decide +kernel
theorem dL_ofField_22 : decode cL_ofField 22 = .ok (.ireturn, 1) := by decide +kernel
theorem dL_ofOwner_0 : decode cL_ofOwner 0 = .ok (.aload_n 3, 1) := by decide +kernel
theorem dL_ofOwner_1 : decode cL_ofOwner 1 = .ok (.iconst 0, 1) := by decide +kernel
theorem dL_ofOwner_2 : decode cL_ofOwner 2 = .ok (.aload_n 0, 1) := by decide +kernel
theorem dL_ofOwner_3 : decode cL_ofOwner 3 = .ok (.iload_n 1, 1) := by decide +kernel
theorem dL_ofOwner_4 : decode cL_ofOwner 4 = .ok (.iload_n 2, 1) := by decide +kernel
theorem dL_ofOwner_5 : decode cL_ofOwner 5 = .ok (.invokevirtual 69, 3) := by decide +kernel
theorem dL_ofOwner_8 : decode cL_ofOwner 8 = .ok (.i2l, 1) := by decide +kernel
theorem dL_ofOwner_9 : decode cL_ofOwner 9 = .ok (.lastore, 1) := by decide +kernel
theorem dL_ofOwner_10 : decode cL_ofOwner 10 = .ok (.goto 11, 3) := by decide +kernel
theorem dL_ofOwner_13 : decode cL_ofOwner 13 = .ok (.astore 4, 2) := by decide +kernel
theorem dL_ofOwner_15 : decode cL_ofOwner 15 = .ok (.iconst 1, 1) := by decide +kernel
theorem dL_ofOwner_16 : decode cL_ofOwner 16 = .ok (.ireturn, 1) := by decide +kernel
theorem dL_ofOwner_17 : decode cL_ofOwner 17 = .ok (.astore 4, 2) := by decide +kernel
theorem dL_ofOwner_19 : decode cL_ofOwner 19 = .ok (.iconst 2, 1) := by decide +kernel
theorem dL_ofOwner_20 : decode cL_ofOwner 20 = .ok (.ireturn, 1) := by decide +kernel
theorem dL_ofOwner_21 : decode cL_ofOwner 21 = .ok (.iconst 0, 1) := by decide +kernel
theorem dL_ofOwner_22 : decode cL_ofOwner 22 = .ok (.ireturn, 1) := by decide +kernel
theorem dL_ofSociety_0 : decode cL_ofSociety 0 = .ok (.aload_n 3, 1) := by decide +kernel
theorem dL_ofSociety_1 : decode cL_ofSociety 1 = .ok (.iconst 0, 1) := by decide +kernel
theorem dL_ofSociety_2 : decode cL_ofSociety 2 = .ok (.aload_n 0, 1) := by decide +kernel
theorem dL_ofSociety_3 : decode cL_ofSociety 3 = .ok (.iload_n 1, 1) := by decide +kernel
theorem dL_ofSociety_4 : decode cL_ofSociety 4 = .ok (.iload_n 2, 1) := by decide +kernel
theorem dL_ofSociety_5 : decode cL_ofSociety 5 = .ok (.invokevirtual 72, 3) := by decide +kernel
theorem dL_ofSociety_8 : decode cL_ofSociety 8 = .ok (.i2l, 1) := by decide +kernel
theorem dL_ofSociety_9 : decode cL_ofSociety 9 = .ok (.lastore, 1) := by decide +kernel
theorem dL_ofSociety_10 : decode cL_ofSociety 10 = .ok (.goto 11, 3) := by decide +kernel
theorem dL_ofSociety_13 : decode cL_ofSociety 13 = .ok (.astore 4, 2) := by decide +kernel
theorem dL_ofSociety_15 : decode cL_ofSociety 15 = .ok (.iconst 1, 1) := by decide +kernel
theorem dL_ofSociety_16 : decode cL_ofSociety 16 = .ok (.ireturn, 1) := by decide +kernel
theorem dL_ofSociety_17 : decode cL_ofSociety 17 = .ok (.astore 4, 2) := by decide +kernel
theorem dL_ofSociety_19 : decode cL_ofSociety 19 = .ok (.iconst 2, 1) := by decide +kernel
theorem dL_ofSociety_20 : decode cL_ofSociety 20 = .ok (.ireturn, 1) := by decide +kernel
theorem dL_ofSociety_21 : decode cL_ofSociety 21 = .ok (.iconst 0, 1) := by decide +kernel
theorem dL_ofSociety_22 : decode cL_ofSociety 22 = .ok (.ireturn, 1) := by decide +kernel
theorem dL_water_0 : decode cL_water 0 = .ok (.aload_n 2, 1) := by decide +kernel
theorem dL_water_1 : decode cL_water 1 = .ok (.iconst 0, 1) := by decide +kernel
theorem dL_water_2 : decode cL_water 2 = .ok (.aload_n 0, 1) := by decide +kernel
theorem dL_water_3 : decode cL_water 3 = .ok (.iload_n 1, 1) := by decide +kernel
theorem dL_water_4 : decode cL_water 4 = .ok (.invokevirtual 75, 3) := by decide +kernel
theorem dL_water_7 : decode cL_water 7 = .ok (.i2l, 1) := by decide +kernel
theorem dL_water_8 : decode cL_water 8 = .ok (.lastore, 1) := by decide +kernel
theorem dL_water_9 : decode cL_water 9 = .ok (.goto 6, 3) := by decide +kernel
theorem dL_water_12 : decode cL_water 12 = .ok (.astore_n 3, 1) := by decide +kernel
theorem dL_water_13 : decode cL_water 13 = .ok (.iconst 1, 1) := by decide +kernel
theorem dL_water_14 : decode cL_water 14 = .ok (.ireturn, 1) := by decide +kernel
theorem dL_water_15 : decode cL_water 15 = .ok (.iconst 0, 1) := by decide +kernel
theorem dL_water_16 : decode cL_water 16 = .ok (.ireturn, 1) := by decide +kernel
theorem dL_thought_0 : decode cL_thought 0 = .ok (.aload_n 3, 1) := by decide +kernel
theorem dL_thought_1 : decode cL_thought 1 = .ok (.iconst 0, 1) := by decide +kernel
theorem dL_thought_2 : decode cL_thought 2 = .ok (.aload_n 0, 1) := by decide +kernel
theorem dL_thought_3 : decode cL_thought 3 = .ok (.iload_n 1, 1) := by decide +kernel
theorem dL_thought_4 : decode cL_thought 4 = .ok (.iload_n 2, 1) := by decide +kernel
theorem dL_thought_5 : decode cL_thought 5 = .ok (.invokevirtual 78, 3) := by decide +kernel
theorem dL_thought_8 : decode cL_thought 8 = .ok (.i2l, 1) := by decide +kernel
theorem dL_thought_9 : decode cL_thought 9 = .ok (.lastore, 1) := by decide +kernel
theorem dL_thought_10 : decode cL_thought 10 = .ok (.goto 7, 3) := by decide +kernel
theorem dL_thought_13 : decode cL_thought 13 = .ok (.astore 4, 2) := by decide +kernel
theorem dL_thought_15 : decode cL_thought 15 = .ok (.iconst 1, 1) := by decide +kernel
theorem dL_thought_16 : decode cL_thought 16 = .ok (.ireturn, 1) := by decide +kernel
theorem dL_thought_17 : decode cL_thought 17 = .ok (.iconst 0, 1) := by decide +kernel
theorem dL_thought_18 : decode cL_thought 18 = .ok (.ireturn, 1) := by decide +kernel
theorem dL_many_0 : decode cL_many 0 = .ok (.aload_n 2, 1) := by decide +kernel
theorem dL_many_1 : decode cL_many 1 = .ok (.iconst 0, 1) := by decide +kernel
theorem dL_many_2 : decode cL_many 2 = .ok (.aload_n 0, 1) := by decide +kernel
theorem dL_many_3 : decode cL_many 3 = .ok (.iload_n 1, 1) := by decide +kernel
theorem dL_many_4 : decode cL_many 4 = .ok (.invokevirtual 81, 3) := by decide +kernel
theorem dL_many_7 : decode cL_many 7 = .ok (.i2l, 1) := by decide +kernel
theorem dL_many_8 : decode cL_many 8 = .ok (.lastore, 1) := by decide +kernel
theorem dL_many_9 : decode cL_many 9 = .ok (.goto 6, 3) := by decide +kernel
theorem dL_many_12 : decode cL_many 12 = .ok (.astore_n 3, 1) := by decide +kernel
theorem dL_many_13 : decode cL_many 13 = .ok (.iconst 1, 1) := by decide +kernel
theorem dL_many_14 : decode cL_many 14 = .ok (.ireturn, 1) := by decide +kernel
theorem dL_many_15 : decode cL_many 15 = .ok (.iconst 0, 1) := by decide +kernel
theorem dL_many_16 : decode cL_many 16 = .ok (.ireturn, 1) := by decide +kernel
theorem dL_meanDepth_0 : decode cL_meanDepth 0 = .ok (.aload_n 2, 1) := by decide +kernel
theorem dL_meanDepth_1 : decode cL_meanDepth 1 = .ok (.iconst 0, 1) := by decide +kernel
theorem dL_meanDepth_2 : decode cL_meanDepth 2 = .ok (.aload_n 0, 1) := by decide +kernel
theorem dL_meanDepth_3 : decode cL_meanDepth 3 = .ok (.iload_n 1, 1) := by decide +kernel
theorem dL_meanDepth_4 : decode cL_meanDepth 4 = .ok (.invokevirtual 84, 3) := by decide +kernel
theorem dL_meanDepth_7 : decode cL_meanDepth 7 = .ok (.dastore, 1) := by decide +kernel
theorem dL_meanDepth_8 : decode cL_meanDepth 8 = .ok (.goto 6, 3) := by decide +kernel
theorem dL_meanDepth_11 : decode cL_meanDepth 11 = .ok (.astore_n 3, 1) := by decide +kernel
theorem dL_meanDepth_12 : decode cL_meanDepth 12 = .ok (.iconst 1, 1) := by decide +kernel
theorem dL_meanDepth_13 : decode cL_meanDepth 13 = .ok (.ireturn, 1) := by decide +kernel
theorem dL_meanDepth_14 : decode cL_meanDepth 14 = .ok (.iconst 0, 1) := by decide +kernel
theorem dL_meanDepth_15 : decode cL_meanDepth 15 = .ok (.ireturn, 1) := by decide +kernel
theorem dL_suspect_0 : decode cL_suspect 0 = .ok (.aload_n 2, 1) := by decide +kernel
theorem dL_suspect_1 : decode cL_suspect 1 = .ok (.iconst 0, 1) := by decide +kernel
theorem dL_suspect_2 : decode cL_suspect 2 = .ok (.aload_n 0, 1) := by decide +kernel
theorem dL_suspect_3 : decode cL_suspect 3 = .ok (.iload_n 1, 1) := by decide +kernel
theorem dL_suspect_4 : decode cL_suspect 4 = .ok (.invokevirtual 88, 3) := by decide +kernel
theorem dL_suspect_7 : decode cL_suspect 7 = .ok (.i2l, 1) := by decide +kernel
theorem dL_suspect_8 : decode cL_suspect 8 = .ok (.lastore, 1) := by decide +kernel
theorem dL_suspect_9 : decode cL_suspect 9 = .ok (.goto 6, 3) := by decide +kernel
theorem dL_suspect_12 : decode cL_suspect 12 = .ok (.astore_n 3, 1) := by decide +kernel
theorem dL_suspect_13 : decode cL_suspect 13 = .ok (.iconst 1, 1) := by decide +kernel
theorem dL_suspect_14 : decode cL_suspect 14 = .ok (.ireturn, 1) := by decide +kernel
theorem dL_suspect_15 : decode cL_suspect 15 = .ok (.iconst 0, 1) := by decide +kernel
theorem dL_suspect_16 : decode cL_suspect 16 = .ok (.ireturn, 1) := by decide +kernel
theorem dL_wouldYield_0 : decode cL_wouldYield 0 = .ok (.aload_n 3, 1) := by decide +kernel
theorem dL_wouldYield_1 : decode cL_wouldYield 1 = .ok (.iconst 0, 1) := by decide +kernel
theorem dL_wouldYield_2 : decode cL_wouldYield 2 = .ok (.aload_n 0, 1) := by decide +kernel
theorem dL_wouldYield_3 : decode cL_wouldYield 3 = .ok (.iload_n 1, 1) := by decide +kernel
theorem dL_wouldYield_4 : decode cL_wouldYield 4 = .ok (.iload_n 2, 1) := by decide +kernel
theorem dL_wouldYield_5 : decode cL_wouldYield 5 = .ok (.invokevirtual 91, 3) := by decide +kernel
theorem dL_wouldYield_8 : decode cL_wouldYield 8 = .ok (.i2l, 1) := by decide +kernel
theorem dL_wouldYield_9 : decode cL_wouldYield 9 = .ok (.lastore, 1) := by decide +kernel
theorem dL_wouldYield_10 : decode cL_wouldYield 10 = .ok (.goto 11, 3) := by decide +kernel
theorem dL_wouldYield_13 : decode cL_wouldYield 13 = .ok (.astore 4, 2) := by decide +kernel
theorem dL_wouldYield_15 : decode cL_wouldYield 15 = .ok (.iconst 1, 1) := by decide +kernel
theorem dL_wouldYield_16 : decode cL_wouldYield 16 = .ok (.ireturn, 1) := by decide +kernel
theorem dL_wouldYield_17 : decode cL_wouldYield 17 = .ok (.astore 4, 2) := by decide +kernel
theorem dL_wouldYield_19 : decode cL_wouldYield 19 = .ok (.iconst 2, 1) := by decide +kernel
theorem dL_wouldYield_20 : decode cL_wouldYield 20 = .ok (.ireturn, 1) := by decide +kernel
theorem dL_wouldYield_21 : decode cL_wouldYield 21 = .ok (.iconst 0, 1) := by decide +kernel
theorem dL_wouldYield_22 : decode cL_wouldYield 22 = .ok (.ireturn, 1) := by decide +kernel
theorem dL_ripeIn_0 : decode cL_ripeIn 0 = .ok (.aload_n 2, 1) := by decide +kernel
theorem dL_ripeIn_1 : decode cL_ripeIn 1 = .ok (.iconst 0, 1) := by decide +kernel
theorem dL_ripeIn_2 : decode cL_ripeIn 2 = .ok (.aload_n 0, 1) := by decide +kernel
theorem dL_ripeIn_3 : decode cL_ripeIn 3 = .ok (.iload_n 1, 1) := by decide +kernel
theorem dL_ripeIn_4 : decode cL_ripeIn 4 = .ok (.invokevirtual 94, 3) := by decide +kernel
theorem dL_ripeIn_7 : decode cL_ripeIn 7 = .ok (.i2l, 1) := by decide +kernel
theorem dL_ripeIn_8 : decode cL_ripeIn 8 = .ok (.lastore, 1) := by decide +kernel
theorem dL_ripeIn_9 : decode cL_ripeIn 9 = .ok (.goto 6, 3) := by decide +kernel
theorem dL_ripeIn_12 : decode cL_ripeIn 12 = .ok (.astore_n 3, 1) := by decide +kernel
theorem dL_ripeIn_13 : decode cL_ripeIn 13 = .ok (.iconst 1, 1) := by decide +kernel
theorem dL_ripeIn_14 : decode cL_ripeIn 14 = .ok (.ireturn, 1) := by decide +kernel
theorem dL_ripeIn_15 : decode cL_ripeIn 15 = .ok (.iconst 0, 1) := by decide +kernel
theorem dL_ripeIn_16 : decode cL_ripeIn 16 = .ok (.ireturn, 1) := by decide +kernel
theorem dL_plan_0 : decode cL_plan 0 = .ok (.aload_n 3, 1) := by decide +kernel
theorem dL_plan_1 : decode cL_plan 1 = .ok (.iconst 0, 1) := by decide +kernel
theorem dL_plan_2 : decode cL_plan 2 = .ok (.aload_n 0, 1) := by decide +kernel
theorem dL_plan_3 : decode cL_plan 3 = .ok (.iload_n 1, 1) := by decide +kernel
theorem dL_plan_4 : decode cL_plan 4 = .ok (.iload_n 2, 1) := by decide +kernel
theorem dL_plan_5 : decode cL_plan 5 = .ok (.invokevirtual 97, 3) := by decide +kernel
theorem dL_plan_8 : decode cL_plan 8 = .ok (.i2l, 1) := by decide +kernel
theorem dL_plan_9 : decode cL_plan 9 = .ok (.lastore, 1) := by decide +kernel
theorem dL_plan_10 : decode cL_plan 10 = .ok (.goto 7, 3) := by decide +kernel
theorem dL_plan_13 : decode cL_plan 13 = .ok (.astore 4, 2) := by decide +kernel
theorem dL_plan_15 : decode cL_plan 15 = .ok (.iconst 1, 1) := by decide +kernel
theorem dL_plan_16 : decode cL_plan 16 = .ok (.ireturn, 1) := by decide +kernel
theorem dL_plan_17 : decode cL_plan 17 = .ok (.iconst 0, 1) := by decide +kernel
theorem dL_plan_18 : decode cL_plan 18 = .ok (.ireturn, 1) := by decide +kernel
theorem dL_law_0 : decode cL_law 0 = .ok (.new 8, 3) := by decide +kernel
theorem dL_law_3 : decode cL_law 3 = .ok (.dup, 1) := by decide +kernel
theorem dL_law_4 : decode cL_law 4 = .ok (.invokespecial 100, 3) := by decide +kernel
theorem dL_law_7 : decode cL_law 7 = .ok (.astore_n 1, 1) := by decide +kernel
theorem dL_law_8 : decode cL_law 8 = .ok (.new 101, 3) := by decide +kernel
theorem dL_law_11 : decode cL_law 11 = .ok (.dup, 1) := by decide +kernel
theorem dL_law_12 : decode cL_law 12 = .ok (.invokespecial 103, 3) := by decide +kernel
theorem dL_law_15 : decode cL_law 15 = .ok (.astore_n 2, 1) := by decide +kernel
theorem dL_law_16 : decode cL_law 16 = .ok (.iconst 1, 1) := by decide +kernel
theorem dL_law_17 : decode cL_law 17 = .ok (.newarray .long, 2) := by decide +kernel
theorem dL_law_19 : decode cL_law 19 = .ok (.astore_n 3, 1) := by decide +kernel
theorem dL_law_20 : decode cL_law 20 = .ok (.iconst 1, 1) := by decide +kernel
theorem dL_law_21 : decode cL_law 21 = .ok (.newarray .double, 2) := by decide +kernel
theorem dL_law_23 : decode cL_law 23 = .ok (.astore 4, 2) := by decide +kernel
theorem dL_law_25 : decode cL_law 25 = .ok (.iconst 0, 1) := by decide +kernel
theorem dL_law_26 : decode cL_law 26 = .ok (.istore 5, 2) := by decide +kernel
theorem dL_law_28 : decode cL_law 28 = .ok (.iload 5, 2) := by decide +kernel
theorem dL_law_30 : decode cL_law 30 = .ok (.aload_n 0, 1) := by decide +kernel
theorem dL_law_31 : decode cL_law 31 = .ok (.arraylength, 1) := by decide +kernel
theorem dL_law_32 : decode cL_law 32 = .ok (.iconst 5, 1) := by decide +kernel
theorem dL_law_33 : decode cL_law 33 = .ok (.isub, 1) := by decide +kernel
theorem dL_law_34 : decode cL_law 34 = .ok (.if_icmp .gt 1994, 3) := by decide +kernel
theorem dL_law_37 : decode cL_law 37 = .ok (.aload_n 0, 1) := by decide +kernel
theorem dL_law_38 : decode cL_law 38 = .ok (.iload 5, 2) := by decide +kernel
theorem dL_law_40 : decode cL_law 40 = .ok (.iaload, 1) := by decide +kernel
theorem dL_law_41 : decode cL_law 41 = .ok (.bipush 31, 2) := by decide +kernel
theorem dL_law_43 : decode cL_law 43 = .ok (.iand, 1) := by decide +kernel
theorem dL_law_44 : decode cL_law 44 = .ok (.tableswitch 1978 0 27 #[128, 220, 300, 391, 459, 550, 606, 674, 742, 826, 910, 966, 1046, 1102, 1170, 1226, 1294, 1362, 1430, 1486, 1499, 1583, 1639, 1716, 1772, 1840, 1896, 1964], 128) := by decide +kernel
theorem dL_law_172 : decode cL_law 172 = .ok (.aload_n 1, 1) := by decide +kernel
theorem dL_law_173 : decode cL_law 173 = .ok (.aload_n 0, 1) := by decide +kernel
theorem dL_law_174 : decode cL_law 174 = .ok (.iload 5, 2) := by decide +kernel
theorem dL_law_176 : decode cL_law 176 = .ok (.iconst 1, 1) := by decide +kernel
theorem dL_law_177 : decode cL_law 177 = .ok (.iadd, 1) := by decide +kernel
theorem dL_law_178 : decode cL_law 178 = .ok (.iaload, 1) := by decide +kernel
theorem dL_law_179 : decode cL_law 179 = .ok (.aload_n 0, 1) := by decide +kernel
theorem dL_law_180 : decode cL_law 180 = .ok (.iload 5, 2) := by decide +kernel
theorem dL_law_182 : decode cL_law 182 = .ok (.iconst 2, 1) := by decide +kernel
theorem dL_law_183 : decode cL_law 183 = .ok (.iadd, 1) := by decide +kernel
theorem dL_law_184 : decode cL_law 184 = .ok (.iaload, 1) := by decide +kernel
theorem dL_law_185 : decode cL_law 185 = .ok (.aload_n 0, 1) := by decide +kernel
theorem dL_law_186 : decode cL_law 186 = .ok (.iload 5, 2) := by decide +kernel
theorem dL_law_188 : decode cL_law 188 = .ok (.iconst 3, 1) := by decide +kernel
theorem dL_law_189 : decode cL_law 189 = .ok (.iadd, 1) := by decide +kernel
theorem dL_law_190 : decode cL_law 190 = .ok (.iaload, 1) := by decide +kernel
theorem dL_law_191 : decode cL_law 191 = .ok (.aload_n 0, 1) := by decide +kernel
theorem dL_law_192 : decode cL_law 192 = .ok (.iload 5, 2) := by decide +kernel
theorem dL_law_194 : decode cL_law 194 = .ok (.iconst 4, 1) := by decide +kernel
theorem dL_law_195 : decode cL_law 195 = .ok (.iadd, 1) := by decide +kernel
theorem dL_law_196 : decode cL_law 196 = .ok (.iaload, 1) := by decide +kernel
theorem dL_law_197 : decode cL_law 197 = .ok (.aload_n 3, 1) := by decide +kernel
theorem dL_law_198 : decode cL_law 198 = .ok (.invokestatic 104, 3) := by decide +kernel
theorem dL_law_201 : decode cL_law 201 = .ok (.istore 6, 2) := by decide +kernel
theorem dL_law_203 : decode cL_law 203 = .ok (.aload_n 2, 1) := by decide +kernel
theorem dL_law_204 : decode cL_law 204 = .ok (.aload_n 0, 1) := by decide +kernel
theorem dL_law_205 : decode cL_law 205 = .ok (.iload 5, 2) := by decide +kernel
theorem dL_law_207 : decode cL_law 207 = .ok (.iconst 1, 1) := by decide +kernel
theorem dL_law_208 : decode cL_law 208 = .ok (.iadd, 1) := by decide +kernel
theorem dL_law_209 : decode cL_law 209 = .ok (.iaload, 1) := by decide +kernel
theorem dL_law_210 : decode cL_law 210 = .ok (.aload_n 0, 1) := by decide +kernel
theorem dL_law_211 : decode cL_law 211 = .ok (.iload 5, 2) := by decide +kernel
theorem dL_law_213 : decode cL_law 213 = .ok (.iconst 2, 1) := by decide +kernel
theorem dL_law_214 : decode cL_law 214 = .ok (.iadd, 1) := by decide +kernel
theorem dL_law_215 : decode cL_law 215 = .ok (.iaload, 1) := by decide +kernel
theorem dL_law_216 : decode cL_law 216 = .ok (.aload_n 0, 1) := by decide +kernel
theorem dL_law_217 : decode cL_law 217 = .ok (.iload 5, 2) := by decide +kernel
theorem dL_law_219 : decode cL_law 219 = .ok (.iconst 3, 1) := by decide +kernel
theorem dL_law_220 : decode cL_law 220 = .ok (.iadd, 1) := by decide +kernel
theorem dL_law_221 : decode cL_law 221 = .ok (.iaload, 1) := by decide +kernel
theorem dL_law_222 : decode cL_law 222 = .ok (.aload_n 0, 1) := by decide +kernel
theorem dL_law_223 : decode cL_law 223 = .ok (.iload 5, 2) := by decide +kernel
theorem dL_law_225 : decode cL_law 225 = .ok (.iconst 4, 1) := by decide +kernel
theorem dL_law_226 : decode cL_law 226 = .ok (.iadd, 1) := by decide +kernel
theorem dL_law_227 : decode cL_law 227 = .ok (.iaload, 1) := by decide +kernel
theorem dL_law_228 : decode cL_law 228 = .ok (.invokevirtual 109, 3) := by decide +kernel
theorem dL_law_231 : decode cL_law 231 = .ok (.istore 7, 2) := by decide +kernel
theorem dL_law_233 : decode cL_law 233 = .ok (.aload_n 2, 1) := by decide +kernel
theorem dL_law_234 : decode cL_law 234 = .ok (.invokevirtual 110, 3) := by decide +kernel
theorem dL_law_237 : decode cL_law 237 = .ok (.iload 6, 2) := by decide +kernel
theorem dL_law_239 : decode cL_law 239 = .ok (.if_icmp .eq 5, 3) := by decide +kernel
theorem dL_law_242 : decode cL_law 242 = .ok (.iconst 0, 1) := by decide +kernel
theorem dL_law_243 : decode cL_law 243 = .ok (.ireturn, 1) := by decide +kernel
theorem dL_law_244 : decode cL_law 244 = .ok (.iload 6, 2) := by decide +kernel
theorem dL_law_246 : decode cL_law 246 = .ok (.ifCond .ne 15, 3) := by decide +kernel
theorem dL_law_249 : decode cL_law 249 = .ok (.aload_n 3, 1) := by decide +kernel
theorem dL_law_250 : decode cL_law 250 = .ok (.iconst 0, 1) := by decide +kernel
theorem dL_law_251 : decode cL_law 251 = .ok (.laload, 1) := by decide +kernel
theorem dL_law_252 : decode cL_law 252 = .ok (.iload 7, 2) := by decide +kernel
theorem dL_law_254 : decode cL_law 254 = .ok (.i2l, 1) := by decide +kernel
theorem dL_law_255 : decode cL_law 255 = .ok (.lcmp, 1) := by decide +kernel
theorem dL_law_256 : decode cL_law 256 = .ok (.ifCond .eq 5, 3) := by decide +kernel
theorem dL_law_259 : decode cL_law 259 = .ok (.iconst 0, 1) := by decide +kernel
theorem dL_law_260 : decode cL_law 260 = .ok (.ireturn, 1) := by decide +kernel
theorem dL_law_261 : decode cL_law 261 = .ok (.goto 1761, 3) := by decide +kernel
theorem dL_law_264 : decode cL_law 264 = .ok (.aload_n 1, 1) := by decide +kernel
theorem dL_law_265 : decode cL_law 265 = .ok (.aload_n 0, 1) := by decide +kernel
theorem dL_law_266 : decode cL_law 266 = .ok (.iload 5, 2) := by decide +kernel
theorem dL_law_268 : decode cL_law 268 = .ok (.iconst 1, 1) := by decide +kernel
theorem dL_law_269 : decode cL_law 269 = .ok (.iadd, 1) := by decide +kernel
theorem dL_law_270 : decode cL_law 270 = .ok (.iaload, 1) := by decide +kernel
theorem dL_law_271 : decode cL_law 271 = .ok (.aload_n 0, 1) := by decide +kernel
theorem dL_law_272 : decode cL_law 272 = .ok (.iload 5, 2) := by decide +kernel
theorem dL_law_274 : decode cL_law 274 = .ok (.iconst 2, 1) := by decide +kernel
theorem dL_law_275 : decode cL_law 275 = .ok (.iadd, 1) := by decide +kernel
theorem dL_law_276 : decode cL_law 276 = .ok (.iaload, 1) := by decide +kernel
theorem dL_law_277 : decode cL_law 277 = .ok (.aload_n 0, 1) := by decide +kernel
theorem dL_law_278 : decode cL_law 278 = .ok (.iload 5, 2) := by decide +kernel
theorem dL_law_280 : decode cL_law 280 = .ok (.iconst 3, 1) := by decide +kernel
theorem dL_law_281 : decode cL_law 281 = .ok (.iadd, 1) := by decide +kernel
theorem dL_law_282 : decode cL_law 282 = .ok (.iaload, 1) := by decide +kernel
theorem dL_law_283 : decode cL_law 283 = .ok (.aload_n 3, 1) := by decide +kernel
theorem dL_law_284 : decode cL_law 284 = .ok (.invokestatic 114, 3) := by decide +kernel
theorem dL_law_287 : decode cL_law 287 = .ok (.istore 6, 2) := by decide +kernel
theorem dL_law_289 : decode cL_law 289 = .ok (.aload_n 2, 1) := by decide +kernel
theorem dL_law_290 : decode cL_law 290 = .ok (.aload_n 0, 1) := by decide +kernel
theorem dL_law_291 : decode cL_law 291 = .ok (.iload 5, 2) := by decide +kernel
theorem dL_law_293 : decode cL_law 293 = .ok (.iconst 1, 1) := by decide +kernel
theorem dL_law_294 : decode cL_law 294 = .ok (.iadd, 1) := by decide +kernel
theorem dL_law_295 : decode cL_law 295 = .ok (.iaload, 1) := by decide +kernel
theorem dL_law_296 : decode cL_law 296 = .ok (.aload_n 0, 1) := by decide +kernel
theorem dL_law_297 : decode cL_law 297 = .ok (.iload 5, 2) := by decide +kernel
theorem dL_law_299 : decode cL_law 299 = .ok (.iconst 2, 1) := by decide +kernel
theorem dL_law_300 : decode cL_law 300 = .ok (.iadd, 1) := by decide +kernel
theorem dL_law_301 : decode cL_law 301 = .ok (.iaload, 1) := by decide +kernel
theorem dL_law_302 : decode cL_law 302 = .ok (.aload_n 0, 1) := by decide +kernel
theorem dL_law_303 : decode cL_law 303 = .ok (.iload 5, 2) := by decide +kernel
theorem dL_law_305 : decode cL_law 305 = .ok (.iconst 3, 1) := by decide +kernel
theorem dL_law_306 : decode cL_law 306 = .ok (.iadd, 1) := by decide +kernel
theorem dL_law_307 : decode cL_law 307 = .ok (.iaload, 1) := by decide +kernel
theorem dL_law_308 : decode cL_law 308 = .ok (.invokevirtual 117, 3) := by decide +kernel
theorem dL_law_311 : decode cL_law 311 = .ok (.istore 7, 2) := by decide +kernel
theorem dL_law_313 : decode cL_law 313 = .ok (.aload_n 2, 1) := by decide +kernel
theorem dL_law_314 : decode cL_law 314 = .ok (.invokevirtual 110, 3) := by decide +kernel
theorem dL_law_317 : decode cL_law 317 = .ok (.iload 6, 2) := by decide +kernel
theorem dL_law_319 : decode cL_law 319 = .ok (.if_icmp .eq 5, 3) := by decide +kernel
theorem dL_law_322 : decode cL_law 322 = .ok (.iconst 0, 1) := by decide +kernel
theorem dL_law_323 : decode cL_law 323 = .ok (.ireturn, 1) := by decide +kernel
theorem dL_law_324 : decode cL_law 324 = .ok (.iload 6, 2) := by decide +kernel
theorem dL_law_326 : decode cL_law 326 = .ok (.ifCond .ne 15, 3) := by decide +kernel
theorem dL_law_329 : decode cL_law 329 = .ok (.aload_n 3, 1) := by decide +kernel
theorem dL_law_330 : decode cL_law 330 = .ok (.iconst 0, 1) := by decide +kernel
theorem dL_law_331 : decode cL_law 331 = .ok (.laload, 1) := by decide +kernel
theorem dL_law_332 : decode cL_law 332 = .ok (.iload 7, 2) := by decide +kernel
theorem dL_law_334 : decode cL_law 334 = .ok (.i2l, 1) := by decide +kernel
theorem dL_law_335 : decode cL_law 335 = .ok (.lcmp, 1) := by decide +kernel
theorem dL_law_336 : decode cL_law 336 = .ok (.ifCond .eq 5, 3) := by decide +kernel
theorem dL_law_339 : decode cL_law 339 = .ok (.iconst 0, 1) := by decide +kernel
theorem dL_law_340 : decode cL_law 340 = .ok (.ireturn, 1) := by decide +kernel
theorem dL_law_341 : decode cL_law 341 = .ok (.goto 1681, 3) := by decide +kernel
theorem dL_law_344 : decode cL_law 344 = .ok (.aload_n 1, 1) := by decide +kernel
theorem dL_law_345 : decode cL_law 345 = .ok (.aload_n 0, 1) := by decide +kernel
theorem dL_law_346 : decode cL_law 346 = .ok (.iload 5, 2) := by decide +kernel
theorem dL_law_348 : decode cL_law 348 = .ok (.iconst 1, 1) := by decide +kernel
theorem dL_law_349 : decode cL_law 349 = .ok (.iadd, 1) := by decide +kernel
theorem dL_law_350 : decode cL_law 350 = .ok (.iaload, 1) := by decide +kernel
theorem dL_law_351 : decode cL_law 351 = .ok (.aload_n 0, 1) := by decide +kernel
theorem dL_law_352 : decode cL_law 352 = .ok (.iload 5, 2) := by decide +kernel
theorem dL_law_354 : decode cL_law 354 = .ok (.iconst 2, 1) := by decide +kernel
theorem dL_law_355 : decode cL_law 355 = .ok (.iadd, 1) := by decide +kernel
theorem dL_law_356 : decode cL_law 356 = .ok (.iaload, 1) := by decide +kernel
theorem dL_law_357 : decode cL_law 357 = .ok (.ifCond .eq 7, 3) := by decide +kernel
theorem dL_law_360 : decode cL_law 360 = .ok (.iconst 1, 1) := by decide +kernel
theorem dL_law_361 : decode cL_law 361 = .ok (.goto 4, 3) := by decide +kernel
theorem dL_law_364 : decode cL_law 364 = .ok (.iconst 0, 1) := by decide +kernel
theorem dL_law_365 : decode cL_law 365 = .ok (.aload_n 3, 1) := by decide +kernel
theorem dL_law_366 : decode cL_law 366 = .ok (.invokestatic 118, 3) := by decide +kernel
theorem dL_law_369 : decode cL_law 369 = .ok (.istore 6, 2) := by decide +kernel
theorem dL_law_371 : decode cL_law 371 = .ok (.aload_n 2, 1) := by decide +kernel
theorem dL_law_372 : decode cL_law 372 = .ok (.aload_n 0, 1) := by decide +kernel
theorem dL_law_373 : decode cL_law 373 = .ok (.iload 5, 2) := by decide +kernel
theorem dL_law_375 : decode cL_law 375 = .ok (.iconst 1, 1) := by decide +kernel
theorem dL_law_376 : decode cL_law 376 = .ok (.iadd, 1) := by decide +kernel
theorem dL_law_377 : decode cL_law 377 = .ok (.iaload, 1) := by decide +kernel
theorem dL_law_378 : decode cL_law 378 = .ok (.aload_n 0, 1) := by decide +kernel
theorem dL_law_379 : decode cL_law 379 = .ok (.iload 5, 2) := by decide +kernel
theorem dL_law_381 : decode cL_law 381 = .ok (.iconst 2, 1) := by decide +kernel
theorem dL_law_382 : decode cL_law 382 = .ok (.iadd, 1) := by decide +kernel
theorem dL_law_383 : decode cL_law 383 = .ok (.iaload, 1) := by decide +kernel
theorem dL_law_384 : decode cL_law 384 = .ok (.ifCond .eq 7, 3) := by decide +kernel
theorem dL_law_387 : decode cL_law 387 = .ok (.iconst 1, 1) := by decide +kernel
theorem dL_law_388 : decode cL_law 388 = .ok (.goto 4, 3) := by decide +kernel
theorem dL_law_391 : decode cL_law 391 = .ok (.iconst 0, 1) := by decide +kernel
theorem dL_law_392 : decode cL_law 392 = .ok (.invokevirtual 121, 3) := by decide +kernel
theorem dL_law_395 : decode cL_law 395 = .ok (.istore 7, 2) := by decide +kernel
theorem dL_law_397 : decode cL_law 397 = .ok (.aload_n 2, 1) := by decide +kernel
theorem dL_law_398 : decode cL_law 398 = .ok (.invokevirtual 110, 3) := by decide +kernel
theorem dL_law_401 : decode cL_law 401 = .ok (.iload 6, 2) := by decide +kernel
theorem dL_law_403 : decode cL_law 403 = .ok (.if_icmp .eq 5, 3) := by decide +kernel
theorem dL_law_406 : decode cL_law 406 = .ok (.iconst 0, 1) := by decide +kernel
theorem dL_law_407 : decode cL_law 407 = .ok (.ireturn, 1) := by decide +kernel
theorem dL_law_408 : decode cL_law 408 = .ok (.iload 6, 2) := by decide +kernel
theorem dL_law_410 : decode cL_law 410 = .ok (.ifCond .ne 22, 3) := by decide +kernel
theorem dL_law_413 : decode cL_law 413 = .ok (.aload_n 3, 1) := by decide +kernel
theorem dL_law_414 : decode cL_law 414 = .ok (.iconst 0, 1) := by decide +kernel
theorem dL_law_415 : decode cL_law 415 = .ok (.laload, 1) := by decide +kernel
theorem dL_law_416 : decode cL_law 416 = .ok (.iload 7, 2) := by decide +kernel
theorem dL_law_418 : decode cL_law 418 = .ok (.ifCond .eq 7, 3) := by decide +kernel
theorem dL_law_421 : decode cL_law 421 = .ok (.lconst 1, 1) := by decide +kernel
theorem dL_law_422 : decode cL_law 422 = .ok (.goto 4, 3) := by decide +kernel
theorem dL_law_425 : decode cL_law 425 = .ok (.lconst 0, 1) := by decide +kernel
theorem dL_law_426 : decode cL_law 426 = .ok (.lcmp, 1) := by decide +kernel
theorem dL_law_427 : decode cL_law 427 = .ok (.ifCond .eq 5, 3) := by decide +kernel
theorem dL_law_430 : decode cL_law 430 = .ok (.iconst 0, 1) := by decide +kernel
theorem dL_law_431 : decode cL_law 431 = .ok (.ireturn, 1) := by decide +kernel
theorem dL_law_432 : decode cL_law 432 = .ok (.goto 1590, 3) := by decide +kernel
theorem dL_law_435 : decode cL_law 435 = .ok (.aload_n 1, 1) := by decide +kernel
theorem dL_law_436 : decode cL_law 436 = .ok (.aload_n 0, 1) := by decide +kernel
theorem dL_law_437 : decode cL_law 437 = .ok (.iload 5, 2) := by decide +kernel
theorem dL_law_439 : decode cL_law 439 = .ok (.iconst 1, 1) := by decide +kernel
theorem dL_law_440 : decode cL_law 440 = .ok (.iadd, 1) := by decide +kernel
theorem dL_law_441 : decode cL_law 441 = .ok (.iaload, 1) := by decide +kernel
theorem dL_law_442 : decode cL_law 442 = .ok (.aload_n 0, 1) := by decide +kernel
theorem dL_law_443 : decode cL_law 443 = .ok (.iload 5, 2) := by decide +kernel
theorem dL_law_445 : decode cL_law 445 = .ok (.iconst 2, 1) := by decide +kernel
theorem dL_law_446 : decode cL_law 446 = .ok (.iadd, 1) := by decide +kernel
theorem dL_law_447 : decode cL_law 447 = .ok (.iaload, 1) := by decide +kernel
theorem dL_law_448 : decode cL_law 448 = .ok (.aload_n 3, 1) := by decide +kernel
theorem dL_law_449 : decode cL_law 449 = .ok (.invokestatic 122, 3) := by decide +kernel
theorem dL_law_452 : decode cL_law 452 = .ok (.istore 6, 2) := by decide +kernel
theorem dL_law_454 : decode cL_law 454 = .ok (.aload_n 2, 1) := by decide +kernel
theorem dL_law_455 : decode cL_law 455 = .ok (.aload_n 0, 1) := by decide +kernel
theorem dL_law_456 : decode cL_law 456 = .ok (.iload 5, 2) := by decide +kernel
theorem dL_law_458 : decode cL_law 458 = .ok (.iconst 1, 1) := by decide +kernel
theorem dL_law_459 : decode cL_law 459 = .ok (.iadd, 1) := by decide +kernel
theorem dL_law_460 : decode cL_law 460 = .ok (.iaload, 1) := by decide +kernel
theorem dL_law_461 : decode cL_law 461 = .ok (.aload_n 0, 1) := by decide +kernel
theorem dL_law_462 : decode cL_law 462 = .ok (.iload 5, 2) := by decide +kernel
theorem dL_law_464 : decode cL_law 464 = .ok (.iconst 2, 1) := by decide +kernel
theorem dL_law_465 : decode cL_law 465 = .ok (.iadd, 1) := by decide +kernel
theorem dL_law_466 : decode cL_law 466 = .ok (.iaload, 1) := by decide +kernel
theorem dL_law_467 : decode cL_law 467 = .ok (.invokevirtual 125, 3) := by decide +kernel
theorem dL_law_470 : decode cL_law 470 = .ok (.istore 7, 2) := by decide +kernel
theorem dL_law_472 : decode cL_law 472 = .ok (.aload_n 2, 1) := by decide +kernel
theorem dL_law_473 : decode cL_law 473 = .ok (.invokevirtual 110, 3) := by decide +kernel
theorem dL_law_476 : decode cL_law 476 = .ok (.iload 6, 2) := by decide +kernel
theorem dL_law_478 : decode cL_law 478 = .ok (.if_icmp .eq 5, 3) := by decide +kernel
theorem dL_law_481 : decode cL_law 481 = .ok (.iconst 0, 1) := by decide +kernel
theorem dL_law_482 : decode cL_law 482 = .ok (.ireturn, 1) := by decide +kernel
theorem dL_law_483 : decode cL_law 483 = .ok (.iload 6, 2) := by decide +kernel
theorem dL_law_485 : decode cL_law 485 = .ok (.ifCond .ne 15, 3) := by decide +kernel
theorem dL_law_488 : decode cL_law 488 = .ok (.aload_n 3, 1) := by decide +kernel
theorem dL_law_489 : decode cL_law 489 = .ok (.iconst 0, 1) := by decide +kernel
theorem dL_law_490 : decode cL_law 490 = .ok (.laload, 1) := by decide +kernel
theorem dL_law_491 : decode cL_law 491 = .ok (.iload 7, 2) := by decide +kernel
theorem dL_law_493 : decode cL_law 493 = .ok (.i2l, 1) := by decide +kernel
theorem dL_law_494 : decode cL_law 494 = .ok (.lcmp, 1) := by decide +kernel
theorem dL_law_495 : decode cL_law 495 = .ok (.ifCond .eq 5, 3) := by decide +kernel
theorem dL_law_498 : decode cL_law 498 = .ok (.iconst 0, 1) := by decide +kernel
theorem dL_law_499 : decode cL_law 499 = .ok (.ireturn, 1) := by decide +kernel
theorem dL_law_500 : decode cL_law 500 = .ok (.goto 1522, 3) := by decide +kernel
theorem dL_law_503 : decode cL_law 503 = .ok (.aload_n 1, 1) := by decide +kernel
theorem dL_law_504 : decode cL_law 504 = .ok (.aload_n 0, 1) := by decide +kernel
theorem dL_law_505 : decode cL_law 505 = .ok (.iload 5, 2) := by decide +kernel
theorem dL_law_507 : decode cL_law 507 = .ok (.iconst 1, 1) := by decide +kernel
theorem dL_law_508 : decode cL_law 508 = .ok (.iadd, 1) := by decide +kernel
theorem dL_law_509 : decode cL_law 509 = .ok (.iaload, 1) := by decide +kernel
theorem dL_law_510 : decode cL_law 510 = .ok (.aload_n 0, 1) := by decide +kernel
theorem dL_law_511 : decode cL_law 511 = .ok (.iload 5, 2) := by decide +kernel
theorem dL_law_513 : decode cL_law 513 = .ok (.iconst 2, 1) := by decide +kernel
theorem dL_law_514 : decode cL_law 514 = .ok (.iadd, 1) := by decide +kernel
theorem dL_law_515 : decode cL_law 515 = .ok (.iaload, 1) := by decide +kernel
theorem dL_law_516 : decode cL_law 516 = .ok (.ifCond .eq 7, 3) := by decide +kernel
theorem dL_law_519 : decode cL_law 519 = .ok (.iconst 1, 1) := by decide +kernel
theorem dL_law_520 : decode cL_law 520 = .ok (.goto 4, 3) := by decide +kernel
theorem dL_law_523 : decode cL_law 523 = .ok (.iconst 0, 1) := by decide +kernel
theorem dL_law_524 : decode cL_law 524 = .ok (.aload_n 3, 1) := by decide +kernel
theorem dL_law_525 : decode cL_law 525 = .ok (.invokestatic 126, 3) := by decide +kernel
theorem dL_law_528 : decode cL_law 528 = .ok (.istore 6, 2) := by decide +kernel
theorem dL_law_530 : decode cL_law 530 = .ok (.aload_n 2, 1) := by decide +kernel
theorem dL_law_531 : decode cL_law 531 = .ok (.aload_n 0, 1) := by decide +kernel
theorem dL_law_532 : decode cL_law 532 = .ok (.iload 5, 2) := by decide +kernel
theorem dL_law_534 : decode cL_law 534 = .ok (.iconst 1, 1) := by decide +kernel
theorem dL_law_535 : decode cL_law 535 = .ok (.iadd, 1) := by decide +kernel
theorem dL_law_536 : decode cL_law 536 = .ok (.iaload, 1) := by decide +kernel
theorem dL_law_537 : decode cL_law 537 = .ok (.aload_n 0, 1) := by decide +kernel
theorem dL_law_538 : decode cL_law 538 = .ok (.iload 5, 2) := by decide +kernel
theorem dL_law_540 : decode cL_law 540 = .ok (.iconst 2, 1) := by decide +kernel
theorem dL_law_541 : decode cL_law 541 = .ok (.iadd, 1) := by decide +kernel
theorem dL_law_542 : decode cL_law 542 = .ok (.iaload, 1) := by decide +kernel
theorem dL_law_543 : decode cL_law 543 = .ok (.ifCond .eq 7, 3) := by decide +kernel
theorem dL_law_546 : decode cL_law 546 = .ok (.iconst 1, 1) := by decide +kernel
theorem dL_law_547 : decode cL_law 547 = .ok (.goto 4, 3) := by decide +kernel
theorem dL_law_550 : decode cL_law 550 = .ok (.iconst 0, 1) := by decide +kernel
theorem dL_law_551 : decode cL_law 551 = .ok (.invokevirtual 128, 3) := by decide +kernel
theorem dL_law_554 : decode cL_law 554 = .ok (.istore 7, 2) := by decide +kernel
theorem dL_law_556 : decode cL_law 556 = .ok (.aload_n 2, 1) := by decide +kernel
theorem dL_law_557 : decode cL_law 557 = .ok (.invokevirtual 110, 3) := by decide +kernel
theorem dL_law_560 : decode cL_law 560 = .ok (.iload 6, 2) := by decide +kernel
theorem dL_law_562 : decode cL_law 562 = .ok (.if_icmp .eq 5, 3) := by decide +kernel
theorem dL_law_565 : decode cL_law 565 = .ok (.iconst 0, 1) := by decide +kernel
theorem dL_law_566 : decode cL_law 566 = .ok (.ireturn, 1) := by decide +kernel
theorem dL_law_567 : decode cL_law 567 = .ok (.iload 6, 2) := by decide +kernel
theorem dL_law_569 : decode cL_law 569 = .ok (.ifCond .ne 22, 3) := by decide +kernel
theorem dL_law_572 : decode cL_law 572 = .ok (.aload_n 3, 1) := by decide +kernel
theorem dL_law_573 : decode cL_law 573 = .ok (.iconst 0, 1) := by decide +kernel
theorem dL_law_574 : decode cL_law 574 = .ok (.laload, 1) := by decide +kernel
theorem dL_law_575 : decode cL_law 575 = .ok (.iload 7, 2) := by decide +kernel
theorem dL_law_577 : decode cL_law 577 = .ok (.ifCond .eq 7, 3) := by decide +kernel
theorem dL_law_580 : decode cL_law 580 = .ok (.lconst 1, 1) := by decide +kernel
theorem dL_law_581 : decode cL_law 581 = .ok (.goto 4, 3) := by decide +kernel
theorem dL_law_584 : decode cL_law 584 = .ok (.lconst 0, 1) := by decide +kernel
theorem dL_law_585 : decode cL_law 585 = .ok (.lcmp, 1) := by decide +kernel
theorem dL_law_586 : decode cL_law 586 = .ok (.ifCond .eq 5, 3) := by decide +kernel
theorem dL_law_589 : decode cL_law 589 = .ok (.iconst 0, 1) := by decide +kernel
theorem dL_law_590 : decode cL_law 590 = .ok (.ireturn, 1) := by decide +kernel
theorem dL_law_591 : decode cL_law 591 = .ok (.goto 1431, 3) := by decide +kernel
theorem dL_law_594 : decode cL_law 594 = .ok (.aload_n 1, 1) := by decide +kernel
theorem dL_law_595 : decode cL_law 595 = .ok (.aload_n 0, 1) := by decide +kernel
theorem dL_law_596 : decode cL_law 596 = .ok (.iload 5, 2) := by decide +kernel
theorem dL_law_598 : decode cL_law 598 = .ok (.iconst 1, 1) := by decide +kernel
theorem dL_law_599 : decode cL_law 599 = .ok (.iadd, 1) := by decide +kernel
theorem dL_law_600 : decode cL_law 600 = .ok (.iaload, 1) := by decide +kernel
theorem dL_law_601 : decode cL_law 601 = .ok (.aload_n 3, 1) := by decide +kernel
theorem dL_law_602 : decode cL_law 602 = .ok (.invokestatic 129, 3) := by decide +kernel
theorem dL_law_605 : decode cL_law 605 = .ok (.istore 6, 2) := by decide +kernel
theorem dL_law_607 : decode cL_law 607 = .ok (.aload_n 2, 1) := by decide +kernel
theorem dL_law_608 : decode cL_law 608 = .ok (.aload_n 0, 1) := by decide +kernel
theorem dL_law_609 : decode cL_law 609 = .ok (.iload 5, 2) := by decide +kernel
theorem dL_law_611 : decode cL_law 611 = .ok (.iconst 1, 1) := by decide +kernel
theorem dL_law_612 : decode cL_law 612 = .ok (.iadd, 1) := by decide +kernel
theorem dL_law_613 : decode cL_law 613 = .ok (.iaload, 1) := by decide +kernel
theorem dL_law_614 : decode cL_law 614 = .ok (.invokevirtual 132, 3) := by decide +kernel
theorem dL_law_617 : decode cL_law 617 = .ok (.istore 7, 2) := by decide +kernel
theorem dL_law_619 : decode cL_law 619 = .ok (.aload_n 2, 1) := by decide +kernel
theorem dL_law_620 : decode cL_law 620 = .ok (.invokevirtual 110, 3) := by decide +kernel
theorem dL_law_623 : decode cL_law 623 = .ok (.iload 6, 2) := by decide +kernel
theorem dL_law_625 : decode cL_law 625 = .ok (.if_icmp .eq 5, 3) := by decide +kernel
theorem dL_law_628 : decode cL_law 628 = .ok (.iconst 0, 1) := by decide +kernel
theorem dL_law_629 : decode cL_law 629 = .ok (.ireturn, 1) := by decide +kernel
theorem dL_law_630 : decode cL_law 630 = .ok (.iload 6, 2) := by decide +kernel
theorem dL_law_632 : decode cL_law 632 = .ok (.ifCond .ne 15, 3) := by decide +kernel
theorem dL_law_635 : decode cL_law 635 = .ok (.aload_n 3, 1) := by decide +kernel
theorem dL_law_636 : decode cL_law 636 = .ok (.iconst 0, 1) := by decide +kernel
theorem dL_law_637 : decode cL_law 637 = .ok (.laload, 1) := by decide +kernel
theorem dL_law_638 : decode cL_law 638 = .ok (.iload 7, 2) := by decide +kernel
theorem dL_law_640 : decode cL_law 640 = .ok (.i2l, 1) := by decide +kernel
theorem dL_law_641 : decode cL_law 641 = .ok (.lcmp, 1) := by decide +kernel
theorem dL_law_642 : decode cL_law 642 = .ok (.ifCond .eq 5, 3) := by decide +kernel
theorem dL_law_645 : decode cL_law 645 = .ok (.iconst 0, 1) := by decide +kernel
theorem dL_law_646 : decode cL_law 646 = .ok (.ireturn, 1) := by decide +kernel
theorem dL_law_647 : decode cL_law 647 = .ok (.goto 1375, 3) := by decide +kernel
theorem dL_law_650 : decode cL_law 650 = .ok (.aload_n 1, 1) := by decide +kernel
theorem dL_law_651 : decode cL_law 651 = .ok (.aload_n 0, 1) := by decide +kernel
theorem dL_law_652 : decode cL_law 652 = .ok (.iload 5, 2) := by decide +kernel
theorem dL_law_654 : decode cL_law 654 = .ok (.iconst 1, 1) := by decide +kernel
theorem dL_law_655 : decode cL_law 655 = .ok (.iadd, 1) := by decide +kernel
theorem dL_law_656 : decode cL_law 656 = .ok (.iaload, 1) := by decide +kernel
theorem dL_law_657 : decode cL_law 657 = .ok (.aload_n 0, 1) := by decide +kernel
theorem dL_law_658 : decode cL_law 658 = .ok (.iload 5, 2) := by decide +kernel
theorem dL_law_660 : decode cL_law 660 = .ok (.iconst 2, 1) := by decide +kernel
theorem dL_law_661 : decode cL_law 661 = .ok (.iadd, 1) := by decide +kernel
theorem dL_law_662 : decode cL_law 662 = .ok (.iaload, 1) := by decide +kernel
theorem dL_law_663 : decode cL_law 663 = .ok (.aload_n 3, 1) := by decide +kernel
theorem dL_law_664 : decode cL_law 664 = .ok (.invokestatic 133, 3) := by decide +kernel
theorem dL_law_667 : decode cL_law 667 = .ok (.istore 6, 2) := by decide +kernel
theorem dL_law_669 : decode cL_law 669 = .ok (.aload_n 2, 1) := by decide +kernel
theorem dL_law_670 : decode cL_law 670 = .ok (.aload_n 0, 1) := by decide +kernel
theorem dL_law_671 : decode cL_law 671 = .ok (.iload 5, 2) := by decide +kernel
theorem dL_law_673 : decode cL_law 673 = .ok (.iconst 1, 1) := by decide +kernel
theorem dL_law_674 : decode cL_law 674 = .ok (.iadd, 1) := by decide +kernel
theorem dL_law_675 : decode cL_law 675 = .ok (.iaload, 1) := by decide +kernel
theorem dL_law_676 : decode cL_law 676 = .ok (.aload_n 0, 1) := by decide +kernel
theorem dL_law_677 : decode cL_law 677 = .ok (.iload 5, 2) := by decide +kernel
theorem dL_law_679 : decode cL_law 679 = .ok (.iconst 2, 1) := by decide +kernel
theorem dL_law_680 : decode cL_law 680 = .ok (.iadd, 1) := by decide +kernel
theorem dL_law_681 : decode cL_law 681 = .ok (.iaload, 1) := by decide +kernel
theorem dL_law_682 : decode cL_law 682 = .ok (.invokevirtual 135, 3) := by decide +kernel
theorem dL_law_685 : decode cL_law 685 = .ok (.istore 7, 2) := by decide +kernel
theorem dL_law_687 : decode cL_law 687 = .ok (.aload_n 2, 1) := by decide +kernel
theorem dL_law_688 : decode cL_law 688 = .ok (.invokevirtual 110, 3) := by decide +kernel
theorem dL_law_691 : decode cL_law 691 = .ok (.iload 6, 2) := by decide +kernel
theorem dL_law_693 : decode cL_law 693 = .ok (.if_icmp .eq 5, 3) := by decide +kernel
theorem dL_law_696 : decode cL_law 696 = .ok (.iconst 0, 1) := by decide +kernel
theorem dL_law_697 : decode cL_law 697 = .ok (.ireturn, 1) := by decide +kernel
theorem dL_law_698 : decode cL_law 698 = .ok (.iload 6, 2) := by decide +kernel
theorem dL_law_700 : decode cL_law 700 = .ok (.ifCond .ne 15, 3) := by decide +kernel
theorem dL_law_703 : decode cL_law 703 = .ok (.aload_n 3, 1) := by decide +kernel
theorem dL_law_704 : decode cL_law 704 = .ok (.iconst 0, 1) := by decide +kernel
theorem dL_law_705 : decode cL_law 705 = .ok (.laload, 1) := by decide +kernel
theorem dL_law_706 : decode cL_law 706 = .ok (.iload 7, 2) := by decide +kernel
theorem dL_law_708 : decode cL_law 708 = .ok (.i2l, 1) := by decide +kernel
theorem dL_law_709 : decode cL_law 709 = .ok (.lcmp, 1) := by decide +kernel
theorem dL_law_710 : decode cL_law 710 = .ok (.ifCond .eq 5, 3) := by decide +kernel
theorem dL_law_713 : decode cL_law 713 = .ok (.iconst 0, 1) := by decide +kernel
theorem dL_law_714 : decode cL_law 714 = .ok (.ireturn, 1) := by decide +kernel
theorem dL_law_715 : decode cL_law 715 = .ok (.goto 1307, 3) := by decide +kernel
theorem dL_law_718 : decode cL_law 718 = .ok (.aload_n 1, 1) := by decide +kernel
theorem dL_law_719 : decode cL_law 719 = .ok (.aload_n 0, 1) := by decide +kernel
theorem dL_law_720 : decode cL_law 720 = .ok (.iload 5, 2) := by decide +kernel
theorem dL_law_722 : decode cL_law 722 = .ok (.iconst 1, 1) := by decide +kernel
theorem dL_law_723 : decode cL_law 723 = .ok (.iadd, 1) := by decide +kernel
theorem dL_law_724 : decode cL_law 724 = .ok (.iaload, 1) := by decide +kernel
theorem dL_law_725 : decode cL_law 725 = .ok (.aload_n 0, 1) := by decide +kernel
theorem dL_law_726 : decode cL_law 726 = .ok (.iload 5, 2) := by decide +kernel
theorem dL_law_728 : decode cL_law 728 = .ok (.iconst 2, 1) := by decide +kernel
theorem dL_law_729 : decode cL_law 729 = .ok (.iadd, 1) := by decide +kernel
theorem dL_law_730 : decode cL_law 730 = .ok (.iaload, 1) := by decide +kernel
theorem dL_law_731 : decode cL_law 731 = .ok (.aload_n 3, 1) := by decide +kernel
theorem dL_law_732 : decode cL_law 732 = .ok (.invokestatic 136, 3) := by decide +kernel
theorem dL_law_735 : decode cL_law 735 = .ok (.istore 6, 2) := by decide +kernel
theorem dL_law_737 : decode cL_law 737 = .ok (.aload_n 2, 1) := by decide +kernel
theorem dL_law_738 : decode cL_law 738 = .ok (.aload_n 0, 1) := by decide +kernel
theorem dL_law_739 : decode cL_law 739 = .ok (.iload 5, 2) := by decide +kernel
theorem dL_law_741 : decode cL_law 741 = .ok (.iconst 1, 1) := by decide +kernel
theorem dL_law_742 : decode cL_law 742 = .ok (.iadd, 1) := by decide +kernel
theorem dL_law_743 : decode cL_law 743 = .ok (.iaload, 1) := by decide +kernel
theorem dL_law_744 : decode cL_law 744 = .ok (.aload_n 0, 1) := by decide +kernel
theorem dL_law_745 : decode cL_law 745 = .ok (.iload 5, 2) := by decide +kernel
theorem dL_law_747 : decode cL_law 747 = .ok (.iconst 2, 1) := by decide +kernel
theorem dL_law_748 : decode cL_law 748 = .ok (.iadd, 1) := by decide +kernel
theorem dL_law_749 : decode cL_law 749 = .ok (.iaload, 1) := by decide +kernel
theorem dL_law_750 : decode cL_law 750 = .ok (.invokevirtual 138, 3) := by decide +kernel
theorem dL_law_753 : decode cL_law 753 = .ok (.istore 7, 2) := by decide +kernel
theorem dL_law_755 : decode cL_law 755 = .ok (.aload_n 2, 1) := by decide +kernel
theorem dL_law_756 : decode cL_law 756 = .ok (.invokevirtual 110, 3) := by decide +kernel
theorem dL_law_759 : decode cL_law 759 = .ok (.iload 6, 2) := by decide +kernel
theorem dL_law_761 : decode cL_law 761 = .ok (.if_icmp .eq 5, 3) := by decide +kernel
theorem dL_law_764 : decode cL_law 764 = .ok (.iconst 0, 1) := by decide +kernel
theorem dL_law_765 : decode cL_law 765 = .ok (.ireturn, 1) := by decide +kernel
theorem dL_law_766 : decode cL_law 766 = .ok (.iload 6, 2) := by decide +kernel
theorem dL_law_768 : decode cL_law 768 = .ok (.ifCond .ne 15, 3) := by decide +kernel
theorem dL_law_771 : decode cL_law 771 = .ok (.aload_n 3, 1) := by decide +kernel
theorem dL_law_772 : decode cL_law 772 = .ok (.iconst 0, 1) := by decide +kernel
theorem dL_law_773 : decode cL_law 773 = .ok (.laload, 1) := by decide +kernel
theorem dL_law_774 : decode cL_law 774 = .ok (.iload 7, 2) := by decide +kernel
theorem dL_law_776 : decode cL_law 776 = .ok (.i2l, 1) := by decide +kernel
theorem dL_law_777 : decode cL_law 777 = .ok (.lcmp, 1) := by decide +kernel
theorem dL_law_778 : decode cL_law 778 = .ok (.ifCond .eq 5, 3) := by decide +kernel
theorem dL_law_781 : decode cL_law 781 = .ok (.iconst 0, 1) := by decide +kernel
theorem dL_law_782 : decode cL_law 782 = .ok (.ireturn, 1) := by decide +kernel
theorem dL_law_783 : decode cL_law 783 = .ok (.goto 1239, 3) := by decide +kernel
theorem dL_law_786 : decode cL_law 786 = .ok (.aload_n 1, 1) := by decide +kernel
theorem dL_law_787 : decode cL_law 787 = .ok (.aload_n 0, 1) := by decide +kernel
theorem dL_law_788 : decode cL_law 788 = .ok (.iload 5, 2) := by decide +kernel
theorem dL_law_790 : decode cL_law 790 = .ok (.iconst 1, 1) := by decide +kernel
theorem dL_law_791 : decode cL_law 791 = .ok (.iadd, 1) := by decide +kernel
theorem dL_law_792 : decode cL_law 792 = .ok (.iaload, 1) := by decide +kernel
theorem dL_law_793 : decode cL_law 793 = .ok (.aload_n 0, 1) := by decide +kernel
theorem dL_law_794 : decode cL_law 794 = .ok (.iload 5, 2) := by decide +kernel
theorem dL_law_796 : decode cL_law 796 = .ok (.iconst 2, 1) := by decide +kernel
theorem dL_law_797 : decode cL_law 797 = .ok (.iadd, 1) := by decide +kernel
theorem dL_law_798 : decode cL_law 798 = .ok (.iaload, 1) := by decide +kernel
theorem dL_law_799 : decode cL_law 799 = .ok (.ifCond .eq 7, 3) := by decide +kernel
theorem dL_law_802 : decode cL_law 802 = .ok (.iconst 1, 1) := by decide +kernel
theorem dL_law_803 : decode cL_law 803 = .ok (.goto 4, 3) := by decide +kernel
theorem dL_law_806 : decode cL_law 806 = .ok (.iconst 0, 1) := by decide +kernel
theorem dL_law_807 : decode cL_law 807 = .ok (.aload_n 3, 1) := by decide +kernel
theorem dL_law_808 : decode cL_law 808 = .ok (.invokestatic 139, 3) := by decide +kernel
theorem dL_law_811 : decode cL_law 811 = .ok (.istore 6, 2) := by decide +kernel
theorem dL_law_813 : decode cL_law 813 = .ok (.aload_n 2, 1) := by decide +kernel
theorem dL_law_814 : decode cL_law 814 = .ok (.aload_n 0, 1) := by decide +kernel
theorem dL_law_815 : decode cL_law 815 = .ok (.iload 5, 2) := by decide +kernel
theorem dL_law_817 : decode cL_law 817 = .ok (.iconst 1, 1) := by decide +kernel
theorem dL_law_818 : decode cL_law 818 = .ok (.iadd, 1) := by decide +kernel
theorem dL_law_819 : decode cL_law 819 = .ok (.iaload, 1) := by decide +kernel
theorem dL_law_820 : decode cL_law 820 = .ok (.aload_n 0, 1) := by decide +kernel
theorem dL_law_821 : decode cL_law 821 = .ok (.iload 5, 2) := by decide +kernel
theorem dL_law_823 : decode cL_law 823 = .ok (.iconst 2, 1) := by decide +kernel
theorem dL_law_824 : decode cL_law 824 = .ok (.iadd, 1) := by decide +kernel
theorem dL_law_825 : decode cL_law 825 = .ok (.iaload, 1) := by decide +kernel
theorem dL_law_826 : decode cL_law 826 = .ok (.ifCond .eq 7, 3) := by decide +kernel
theorem dL_law_829 : decode cL_law 829 = .ok (.iconst 1, 1) := by decide +kernel
theorem dL_law_830 : decode cL_law 830 = .ok (.goto 4, 3) := by decide +kernel
theorem dL_law_833 : decode cL_law 833 = .ok (.iconst 0, 1) := by decide +kernel
theorem dL_law_834 : decode cL_law 834 = .ok (.invokevirtual 141, 3) := by decide +kernel
theorem dL_law_837 : decode cL_law 837 = .ok (.istore 7, 2) := by decide +kernel
theorem dL_law_839 : decode cL_law 839 = .ok (.aload_n 2, 1) := by decide +kernel
theorem dL_law_840 : decode cL_law 840 = .ok (.invokevirtual 110, 3) := by decide +kernel
theorem dL_law_843 : decode cL_law 843 = .ok (.iload 6, 2) := by decide +kernel
theorem dL_law_845 : decode cL_law 845 = .ok (.if_icmp .eq 5, 3) := by decide +kernel
theorem dL_law_848 : decode cL_law 848 = .ok (.iconst 0, 1) := by decide +kernel
theorem dL_law_849 : decode cL_law 849 = .ok (.ireturn, 1) := by decide +kernel
theorem dL_law_850 : decode cL_law 850 = .ok (.iload 6, 2) := by decide +kernel
theorem dL_law_852 : decode cL_law 852 = .ok (.ifCond .ne 15, 3) := by decide +kernel
theorem dL_law_855 : decode cL_law 855 = .ok (.aload_n 3, 1) := by decide +kernel
theorem dL_law_856 : decode cL_law 856 = .ok (.iconst 0, 1) := by decide +kernel
theorem dL_law_857 : decode cL_law 857 = .ok (.laload, 1) := by decide +kernel
theorem dL_law_858 : decode cL_law 858 = .ok (.iload 7, 2) := by decide +kernel
theorem dL_law_860 : decode cL_law 860 = .ok (.i2l, 1) := by decide +kernel
theorem dL_law_861 : decode cL_law 861 = .ok (.lcmp, 1) := by decide +kernel
theorem dL_law_862 : decode cL_law 862 = .ok (.ifCond .eq 5, 3) := by decide +kernel
theorem dL_law_865 : decode cL_law 865 = .ok (.iconst 0, 1) := by decide +kernel
theorem dL_law_866 : decode cL_law 866 = .ok (.ireturn, 1) := by decide +kernel
theorem dL_law_867 : decode cL_law 867 = .ok (.goto 1155, 3) := by decide +kernel
theorem dL_law_870 : decode cL_law 870 = .ok (.aload_n 1, 1) := by decide +kernel
theorem dL_law_871 : decode cL_law 871 = .ok (.aload_n 0, 1) := by decide +kernel
theorem dL_law_872 : decode cL_law 872 = .ok (.iload 5, 2) := by decide +kernel
theorem dL_law_874 : decode cL_law 874 = .ok (.iconst 1, 1) := by decide +kernel
theorem dL_law_875 : decode cL_law 875 = .ok (.iadd, 1) := by decide +kernel
theorem dL_law_876 : decode cL_law 876 = .ok (.iaload, 1) := by decide +kernel
theorem dL_law_877 : decode cL_law 877 = .ok (.aload_n 0, 1) := by decide +kernel
theorem dL_law_878 : decode cL_law 878 = .ok (.iload 5, 2) := by decide +kernel
theorem dL_law_880 : decode cL_law 880 = .ok (.iconst 2, 1) := by decide +kernel
theorem dL_law_881 : decode cL_law 881 = .ok (.iadd, 1) := by decide +kernel
theorem dL_law_882 : decode cL_law 882 = .ok (.iaload, 1) := by decide +kernel
theorem dL_law_883 : decode cL_law 883 = .ok (.ifCond .eq 7, 3) := by decide +kernel
theorem dL_law_886 : decode cL_law 886 = .ok (.iconst 1, 1) := by decide +kernel
theorem dL_law_887 : decode cL_law 887 = .ok (.goto 4, 3) := by decide +kernel
theorem dL_law_890 : decode cL_law 890 = .ok (.iconst 0, 1) := by decide +kernel
theorem dL_law_891 : decode cL_law 891 = .ok (.aload_n 3, 1) := by decide +kernel
theorem dL_law_892 : decode cL_law 892 = .ok (.invokestatic 142, 3) := by decide +kernel
theorem dL_law_895 : decode cL_law 895 = .ok (.istore 6, 2) := by decide +kernel
theorem dL_law_897 : decode cL_law 897 = .ok (.aload_n 2, 1) := by decide +kernel
theorem dL_law_898 : decode cL_law 898 = .ok (.aload_n 0, 1) := by decide +kernel
theorem dL_law_899 : decode cL_law 899 = .ok (.iload 5, 2) := by decide +kernel
theorem dL_law_901 : decode cL_law 901 = .ok (.iconst 1, 1) := by decide +kernel
theorem dL_law_902 : decode cL_law 902 = .ok (.iadd, 1) := by decide +kernel
theorem dL_law_903 : decode cL_law 903 = .ok (.iaload, 1) := by decide +kernel
theorem dL_law_904 : decode cL_law 904 = .ok (.aload_n 0, 1) := by decide +kernel
theorem dL_law_905 : decode cL_law 905 = .ok (.iload 5, 2) := by decide +kernel
theorem dL_law_907 : decode cL_law 907 = .ok (.iconst 2, 1) := by decide +kernel
theorem dL_law_908 : decode cL_law 908 = .ok (.iadd, 1) := by decide +kernel
theorem dL_law_909 : decode cL_law 909 = .ok (.iaload, 1) := by decide +kernel
theorem dL_law_910 : decode cL_law 910 = .ok (.ifCond .eq 7, 3) := by decide +kernel
theorem dL_law_913 : decode cL_law 913 = .ok (.iconst 1, 1) := by decide +kernel
theorem dL_law_914 : decode cL_law 914 = .ok (.goto 4, 3) := by decide +kernel
theorem dL_law_917 : decode cL_law 917 = .ok (.iconst 0, 1) := by decide +kernel
theorem dL_law_918 : decode cL_law 918 = .ok (.invokevirtual 144, 3) := by decide +kernel
theorem dL_law_921 : decode cL_law 921 = .ok (.istore 7, 2) := by decide +kernel
theorem dL_law_923 : decode cL_law 923 = .ok (.aload_n 2, 1) := by decide +kernel
theorem dL_law_924 : decode cL_law 924 = .ok (.invokevirtual 110, 3) := by decide +kernel
theorem dL_law_927 : decode cL_law 927 = .ok (.iload 6, 2) := by decide +kernel
theorem dL_law_929 : decode cL_law 929 = .ok (.if_icmp .eq 5, 3) := by decide +kernel
theorem dL_law_932 : decode cL_law 932 = .ok (.iconst 0, 1) := by decide +kernel
theorem dL_law_933 : decode cL_law 933 = .ok (.ireturn, 1) := by decide +kernel
theorem dL_law_934 : decode cL_law 934 = .ok (.iload 6, 2) := by decide +kernel
theorem dL_law_936 : decode cL_law 936 = .ok (.ifCond .ne 15, 3) := by decide +kernel
theorem dL_law_939 : decode cL_law 939 = .ok (.aload_n 3, 1) := by decide +kernel
theorem dL_law_940 : decode cL_law 940 = .ok (.iconst 0, 1) := by decide +kernel
theorem dL_law_941 : decode cL_law 941 = .ok (.laload, 1) := by decide +kernel
theorem dL_law_942 : decode cL_law 942 = .ok (.iload 7, 2) := by decide +kernel
theorem dL_law_944 : decode cL_law 944 = .ok (.i2l, 1) := by decide +kernel
theorem dL_law_945 : decode cL_law 945 = .ok (.lcmp, 1) := by decide +kernel
theorem dL_law_946 : decode cL_law 946 = .ok (.ifCond .eq 5, 3) := by decide +kernel
theorem dL_law_949 : decode cL_law 949 = .ok (.iconst 0, 1) := by decide +kernel
theorem dL_law_950 : decode cL_law 950 = .ok (.ireturn, 1) := by decide +kernel
theorem dL_law_951 : decode cL_law 951 = .ok (.goto 1071, 3) := by decide +kernel
theorem dL_law_954 : decode cL_law 954 = .ok (.aload_n 1, 1) := by decide +kernel
theorem dL_law_955 : decode cL_law 955 = .ok (.aload_n 0, 1) := by decide +kernel
theorem dL_law_956 : decode cL_law 956 = .ok (.iload 5, 2) := by decide +kernel
theorem dL_law_958 : decode cL_law 958 = .ok (.iconst 1, 1) := by decide +kernel
theorem dL_law_959 : decode cL_law 959 = .ok (.iadd, 1) := by decide +kernel
theorem dL_law_960 : decode cL_law 960 = .ok (.iaload, 1) := by decide +kernel
theorem dL_law_961 : decode cL_law 961 = .ok (.aload_n 3, 1) := by decide +kernel
theorem dL_law_962 : decode cL_law 962 = .ok (.invokestatic 145, 3) := by decide +kernel
theorem dL_law_965 : decode cL_law 965 = .ok (.istore 6, 2) := by decide +kernel
theorem dL_law_967 : decode cL_law 967 = .ok (.aload_n 2, 1) := by decide +kernel
theorem dL_law_968 : decode cL_law 968 = .ok (.aload_n 0, 1) := by decide +kernel
theorem dL_law_969 : decode cL_law 969 = .ok (.iload 5, 2) := by decide +kernel
theorem dL_law_971 : decode cL_law 971 = .ok (.iconst 1, 1) := by decide +kernel
theorem dL_law_972 : decode cL_law 972 = .ok (.iadd, 1) := by decide +kernel
theorem dL_law_973 : decode cL_law 973 = .ok (.iaload, 1) := by decide +kernel
theorem dL_law_974 : decode cL_law 974 = .ok (.invokevirtual 147, 3) := by decide +kernel
theorem dL_law_977 : decode cL_law 977 = .ok (.istore 7, 2) := by decide +kernel
theorem dL_law_979 : decode cL_law 979 = .ok (.aload_n 2, 1) := by decide +kernel
theorem dL_law_980 : decode cL_law 980 = .ok (.invokevirtual 110, 3) := by decide +kernel
theorem dL_law_983 : decode cL_law 983 = .ok (.iload 6, 2) := by decide +kernel
theorem dL_law_985 : decode cL_law 985 = .ok (.if_icmp .eq 5, 3) := by decide +kernel
theorem dL_law_988 : decode cL_law 988 = .ok (.iconst 0, 1) := by decide +kernel
theorem dL_law_989 : decode cL_law 989 = .ok (.ireturn, 1) := by decide +kernel
theorem dL_law_990 : decode cL_law 990 = .ok (.iload 6, 2) := by decide +kernel
theorem dL_law_992 : decode cL_law 992 = .ok (.ifCond .ne 15, 3) := by decide +kernel
theorem dL_law_995 : decode cL_law 995 = .ok (.aload_n 3, 1) := by decide +kernel
theorem dL_law_996 : decode cL_law 996 = .ok (.iconst 0, 1) := by decide +kernel
theorem dL_law_997 : decode cL_law 997 = .ok (.laload, 1) := by decide +kernel
theorem dL_law_998 : decode cL_law 998 = .ok (.iload 7, 2) := by decide +kernel
theorem dL_law_1000 : decode cL_law 1000 = .ok (.i2l, 1) := by decide +kernel
theorem dL_law_1001 : decode cL_law 1001 = .ok (.lcmp, 1) := by decide +kernel
theorem dL_law_1002 : decode cL_law 1002 = .ok (.ifCond .eq 5, 3) := by decide +kernel
theorem dL_law_1005 : decode cL_law 1005 = .ok (.iconst 0, 1) := by decide +kernel
theorem dL_law_1006 : decode cL_law 1006 = .ok (.ireturn, 1) := by decide +kernel
theorem dL_law_1007 : decode cL_law 1007 = .ok (.goto 1015, 3) := by decide +kernel
theorem dL_law_1010 : decode cL_law 1010 = .ok (.aload_n 1, 1) := by decide +kernel
theorem dL_law_1011 : decode cL_law 1011 = .ok (.aload_n 0, 1) := by decide +kernel
theorem dL_law_1012 : decode cL_law 1012 = .ok (.iload 5, 2) := by decide +kernel
theorem dL_law_1014 : decode cL_law 1014 = .ok (.iconst 1, 1) := by decide +kernel
theorem dL_law_1015 : decode cL_law 1015 = .ok (.iadd, 1) := by decide +kernel
theorem dL_law_1016 : decode cL_law 1016 = .ok (.iaload, 1) := by decide +kernel
theorem dL_law_1017 : decode cL_law 1017 = .ok (.aload_n 0, 1) := by decide +kernel
theorem dL_law_1018 : decode cL_law 1018 = .ok (.iload 5, 2) := by decide +kernel
theorem dL_law_1020 : decode cL_law 1020 = .ok (.iconst 2, 1) := by decide +kernel
theorem dL_law_1021 : decode cL_law 1021 = .ok (.iadd, 1) := by decide +kernel
theorem dL_law_1022 : decode cL_law 1022 = .ok (.iaload, 1) := by decide +kernel
theorem dL_law_1023 : decode cL_law 1023 = .ok (.aload_n 0, 1) := by decide +kernel
theorem dL_law_1024 : decode cL_law 1024 = .ok (.iload 5, 2) := by decide +kernel
theorem dL_law_1026 : decode cL_law 1026 = .ok (.iconst 3, 1) := by decide +kernel
theorem dL_law_1027 : decode cL_law 1027 = .ok (.iadd, 1) := by decide +kernel
theorem dL_law_1028 : decode cL_law 1028 = .ok (.iaload, 1) := by decide +kernel
theorem dL_law_1029 : decode cL_law 1029 = .ok (.aload_n 3, 1) := by decide +kernel
theorem dL_law_1030 : decode cL_law 1030 = .ok (.invokestatic 148, 3) := by decide +kernel
theorem dL_law_1033 : decode cL_law 1033 = .ok (.istore 6, 2) := by decide +kernel
theorem dL_law_1035 : decode cL_law 1035 = .ok (.aload_n 2, 1) := by decide +kernel
theorem dL_law_1036 : decode cL_law 1036 = .ok (.aload_n 0, 1) := by decide +kernel
theorem dL_law_1037 : decode cL_law 1037 = .ok (.iload 5, 2) := by decide +kernel
theorem dL_law_1039 : decode cL_law 1039 = .ok (.iconst 1, 1) := by decide +kernel
theorem dL_law_1040 : decode cL_law 1040 = .ok (.iadd, 1) := by decide +kernel
theorem dL_law_1041 : decode cL_law 1041 = .ok (.iaload, 1) := by decide +kernel
theorem dL_law_1042 : decode cL_law 1042 = .ok (.aload_n 0, 1) := by decide +kernel
theorem dL_law_1043 : decode cL_law 1043 = .ok (.iload 5, 2) := by decide +kernel
theorem dL_law_1045 : decode cL_law 1045 = .ok (.iconst 2, 1) := by decide +kernel
theorem dL_law_1046 : decode cL_law 1046 = .ok (.iadd, 1) := by decide +kernel
theorem dL_law_1047 : decode cL_law 1047 = .ok (.iaload, 1) := by decide +kernel
theorem dL_law_1048 : decode cL_law 1048 = .ok (.aload_n 0, 1) := by decide +kernel
theorem dL_law_1049 : decode cL_law 1049 = .ok (.iload 5, 2) := by decide +kernel
theorem dL_law_1051 : decode cL_law 1051 = .ok (.iconst 3, 1) := by decide +kernel
theorem dL_law_1052 : decode cL_law 1052 = .ok (.iadd, 1) := by decide +kernel
theorem dL_law_1053 : decode cL_law 1053 = .ok (.iaload, 1) := by decide +kernel
theorem dL_law_1054 : decode cL_law 1054 = .ok (.invokevirtual 150, 3) := by decide +kernel
theorem dL_law_1057 : decode cL_law 1057 = .ok (.istore 7, 2) := by decide +kernel
theorem dL_law_1059 : decode cL_law 1059 = .ok (.aload_n 2, 1) := by decide +kernel
theorem dL_law_1060 : decode cL_law 1060 = .ok (.invokevirtual 110, 3) := by decide +kernel
theorem dL_law_1063 : decode cL_law 1063 = .ok (.iload 6, 2) := by decide +kernel
theorem dL_law_1065 : decode cL_law 1065 = .ok (.if_icmp .eq 5, 3) := by decide +kernel
theorem dL_law_1068 : decode cL_law 1068 = .ok (.iconst 0, 1) := by decide +kernel
theorem dL_law_1069 : decode cL_law 1069 = .ok (.ireturn, 1) := by decide +kernel
theorem dL_law_1070 : decode cL_law 1070 = .ok (.iload 6, 2) := by decide +kernel
theorem dL_law_1072 : decode cL_law 1072 = .ok (.ifCond .ne 15, 3) := by decide +kernel
theorem dL_law_1075 : decode cL_law 1075 = .ok (.aload_n 3, 1) := by decide +kernel
theorem dL_law_1076 : decode cL_law 1076 = .ok (.iconst 0, 1) := by decide +kernel
theorem dL_law_1077 : decode cL_law 1077 = .ok (.laload, 1) := by decide +kernel
theorem dL_law_1078 : decode cL_law 1078 = .ok (.iload 7, 2) := by decide +kernel
theorem dL_law_1080 : decode cL_law 1080 = .ok (.i2l, 1) := by decide +kernel
theorem dL_law_1081 : decode cL_law 1081 = .ok (.lcmp, 1) := by decide +kernel
theorem dL_law_1082 : decode cL_law 1082 = .ok (.ifCond .eq 5, 3) := by decide +kernel
theorem dL_law_1085 : decode cL_law 1085 = .ok (.iconst 0, 1) := by decide +kernel
theorem dL_law_1086 : decode cL_law 1086 = .ok (.ireturn, 1) := by decide +kernel
theorem dL_law_1087 : decode cL_law 1087 = .ok (.goto 935, 3) := by decide +kernel
theorem dL_law_1090 : decode cL_law 1090 = .ok (.aload_n 1, 1) := by decide +kernel
theorem dL_law_1091 : decode cL_law 1091 = .ok (.aload_n 0, 1) := by decide +kernel
theorem dL_law_1092 : decode cL_law 1092 = .ok (.iload 5, 2) := by decide +kernel
theorem dL_law_1094 : decode cL_law 1094 = .ok (.iconst 1, 1) := by decide +kernel
theorem dL_law_1095 : decode cL_law 1095 = .ok (.iadd, 1) := by decide +kernel
theorem dL_law_1096 : decode cL_law 1096 = .ok (.iaload, 1) := by decide +kernel
theorem dL_law_1097 : decode cL_law 1097 = .ok (.aload_n 3, 1) := by decide +kernel
theorem dL_law_1098 : decode cL_law 1098 = .ok (.invokestatic 151, 3) := by decide +kernel
theorem dL_law_1101 : decode cL_law 1101 = .ok (.istore 6, 2) := by decide +kernel
theorem dL_law_1103 : decode cL_law 1103 = .ok (.aload_n 2, 1) := by decide +kernel
theorem dL_law_1104 : decode cL_law 1104 = .ok (.aload_n 0, 1) := by decide +kernel
theorem dL_law_1105 : decode cL_law 1105 = .ok (.iload 5, 2) := by decide +kernel
theorem dL_law_1107 : decode cL_law 1107 = .ok (.iconst 1, 1) := by decide +kernel
theorem dL_law_1108 : decode cL_law 1108 = .ok (.iadd, 1) := by decide +kernel
theorem dL_law_1109 : decode cL_law 1109 = .ok (.iaload, 1) := by decide +kernel
theorem dL_law_1110 : decode cL_law 1110 = .ok (.invokevirtual 153, 3) := by decide +kernel
theorem dL_law_1113 : decode cL_law 1113 = .ok (.istore 7, 2) := by decide +kernel
theorem dL_law_1115 : decode cL_law 1115 = .ok (.aload_n 2, 1) := by decide +kernel
theorem dL_law_1116 : decode cL_law 1116 = .ok (.invokevirtual 110, 3) := by decide +kernel
theorem dL_law_1119 : decode cL_law 1119 = .ok (.iload 6, 2) := by decide +kernel
theorem dL_law_1121 : decode cL_law 1121 = .ok (.if_icmp .eq 5, 3) := by decide +kernel
theorem dL_law_1124 : decode cL_law 1124 = .ok (.iconst 0, 1) := by decide +kernel
theorem dL_law_1125 : decode cL_law 1125 = .ok (.ireturn, 1) := by decide +kernel
theorem dL_law_1126 : decode cL_law 1126 = .ok (.iload 6, 2) := by decide +kernel
theorem dL_law_1128 : decode cL_law 1128 = .ok (.ifCond .ne 15, 3) := by decide +kernel
theorem dL_law_1131 : decode cL_law 1131 = .ok (.aload_n 3, 1) := by decide +kernel
theorem dL_law_1132 : decode cL_law 1132 = .ok (.iconst 0, 1) := by decide +kernel
theorem dL_law_1133 : decode cL_law 1133 = .ok (.laload, 1) := by decide +kernel
theorem dL_law_1134 : decode cL_law 1134 = .ok (.iload 7, 2) := by decide +kernel
theorem dL_law_1136 : decode cL_law 1136 = .ok (.i2l, 1) := by decide +kernel
theorem dL_law_1137 : decode cL_law 1137 = .ok (.lcmp, 1) := by decide +kernel
theorem dL_law_1138 : decode cL_law 1138 = .ok (.ifCond .eq 5, 3) := by decide +kernel
theorem dL_law_1141 : decode cL_law 1141 = .ok (.iconst 0, 1) := by decide +kernel
theorem dL_law_1142 : decode cL_law 1142 = .ok (.ireturn, 1) := by decide +kernel
theorem dL_law_1143 : decode cL_law 1143 = .ok (.goto 879, 3) := by decide +kernel
theorem dL_law_1146 : decode cL_law 1146 = .ok (.aload_n 1, 1) := by decide +kernel
theorem dL_law_1147 : decode cL_law 1147 = .ok (.aload_n 0, 1) := by decide +kernel
theorem dL_law_1148 : decode cL_law 1148 = .ok (.iload 5, 2) := by decide +kernel
theorem dL_law_1150 : decode cL_law 1150 = .ok (.iconst 1, 1) := by decide +kernel
theorem dL_law_1151 : decode cL_law 1151 = .ok (.iadd, 1) := by decide +kernel
theorem dL_law_1152 : decode cL_law 1152 = .ok (.iaload, 1) := by decide +kernel
theorem dL_law_1153 : decode cL_law 1153 = .ok (.aload_n 0, 1) := by decide +kernel
theorem dL_law_1154 : decode cL_law 1154 = .ok (.iload 5, 2) := by decide +kernel
theorem dL_law_1156 : decode cL_law 1156 = .ok (.iconst 2, 1) := by decide +kernel
theorem dL_law_1157 : decode cL_law 1157 = .ok (.iadd, 1) := by decide +kernel
theorem dL_law_1158 : decode cL_law 1158 = .ok (.iaload, 1) := by decide +kernel
theorem dL_law_1159 : decode cL_law 1159 = .ok (.aload_n 3, 1) := by decide +kernel
theorem dL_law_1160 : decode cL_law 1160 = .ok (.invokestatic 154, 3) := by decide +kernel
theorem dL_law_1163 : decode cL_law 1163 = .ok (.istore 6, 2) := by decide +kernel
theorem dL_law_1165 : decode cL_law 1165 = .ok (.aload_n 2, 1) := by decide +kernel
theorem dL_law_1166 : decode cL_law 1166 = .ok (.aload_n 0, 1) := by decide +kernel
theorem dL_law_1167 : decode cL_law 1167 = .ok (.iload 5, 2) := by decide +kernel
theorem dL_law_1169 : decode cL_law 1169 = .ok (.iconst 1, 1) := by decide +kernel
theorem dL_law_1170 : decode cL_law 1170 = .ok (.iadd, 1) := by decide +kernel
theorem dL_law_1171 : decode cL_law 1171 = .ok (.iaload, 1) := by decide +kernel
theorem dL_law_1172 : decode cL_law 1172 = .ok (.aload_n 0, 1) := by decide +kernel
theorem dL_law_1173 : decode cL_law 1173 = .ok (.iload 5, 2) := by decide +kernel
theorem dL_law_1175 : decode cL_law 1175 = .ok (.iconst 2, 1) := by decide +kernel
theorem dL_law_1176 : decode cL_law 1176 = .ok (.iadd, 1) := by decide +kernel
theorem dL_law_1177 : decode cL_law 1177 = .ok (.iaload, 1) := by decide +kernel
theorem dL_law_1178 : decode cL_law 1178 = .ok (.invokevirtual 156, 3) := by decide +kernel
theorem dL_law_1181 : decode cL_law 1181 = .ok (.istore 7, 2) := by decide +kernel
theorem dL_law_1183 : decode cL_law 1183 = .ok (.aload_n 2, 1) := by decide +kernel
theorem dL_law_1184 : decode cL_law 1184 = .ok (.invokevirtual 110, 3) := by decide +kernel
theorem dL_law_1187 : decode cL_law 1187 = .ok (.iload 6, 2) := by decide +kernel
theorem dL_law_1189 : decode cL_law 1189 = .ok (.if_icmp .eq 5, 3) := by decide +kernel
theorem dL_law_1192 : decode cL_law 1192 = .ok (.iconst 0, 1) := by decide +kernel
theorem dL_law_1193 : decode cL_law 1193 = .ok (.ireturn, 1) := by decide +kernel
theorem dL_law_1194 : decode cL_law 1194 = .ok (.iload 6, 2) := by decide +kernel
theorem dL_law_1196 : decode cL_law 1196 = .ok (.ifCond .ne 15, 3) := by decide +kernel
theorem dL_law_1199 : decode cL_law 1199 = .ok (.aload_n 3, 1) := by decide +kernel
theorem dL_law_1200 : decode cL_law 1200 = .ok (.iconst 0, 1) := by decide +kernel
theorem dL_law_1201 : decode cL_law 1201 = .ok (.laload, 1) := by decide +kernel
theorem dL_law_1202 : decode cL_law 1202 = .ok (.iload 7, 2) := by decide +kernel
theorem dL_law_1204 : decode cL_law 1204 = .ok (.i2l, 1) := by decide +kernel
theorem dL_law_1205 : decode cL_law 1205 = .ok (.lcmp, 1) := by decide +kernel
theorem dL_law_1206 : decode cL_law 1206 = .ok (.ifCond .eq 5, 3) := by decide +kernel
theorem dL_law_1209 : decode cL_law 1209 = .ok (.iconst 0, 1) := by decide +kernel
theorem dL_law_1210 : decode cL_law 1210 = .ok (.ireturn, 1) := by decide +kernel
theorem dL_law_1211 : decode cL_law 1211 = .ok (.goto 811, 3) := by decide +kernel
theorem dL_law_1214 : decode cL_law 1214 = .ok (.aload_n 1, 1) := by decide +kernel
theorem dL_law_1215 : decode cL_law 1215 = .ok (.aload_n 0, 1) := by decide +kernel
theorem dL_law_1216 : decode cL_law 1216 = .ok (.iload 5, 2) := by decide +kernel
theorem dL_law_1218 : decode cL_law 1218 = .ok (.iconst 1, 1) := by decide +kernel
theorem dL_law_1219 : decode cL_law 1219 = .ok (.iadd, 1) := by decide +kernel
theorem dL_law_1220 : decode cL_law 1220 = .ok (.iaload, 1) := by decide +kernel
theorem dL_law_1221 : decode cL_law 1221 = .ok (.aload_n 3, 1) := by decide +kernel
theorem dL_law_1222 : decode cL_law 1222 = .ok (.invokestatic 157, 3) := by decide +kernel
theorem dL_law_1225 : decode cL_law 1225 = .ok (.istore 6, 2) := by decide +kernel
theorem dL_law_1227 : decode cL_law 1227 = .ok (.aload_n 2, 1) := by decide +kernel
theorem dL_law_1228 : decode cL_law 1228 = .ok (.aload_n 0, 1) := by decide +kernel
theorem dL_law_1229 : decode cL_law 1229 = .ok (.iload 5, 2) := by decide +kernel
theorem dL_law_1231 : decode cL_law 1231 = .ok (.iconst 1, 1) := by decide +kernel
theorem dL_law_1232 : decode cL_law 1232 = .ok (.iadd, 1) := by decide +kernel
theorem dL_law_1233 : decode cL_law 1233 = .ok (.iaload, 1) := by decide +kernel
theorem dL_law_1234 : decode cL_law 1234 = .ok (.invokevirtual 159, 3) := by decide +kernel
theorem dL_law_1237 : decode cL_law 1237 = .ok (.istore 7, 2) := by decide +kernel
theorem dL_law_1239 : decode cL_law 1239 = .ok (.aload_n 2, 1) := by decide +kernel
theorem dL_law_1240 : decode cL_law 1240 = .ok (.invokevirtual 110, 3) := by decide +kernel
theorem dL_law_1243 : decode cL_law 1243 = .ok (.iload 6, 2) := by decide +kernel
theorem dL_law_1245 : decode cL_law 1245 = .ok (.if_icmp .eq 5, 3) := by decide +kernel
theorem dL_law_1248 : decode cL_law 1248 = .ok (.iconst 0, 1) := by decide +kernel
theorem dL_law_1249 : decode cL_law 1249 = .ok (.ireturn, 1) := by decide +kernel
theorem dL_law_1250 : decode cL_law 1250 = .ok (.iload 6, 2) := by decide +kernel
theorem dL_law_1252 : decode cL_law 1252 = .ok (.ifCond .ne 15, 3) := by decide +kernel
theorem dL_law_1255 : decode cL_law 1255 = .ok (.aload_n 3, 1) := by decide +kernel
theorem dL_law_1256 : decode cL_law 1256 = .ok (.iconst 0, 1) := by decide +kernel
theorem dL_law_1257 : decode cL_law 1257 = .ok (.laload, 1) := by decide +kernel
theorem dL_law_1258 : decode cL_law 1258 = .ok (.iload 7, 2) := by decide +kernel
theorem dL_law_1260 : decode cL_law 1260 = .ok (.i2l, 1) := by decide +kernel
theorem dL_law_1261 : decode cL_law 1261 = .ok (.lcmp, 1) := by decide +kernel
theorem dL_law_1262 : decode cL_law 1262 = .ok (.ifCond .eq 5, 3) := by decide +kernel
theorem dL_law_1265 : decode cL_law 1265 = .ok (.iconst 0, 1) := by decide +kernel
theorem dL_law_1266 : decode cL_law 1266 = .ok (.ireturn, 1) := by decide +kernel
theorem dL_law_1267 : decode cL_law 1267 = .ok (.goto 755, 3) := by decide +kernel
theorem dL_law_1270 : decode cL_law 1270 = .ok (.aload_n 1, 1) := by decide +kernel
theorem dL_law_1271 : decode cL_law 1271 = .ok (.aload_n 0, 1) := by decide +kernel
theorem dL_law_1272 : decode cL_law 1272 = .ok (.iload 5, 2) := by decide +kernel
theorem dL_law_1274 : decode cL_law 1274 = .ok (.iconst 1, 1) := by decide +kernel
theorem dL_law_1275 : decode cL_law 1275 = .ok (.iadd, 1) := by decide +kernel
theorem dL_law_1276 : decode cL_law 1276 = .ok (.iaload, 1) := by decide +kernel
theorem dL_law_1277 : decode cL_law 1277 = .ok (.aload_n 0, 1) := by decide +kernel
theorem dL_law_1278 : decode cL_law 1278 = .ok (.iload 5, 2) := by decide +kernel
theorem dL_law_1280 : decode cL_law 1280 = .ok (.iconst 2, 1) := by decide +kernel
theorem dL_law_1281 : decode cL_law 1281 = .ok (.iadd, 1) := by decide +kernel
theorem dL_law_1282 : decode cL_law 1282 = .ok (.iaload, 1) := by decide +kernel
theorem dL_law_1283 : decode cL_law 1283 = .ok (.aload_n 3, 1) := by decide +kernel
theorem dL_law_1284 : decode cL_law 1284 = .ok (.invokestatic 160, 3) := by decide +kernel
theorem dL_law_1287 : decode cL_law 1287 = .ok (.istore 6, 2) := by decide +kernel
theorem dL_law_1289 : decode cL_law 1289 = .ok (.aload_n 2, 1) := by decide +kernel
theorem dL_law_1290 : decode cL_law 1290 = .ok (.aload_n 0, 1) := by decide +kernel
theorem dL_law_1291 : decode cL_law 1291 = .ok (.iload 5, 2) := by decide +kernel
theorem dL_law_1293 : decode cL_law 1293 = .ok (.iconst 1, 1) := by decide +kernel
theorem dL_law_1294 : decode cL_law 1294 = .ok (.iadd, 1) := by decide +kernel
theorem dL_law_1295 : decode cL_law 1295 = .ok (.iaload, 1) := by decide +kernel
theorem dL_law_1296 : decode cL_law 1296 = .ok (.aload_n 0, 1) := by decide +kernel
theorem dL_law_1297 : decode cL_law 1297 = .ok (.iload 5, 2) := by decide +kernel
theorem dL_law_1299 : decode cL_law 1299 = .ok (.iconst 2, 1) := by decide +kernel
theorem dL_law_1300 : decode cL_law 1300 = .ok (.iadd, 1) := by decide +kernel
theorem dL_law_1301 : decode cL_law 1301 = .ok (.iaload, 1) := by decide +kernel
theorem dL_law_1302 : decode cL_law 1302 = .ok (.invokevirtual 162, 3) := by decide +kernel
theorem dL_law_1305 : decode cL_law 1305 = .ok (.istore 7, 2) := by decide +kernel
theorem dL_law_1307 : decode cL_law 1307 = .ok (.aload_n 2, 1) := by decide +kernel
theorem dL_law_1308 : decode cL_law 1308 = .ok (.invokevirtual 110, 3) := by decide +kernel
theorem dL_law_1311 : decode cL_law 1311 = .ok (.iload 6, 2) := by decide +kernel
theorem dL_law_1313 : decode cL_law 1313 = .ok (.if_icmp .eq 5, 3) := by decide +kernel
theorem dL_law_1316 : decode cL_law 1316 = .ok (.iconst 0, 1) := by decide +kernel
theorem dL_law_1317 : decode cL_law 1317 = .ok (.ireturn, 1) := by decide +kernel
theorem dL_law_1318 : decode cL_law 1318 = .ok (.iload 6, 2) := by decide +kernel
theorem dL_law_1320 : decode cL_law 1320 = .ok (.ifCond .ne 15, 3) := by decide +kernel
theorem dL_law_1323 : decode cL_law 1323 = .ok (.aload_n 3, 1) := by decide +kernel
theorem dL_law_1324 : decode cL_law 1324 = .ok (.iconst 0, 1) := by decide +kernel
theorem dL_law_1325 : decode cL_law 1325 = .ok (.laload, 1) := by decide +kernel
theorem dL_law_1326 : decode cL_law 1326 = .ok (.iload 7, 2) := by decide +kernel
theorem dL_law_1328 : decode cL_law 1328 = .ok (.i2l, 1) := by decide +kernel
theorem dL_law_1329 : decode cL_law 1329 = .ok (.lcmp, 1) := by decide +kernel
theorem dL_law_1330 : decode cL_law 1330 = .ok (.ifCond .eq 5, 3) := by decide +kernel
theorem dL_law_1333 : decode cL_law 1333 = .ok (.iconst 0, 1) := by decide +kernel
theorem dL_law_1334 : decode cL_law 1334 = .ok (.ireturn, 1) := by decide +kernel
theorem dL_law_1335 : decode cL_law 1335 = .ok (.goto 687, 3) := by decide +kernel
theorem dL_law_1338 : decode cL_law 1338 = .ok (.aload_n 1, 1) := by decide +kernel
theorem dL_law_1339 : decode cL_law 1339 = .ok (.aload_n 0, 1) := by decide +kernel
theorem dL_law_1340 : decode cL_law 1340 = .ok (.iload 5, 2) := by decide +kernel
theorem dL_law_1342 : decode cL_law 1342 = .ok (.iconst 1, 1) := by decide +kernel
theorem dL_law_1343 : decode cL_law 1343 = .ok (.iadd, 1) := by decide +kernel
theorem dL_law_1344 : decode cL_law 1344 = .ok (.iaload, 1) := by decide +kernel
theorem dL_law_1345 : decode cL_law 1345 = .ok (.aload_n 0, 1) := by decide +kernel
theorem dL_law_1346 : decode cL_law 1346 = .ok (.iload 5, 2) := by decide +kernel
theorem dL_law_1348 : decode cL_law 1348 = .ok (.iconst 2, 1) := by decide +kernel
theorem dL_law_1349 : decode cL_law 1349 = .ok (.iadd, 1) := by decide +kernel
theorem dL_law_1350 : decode cL_law 1350 = .ok (.iaload, 1) := by decide +kernel
theorem dL_law_1351 : decode cL_law 1351 = .ok (.aload_n 3, 1) := by decide +kernel
theorem dL_law_1352 : decode cL_law 1352 = .ok (.invokestatic 163, 3) := by decide +kernel
theorem dL_law_1355 : decode cL_law 1355 = .ok (.istore 6, 2) := by decide +kernel
theorem dL_law_1357 : decode cL_law 1357 = .ok (.aload_n 2, 1) := by decide +kernel
theorem dL_law_1358 : decode cL_law 1358 = .ok (.aload_n 0, 1) := by decide +kernel
theorem dL_law_1359 : decode cL_law 1359 = .ok (.iload 5, 2) := by decide +kernel
theorem dL_law_1361 : decode cL_law 1361 = .ok (.iconst 1, 1) := by decide +kernel
theorem dL_law_1362 : decode cL_law 1362 = .ok (.iadd, 1) := by decide +kernel
theorem dL_law_1363 : decode cL_law 1363 = .ok (.iaload, 1) := by decide +kernel
theorem dL_law_1364 : decode cL_law 1364 = .ok (.aload_n 0, 1) := by decide +kernel
theorem dL_law_1365 : decode cL_law 1365 = .ok (.iload 5, 2) := by decide +kernel
theorem dL_law_1367 : decode cL_law 1367 = .ok (.iconst 2, 1) := by decide +kernel
theorem dL_law_1368 : decode cL_law 1368 = .ok (.iadd, 1) := by decide +kernel
theorem dL_law_1369 : decode cL_law 1369 = .ok (.iaload, 1) := by decide +kernel
theorem dL_law_1370 : decode cL_law 1370 = .ok (.invokevirtual 165, 3) := by decide +kernel
theorem dL_law_1373 : decode cL_law 1373 = .ok (.istore 7, 2) := by decide +kernel
theorem dL_law_1375 : decode cL_law 1375 = .ok (.aload_n 2, 1) := by decide +kernel
theorem dL_law_1376 : decode cL_law 1376 = .ok (.invokevirtual 110, 3) := by decide +kernel
theorem dL_law_1379 : decode cL_law 1379 = .ok (.iload 6, 2) := by decide +kernel
theorem dL_law_1381 : decode cL_law 1381 = .ok (.if_icmp .eq 5, 3) := by decide +kernel
theorem dL_law_1384 : decode cL_law 1384 = .ok (.iconst 0, 1) := by decide +kernel
theorem dL_law_1385 : decode cL_law 1385 = .ok (.ireturn, 1) := by decide +kernel
theorem dL_law_1386 : decode cL_law 1386 = .ok (.iload 6, 2) := by decide +kernel
theorem dL_law_1388 : decode cL_law 1388 = .ok (.ifCond .ne 15, 3) := by decide +kernel
theorem dL_law_1391 : decode cL_law 1391 = .ok (.aload_n 3, 1) := by decide +kernel
theorem dL_law_1392 : decode cL_law 1392 = .ok (.iconst 0, 1) := by decide +kernel
theorem dL_law_1393 : decode cL_law 1393 = .ok (.laload, 1) := by decide +kernel
theorem dL_law_1394 : decode cL_law 1394 = .ok (.iload 7, 2) := by decide +kernel
theorem dL_law_1396 : decode cL_law 1396 = .ok (.i2l, 1) := by decide +kernel
theorem dL_law_1397 : decode cL_law 1397 = .ok (.lcmp, 1) := by decide +kernel
theorem dL_law_1398 : decode cL_law 1398 = .ok (.ifCond .eq 5, 3) := by decide +kernel
theorem dL_law_1401 : decode cL_law 1401 = .ok (.iconst 0, 1) := by decide +kernel
theorem dL_law_1402 : decode cL_law 1402 = .ok (.ireturn, 1) := by decide +kernel
theorem dL_law_1403 : decode cL_law 1403 = .ok (.goto 619, 3) := by decide +kernel
theorem dL_law_1406 : decode cL_law 1406 = .ok (.aload_n 1, 1) := by decide +kernel
theorem dL_law_1407 : decode cL_law 1407 = .ok (.aload_n 0, 1) := by decide +kernel
theorem dL_law_1408 : decode cL_law 1408 = .ok (.iload 5, 2) := by decide +kernel
theorem dL_law_1410 : decode cL_law 1410 = .ok (.iconst 1, 1) := by decide +kernel
theorem dL_law_1411 : decode cL_law 1411 = .ok (.iadd, 1) := by decide +kernel
theorem dL_law_1412 : decode cL_law 1412 = .ok (.iaload, 1) := by decide +kernel
theorem dL_law_1413 : decode cL_law 1413 = .ok (.aload_n 0, 1) := by decide +kernel
theorem dL_law_1414 : decode cL_law 1414 = .ok (.iload 5, 2) := by decide +kernel
theorem dL_law_1416 : decode cL_law 1416 = .ok (.iconst 2, 1) := by decide +kernel
theorem dL_law_1417 : decode cL_law 1417 = .ok (.iadd, 1) := by decide +kernel
theorem dL_law_1418 : decode cL_law 1418 = .ok (.iaload, 1) := by decide +kernel
theorem dL_law_1419 : decode cL_law 1419 = .ok (.aload_n 3, 1) := by decide +kernel
theorem dL_law_1420 : decode cL_law 1420 = .ok (.invokestatic 166, 3) := by decide +kernel
theorem dL_law_1423 : decode cL_law 1423 = .ok (.istore 6, 2) := by decide +kernel
theorem dL_law_1425 : decode cL_law 1425 = .ok (.aload_n 2, 1) := by decide +kernel
theorem dL_law_1426 : decode cL_law 1426 = .ok (.aload_n 0, 1) := by decide +kernel
theorem dL_law_1427 : decode cL_law 1427 = .ok (.iload 5, 2) := by decide +kernel
theorem dL_law_1429 : decode cL_law 1429 = .ok (.iconst 1, 1) := by decide +kernel
theorem dL_law_1430 : decode cL_law 1430 = .ok (.iadd, 1) := by decide +kernel
theorem dL_law_1431 : decode cL_law 1431 = .ok (.iaload, 1) := by decide +kernel
theorem dL_law_1432 : decode cL_law 1432 = .ok (.aload_n 0, 1) := by decide +kernel
theorem dL_law_1433 : decode cL_law 1433 = .ok (.iload 5, 2) := by decide +kernel
theorem dL_law_1435 : decode cL_law 1435 = .ok (.iconst 2, 1) := by decide +kernel
theorem dL_law_1436 : decode cL_law 1436 = .ok (.iadd, 1) := by decide +kernel
theorem dL_law_1437 : decode cL_law 1437 = .ok (.iaload, 1) := by decide +kernel
theorem dL_law_1438 : decode cL_law 1438 = .ok (.invokevirtual 168, 3) := by decide +kernel
theorem dL_law_1441 : decode cL_law 1441 = .ok (.istore 7, 2) := by decide +kernel
theorem dL_law_1443 : decode cL_law 1443 = .ok (.aload_n 2, 1) := by decide +kernel
theorem dL_law_1444 : decode cL_law 1444 = .ok (.invokevirtual 110, 3) := by decide +kernel
theorem dL_law_1447 : decode cL_law 1447 = .ok (.iload 6, 2) := by decide +kernel
theorem dL_law_1449 : decode cL_law 1449 = .ok (.if_icmp .eq 5, 3) := by decide +kernel
theorem dL_law_1452 : decode cL_law 1452 = .ok (.iconst 0, 1) := by decide +kernel
theorem dL_law_1453 : decode cL_law 1453 = .ok (.ireturn, 1) := by decide +kernel
theorem dL_law_1454 : decode cL_law 1454 = .ok (.iload 6, 2) := by decide +kernel
theorem dL_law_1456 : decode cL_law 1456 = .ok (.ifCond .ne 15, 3) := by decide +kernel
theorem dL_law_1459 : decode cL_law 1459 = .ok (.aload_n 3, 1) := by decide +kernel
theorem dL_law_1460 : decode cL_law 1460 = .ok (.iconst 0, 1) := by decide +kernel
theorem dL_law_1461 : decode cL_law 1461 = .ok (.laload, 1) := by decide +kernel
theorem dL_law_1462 : decode cL_law 1462 = .ok (.iload 7, 2) := by decide +kernel
theorem dL_law_1464 : decode cL_law 1464 = .ok (.i2l, 1) := by decide +kernel
theorem dL_law_1465 : decode cL_law 1465 = .ok (.lcmp, 1) := by decide +kernel
theorem dL_law_1466 : decode cL_law 1466 = .ok (.ifCond .eq 5, 3) := by decide +kernel
theorem dL_law_1469 : decode cL_law 1469 = .ok (.iconst 0, 1) := by decide +kernel
theorem dL_law_1470 : decode cL_law 1470 = .ok (.ireturn, 1) := by decide +kernel
theorem dL_law_1471 : decode cL_law 1471 = .ok (.goto 551, 3) := by decide +kernel
theorem dL_law_1474 : decode cL_law 1474 = .ok (.aload_n 1, 1) := by decide +kernel
theorem dL_law_1475 : decode cL_law 1475 = .ok (.aload_n 0, 1) := by decide +kernel
theorem dL_law_1476 : decode cL_law 1476 = .ok (.iload 5, 2) := by decide +kernel
theorem dL_law_1478 : decode cL_law 1478 = .ok (.iconst 1, 1) := by decide +kernel
theorem dL_law_1479 : decode cL_law 1479 = .ok (.iadd, 1) := by decide +kernel
theorem dL_law_1480 : decode cL_law 1480 = .ok (.iaload, 1) := by decide +kernel
theorem dL_law_1481 : decode cL_law 1481 = .ok (.aload_n 3, 1) := by decide +kernel
theorem dL_law_1482 : decode cL_law 1482 = .ok (.invokestatic 169, 3) := by decide +kernel
theorem dL_law_1485 : decode cL_law 1485 = .ok (.istore 6, 2) := by decide +kernel
theorem dL_law_1487 : decode cL_law 1487 = .ok (.aload_n 2, 1) := by decide +kernel
theorem dL_law_1488 : decode cL_law 1488 = .ok (.aload_n 0, 1) := by decide +kernel
theorem dL_law_1489 : decode cL_law 1489 = .ok (.iload 5, 2) := by decide +kernel
theorem dL_law_1491 : decode cL_law 1491 = .ok (.iconst 1, 1) := by decide +kernel
theorem dL_law_1492 : decode cL_law 1492 = .ok (.iadd, 1) := by decide +kernel
theorem dL_law_1493 : decode cL_law 1493 = .ok (.iaload, 1) := by decide +kernel
theorem dL_law_1494 : decode cL_law 1494 = .ok (.invokevirtual 171, 3) := by decide +kernel
theorem dL_law_1497 : decode cL_law 1497 = .ok (.istore 7, 2) := by decide +kernel
theorem dL_law_1499 : decode cL_law 1499 = .ok (.aload_n 2, 1) := by decide +kernel
theorem dL_law_1500 : decode cL_law 1500 = .ok (.invokevirtual 110, 3) := by decide +kernel
theorem dL_law_1503 : decode cL_law 1503 = .ok (.iload 6, 2) := by decide +kernel
theorem dL_law_1505 : decode cL_law 1505 = .ok (.if_icmp .eq 5, 3) := by decide +kernel
theorem dL_law_1508 : decode cL_law 1508 = .ok (.iconst 0, 1) := by decide +kernel
theorem dL_law_1509 : decode cL_law 1509 = .ok (.ireturn, 1) := by decide +kernel
theorem dL_law_1510 : decode cL_law 1510 = .ok (.iload 6, 2) := by decide +kernel
theorem dL_law_1512 : decode cL_law 1512 = .ok (.ifCond .ne 15, 3) := by decide +kernel
theorem dL_law_1515 : decode cL_law 1515 = .ok (.aload_n 3, 1) := by decide +kernel
theorem dL_law_1516 : decode cL_law 1516 = .ok (.iconst 0, 1) := by decide +kernel
theorem dL_law_1517 : decode cL_law 1517 = .ok (.laload, 1) := by decide +kernel
theorem dL_law_1518 : decode cL_law 1518 = .ok (.iload 7, 2) := by decide +kernel
theorem dL_law_1520 : decode cL_law 1520 = .ok (.i2l, 1) := by decide +kernel
theorem dL_law_1521 : decode cL_law 1521 = .ok (.lcmp, 1) := by decide +kernel
theorem dL_law_1522 : decode cL_law 1522 = .ok (.ifCond .eq 5, 3) := by decide +kernel
theorem dL_law_1525 : decode cL_law 1525 = .ok (.iconst 0, 1) := by decide +kernel
theorem dL_law_1526 : decode cL_law 1526 = .ok (.ireturn, 1) := by decide +kernel
theorem dL_law_1527 : decode cL_law 1527 = .ok (.goto 495, 3) := by decide +kernel
theorem dL_law_1530 : decode cL_law 1530 = .ok (.aload_n 1, 1) := by decide +kernel
theorem dL_law_1531 : decode cL_law 1531 = .ok (.invokevirtual 172, 3) := by decide +kernel
theorem dL_law_1534 : decode cL_law 1534 = .ok (.aload_n 2, 1) := by decide +kernel
theorem dL_law_1535 : decode cL_law 1535 = .ok (.invokevirtual 176, 3) := by decide +kernel
theorem dL_law_1538 : decode cL_law 1538 = .ok (.if_icmp .eq 484, 3) := by decide +kernel
theorem dL_law_1541 : decode cL_law 1541 = .ok (.iconst 0, 1) := by decide +kernel
theorem dL_law_1542 : decode cL_law 1542 = .ok (.ireturn, 1) := by decide +kernel
theorem dL_law_1543 : decode cL_law 1543 = .ok (.aload_n 1, 1) := by decide +kernel
theorem dL_law_1544 : decode cL_law 1544 = .ok (.aload_n 0, 1) := by decide +kernel
theorem dL_law_1545 : decode cL_law 1545 = .ok (.iload 5, 2) := by decide +kernel
theorem dL_law_1547 : decode cL_law 1547 = .ok (.iconst 1, 1) := by decide +kernel
theorem dL_law_1548 : decode cL_law 1548 = .ok (.iadd, 1) := by decide +kernel
theorem dL_law_1549 : decode cL_law 1549 = .ok (.iaload, 1) := by decide +kernel
theorem dL_law_1550 : decode cL_law 1550 = .ok (.aload_n 0, 1) := by decide +kernel
theorem dL_law_1551 : decode cL_law 1551 = .ok (.iload 5, 2) := by decide +kernel
theorem dL_law_1553 : decode cL_law 1553 = .ok (.iconst 2, 1) := by decide +kernel
theorem dL_law_1554 : decode cL_law 1554 = .ok (.iadd, 1) := by decide +kernel
theorem dL_law_1555 : decode cL_law 1555 = .ok (.iaload, 1) := by decide +kernel
theorem dL_law_1556 : decode cL_law 1556 = .ok (.ifCond .eq 7, 3) := by decide +kernel
theorem dL_law_1559 : decode cL_law 1559 = .ok (.iconst 1, 1) := by decide +kernel
theorem dL_law_1560 : decode cL_law 1560 = .ok (.goto 4, 3) := by decide +kernel
theorem dL_law_1563 : decode cL_law 1563 = .ok (.iconst 0, 1) := by decide +kernel
theorem dL_law_1564 : decode cL_law 1564 = .ok (.aload_n 3, 1) := by decide +kernel
theorem dL_law_1565 : decode cL_law 1565 = .ok (.invokestatic 177, 3) := by decide +kernel
theorem dL_law_1568 : decode cL_law 1568 = .ok (.istore 6, 2) := by decide +kernel
theorem dL_law_1570 : decode cL_law 1570 = .ok (.aload_n 2, 1) := by decide +kernel
theorem dL_law_1571 : decode cL_law 1571 = .ok (.aload_n 0, 1) := by decide +kernel
theorem dL_law_1572 : decode cL_law 1572 = .ok (.iload 5, 2) := by decide +kernel
theorem dL_law_1574 : decode cL_law 1574 = .ok (.iconst 1, 1) := by decide +kernel
theorem dL_law_1575 : decode cL_law 1575 = .ok (.iadd, 1) := by decide +kernel
theorem dL_law_1576 : decode cL_law 1576 = .ok (.iaload, 1) := by decide +kernel
theorem dL_law_1577 : decode cL_law 1577 = .ok (.aload_n 0, 1) := by decide +kernel
theorem dL_law_1578 : decode cL_law 1578 = .ok (.iload 5, 2) := by decide +kernel
theorem dL_law_1580 : decode cL_law 1580 = .ok (.iconst 2, 1) := by decide +kernel
theorem dL_law_1581 : decode cL_law 1581 = .ok (.iadd, 1) := by decide +kernel
theorem dL_law_1582 : decode cL_law 1582 = .ok (.iaload, 1) := by decide +kernel
theorem dL_law_1583 : decode cL_law 1583 = .ok (.ifCond .eq 7, 3) := by decide +kernel
theorem dL_law_1586 : decode cL_law 1586 = .ok (.iconst 1, 1) := by decide +kernel
theorem dL_law_1587 : decode cL_law 1587 = .ok (.goto 4, 3) := by decide +kernel
theorem dL_law_1590 : decode cL_law 1590 = .ok (.iconst 0, 1) := by decide +kernel
theorem dL_law_1591 : decode cL_law 1591 = .ok (.invokevirtual 179, 3) := by decide +kernel
theorem dL_law_1594 : decode cL_law 1594 = .ok (.istore 7, 2) := by decide +kernel
theorem dL_law_1596 : decode cL_law 1596 = .ok (.aload_n 2, 1) := by decide +kernel
theorem dL_law_1597 : decode cL_law 1597 = .ok (.invokevirtual 110, 3) := by decide +kernel
theorem dL_law_1600 : decode cL_law 1600 = .ok (.iload 6, 2) := by decide +kernel
theorem dL_law_1602 : decode cL_law 1602 = .ok (.if_icmp .eq 5, 3) := by decide +kernel
theorem dL_law_1605 : decode cL_law 1605 = .ok (.iconst 0, 1) := by decide +kernel
theorem dL_law_1606 : decode cL_law 1606 = .ok (.ireturn, 1) := by decide +kernel
theorem dL_law_1607 : decode cL_law 1607 = .ok (.iload 6, 2) := by decide +kernel
theorem dL_law_1609 : decode cL_law 1609 = .ok (.ifCond .ne 15, 3) := by decide +kernel
theorem dL_law_1612 : decode cL_law 1612 = .ok (.aload_n 3, 1) := by decide +kernel
theorem dL_law_1613 : decode cL_law 1613 = .ok (.iconst 0, 1) := by decide +kernel
theorem dL_law_1614 : decode cL_law 1614 = .ok (.laload, 1) := by decide +kernel
theorem dL_law_1615 : decode cL_law 1615 = .ok (.iload 7, 2) := by decide +kernel
theorem dL_law_1617 : decode cL_law 1617 = .ok (.i2l, 1) := by decide +kernel
theorem dL_law_1618 : decode cL_law 1618 = .ok (.lcmp, 1) := by decide +kernel
theorem dL_law_1619 : decode cL_law 1619 = .ok (.ifCond .eq 5, 3) := by decide +kernel
theorem dL_law_1622 : decode cL_law 1622 = .ok (.iconst 0, 1) := by decide +kernel
theorem dL_law_1623 : decode cL_law 1623 = .ok (.ireturn, 1) := by decide +kernel
theorem dL_law_1624 : decode cL_law 1624 = .ok (.goto 398, 3) := by decide +kernel
theorem dL_law_1627 : decode cL_law 1627 = .ok (.aload_n 1, 1) := by decide +kernel
theorem dL_law_1628 : decode cL_law 1628 = .ok (.aload_n 0, 1) := by decide +kernel
theorem dL_law_1629 : decode cL_law 1629 = .ok (.iload 5, 2) := by decide +kernel
theorem dL_law_1631 : decode cL_law 1631 = .ok (.iconst 1, 1) := by decide +kernel
theorem dL_law_1632 : decode cL_law 1632 = .ok (.iadd, 1) := by decide +kernel
theorem dL_law_1633 : decode cL_law 1633 = .ok (.iaload, 1) := by decide +kernel
theorem dL_law_1634 : decode cL_law 1634 = .ok (.aload_n 3, 1) := by decide +kernel
theorem dL_law_1635 : decode cL_law 1635 = .ok (.invokestatic 180, 3) := by decide +kernel
theorem dL_law_1638 : decode cL_law 1638 = .ok (.istore 6, 2) := by decide +kernel
theorem dL_law_1640 : decode cL_law 1640 = .ok (.aload_n 2, 1) := by decide +kernel
theorem dL_law_1641 : decode cL_law 1641 = .ok (.aload_n 0, 1) := by decide +kernel
theorem dL_law_1642 : decode cL_law 1642 = .ok (.iload 5, 2) := by decide +kernel
theorem dL_law_1644 : decode cL_law 1644 = .ok (.iconst 1, 1) := by decide +kernel
theorem dL_law_1645 : decode cL_law 1645 = .ok (.iadd, 1) := by decide +kernel
theorem dL_law_1646 : decode cL_law 1646 = .ok (.iaload, 1) := by decide +kernel
theorem dL_law_1647 : decode cL_law 1647 = .ok (.invokevirtual 182, 3) := by decide +kernel
theorem dL_law_1650 : decode cL_law 1650 = .ok (.istore 7, 2) := by decide +kernel
theorem dL_law_1652 : decode cL_law 1652 = .ok (.aload_n 2, 1) := by decide +kernel
theorem dL_law_1653 : decode cL_law 1653 = .ok (.invokevirtual 110, 3) := by decide +kernel
theorem dL_law_1656 : decode cL_law 1656 = .ok (.iload 6, 2) := by decide +kernel
theorem dL_law_1658 : decode cL_law 1658 = .ok (.if_icmp .eq 5, 3) := by decide +kernel
theorem dL_law_1661 : decode cL_law 1661 = .ok (.iconst 0, 1) := by decide +kernel
theorem dL_law_1662 : decode cL_law 1662 = .ok (.ireturn, 1) := by decide +kernel
theorem dL_law_1663 : decode cL_law 1663 = .ok (.iload 6, 2) := by decide +kernel
theorem dL_law_1665 : decode cL_law 1665 = .ok (.ifCond .ne 15, 3) := by decide +kernel
theorem dL_law_1668 : decode cL_law 1668 = .ok (.aload_n 3, 1) := by decide +kernel
theorem dL_law_1669 : decode cL_law 1669 = .ok (.iconst 0, 1) := by decide +kernel
theorem dL_law_1670 : decode cL_law 1670 = .ok (.laload, 1) := by decide +kernel
theorem dL_law_1671 : decode cL_law 1671 = .ok (.iload 7, 2) := by decide +kernel
theorem dL_law_1673 : decode cL_law 1673 = .ok (.i2l, 1) := by decide +kernel
theorem dL_law_1674 : decode cL_law 1674 = .ok (.lcmp, 1) := by decide +kernel
theorem dL_law_1675 : decode cL_law 1675 = .ok (.ifCond .eq 5, 3) := by decide +kernel
theorem dL_law_1678 : decode cL_law 1678 = .ok (.iconst 0, 1) := by decide +kernel
theorem dL_law_1679 : decode cL_law 1679 = .ok (.ireturn, 1) := by decide +kernel
theorem dL_law_1680 : decode cL_law 1680 = .ok (.goto 342, 3) := by decide +kernel
theorem dL_law_1683 : decode cL_law 1683 = .ok (.aload_n 1, 1) := by decide +kernel
theorem dL_law_1684 : decode cL_law 1684 = .ok (.aload_n 0, 1) := by decide +kernel
theorem dL_law_1685 : decode cL_law 1685 = .ok (.iload 5, 2) := by decide +kernel
theorem dL_law_1687 : decode cL_law 1687 = .ok (.iconst 1, 1) := by decide +kernel
theorem dL_law_1688 : decode cL_law 1688 = .ok (.iadd, 1) := by decide +kernel
theorem dL_law_1689 : decode cL_law 1689 = .ok (.iaload, 1) := by decide +kernel
theorem dL_law_1690 : decode cL_law 1690 = .ok (.aload 4, 2) := by decide +kernel
theorem dL_law_1692 : decode cL_law 1692 = .ok (.invokestatic 183, 3) := by decide +kernel
theorem dL_law_1695 : decode cL_law 1695 = .ok (.istore 6, 2) := by decide +kernel
theorem dL_law_1697 : decode cL_law 1697 = .ok (.aload_n 2, 1) := by decide +kernel
theorem dL_law_1698 : decode cL_law 1698 = .ok (.aload_n 0, 1) := by decide +kernel
theorem dL_law_1699 : decode cL_law 1699 = .ok (.iload 5, 2) := by decide +kernel
theorem dL_law_1701 : decode cL_law 1701 = .ok (.iconst 1, 1) := by decide +kernel
theorem dL_law_1702 : decode cL_law 1702 = .ok (.iadd, 1) := by decide +kernel
theorem dL_law_1703 : decode cL_law 1703 = .ok (.iaload, 1) := by decide +kernel
theorem dL_law_1704 : decode cL_law 1704 = .ok (.invokevirtual 186, 3) := by decide +kernel
theorem dL_law_1707 : decode cL_law 1707 = .ok (.dstore 7, 2) := by decide +kernel
theorem dL_law_1709 : decode cL_law 1709 = .ok (.aload_n 2, 1) := by decide +kernel
theorem dL_law_1710 : decode cL_law 1710 = .ok (.invokevirtual 110, 3) := by decide +kernel
theorem dL_law_1713 : decode cL_law 1713 = .ok (.iload 6, 2) := by decide +kernel
theorem dL_law_1715 : decode cL_law 1715 = .ok (.if_icmp .eq 5, 3) := by decide +kernel
theorem dL_law_1718 : decode cL_law 1718 = .ok (.iconst 0, 1) := by decide +kernel
theorem dL_law_1719 : decode cL_law 1719 = .ok (.ireturn, 1) := by decide +kernel
theorem dL_law_1720 : decode cL_law 1720 = .ok (.iload 6, 2) := by decide +kernel
theorem dL_law_1722 : decode cL_law 1722 = .ok (.ifCond .ne 35, 3) := by decide +kernel
theorem dL_law_1725 : decode cL_law 1725 = .ok (.aload 4, 2) := by decide +kernel
theorem dL_law_1727 : decode cL_law 1727 = .ok (.iconst 0, 1) := by decide +kernel
theorem dL_law_1728 : decode cL_law 1728 = .ok (.daload, 1) := by decide +kernel
theorem dL_law_1729 : decode cL_law 1729 = .ok (.dload 7, 2) := by decide +kernel
theorem dL_law_1731 : decode cL_law 1731 = .ok (.dcmp .l, 1) := by decide +kernel
theorem dL_law_1732 : decode cL_law 1732 = .ok (.ifCond .eq 25, 3) := by decide +kernel
theorem dL_law_1735 : decode cL_law 1735 = .ok (.aload 4, 2) := by decide +kernel
theorem dL_law_1737 : decode cL_law 1737 = .ok (.iconst 0, 1) := by decide +kernel
theorem dL_law_1738 : decode cL_law 1738 = .ok (.daload, 1) := by decide +kernel
theorem dL_law_1739 : decode cL_law 1739 = .ok (.aload 4, 2) := by decide +kernel
theorem dL_law_1741 : decode cL_law 1741 = .ok (.iconst 0, 1) := by decide +kernel
theorem dL_law_1742 : decode cL_law 1742 = .ok (.daload, 1) := by decide +kernel
theorem dL_law_1743 : decode cL_law 1743 = .ok (.dcmp .l, 1) := by decide +kernel
theorem dL_law_1744 : decode cL_law 1744 = .ok (.ifCond .eq 11, 3) := by decide +kernel
theorem dL_law_1747 : decode cL_law 1747 = .ok (.dload 7, 2) := by decide +kernel
theorem dL_law_1749 : decode cL_law 1749 = .ok (.dload 7, 2) := by decide +kernel
theorem dL_law_1751 : decode cL_law 1751 = .ok (.dcmp .l, 1) := by decide +kernel
theorem dL_law_1752 : decode cL_law 1752 = .ok (.ifCond .ne 5, 3) := by decide +kernel
theorem dL_law_1755 : decode cL_law 1755 = .ok (.iconst 0, 1) := by decide +kernel
theorem dL_law_1756 : decode cL_law 1756 = .ok (.ireturn, 1) := by decide +kernel
theorem dL_law_1757 : decode cL_law 1757 = .ok (.goto 265, 3) := by decide +kernel
theorem dL_law_1760 : decode cL_law 1760 = .ok (.aload_n 1, 1) := by decide +kernel
theorem dL_law_1761 : decode cL_law 1761 = .ok (.aload_n 0, 1) := by decide +kernel
theorem dL_law_1762 : decode cL_law 1762 = .ok (.iload 5, 2) := by decide +kernel
theorem dL_law_1764 : decode cL_law 1764 = .ok (.iconst 1, 1) := by decide +kernel
theorem dL_law_1765 : decode cL_law 1765 = .ok (.iadd, 1) := by decide +kernel
theorem dL_law_1766 : decode cL_law 1766 = .ok (.iaload, 1) := by decide +kernel
theorem dL_law_1767 : decode cL_law 1767 = .ok (.aload_n 3, 1) := by decide +kernel
theorem dL_law_1768 : decode cL_law 1768 = .ok (.invokestatic 187, 3) := by decide +kernel
theorem dL_law_1771 : decode cL_law 1771 = .ok (.istore 6, 2) := by decide +kernel
theorem dL_law_1773 : decode cL_law 1773 = .ok (.aload_n 2, 1) := by decide +kernel
theorem dL_law_1774 : decode cL_law 1774 = .ok (.aload_n 0, 1) := by decide +kernel
theorem dL_law_1775 : decode cL_law 1775 = .ok (.iload 5, 2) := by decide +kernel
theorem dL_law_1777 : decode cL_law 1777 = .ok (.iconst 1, 1) := by decide +kernel
theorem dL_law_1778 : decode cL_law 1778 = .ok (.iadd, 1) := by decide +kernel
theorem dL_law_1779 : decode cL_law 1779 = .ok (.iaload, 1) := by decide +kernel
theorem dL_law_1780 : decode cL_law 1780 = .ok (.invokevirtual 189, 3) := by decide +kernel
theorem dL_law_1783 : decode cL_law 1783 = .ok (.istore 7, 2) := by decide +kernel
theorem dL_law_1785 : decode cL_law 1785 = .ok (.aload_n 2, 1) := by decide +kernel
theorem dL_law_1786 : decode cL_law 1786 = .ok (.invokevirtual 110, 3) := by decide +kernel
theorem dL_law_1789 : decode cL_law 1789 = .ok (.iload 6, 2) := by decide +kernel
theorem dL_law_1791 : decode cL_law 1791 = .ok (.if_icmp .eq 5, 3) := by decide +kernel
theorem dL_law_1794 : decode cL_law 1794 = .ok (.iconst 0, 1) := by decide +kernel
theorem dL_law_1795 : decode cL_law 1795 = .ok (.ireturn, 1) := by decide +kernel
theorem dL_law_1796 : decode cL_law 1796 = .ok (.iload 6, 2) := by decide +kernel
theorem dL_law_1798 : decode cL_law 1798 = .ok (.ifCond .ne 15, 3) := by decide +kernel
theorem dL_law_1801 : decode cL_law 1801 = .ok (.aload_n 3, 1) := by decide +kernel
theorem dL_law_1802 : decode cL_law 1802 = .ok (.iconst 0, 1) := by decide +kernel
theorem dL_law_1803 : decode cL_law 1803 = .ok (.laload, 1) := by decide +kernel
theorem dL_law_1804 : decode cL_law 1804 = .ok (.iload 7, 2) := by decide +kernel
theorem dL_law_1806 : decode cL_law 1806 = .ok (.i2l, 1) := by decide +kernel
theorem dL_law_1807 : decode cL_law 1807 = .ok (.lcmp, 1) := by decide +kernel
theorem dL_law_1808 : decode cL_law 1808 = .ok (.ifCond .eq 5, 3) := by decide +kernel
theorem dL_law_1811 : decode cL_law 1811 = .ok (.iconst 0, 1) := by decide +kernel
theorem dL_law_1812 : decode cL_law 1812 = .ok (.ireturn, 1) := by decide +kernel
theorem dL_law_1813 : decode cL_law 1813 = .ok (.goto 209, 3) := by decide +kernel
theorem dL_law_1816 : decode cL_law 1816 = .ok (.aload_n 1, 1) := by decide +kernel
theorem dL_law_1817 : decode cL_law 1817 = .ok (.aload_n 0, 1) := by decide +kernel
theorem dL_law_1818 : decode cL_law 1818 = .ok (.iload 5, 2) := by decide +kernel
theorem dL_law_1820 : decode cL_law 1820 = .ok (.iconst 1, 1) := by decide +kernel
theorem dL_law_1821 : decode cL_law 1821 = .ok (.iadd, 1) := by decide +kernel
theorem dL_law_1822 : decode cL_law 1822 = .ok (.iaload, 1) := by decide +kernel
theorem dL_law_1823 : decode cL_law 1823 = .ok (.aload_n 0, 1) := by decide +kernel
theorem dL_law_1824 : decode cL_law 1824 = .ok (.iload 5, 2) := by decide +kernel
theorem dL_law_1826 : decode cL_law 1826 = .ok (.iconst 2, 1) := by decide +kernel
theorem dL_law_1827 : decode cL_law 1827 = .ok (.iadd, 1) := by decide +kernel
theorem dL_law_1828 : decode cL_law 1828 = .ok (.iaload, 1) := by decide +kernel
theorem dL_law_1829 : decode cL_law 1829 = .ok (.aload_n 3, 1) := by decide +kernel
theorem dL_law_1830 : decode cL_law 1830 = .ok (.invokestatic 190, 3) := by decide +kernel
theorem dL_law_1833 : decode cL_law 1833 = .ok (.istore 6, 2) := by decide +kernel
theorem dL_law_1835 : decode cL_law 1835 = .ok (.aload_n 2, 1) := by decide +kernel
theorem dL_law_1836 : decode cL_law 1836 = .ok (.aload_n 0, 1) := by decide +kernel
theorem dL_law_1837 : decode cL_law 1837 = .ok (.iload 5, 2) := by decide +kernel
theorem dL_law_1839 : decode cL_law 1839 = .ok (.iconst 1, 1) := by decide +kernel
theorem dL_law_1840 : decode cL_law 1840 = .ok (.iadd, 1) := by decide +kernel
theorem dL_law_1841 : decode cL_law 1841 = .ok (.iaload, 1) := by decide +kernel
theorem dL_law_1842 : decode cL_law 1842 = .ok (.aload_n 0, 1) := by decide +kernel
theorem dL_law_1843 : decode cL_law 1843 = .ok (.iload 5, 2) := by decide +kernel
theorem dL_law_1845 : decode cL_law 1845 = .ok (.iconst 2, 1) := by decide +kernel
theorem dL_law_1846 : decode cL_law 1846 = .ok (.iadd, 1) := by decide +kernel
theorem dL_law_1847 : decode cL_law 1847 = .ok (.iaload, 1) := by decide +kernel
theorem dL_law_1848 : decode cL_law 1848 = .ok (.invokevirtual 192, 3) := by decide +kernel
theorem dL_law_1851 : decode cL_law 1851 = .ok (.istore 7, 2) := by decide +kernel
theorem dL_law_1853 : decode cL_law 1853 = .ok (.aload_n 2, 1) := by decide +kernel
theorem dL_law_1854 : decode cL_law 1854 = .ok (.invokevirtual 110, 3) := by decide +kernel
theorem dL_law_1857 : decode cL_law 1857 = .ok (.iload 6, 2) := by decide +kernel
theorem dL_law_1859 : decode cL_law 1859 = .ok (.if_icmp .eq 5, 3) := by decide +kernel
theorem dL_law_1862 : decode cL_law 1862 = .ok (.iconst 0, 1) := by decide +kernel
theorem dL_law_1863 : decode cL_law 1863 = .ok (.ireturn, 1) := by decide +kernel
theorem dL_law_1864 : decode cL_law 1864 = .ok (.iload 6, 2) := by decide +kernel
theorem dL_law_1866 : decode cL_law 1866 = .ok (.ifCond .ne 15, 3) := by decide +kernel
theorem dL_law_1869 : decode cL_law 1869 = .ok (.aload_n 3, 1) := by decide +kernel
theorem dL_law_1870 : decode cL_law 1870 = .ok (.iconst 0, 1) := by decide +kernel
theorem dL_law_1871 : decode cL_law 1871 = .ok (.laload, 1) := by decide +kernel
theorem dL_law_1872 : decode cL_law 1872 = .ok (.iload 7, 2) := by decide +kernel
theorem dL_law_1874 : decode cL_law 1874 = .ok (.i2l, 1) := by decide +kernel
theorem dL_law_1875 : decode cL_law 1875 = .ok (.lcmp, 1) := by decide +kernel
theorem dL_law_1876 : decode cL_law 1876 = .ok (.ifCond .eq 5, 3) := by decide +kernel
theorem dL_law_1879 : decode cL_law 1879 = .ok (.iconst 0, 1) := by decide +kernel
theorem dL_law_1880 : decode cL_law 1880 = .ok (.ireturn, 1) := by decide +kernel
theorem dL_law_1881 : decode cL_law 1881 = .ok (.goto 141, 3) := by decide +kernel
theorem dL_law_1884 : decode cL_law 1884 = .ok (.aload_n 1, 1) := by decide +kernel
theorem dL_law_1885 : decode cL_law 1885 = .ok (.aload_n 0, 1) := by decide +kernel
theorem dL_law_1886 : decode cL_law 1886 = .ok (.iload 5, 2) := by decide +kernel
theorem dL_law_1888 : decode cL_law 1888 = .ok (.iconst 1, 1) := by decide +kernel
theorem dL_law_1889 : decode cL_law 1889 = .ok (.iadd, 1) := by decide +kernel
theorem dL_law_1890 : decode cL_law 1890 = .ok (.iaload, 1) := by decide +kernel
theorem dL_law_1891 : decode cL_law 1891 = .ok (.aload_n 3, 1) := by decide +kernel
theorem dL_law_1892 : decode cL_law 1892 = .ok (.invokestatic 193, 3) := by decide +kernel
theorem dL_law_1895 : decode cL_law 1895 = .ok (.istore 6, 2) := by decide +kernel
theorem dL_law_1897 : decode cL_law 1897 = .ok (.aload_n 2, 1) := by decide +kernel
theorem dL_law_1898 : decode cL_law 1898 = .ok (.aload_n 0, 1) := by decide +kernel
theorem dL_law_1899 : decode cL_law 1899 = .ok (.iload 5, 2) := by decide +kernel
theorem dL_law_1901 : decode cL_law 1901 = .ok (.iconst 1, 1) := by decide +kernel
theorem dL_law_1902 : decode cL_law 1902 = .ok (.iadd, 1) := by decide +kernel
theorem dL_law_1903 : decode cL_law 1903 = .ok (.iaload, 1) := by decide +kernel
theorem dL_law_1904 : decode cL_law 1904 = .ok (.invokevirtual 195, 3) := by decide +kernel
theorem dL_law_1907 : decode cL_law 1907 = .ok (.istore 7, 2) := by decide +kernel
theorem dL_law_1909 : decode cL_law 1909 = .ok (.aload_n 2, 1) := by decide +kernel
theorem dL_law_1910 : decode cL_law 1910 = .ok (.invokevirtual 110, 3) := by decide +kernel
theorem dL_law_1913 : decode cL_law 1913 = .ok (.iload 6, 2) := by decide +kernel
theorem dL_law_1915 : decode cL_law 1915 = .ok (.if_icmp .eq 5, 3) := by decide +kernel
theorem dL_law_1918 : decode cL_law 1918 = .ok (.iconst 0, 1) := by decide +kernel
theorem dL_law_1919 : decode cL_law 1919 = .ok (.ireturn, 1) := by decide +kernel
theorem dL_law_1920 : decode cL_law 1920 = .ok (.iload 6, 2) := by decide +kernel
theorem dL_law_1922 : decode cL_law 1922 = .ok (.ifCond .ne 15, 3) := by decide +kernel
theorem dL_law_1925 : decode cL_law 1925 = .ok (.aload_n 3, 1) := by decide +kernel
theorem dL_law_1926 : decode cL_law 1926 = .ok (.iconst 0, 1) := by decide +kernel
theorem dL_law_1927 : decode cL_law 1927 = .ok (.laload, 1) := by decide +kernel
theorem dL_law_1928 : decode cL_law 1928 = .ok (.iload 7, 2) := by decide +kernel
theorem dL_law_1930 : decode cL_law 1930 = .ok (.i2l, 1) := by decide +kernel
theorem dL_law_1931 : decode cL_law 1931 = .ok (.lcmp, 1) := by decide +kernel
theorem dL_law_1932 : decode cL_law 1932 = .ok (.ifCond .eq 5, 3) := by decide +kernel
theorem dL_law_1935 : decode cL_law 1935 = .ok (.iconst 0, 1) := by decide +kernel
theorem dL_law_1936 : decode cL_law 1936 = .ok (.ireturn, 1) := by decide +kernel
theorem dL_law_1937 : decode cL_law 1937 = .ok (.goto 85, 3) := by decide +kernel
theorem dL_law_1940 : decode cL_law 1940 = .ok (.aload_n 1, 1) := by decide +kernel
theorem dL_law_1941 : decode cL_law 1941 = .ok (.aload_n 0, 1) := by decide +kernel
theorem dL_law_1942 : decode cL_law 1942 = .ok (.iload 5, 2) := by decide +kernel
theorem dL_law_1944 : decode cL_law 1944 = .ok (.iconst 1, 1) := by decide +kernel
theorem dL_law_1945 : decode cL_law 1945 = .ok (.iadd, 1) := by decide +kernel
theorem dL_law_1946 : decode cL_law 1946 = .ok (.iaload, 1) := by decide +kernel
theorem dL_law_1947 : decode cL_law 1947 = .ok (.aload_n 0, 1) := by decide +kernel
theorem dL_law_1948 : decode cL_law 1948 = .ok (.iload 5, 2) := by decide +kernel
theorem dL_law_1950 : decode cL_law 1950 = .ok (.iconst 2, 1) := by decide +kernel
theorem dL_law_1951 : decode cL_law 1951 = .ok (.iadd, 1) := by decide +kernel
theorem dL_law_1952 : decode cL_law 1952 = .ok (.iaload, 1) := by decide +kernel
theorem dL_law_1953 : decode cL_law 1953 = .ok (.aload_n 3, 1) := by decide +kernel
theorem dL_law_1954 : decode cL_law 1954 = .ok (.invokestatic 196, 3) := by decide +kernel
theorem dL_law_1957 : decode cL_law 1957 = .ok (.istore 6, 2) := by decide +kernel
theorem dL_law_1959 : decode cL_law 1959 = .ok (.aload_n 2, 1) := by decide +kernel
theorem dL_law_1960 : decode cL_law 1960 = .ok (.aload_n 0, 1) := by decide +kernel
theorem dL_law_1961 : decode cL_law 1961 = .ok (.iload 5, 2) := by decide +kernel
theorem dL_law_1963 : decode cL_law 1963 = .ok (.iconst 1, 1) := by decide +kernel
theorem dL_law_1964 : decode cL_law 1964 = .ok (.iadd, 1) := by decide +kernel
theorem dL_law_1965 : decode cL_law 1965 = .ok (.iaload, 1) := by decide +kernel
theorem dL_law_1966 : decode cL_law 1966 = .ok (.aload_n 0, 1) := by decide +kernel
theorem dL_law_1967 : decode cL_law 1967 = .ok (.iload 5, 2) := by decide +kernel
theorem dL_law_1969 : decode cL_law 1969 = .ok (.iconst 2, 1) := by decide +kernel
theorem dL_law_1970 : decode cL_law 1970 = .ok (.iadd, 1) := by decide +kernel
theorem dL_law_1971 : decode cL_law 1971 = .ok (.iaload, 1) := by decide +kernel
theorem dL_law_1972 : decode cL_law 1972 = .ok (.invokevirtual 198, 3) := by decide +kernel
theorem dL_law_1975 : decode cL_law 1975 = .ok (.istore 7, 2) := by decide +kernel
theorem dL_law_1977 : decode cL_law 1977 = .ok (.aload_n 2, 1) := by decide +kernel
theorem dL_law_1978 : decode cL_law 1978 = .ok (.invokevirtual 110, 3) := by decide +kernel
theorem dL_law_1981 : decode cL_law 1981 = .ok (.iload 6, 2) := by decide +kernel
theorem dL_law_1983 : decode cL_law 1983 = .ok (.if_icmp .eq 5, 3) := by decide +kernel
theorem dL_law_1986 : decode cL_law 1986 = .ok (.iconst 0, 1) := by decide +kernel
theorem dL_law_1987 : decode cL_law 1987 = .ok (.ireturn, 1) := by decide +kernel
theorem dL_law_1988 : decode cL_law 1988 = .ok (.iload 6, 2) := by decide +kernel
theorem dL_law_1990 : decode cL_law 1990 = .ok (.ifCond .ne 15, 3) := by decide +kernel
theorem dL_law_1993 : decode cL_law 1993 = .ok (.aload_n 3, 1) := by decide +kernel
theorem dL_law_1994 : decode cL_law 1994 = .ok (.iconst 0, 1) := by decide +kernel
theorem dL_law_1995 : decode cL_law 1995 = .ok (.laload, 1) := by decide +kernel
theorem dL_law_1996 : decode cL_law 1996 = .ok (.iload 7, 2) := by decide +kernel
theorem dL_law_1998 : decode cL_law 1998 = .ok (.i2l, 1) := by decide +kernel
theorem dL_law_1999 : decode cL_law 1999 = .ok (.lcmp, 1) := by decide +kernel
theorem dL_law_2000 : decode cL_law 2000 = .ok (.ifCond .eq 5, 3) := by decide +kernel
theorem dL_law_2003 : decode cL_law 2003 = .ok (.iconst 0, 1) := by decide +kernel
theorem dL_law_2004 : decode cL_law 2004 = .ok (.ireturn, 1) := by decide +kernel
theorem dL_law_2005 : decode cL_law 2005 = .ok (.goto 17, 3) := by decide +kernel
theorem dL_law_2008 : decode cL_law 2008 = .ok (.aload_n 1, 1) := by decide +kernel
theorem dL_law_2009 : decode cL_law 2009 = .ok (.invokevirtual 199, 3) := by decide +kernel
theorem dL_law_2012 : decode cL_law 2012 = .ok (.aload_n 2, 1) := by decide +kernel
theorem dL_law_2013 : decode cL_law 2013 = .ok (.invokevirtual 203, 3) := by decide +kernel
theorem dL_law_2016 : decode cL_law 2016 = .ok (.lcmp, 1) := by decide +kernel
theorem dL_law_2017 : decode cL_law 2017 = .ok (.ifCond .eq 5, 3) := by decide +kernel
theorem dL_law_2020 : decode cL_law 2020 = .ok (.iconst 0, 1) := by decide +kernel
theorem dL_law_2021 : decode cL_law 2021 = .ok (.ireturn, 1) := by decide +kernel
theorem dL_law_2022 : decode cL_law 2022 = .ok (.iinc 5 5, 3) := by decide +kernel
theorem dL_law_2025 : decode cL_law 2025 = .ok (.goto (-1997), 3) := by decide +kernel
theorem dL_law_2028 : decode cL_law 2028 = .ok (.iconst 1, 1) := by decide +kernel
theorem dL_law_2029 : decode cL_law 2029 = .ok (.ireturn, 1) := by decide +kernel
