theorem dX5_init_53 : decode cX5_init 53 = .ok (.aload_n 0, 1) := by decide +kernel
theorem dX5_init_54 : decode cX5_init 54 = .ok (.new 30, 3) := by decide +kernel
theorem dX5_init_57 : decode cX5_init 57 = .ok (.dup, 1) := by decide +kernel
theorem dX5_init_58 : decode cX5_init 58 = .ok (.invokespecial 32, 3) := by decide +kernel
theorem dX5_init_61 : decode cX5_init 61 = .ok (.putfield 33, 3) := by decide +kernel
theorem dX5_init_64 : decode cX5_init 64 = .ok (.iconst 0, 1) := by decide +kernel
theorem dX5_init_65 : decode cX5_init 65 = .ok (.istore_n 1, 1) := by decide +kernel
theorem dX5_init_66 : decode cX5_init 66 = .ok (.iload_n 1, 1) := by decide +kernel
theorem dX5_init_67 : decode cX5_init 67 = .ok (.aload_n 0, 1) := by decide +kernel
theorem dX5_init_68 : decode cX5_init 68 = .ok (.getfield 22, 3) := by decide +kernel
theorem dX5_init_71 : decode cX5_init 71 = .ok (.arraylength, 1) := by decide +kernel
theorem dX5_init_72 : decode cX5_init 72 = .ok (.if_icmp .ge 22, 3) := by decide +kernel
theorem dX5_init_75 : decode cX5_init 75 = .ok (.aload_n 0, 1) := by decide +kernel
theorem dX5_init_76 : decode cX5_init 76 = .ok (.getfield 22, 3) := by decide +kernel
theorem dX5_init_79 : decode cX5_init 79 = .ok (.iload_n 1, 1) := by decide +kernel
theorem dX5_init_80 : decode cX5_init 80 = .ok (.new 9, 3) := by decide +kernel
theorem dX5_init_83 : decode cX5_init 83 = .ok (.dup, 1) := by decide +kernel
theorem dX5_init_84 : decode cX5_init 84 = .ok (.invokespecial 11, 3) := by decide +kernel
theorem dX5_init_87 : decode cX5_init 87 = .ok (.aastore, 1) := by decide +kernel
theorem dX5_init_88 : decode cX5_init 88 = .ok (.iinc 1 1, 3) := by decide +kernel
theorem dX5_init_91 : decode cX5_init 91 = .ok (.goto (-25), 3) := by decide +kernel
theorem dX5_init_94 : decode cX5_init 94 = .ok (.return_, 1) := by decide +kernel
theorem dX5_setTime_0 : decode cX5_setTime 0 = .ok (.iload_n 1, 1) := by decide +kernel
theorem dX5_setTime_1 : decode cX5_setTime 1 = .ok (.invokestatic 37, 3) := by decide +kernel
theorem dX5_setTime_4 : decode cX5_setTime 4 = .ok (.ifCond .eq 10, 3) := by decide +kernel
theorem dX5_setTime_7 : decode cX5_setTime 7 = .ok (.iload_n 2, 1) := by decide +kernel
theorem dX5_setTime_8 : decode cX5_setTime 8 = .ok (.invokestatic 37, 3) := by decide +kernel
theorem dX5_setTime_11 : decode cX5_setTime 11 = .ok (.ifCond .ne 5, 3) := by decide +kernel
theorem dX5_setTime_14 : decode cX5_setTime 14 = .ok (.iconst (-1), 1) := by decide +kernel
theorem dX5_setTime_15 : decode cX5_setTime 15 = .ok (.ireturn, 1) := by decide +kernel
theorem dX5_setTime_16 : decode cX5_setTime 16 = .ok (.iload_n 3, 1) := by decide +kernel
theorem dX5_setTime_17 : decode cX5_setTime 17 = .ok (.invokestatic 41, 3) := by decide +kernel
theorem dX5_setTime_20 : decode cX5_setTime 20 = .ok (.ifCond .eq 8, 3) := by decide +kernel
theorem dX5_setTime_23 : decode cX5_setTime 23 = .ok (.iload_n 1, 1) := by decide +kernel
theorem dX5_setTime_24 : decode cX5_setTime 24 = .ok (.iload_n 2, 1) := by decide +kernel
theorem dX5_setTime_25 : decode cX5_setTime 25 = .ok (.if_icmp .ne 6, 3) := by decide +kernel
theorem dX5_setTime_28 : decode cX5_setTime 28 = .ok (.bipush (-2), 2) := by decide +kernel
theorem dX5_setTime_30 : decode cX5_setTime 30 = .ok (.ireturn, 1) := by decide +kernel
theorem dX5_setTime_31 : decode cX5_setTime 31 = .ok (.aload_n 0, 1) := by decide +kernel
theorem dX5_setTime_32 : decode cX5_setTime 32 = .ok (.iload_n 1, 1) := by decide +kernel
theorem dX5_setTime_33 : decode cX5_setTime 33 = .ok (.iload_n 2, 1) := by decide +kernel
theorem dX5_setTime_34 : decode cX5_setTime 34 = .ok (.iload_n 3, 1) := by decide +kernel
theorem dX5_setTime_35 : decode cX5_setTime 35 = .ok (.invokevirtual 44, 3) := by decide +kernel
theorem dX5_setTime_38 : decode cX5_setTime 38 = .ok (.ireturn, 1) := by decide +kernel
theorem dX5_setBankTime_0 : decode cX5_setBankTime 0 = .ok (.iload_n 1, 1) := by decide +kernel
theorem dX5_setBankTime_1 : decode cX5_setBankTime 1 = .ok (.invokestatic 37, 3) := by decide +kernel
theorem dX5_setBankTime_4 : decode cX5_setBankTime 4 = .ok (.ifCond .ne 5, 3) := by decide +kernel
theorem dX5_setBankTime_7 : decode cX5_setBankTime 7 = .ok (.iconst (-1), 1) := by decide +kernel
theorem dX5_setBankTime_8 : decode cX5_setBankTime 8 = .ok (.ireturn, 1) := by decide +kernel
theorem dX5_setBankTime_9 : decode cX5_setBankTime 9 = .ok (.iload_n 2, 1) := by decide +kernel
theorem dX5_setBankTime_10 : decode cX5_setBankTime 10 = .ok (.invokestatic 41, 3) := by decide +kernel
theorem dX5_setBankTime_13 : decode cX5_setBankTime 13 = .ok (.ifCond .ne 6, 3) := by decide +kernel
theorem dX5_setBankTime_16 : decode cX5_setBankTime 16 = .ok (.bipush (-2), 2) := by decide +kernel
theorem dX5_setBankTime_18 : decode cX5_setBankTime 18 = .ok (.ireturn, 1) := by decide +kernel
theorem dX5_setBankTime_19 : decode cX5_setBankTime 19 = .ok (.aload_n 0, 1) := by decide +kernel
theorem dX5_setBankTime_20 : decode cX5_setBankTime 20 = .ok (.iload_n 1, 1) := by decide +kernel
theorem dX5_setBankTime_21 : decode cX5_setBankTime 21 = .ok (.bipush 6, 2) := by decide +kernel
theorem dX5_setBankTime_23 : decode cX5_setBankTime 23 = .ok (.iload_n 2, 1) := by decide +kernel
theorem dX5_setBankTime_24 : decode cX5_setBankTime 24 = .ok (.invokevirtual 44, 3) := by decide +kernel
theorem dX5_setBankTime_27 : decode cX5_setBankTime 27 = .ok (.ireturn, 1) := by decide +kernel
theorem dX5_set_0 : decode cX5_set 0 = .ok (.iload_n 1, 1) := by decide +kernel
theorem dX5_set_1 : decode cX5_set 1 = .ok (.ifCond .ne 9, 3) := by decide +kernel
theorem dX5_set_4 : decode cX5_set 4 = .ok (.aload_n 0, 1) := by decide +kernel
theorem dX5_set_5 : decode cX5_set 5 = .ok (.iload_n 2, 1) := by decide +kernel
theorem dX5_set_6 : decode cX5_set 6 = .ok (.invokevirtual 48, 3) := by decide +kernel
theorem dX5_set_9 : decode cX5_set 9 = .ok (.ireturn, 1) := by decide +kernel
theorem dX5_set_10 : decode cX5_set 10 = .ok (.iload_n 1, 1) := by decide +kernel
theorem dX5_set_11 : decode cX5_set 11 = .ok (.iconst 1, 1) := by decide +kernel
theorem dX5_set_12 : decode cX5_set 12 = .ok (.if_icmp .ne 9, 3) := by decide +kernel
theorem dX5_set_15 : decode cX5_set 15 = .ok (.aload_n 0, 1) := by decide +kernel
theorem dX5_set_16 : decode cX5_set 16 = .ok (.iload_n 2, 1) := by decide +kernel
theorem dX5_set_17 : decode cX5_set 17 = .ok (.invokevirtual 52, 3) := by decide +kernel
theorem dX5_set_20 : decode cX5_set 20 = .ok (.ireturn, 1) := by decide +kernel
theorem dX5_set_21 : decode cX5_set 21 = .ok (.iconst (-1), 1) := by decide +kernel
theorem dX5_set_22 : decode cX5_set 22 = .ok (.ireturn, 1) := by decide +kernel
theorem dX5_launch_0 : decode cX5_launch 0 = .ok (.aload_n 0, 1) := by decide +kernel
theorem dX5_launch_1 : decode cX5_launch 1 = .ok (.getfield 33, 3) := by decide +kernel
theorem dX5_launch_4 : decode cX5_launch 4 = .ok (.aload_n 0, 1) := by decide +kernel
theorem dX5_launch_5 : decode cX5_launch 5 = .ok (.getfield 26, 3) := by decide +kernel
theorem dX5_launch_8 : decode cX5_launch 8 = .ok (.aload_n 0, 1) := by decide +kernel
theorem dX5_launch_9 : decode cX5_launch 9 = .ok (.getfield 55, 3) := by decide +kernel
theorem dX5_launch_12 : decode cX5_launch 12 = .ok (.invokevirtual 59, 3) := by decide +kernel
theorem dX5_launch_15 : decode cX5_launch 15 = .ok (.istore_n 1, 1) := by decide +kernel
theorem dX5_launch_16 : decode cX5_launch 16 = .ok (.iload_n 1, 1) := by decide +kernel
theorem dX5_launch_17 : decode cX5_launch 17 = .ok (.iconst (-1), 1) := by decide +kernel
theorem dX5_launch_18 : decode cX5_launch 18 = .ok (.if_icmp .eq 8, 3) := by decide +kernel
theorem dX5_launch_21 : decode cX5_launch 21 = .ok (.bipush (-100), 2) := by decide +kernel
theorem dX5_launch_23 : decode cX5_launch 23 = .ok (.iload_n 1, 1) := by decide +kernel
theorem dX5_launch_24 : decode cX5_launch 24 = .ok (.isub, 1) := by decide +kernel
theorem dX5_launch_25 : decode cX5_launch 25 = .ok (.ireturn, 1) := by decide +kernel
theorem dX5_launch_26 : decode cX5_launch 26 = .ok (.aload_n 0, 1) := by decide +kernel
theorem dX5_launch_27 : decode cX5_launch 27 = .ok (.getfield 12, 3) := by decide +kernel
theorem dX5_launch_30 : decode cX5_launch 30 = .ok (.invokevirtual 63, 3) := by decide +kernel
theorem dX5_launch_33 : decode cX5_launch 33 = .ok (.aload_n 0, 1) := by decide +kernel
theorem dX5_launch_34 : decode cX5_launch 34 = .ok (.getfield 33, 3) := by decide +kernel
theorem dX5_launch_37 : decode cX5_launch 37 = .ok (.getfield 67, 3) := by decide +kernel
theorem dX5_launch_40 : decode cX5_launch 40 = .ok (.iadd, 1) := by decide +kernel
theorem dX5_launch_41 : decode cX5_launch 41 = .ok (.bipush 80, 2) := by decide +kernel
theorem dX5_launch_43 : decode cX5_launch 43 = .ok (.if_icmp .le 6, 3) := by decide +kernel
theorem dX5_launch_46 : decode cX5_launch 46 = .ok (.bipush (-3), 2) := by decide +kernel
theorem dX5_launch_48 : decode cX5_launch 48 = .ok (.ireturn, 1) := by decide +kernel
theorem dX5_launch_49 : decode cX5_launch 49 = .ok (.aload_n 0, 1) := by decide +kernel
theorem dX5_launch_50 : decode cX5_launch 50 = .ok (.invokevirtual 70, 3) := by decide +kernel
theorem dX5_launch_53 : decode cX5_launch 53 = .ok (.aload_n 0, 1) := by decide +kernel
theorem dX5_launch_54 : decode cX5_launch 54 = .ok (.getfield 12, 3) := by decide +kernel
theorem dX5_launch_57 : decode cX5_launch 57 = .ok (.aload_n 0, 1) := by decide +kernel
theorem dX5_launch_58 : decode cX5_launch 58 = .ok (.getfield 33, 3) := by decide +kernel
theorem dX5_launch_61 : decode cX5_launch 61 = .ok (.invokevirtual 73, 3) := by decide +kernel
theorem dX5_launch_64 : decode cX5_launch 64 = .ok (.aload_n 0, 1) := by decide +kernel
theorem dX5_launch_65 : decode cX5_launch 65 = .ok (.getfield 33, 3) := by decide +kernel
theorem dX5_launch_68 : decode cX5_launch 68 = .ok (.getfield 77, 3) := by decide +kernel
theorem dX5_launch_71 : decode cX5_launch 71 = .ok (.ireturn, 1) := by decide +kernel
theorem dX5_pass_0 : decode cX5_pass 0 = .ok (.iload_n 1, 1) := by decide +kernel
theorem dX5_pass_1 : decode cX5_pass 1 = .ok (.iconst 1, 1) := by decide +kernel
theorem dX5_pass_2 : decode cX5_pass 2 = .ok (.if_icmp .lt 9, 3) := by decide +kernel
theorem dX5_pass_5 : decode cX5_pass 5 = .ok (.iload_n 1, 1) := by decide +kernel
theorem dX5_pass_6 : decode cX5_pass 6 = .ok (.bipush 100, 2) := by decide +kernel
theorem dX5_pass_8 : decode cX5_pass 8 = .ok (.if_icmp .le 6, 3) := by decide +kernel
theorem dX5_pass_11 : decode cX5_pass 11 = .ok (.bipush (-2), 2) := by decide +kernel
theorem dX5_pass_13 : decode cX5_pass 13 = .ok (.ireturn, 1) := by decide +kernel
theorem dX5_pass_14 : decode cX5_pass 14 = .ok (.aload_n 0, 1) := by decide +kernel
theorem dX5_pass_15 : decode cX5_pass 15 = .ok (.getfield 12, 3) := by decide +kernel
theorem dX5_pass_18 : decode cX5_pass 18 = .ok (.getfield 80, 3) := by decide +kernel
theorem dX5_pass_21 : decode cX5_pass 21 = .ok (.iload_n 1, 1) := by decide +kernel
theorem dX5_pass_22 : decode cX5_pass 22 = .ok (.iadd, 1) := by decide +kernel
theorem dX5_pass_23 : decode cX5_pass 23 = .ok (.ldc 83, 2) := by decide +kernel
theorem dX5_pass_25 : decode cX5_pass 25 = .ok (.if_icmp .le 6, 3) := by decide +kernel
theorem dX5_pass_28 : decode cX5_pass 28 = .ok (.bipush (-3), 2) := by decide +kernel
theorem dX5_pass_30 : decode cX5_pass 30 = .ok (.ireturn, 1) := by decide +kernel
theorem dX5_pass_31 : decode cX5_pass 31 = .ok (.aload_n 0, 1) := by decide +kernel
theorem dX5_pass_32 : decode cX5_pass 32 = .ok (.invokevirtual 70, 3) := by decide +kernel
theorem dX5_pass_35 : decode cX5_pass 35 = .ok (.iconst 0, 1) := by decide +kernel
theorem dX5_pass_36 : decode cX5_pass 36 = .ok (.istore_n 2, 1) := by decide +kernel
theorem dX5_pass_37 : decode cX5_pass 37 = .ok (.iload_n 2, 1) := by decide +kernel
theorem dX5_pass_38 : decode cX5_pass 38 = .ok (.iload_n 1, 1) := by decide +kernel
theorem dX5_pass_39 : decode cX5_pass 39 = .ok (.if_icmp .ge 16, 3) := by decide +kernel
theorem dX5_pass_42 : decode cX5_pass 42 = .ok (.aload_n 0, 1) := by decide +kernel
theorem dX5_pass_43 : decode cX5_pass 43 = .ok (.getfield 12, 3) := by decide +kernel
theorem dX5_pass_46 : decode cX5_pass 46 = .ok (.invokevirtual 84, 3) := by decide +kernel
theorem dX5_pass_49 : decode cX5_pass 49 = .ok (.iinc 2 1, 3) := by decide +kernel
theorem dX5_pass_52 : decode cX5_pass 52 = .ok (.goto (-15), 3) := by decide +kernel
theorem dX5_pass_55 : decode cX5_pass 55 = .ok (.aload_n 0, 1) := by decide +kernel
theorem dX5_pass_56 : decode cX5_pass 56 = .ok (.getfield 12, 3) := by decide +kernel
theorem dX5_pass_59 : decode cX5_pass 59 = .ok (.getfield 80, 3) := by decide +kernel
theorem dX5_pass_62 : decode cX5_pass 62 = .ok (.ireturn, 1) := by decide +kernel
theorem dX5_lose_0 : decode cX5_lose 0 = .ok (.iload_n 1, 1) := by decide +kernel
theorem dX5_lose_1 : decode cX5_lose 1 = .ok (.ifCond .ge 6, 3) := by decide +kernel
theorem dX5_lose_4 : decode cX5_lose 4 = .ok (.bipush (-2), 2) := by decide +kernel
theorem dX5_lose_6 : decode cX5_lose 6 = .ok (.ireturn, 1) := by decide +kernel
theorem dX5_lose_7 : decode cX5_lose 7 = .ok (.aload_n 0, 1) := by decide +kernel
theorem dX5_lose_8 : decode cX5_lose 8 = .ok (.getfield 12, 3) := by decide +kernel
theorem dX5_lose_11 : decode cX5_lose 11 = .ok (.iload_n 1, 1) := by decide +kernel
theorem dX5_lose_12 : decode cX5_lose 12 = .ok (.invokevirtual 87, 3) := by decide +kernel
theorem dX5_lose_15 : decode cX5_lose 15 = .ok (.ifCond .ne 5, 3) := by decide +kernel
theorem dX5_lose_18 : decode cX5_lose 18 = .ok (.iconst (-1), 1) := by decide +kernel
theorem dX5_lose_19 : decode cX5_lose 19 = .ok (.ireturn, 1) := by decide +kernel
theorem dX5_lose_20 : decode cX5_lose 20 = .ok (.aload_n 0, 1) := by decide +kernel
theorem dX5_lose_21 : decode cX5_lose 21 = .ok (.invokevirtual 70, 3) := by decide +kernel
theorem dX5_lose_24 : decode cX5_lose 24 = .ok (.aload_n 0, 1) := by decide +kernel
theorem dX5_lose_25 : decode cX5_lose 25 = .ok (.getfield 12, 3) := by decide +kernel
theorem dX5_lose_28 : decode cX5_lose 28 = .ok (.iload_n 1, 1) := by decide +kernel
theorem dX5_lose_29 : decode cX5_lose 29 = .ok (.invokevirtual 90, 3) := by decide +kernel
theorem dX5_lose_32 : decode cX5_lose 32 = .ok (.ireturn, 1) := by decide +kernel
theorem dX5_makeGood_0 : decode cX5_makeGood 0 = .ok (.aload_n 0, 1) := by decide +kernel
theorem dX5_makeGood_1 : decode cX5_makeGood 1 = .ok (.getfield 12, 3) := by decide +kernel
theorem dX5_makeGood_4 : decode cX5_makeGood 4 = .ok (.getfield 93, 3) := by decide +kernel
theorem dX5_makeGood_7 : decode cX5_makeGood 7 = .ok (.ifCond .ne 6, 3) := by decide +kernel
theorem dX5_makeGood_10 : decode cX5_makeGood 10 = .ok (.bipush (-5), 2) := by decide +kernel
theorem dX5_makeGood_12 : decode cX5_makeGood 12 = .ok (.ireturn, 1) := by decide +kernel
theorem dX5_makeGood_13 : decode cX5_makeGood 13 = .ok (.aload_n 0, 1) := by decide +kernel
theorem dX5_makeGood_14 : decode cX5_makeGood 14 = .ok (.invokevirtual 70, 3) := by decide +kernel
theorem dX5_makeGood_17 : decode cX5_makeGood 17 = .ok (.aload_n 0, 1) := by decide +kernel
theorem dX5_makeGood_18 : decode cX5_makeGood 18 = .ok (.getfield 12, 3) := by decide +kernel
theorem dX5_makeGood_21 : decode cX5_makeGood 21 = .ok (.invokevirtual 97, 3) := by decide +kernel
theorem dX5_makeGood_24 : decode cX5_makeGood 24 = .ok (.ireturn, 1) := by decide +kernel
theorem dX5_type_0 : decode cX5_type 0 = .ok (.aload_n 0, 1) := by decide +kernel
theorem dX5_type_1 : decode cX5_type 1 = .ok (.getfield 55, 3) := by decide +kernel
theorem dX5_type_4 : decode cX5_type 4 = .ok (.ifCond .lt 15, 3) := by decide +kernel
theorem dX5_type_7 : decode cX5_type 7 = .ok (.aload_n 0, 1) := by decide +kernel
theorem dX5_type_8 : decode cX5_type 8 = .ok (.getfield 55, 3) := by decide +kernel
theorem dX5_type_11 : decode cX5_type 11 = .ok (.aload_n 0, 1) := by decide +kernel
theorem dX5_type_12 : decode cX5_type 12 = .ok (.getfield 26, 3) := by decide +kernel
theorem dX5_type_15 : decode cX5_type 15 = .ok (.arraylength, 1) := by decide +kernel
theorem dX5_type_16 : decode cX5_type 16 = .ok (.if_icmp .lt 6, 3) := by decide +kernel
theorem dX5_type_19 : decode cX5_type 19 = .ok (.bipush (-3), 2) := by decide +kernel
theorem dX5_type_21 : decode cX5_type 21 = .ok (.ireturn, 1) := by decide +kernel
theorem dX5_type_22 : decode cX5_type 22 = .ok (.aload_n 0, 1) := by decide +kernel
theorem dX5_type_23 : decode cX5_type 23 = .ok (.getfield 26, 3) := by decide +kernel
theorem dX5_type_26 : decode cX5_type 26 = .ok (.aload_n 0, 1) := by decide +kernel
theorem dX5_type_27 : decode cX5_type 27 = .ok (.getfield 55, 3) := by decide +kernel
theorem dX5_type_30 : decode cX5_type 30 = .ok (.iload_n 1, 1) := by decide +kernel
theorem dX5_type_31 : decode cX5_type 31 = .ok (.castore, 1) := by decide +kernel
theorem dX5_type_32 : decode cX5_type 32 = .ok (.aload_n 0, 1) := by decide +kernel
theorem dX5_type_33 : decode cX5_type 33 = .ok (.dup, 1) := by decide +kernel
theorem dX5_type_34 : decode cX5_type 34 = .ok (.getfield 55, 3) := by decide +kernel
theorem dX5_type_37 : decode cX5_type 37 = .ok (.iconst 1, 1) := by decide +kernel
theorem dX5_type_38 : decode cX5_type 38 = .ok (.iadd, 1) := by decide +kernel
theorem dX5_type_39 : decode cX5_type 39 = .ok (.putfield 55, 3) := by decide +kernel
theorem dX5_type_42 : decode cX5_type 42 = .ok (.aload_n 0, 1) := by decide +kernel
theorem dX5_type_43 : decode cX5_type 43 = .ok (.getfield 55, 3) := by decide +kernel
theorem dX5_type_46 : decode cX5_type 46 = .ok (.ireturn, 1) := by decide +kernel
theorem dX5_clearText_0 : decode cX5_clearText 0 = .ok (.aload_n 0, 1) := by decide +kernel
theorem dX5_clearText_1 : decode cX5_clearText 1 = .ok (.getfield 55, 3) := by decide +kernel
theorem dX5_clearText_4 : decode cX5_clearText 4 = .ok (.istore_n 1, 1) := by decide +kernel
theorem dX5_clearText_5 : decode cX5_clearText 5 = .ok (.aload_n 0, 1) := by decide +kernel
theorem dX5_clearText_6 : decode cX5_clearText 6 = .ok (.iconst 0, 1) := by decide +kernel
theorem dX5_clearText_7 : decode cX5_clearText 7 = .ok (.putfield 55, 3) := by decide +kernel
theorem dX5_clearText_10 : decode cX5_clearText 10 = .ok (.iload_n 1, 1) := by decide +kernel
theorem dX5_clearText_11 : decode cX5_clearText 11 = .ok (.ireturn, 1) := by decide +kernel
theorem dX5_undo_0 : decode cX5_undo 0 = .ok (.aload_n 0, 1) := by decide +kernel
theorem dX5_undo_1 : decode cX5_undo 1 = .ok (.getfield 100, 3) := by decide +kernel
theorem dX5_undo_4 : decode cX5_undo 4 = .ok (.iconst 1, 1) := by decide +kernel
theorem dX5_undo_5 : decode cX5_undo 5 = .ok (.isub, 1) := by decide +kernel
theorem dX5_undo_6 : decode cX5_undo 6 = .ok (.istore_n 1, 1) := by decide +kernel
theorem dX5_undo_7 : decode cX5_undo 7 = .ok (.iload_n 1, 1) := by decide +kernel
theorem dX5_undo_8 : decode cX5_undo 8 = .ok (.ifCond .lt 12, 3) := by decide +kernel
theorem dX5_undo_11 : decode cX5_undo 11 = .ok (.iload_n 1, 1) := by decide +kernel
theorem dX5_undo_12 : decode cX5_undo 12 = .ok (.aload_n 0, 1) := by decide +kernel
theorem dX5_undo_13 : decode cX5_undo 13 = .ok (.getfield 22, 3) := by decide +kernel
theorem dX5_undo_16 : decode cX5_undo 16 = .ok (.arraylength, 1) := by decide +kernel
theorem dX5_undo_17 : decode cX5_undo 17 = .ok (.if_icmp .lt 6, 3) := by decide +kernel
theorem dX5_undo_20 : decode cX5_undo 20 = .ok (.bipush (-5), 2) := by decide +kernel
theorem dX5_undo_22 : decode cX5_undo 22 = .ok (.ireturn, 1) := by decide +kernel
theorem dX5_undo_23 : decode cX5_undo 23 = .ok (.aload_n 0, 1) := by decide +kernel
theorem dX5_undo_24 : decode cX5_undo 24 = .ok (.getfield 12, 3) := by decide +kernel
theorem dX5_undo_27 : decode cX5_undo 27 = .ok (.aload_n 0, 1) := by decide +kernel
theorem dX5_undo_28 : decode cX5_undo 28 = .ok (.getfield 22, 3) := by decide +kernel
theorem dX5_undo_31 : decode cX5_undo 31 = .ok (.iload_n 1, 1) := by decide +kernel
theorem dX5_undo_32 : decode cX5_undo 32 = .ok (.aaload, 1) := by decide +kernel
theorem dX5_undo_33 : decode cX5_undo 33 = .ok (.invokevirtual 103, 3) := by decide +kernel
theorem dX5_undo_36 : decode cX5_undo 36 = .ok (.aload_n 0, 1) := by decide +kernel
theorem dX5_undo_37 : decode cX5_undo 37 = .ok (.iload_n 1, 1) := by decide +kernel
theorem dX5_undo_38 : decode cX5_undo 38 = .ok (.putfield 100, 3) := by decide +kernel
theorem dX5_undo_41 : decode cX5_undo 41 = .ok (.aload_n 0, 1) := by decide +kernel
theorem dX5_undo_42 : decode cX5_undo 42 = .ok (.getfield 100, 3) := by decide +kernel
theorem dX5_undo_45 : decode cX5_undo 45 = .ok (.ireturn, 1) := by decide +kernel
theorem dX5_time_0 : decode cX5_time 0 = .ok (.iload_n 1, 1) := by decide +kernel
theorem dX5_time_1 : decode cX5_time 1 = .ok (.invokestatic 37, 3) := by decide +kernel
theorem dX5_time_4 : decode cX5_time 4 = .ok (.ifCond .eq 10, 3) := by decide +kernel
theorem dX5_time_7 : decode cX5_time 7 = .ok (.iload_n 2, 1) := by decide +kernel
theorem dX5_time_8 : decode cX5_time 8 = .ok (.invokestatic 37, 3) := by decide +kernel
theorem dX5_time_11 : decode cX5_time 11 = .ok (.ifCond .ne 5, 3) := by decide +kernel
theorem dX5_time_14 : decode cX5_time 14 = .ok (.iconst (-1), 1) := by decide +kernel
theorem dX5_time_15 : decode cX5_time 15 = .ok (.ireturn, 1) := by decide +kernel
theorem dX5_time_16 : decode cX5_time 16 = .ok (.aload_n 0, 1) := by decide +kernel
theorem dX5_time_17 : decode cX5_time 17 = .ok (.getfield 12, 3) := by decide +kernel
theorem dX5_time_20 : decode cX5_time 20 = .ok (.iload_n 1, 1) := by decide +kernel
theorem dX5_time_21 : decode cX5_time 21 = .ok (.iload_n 2, 1) := by decide +kernel
theorem dX5_time_22 : decode cX5_time 22 = .ok (.invokevirtual 110, 3) := by decide +kernel
theorem dX5_time_25 : decode cX5_time 25 = .ok (.ireturn, 1) := by decide +kernel
theorem dX5_bankTime_0 : decode cX5_bankTime 0 = .ok (.iload_n 1, 1) := by decide +kernel
theorem dX5_bankTime_1 : decode cX5_bankTime 1 = .ok (.invokestatic 37, 3) := by decide +kernel
theorem dX5_bankTime_4 : decode cX5_bankTime 4 = .ok (.ifCond .eq 16, 3) := by decide +kernel
theorem dX5_bankTime_7 : decode cX5_bankTime 7 = .ok (.aload_n 0, 1) := by decide +kernel
theorem dX5_bankTime_8 : decode cX5_bankTime 8 = .ok (.getfield 12, 3) := by decide +kernel
theorem dX5_bankTime_11 : decode cX5_bankTime 11 = .ok (.iload_n 1, 1) := by decide +kernel
theorem dX5_bankTime_12 : decode cX5_bankTime 12 = .ok (.bipush 6, 2) := by decide +kernel
theorem dX5_bankTime_14 : decode cX5_bankTime 14 = .ok (.invokevirtual 110, 3) := by decide +kernel
theorem dX5_bankTime_17 : decode cX5_bankTime 17 = .ok (.goto 4, 3) := by decide +kernel
theorem dX5_bankTime_20 : decode cX5_bankTime 20 = .ok (.iconst (-1), 1) := by decide +kernel
theorem dX5_bankTime_21 : decode cX5_bankTime 21 = .ok (.ireturn, 1) := by decide +kernel
theorem dX5_house_0 : decode cX5_house 0 = .ok (.iload_n 1, 1) := by decide +kernel
theorem dX5_house_1 : decode cX5_house 1 = .ok (.invokestatic 37, 3) := by decide +kernel
theorem dX5_house_4 : decode cX5_house 4 = .ok (.ifCond .eq 19, 3) := by decide +kernel
theorem dX5_house_7 : decode cX5_house 7 = .ok (.aload_n 0, 1) := by decide +kernel
theorem dX5_house_8 : decode cX5_house 8 = .ok (.getfield 12, 3) := by decide +kernel
theorem dX5_house_11 : decode cX5_house 11 = .ok (.getfield 114, 3) := by decide +kernel
theorem dX5_house_14 : decode cX5_house 14 = .ok (.iload_n 1, 1) := by decide +kernel
theorem dX5_house_15 : decode cX5_house 15 = .ok (.aaload, 1) := by decide +kernel
theorem dX5_house_16 : decode cX5_house 16 = .ok (.iload_n 2, 1) := by decide +kernel
theorem dX5_house_17 : decode cX5_house 17 = .ok (.invokevirtual 118, 3) := by decide +kernel
theorem dX5_house_20 : decode cX5_house 20 = .ok (.goto 4, 3) := by decide +kernel
theorem dX5_house_23 : decode cX5_house 23 = .ok (.iconst (-1), 1) := by decide +kernel
theorem dX5_house_24 : decode cX5_house 24 = .ok (.ireturn, 1) := by decide +kernel
theorem dX5_waiting_0 : decode cX5_waiting 0 = .ok (.iload_n 1, 1) := by decide +kernel
theorem dX5_waiting_1 : decode cX5_waiting 1 = .ok (.invokestatic 37, 3) := by decide +kernel
theorem dX5_waiting_4 : decode cX5_waiting 4 = .ok (.ifCond .ne 5, 3) := by decide +kernel
theorem dX5_waiting_7 : decode cX5_waiting 7 = .ok (.iconst (-1), 1) := by decide +kernel
theorem dX5_waiting_8 : decode cX5_waiting 8 = .ok (.ireturn, 1) := by decide +kernel
theorem dX5_waiting_9 : decode cX5_waiting 9 = .ok (.iload_n 3, 1) := by decide +kernel
theorem dX5_waiting_10 : decode cX5_waiting 10 = .ok (.ifCond .lt 12, 3) := by decide +kernel
theorem dX5_waiting_13 : decode cX5_waiting 13 = .ok (.iload_n 3, 1) := by decide +kernel
theorem dX5_waiting_14 : decode cX5_waiting 14 = .ok (.iconst 3, 1) := by decide +kernel
theorem dX5_waiting_15 : decode cX5_waiting 15 = .ok (.if_icmp .gt 7, 3) := by decide +kernel
theorem dX5_waiting_18 : decode cX5_waiting 18 = .ok (.iload_n 2, 1) := by decide +kernel
theorem dX5_waiting_19 : decode cX5_waiting 19 = .ok (.ifCond .ge 6, 3) := by decide +kernel
theorem dX5_waiting_22 : decode cX5_waiting 22 = .ok (.bipush (-2), 2) := by decide +kernel
theorem dX5_waiting_24 : decode cX5_waiting 24 = .ok (.ireturn, 1) := by decide +kernel
theorem dX5_waiting_25 : decode cX5_waiting 25 = .ok (.aload_n 0, 1) := by decide +kernel
theorem dX5_waiting_26 : decode cX5_waiting 26 = .ok (.getfield 12, 3) := by decide +kernel
theorem dX5_waiting_29 : decode cX5_waiting 29 = .ok (.getfield 114, 3) := by decide +kernel
theorem dX5_waiting_32 : decode cX5_waiting 32 = .ok (.iload_n 1, 1) := by decide +kernel
theorem dX5_waiting_33 : decode cX5_waiting 33 = .ok (.aaload, 1) := by decide +kernel
theorem dX5_waiting_34 : decode cX5_waiting 34 = .ok (.iload_n 2, 1) := by decide +kernel
theorem dX5_waiting_35 : decode cX5_waiting 35 = .ok (.invokevirtual 123, 3) := by decide +kernel
theorem dX5_waiting_38 : decode cX5_waiting 38 = .ok (.astore 4, 2) := by decide +kernel
theorem dX5_waiting_40 : decode cX5_waiting 40 = .ok (.aload 4, 2) := by decide +kernel
theorem dX5_waiting_42 : decode cX5_waiting 42 = .ok (.ifnonnull 8, 3) := by decide +kernel
theorem dX5_waiting_45 : decode cX5_waiting 45 = .ok (.bipush (-5), 2) := by decide +kernel
theorem dX5_waiting_47 : decode cX5_waiting 47 = .ok (.goto 9, 3) := by decide +kernel
theorem dX5_waiting_50 : decode cX5_waiting 50 = .ok (.aload 4, 2) := by decide +kernel
theorem dX5_waiting_52 : decode cX5_waiting 52 = .ok (.iload_n 3, 1) := by decide +kernel
theorem dX5_waiting_53 : decode cX5_waiting 53 = .ok (.invokevirtual 127, 3) := by decide +kernel
theorem dX5_waiting_56 : decode cX5_waiting 56 = .ok (.ireturn, 1) := by decide +kernel
theorem dX5_message_0 : decode cX5_message 0 = .ok (.iload_n 2, 1) := by decide +kernel
theorem dX5_message_1 : decode cX5_message 1 = .ok (.ifCond .lt 13, 3) := by decide +kernel
theorem dX5_message_4 : decode cX5_message 4 = .ok (.iload_n 2, 1) := by decide +kernel
theorem dX5_message_5 : decode cX5_message 5 = .ok (.bipush 6, 2) := by decide +kernel
theorem dX5_message_7 : decode cX5_message 7 = .ok (.if_icmp .gt 7, 3) := by decide +kernel
theorem dX5_message_10 : decode cX5_message 10 = .ok (.iload_n 1, 1) := by decide +kernel
theorem dX5_message_11 : decode cX5_message 11 = .ok (.ifCond .ge 6, 3) := by decide +kernel
theorem dX5_message_14 : decode cX5_message 14 = .ok (.bipush (-2), 2) := by decide +kernel
theorem dX5_message_16 : decode cX5_message 16 = .ok (.ireturn, 1) := by decide +kernel
theorem dX5_message_17 : decode cX5_message 17 = .ok (.aload_n 0, 1) := by decide +kernel
theorem dX5_message_18 : decode cX5_message 18 = .ok (.getfield 12, 3) := by decide +kernel
theorem dX5_message_21 : decode cX5_message 21 = .ok (.iload_n 1, 1) := by decide +kernel
theorem dX5_message_22 : decode cX5_message 22 = .ok (.invokevirtual 87, 3) := by decide +kernel
theorem dX5_message_25 : decode cX5_message 25 = .ok (.ifCond .eq 26, 3) := by decide +kernel
theorem dX5_message_28 : decode cX5_message 28 = .ok (.aload_n 0, 1) := by decide +kernel
theorem dX5_message_29 : decode cX5_message 29 = .ok (.getfield 12, 3) := by decide +kernel
theorem dX5_message_32 : decode cX5_message 32 = .ok (.getfield 130, 3) := by decide +kernel
theorem dX5_message_35 : decode cX5_message 35 = .ok (.iload_n 1, 1) := by decide +kernel
theorem dX5_message_36 : decode cX5_message 36 = .ok (.aaload, 1) := by decide +kernel
theorem dX5_message_37 : decode cX5_message 37 = .ok (.iload_n 2, 1) := by decide +kernel
theorem dX5_message_38 : decode cX5_message 38 = .ok (.aload_n 0, 1) := by decide +kernel
theorem dX5_message_39 : decode cX5_message 39 = .ok (.getfield 12, 3) := by decide +kernel
theorem dX5_message_42 : decode cX5_message 42 = .ok (.getfield 80, 3) := by decide +kernel
theorem dX5_message_45 : decode cX5_message 45 = .ok (.invokevirtual 134, 3) := by decide +kernel
theorem dX5_message_48 : decode cX5_message 48 = .ok (.goto 5, 3) := by decide +kernel
theorem dX5_message_51 : decode cX5_message 51 = .ok (.bipush (-5), 2) := by decide +kernel
theorem dX5_message_53 : decode cX5_message 53 = .ok (.ireturn, 1) := by decide +kernel
theorem dX5_total_0 : decode cX5_total 0 = .ok (.iload_n 1, 1) := by decide +kernel
theorem dX5_total_1 : decode cX5_total 1 = .ok (.bipush 15, 2) := by decide +kernel
theorem dX5_total_3 : decode cX5_total 3 = .ok (.if_icmp .ne 8, 3) := by decide +kernel
theorem dX5_total_6 : decode cX5_total 6 = .ok (.aload_n 0, 1) := by decide +kernel
theorem dX5_total_7 : decode cX5_total 7 = .ok (.getfield 100, 3) := by decide +kernel
theorem dX5_total_10 : decode cX5_total 10 = .ok (.ireturn, 1) := by decide +kernel
theorem dX5_total_11 : decode cX5_total 11 = .ok (.iload_n 1, 1) := by decide +kernel
theorem dX5_total_12 : decode cX5_total 12 = .ok (.bipush 16, 2) := by decide +kernel
theorem dX5_total_14 : decode cX5_total 14 = .ok (.if_icmp .ne 10, 3) := by decide +kernel
theorem dX5_total_17 : decode cX5_total 17 = .ok (.aload_n 0, 1) := by decide +kernel
theorem dX5_total_18 : decode cX5_total 18 = .ok (.getfield 55, 3) := by decide +kernel
theorem dX5_total_21 : decode cX5_total 21 = .ok (.goto 11, 3) := by decide +kernel
theorem dX5_total_24 : decode cX5_total 24 = .ok (.aload_n 0, 1) := by decide +kernel
theorem dX5_total_25 : decode cX5_total 25 = .ok (.getfield 12, 3) := by decide +kernel
theorem dX5_total_28 : decode cX5_total 28 = .ok (.iload_n 1, 1) := by decide +kernel
theorem dX5_total_29 : decode cX5_total 29 = .ok (.invokevirtual 138, 3) := by decide +kernel
theorem dX5_total_32 : decode cX5_total 32 = .ok (.ireturn, 1) := by decide +kernel
theorem dX5_quietIn_0 : decode cX5_quietIn 0 = .ok (.aload_n 0, 1) := by decide +kernel
theorem dX5_quietIn_1 : decode cX5_quietIn 1 = .ok (.iconst 1, 1) := by decide +kernel
theorem dX5_quietIn_2 : decode cX5_quietIn 2 = .ok (.invokevirtual 139, 3) := by decide +kernel
theorem dX5_quietIn_5 : decode cX5_quietIn 5 = .ok (.ireturn, 1) := by decide +kernel
theorem dX5_idleIn_0 : decode cX5_idleIn 0 = .ok (.aload_n 0, 1) := by decide +kernel
theorem dX5_idleIn_1 : decode cX5_idleIn 1 = .ok (.iconst 0, 1) := by decide +kernel
theorem dX5_idleIn_2 : decode cX5_idleIn 2 = .ok (.invokevirtual 139, 3) := by decide +kernel
theorem dX5_idleIn_5 : decode cX5_idleIn 5 = .ok (.ireturn, 1) := by decide +kernel
theorem dX5_planned_0 : decode cX5_planned 0 = .ok (.iload_n 1, 1) := by decide +kernel
theorem dX5_planned_1 : decode cX5_planned 1 = .ok (.ifCond .lt 8, 3) := by decide +kernel
theorem dX5_planned_4 : decode cX5_planned 4 = .ok (.iload_n 1, 1) := by decide +kernel
theorem dX5_planned_5 : decode cX5_planned 5 = .ok (.iconst 3, 1) := by decide +kernel
theorem dX5_planned_6 : decode cX5_planned 6 = .ok (.if_icmp .le 6, 3) := by decide +kernel
theorem dX5_planned_9 : decode cX5_planned 9 = .ok (.bipush (-2), 2) := by decide +kernel
theorem dX5_planned_11 : decode cX5_planned 11 = .ok (.ireturn, 1) := by decide +kernel
theorem dX5_planned_12 : decode cX5_planned 12 = .ok (.aload_n 0, 1) := by decide +kernel
theorem dX5_planned_13 : decode cX5_planned 13 = .ok (.getfield 33, 3) := by decide +kernel
theorem dX5_planned_16 : decode cX5_planned 16 = .ok (.aload_n 0, 1) := by decide +kernel
theorem dX5_planned_17 : decode cX5_planned 17 = .ok (.getfield 26, 3) := by decide +kernel
theorem dX5_planned_20 : decode cX5_planned 20 = .ok (.aload_n 0, 1) := by decide +kernel
theorem dX5_planned_21 : decode cX5_planned 21 = .ok (.getfield 55, 3) := by decide +kernel
theorem dX5_planned_24 : decode cX5_planned 24 = .ok (.invokevirtual 59, 3) := by decide +kernel
theorem dX5_planned_27 : decode cX5_planned 27 = .ok (.istore_n 2, 1) := by decide +kernel
theorem dX5_planned_28 : decode cX5_planned 28 = .ok (.iload_n 2, 1) := by decide +kernel
theorem dX5_planned_29 : decode cX5_planned 29 = .ok (.iconst (-1), 1) := by decide +kernel
theorem dX5_planned_30 : decode cX5_planned 30 = .ok (.if_icmp .ne 14, 3) := by decide +kernel
theorem dX5_planned_33 : decode cX5_planned 33 = .ok (.aload_n 0, 1) := by decide +kernel
theorem dX5_planned_34 : decode cX5_planned 34 = .ok (.getfield 33, 3) := by decide +kernel
theorem dX5_planned_37 : decode cX5_planned 37 = .ok (.iload_n 1, 1) := by decide +kernel
theorem dX5_planned_38 : decode cX5_planned 38 = .ok (.invokevirtual 143, 3) := by decide +kernel
theorem dX5_planned_41 : decode cX5_planned 41 = .ok (.goto 7, 3) := by decide +kernel
theorem dX5_planned_44 : decode cX5_planned 44 = .ok (.bipush (-100), 2) := by decide +kernel
theorem dX5_planned_46 : decode cX5_planned 46 = .ok (.iload_n 2, 1) := by decide +kernel
theorem dX5_planned_47 : decode cX5_planned 47 = .ok (.isub, 1) := by decide +kernel
theorem dX5_planned_48 : decode cX5_planned 48 = .ok (.ireturn, 1) := by decide +kernel
theorem dX5_isHouse_0 : decode cX5_isHouse 0 = .ok (.iload_n 0, 1) := by decide +kernel
theorem dX5_isHouse_1 : decode cX5_isHouse 1 = .ok (.ifCond .lt 13, 3) := by decide +kernel
theorem dX5_isHouse_4 : decode cX5_isHouse 4 = .ok (.iload_n 0, 1) := by decide +kernel
theorem dX5_isHouse_5 : decode cX5_isHouse 5 = .ok (.bipush 6, 2) := by decide +kernel
theorem dX5_isHouse_7 : decode cX5_isHouse 7 = .ok (.if_icmp .ge 7, 3) := by decide +kernel
theorem dX5_isHouse_10 : decode cX5_isHouse 10 = .ok (.iconst 1, 1) := by decide +kernel
theorem dX5_isHouse_11 : decode cX5_isHouse 11 = .ok (.goto 4, 3) := by decide +kernel
theorem dX5_isHouse_14 : decode cX5_isHouse 14 = .ok (.iconst 0, 1) := by decide +kernel
theorem dX5_isHouse_15 : decode cX5_isHouse 15 = .ok (.ireturn, 1) := by decide +kernel
theorem dX5_isWay_0 : decode cX5_isWay 0 = .ok (.iload_n 0, 1) := by decide +kernel
theorem dX5_isWay_1 : decode cX5_isWay 1 = .ok (.iconst 1, 1) := by decide +kernel
theorem dX5_isWay_2 : decode cX5_isWay 2 = .ok (.if_icmp .lt 13, 3) := by decide +kernel
theorem dX5_isWay_5 : decode cX5_isWay 5 = .ok (.iload_n 0, 1) := by decide +kernel
theorem dX5_isWay_6 : decode cX5_isWay 6 = .ok (.bipush 9, 2) := by decide +kernel
theorem dX5_isWay_8 : decode cX5_isWay 8 = .ok (.if_icmp .gt 7, 3) := by decide +kernel
theorem dX5_isWay_11 : decode cX5_isWay 11 = .ok (.iconst 1, 1) := by decide +kernel
theorem dX5_isWay_12 : decode cX5_isWay 12 = .ok (.goto 4, 3) := by decide +kernel
theorem dX5_isWay_15 : decode cX5_isWay 15 = .ok (.iconst 0, 1) := by decide +kernel
theorem dX5_isWay_16 : decode cX5_isWay 16 = .ok (.ireturn, 1) := by decide +kernel
theorem dX5_changeWay_0 : decode cX5_changeWay 0 = .ok (.aload_n 0, 1) := by decide +kernel
theorem dX5_changeWay_1 : decode cX5_changeWay 1 = .ok (.getfield 12, 3) := by decide +kernel
theorem dX5_changeWay_4 : decode cX5_changeWay 4 = .ok (.iload_n 1, 1) := by decide +kernel
theorem dX5_changeWay_5 : decode cX5_changeWay 5 = .ok (.iload_n 2, 1) := by decide +kernel
theorem dX5_changeWay_6 : decode cX5_changeWay 6 = .ok (.invokevirtual 110, 3) := by decide +kernel
theorem dX5_changeWay_9 : decode cX5_changeWay 9 = .ok (.istore 4, 2) := by decide +kernel
theorem dX5_changeWay_11 : decode cX5_changeWay 11 = .ok (.iload 4, 2) := by decide +kernel
theorem dX5_changeWay_13 : decode cX5_changeWay 13 = .ok (.iload_n 3, 1) := by decide +kernel
theorem dX5_changeWay_14 : decode cX5_changeWay 14 = .ok (.if_icmp .ne 6, 3) := by decide +kernel
theorem dX5_changeWay_17 : decode cX5_changeWay 17 = .ok (.bipush (-5), 2) := by decide +kernel
theorem dX5_changeWay_19 : decode cX5_changeWay 19 = .ok (.ireturn, 1) := by decide +kernel
theorem dX5_changeWay_20 : decode cX5_changeWay 20 = .ok (.aload_n 0, 1) := by decide +kernel
theorem dX5_changeWay_21 : decode cX5_changeWay 21 = .ok (.invokevirtual 70, 3) := by decide +kernel
theorem dX5_changeWay_24 : decode cX5_changeWay 24 = .ok (.aload_n 0, 1) := by decide +kernel
theorem dX5_changeWay_25 : decode cX5_changeWay 25 = .ok (.getfield 12, 3) := by decide +kernel
theorem dX5_changeWay_28 : decode cX5_changeWay 28 = .ok (.iload_n 1, 1) := by decide +kernel
theorem dX5_changeWay_29 : decode cX5_changeWay 29 = .ok (.iload_n 2, 1) := by decide +kernel
theorem dX5_changeWay_30 : decode cX5_changeWay 30 = .ok (.iload_n 3, 1) := by decide +kernel
theorem dX5_changeWay_31 : decode cX5_changeWay 31 = .ok (.invokevirtual 147, 3) := by decide +kernel
theorem dX5_changeWay_34 : decode cX5_changeWay 34 = .ok (.iload 4, 2) := by decide +kernel
theorem dX5_changeWay_36 : decode cX5_changeWay 36 = .ok (.ireturn, 1) := by decide +kernel
theorem dX5_changePower_0 : decode cX5_changePower 0 = .ok (.iload_n 1, 1) := by decide +kernel
theorem dX5_changePower_1 : decode cX5_changePower 1 = .ok (.iconst 2, 1) := by decide +kernel
theorem dX5_changePower_2 : decode cX5_changePower 2 = .ok (.if_icmp .lt 9, 3) := by decide +kernel
theorem dX5_changePower_5 : decode cX5_changePower 5 = .ok (.iload_n 1, 1) := by decide +kernel
theorem dX5_changePower_6 : decode cX5_changePower 6 = .ok (.bipush 16, 2) := by decide +kernel
theorem dX5_changePower_8 : decode cX5_changePower 8 = .ok (.if_icmp .le 6, 3) := by decide +kernel
theorem dX5_changePower_11 : decode cX5_changePower 11 = .ok (.bipush (-2), 2) := by decide +kernel
theorem dX5_changePower_13 : decode cX5_changePower 13 = .ok (.ireturn, 1) := by decide +kernel
theorem dX5_changePower_14 : decode cX5_changePower 14 = .ok (.aload_n 0, 1) := by decide +kernel
theorem dX5_changePower_15 : decode cX5_changePower 15 = .ok (.getfield 12, 3) := by decide +kernel
theorem dX5_changePower_18 : decode cX5_changePower 18 = .ok (.getfield 151, 3) := by decide +kernel
theorem dX5_changePower_21 : decode cX5_changePower 21 = .ok (.istore_n 2, 1) := by decide +kernel
theorem dX5_changePower_22 : decode cX5_changePower 22 = .ok (.iload_n 2, 1) := by decide +kernel
theorem dX5_changePower_23 : decode cX5_changePower 23 = .ok (.iload_n 1, 1) := by decide +kernel
theorem dX5_changePower_24 : decode cX5_changePower 24 = .ok (.if_icmp .ne 6, 3) := by decide +kernel
theorem dX5_changePower_27 : decode cX5_changePower 27 = .ok (.bipush (-5), 2) := by decide +kernel
theorem dX5_changePower_29 : decode cX5_changePower 29 = .ok (.ireturn, 1) := by decide +kernel
theorem dX5_changePower_30 : decode cX5_changePower 30 = .ok (.aload_n 0, 1) := by decide +kernel
theorem dX5_changePower_31 : decode cX5_changePower 31 = .ok (.invokevirtual 70, 3) := by decide +kernel
theorem dX5_changePower_34 : decode cX5_changePower 34 = .ok (.aload_n 0, 1) := by decide +kernel
theorem dX5_changePower_35 : decode cX5_changePower 35 = .ok (.getfield 12, 3) := by decide +kernel
theorem dX5_changePower_38 : decode cX5_changePower 38 = .ok (.iload_n 1, 1) := by decide +kernel
theorem dX5_changePower_39 : decode cX5_changePower 39 = .ok (.putfield 151, 3) := by decide +kernel
theorem dX5_changePower_42 : decode cX5_changePower 42 = .ok (.iload_n 2, 1) := by decide +kernel
theorem dX5_changePower_43 : decode cX5_changePower 43 = .ok (.ireturn, 1) := by decide +kernel
theorem dX5_changeLeastPart_0 : decode cX5_changeLeastPart 0 = .ok (.iload_n 1, 1) := by decide +kernel
theorem dX5_changeLeastPart_1 : decode cX5_changeLeastPart 1 = .ok (.iconst 1, 1) := by decide +kernel
theorem dX5_changeLeastPart_2 : decode cX5_changeLeastPart 2 = .ok (.if_icmp .lt 9, 3) := by decide +kernel
theorem dX5_changeLeastPart_5 : decode cX5_changeLeastPart 5 = .ok (.iload_n 1, 1) := by decide +kernel
theorem dX5_changeLeastPart_6 : decode cX5_changeLeastPart 6 = .ok (.bipush 99, 2) := by decide +kernel
theorem dX5_changeLeastPart_8 : decode cX5_changeLeastPart 8 = .ok (.if_icmp .le 6, 3) := by decide +kernel
theorem dX5_changeLeastPart_11 : decode cX5_changeLeastPart 11 = .ok (.bipush (-2), 2) := by decide +kernel
theorem dX5_changeLeastPart_13 : decode cX5_changeLeastPart 13 = .ok (.ireturn, 1) := by decide +kernel
theorem dX5_changeLeastPart_14 : decode cX5_changeLeastPart 14 = .ok (.aload_n 0, 1) := by decide +kernel
theorem dX5_changeLeastPart_15 : decode cX5_changeLeastPart 15 = .ok (.getfield 12, 3) := by decide +kernel
theorem dX5_changeLeastPart_18 : decode cX5_changeLeastPart 18 = .ok (.getfield 154, 3) := by decide +kernel
theorem dX5_changeLeastPart_21 : decode cX5_changeLeastPart 21 = .ok (.istore_n 2, 1) := by decide +kernel
theorem dX5_changeLeastPart_22 : decode cX5_changeLeastPart 22 = .ok (.iload_n 2, 1) := by decide +kernel
theorem dX5_changeLeastPart_23 : decode cX5_changeLeastPart 23 = .ok (.iload_n 1, 1) := by decide +kernel
theorem dX5_changeLeastPart_24 : decode cX5_changeLeastPart 24 = .ok (.if_icmp .ne 6, 3) := by decide +kernel
theorem dX5_changeLeastPart_27 : decode cX5_changeLeastPart 27 = .ok (.bipush (-5), 2) := by decide +kernel
theorem dX5_changeLeastPart_29 : decode cX5_changeLeastPart 29 = .ok (.ireturn, 1) := by decide +kernel
theorem dX5_changeLeastPart_30 : decode cX5_changeLeastPart 30 = .ok (.aload_n 0, 1) := by decide +kernel
theorem dX5_changeLeastPart_31 : decode cX5_changeLeastPart 31 = .ok (.invokevirtual 70, 3) := by decide +kernel
theorem dX5_changeLeastPart_34 : decode cX5_changeLeastPart 34 = .ok (.aload_n 0, 1) := by decide +kernel
theorem dX5_changeLeastPart_35 : decode cX5_changeLeastPart 35 = .ok (.getfield 12, 3) := by decide +kernel
theorem dX5_changeLeastPart_38 : decode cX5_changeLeastPart 38 = .ok (.iload_n 1, 1) := by decide +kernel
theorem dX5_changeLeastPart_39 : decode cX5_changeLeastPart 39 = .ok (.putfield 154, 3) := by decide +kernel
theorem dX5_changeLeastPart_42 : decode cX5_changeLeastPart 42 = .ok (.iload_n 2, 1) := by decide +kernel
theorem dX5_changeLeastPart_43 : decode cX5_changeLeastPart 43 = .ok (.ireturn, 1) := by decide +kernel
theorem dX5_record_0 : decode cX5_record 0 = .ok (.aload_n 0, 1) := by decide +kernel
theorem dX5_record_1 : decode cX5_record 1 = .ok (.getfield 100, 3) := by decide +kernel
theorem dX5_record_4 : decode cX5_record 4 = .ok (.aload_n 0, 1) := by decide +kernel
theorem dX5_record_5 : decode cX5_record 5 = .ok (.getfield 22, 3) := by decide +kernel
theorem dX5_record_8 : decode cX5_record 8 = .ok (.arraylength, 1) := by decide +kernel
theorem dX5_record_9 : decode cX5_record 9 = .ok (.if_icmp .lt 67, 3) := by decide +kernel
theorem dX5_record_12 : decode cX5_record 12 = .ok (.aload_n 0, 1) := by decide +kernel
theorem dX5_record_13 : decode cX5_record 13 = .ok (.getfield 22, 3) := by decide +kernel
theorem dX5_record_16 : decode cX5_record 16 = .ok (.iconst 0, 1) := by decide +kernel
theorem dX5_record_17 : decode cX5_record 17 = .ok (.aaload, 1) := by decide +kernel
theorem dX5_record_18 : decode cX5_record 18 = .ok (.astore_n 1, 1) := by decide +kernel
theorem dX5_record_19 : decode cX5_record 19 = .ok (.iconst 0, 1) := by decide +kernel
theorem dX5_record_20 : decode cX5_record 20 = .ok (.istore_n 2, 1) := by decide +kernel
theorem dX5_record_21 : decode cX5_record 21 = .ok (.iload_n 2, 1) := by decide +kernel
theorem dX5_record_22 : decode cX5_record 22 = .ok (.iconst 1, 1) := by decide +kernel
theorem dX5_record_23 : decode cX5_record 23 = .ok (.iadd, 1) := by decide +kernel
theorem dX5_record_24 : decode cX5_record 24 = .ok (.aload_n 0, 1) := by decide +kernel
theorem dX5_record_25 : decode cX5_record 25 = .ok (.getfield 22, 3) := by decide +kernel
theorem dX5_record_28 : decode cX5_record 28 = .ok (.arraylength, 1) := by decide +kernel
theorem dX5_record_29 : decode cX5_record 29 = .ok (.if_icmp .ge 23, 3) := by decide +kernel
theorem dX5_record_32 : decode cX5_record 32 = .ok (.aload_n 0, 1) := by decide +kernel
theorem dX5_record_33 : decode cX5_record 33 = .ok (.getfield 22, 3) := by decide +kernel
theorem dX5_record_36 : decode cX5_record 36 = .ok (.iload_n 2, 1) := by decide +kernel
theorem dX5_record_37 : decode cX5_record 37 = .ok (.aload_n 0, 1) := by decide +kernel
theorem dX5_record_38 : decode cX5_record 38 = .ok (.getfield 22, 3) := by decide +kernel
theorem dX5_record_41 : decode cX5_record 41 = .ok (.iload_n 2, 1) := by decide +kernel
theorem dX5_record_42 : decode cX5_record 42 = .ok (.iconst 1, 1) := by decide +kernel
theorem dX5_record_43 : decode cX5_record 43 = .ok (.iadd, 1) := by decide +kernel
theorem dX5_record_44 : decode cX5_record 44 = .ok (.aaload, 1) := by decide +kernel
theorem dX5_record_45 : decode cX5_record 45 = .ok (.aastore, 1) := by decide +kernel
theorem dX5_record_46 : decode cX5_record 46 = .ok (.iinc 2 1, 3) := by decide +kernel
theorem dX5_record_49 : decode cX5_record 49 = .ok (.goto (-28), 3) := by decide +kernel
theorem dX5_record_52 : decode cX5_record 52 = .ok (.aload_n 0, 1) := by decide +kernel
theorem dX5_record_53 : decode cX5_record 53 = .ok (.getfield 22, 3) := by decide +kernel
theorem dX5_record_56 : decode cX5_record 56 = .ok (.aload_n 0, 1) := by decide +kernel
theorem dX5_record_57 : decode cX5_record 57 = .ok (.getfield 22, 3) := by decide +kernel
theorem dX5_record_60 : decode cX5_record 60 = .ok (.arraylength, 1) := by decide +kernel
theorem dX5_record_61 : decode cX5_record 61 = .ok (.iconst 1, 1) := by decide +kernel
theorem dX5_record_62 : decode cX5_record 62 = .ok (.isub, 1) := by decide +kernel
theorem dX5_record_63 : decode cX5_record 63 = .ok (.aload_n 1, 1) := by decide +kernel
theorem dX5_record_64 : decode cX5_record 64 = .ok (.aastore, 1) := by decide +kernel
theorem dX5_record_65 : decode cX5_record 65 = .ok (.aload_n 0, 1) := by decide +kernel
theorem dX5_record_66 : decode cX5_record 66 = .ok (.aload_n 0, 1) := by decide +kernel
theorem dX5_record_67 : decode cX5_record 67 = .ok (.getfield 22, 3) := by decide +kernel
theorem dX5_record_70 : decode cX5_record 70 = .ok (.arraylength, 1) := by decide +kernel
theorem dX5_record_71 : decode cX5_record 71 = .ok (.iconst 1, 1) := by decide +kernel
theorem dX5_record_72 : decode cX5_record 72 = .ok (.isub, 1) := by decide +kernel
theorem dX5_record_73 : decode cX5_record 73 = .ok (.putfield 100, 3) := by decide +kernel
theorem dX5_record_76 : decode cX5_record 76 = .ok (.aload_n 0, 1) := by decide +kernel
theorem dX5_record_77 : decode cX5_record 77 = .ok (.getfield 100, 3) := by decide +kernel
theorem dX5_record_80 : decode cX5_record 80 = .ok (.ifCond .lt 41, 3) := by decide +kernel
theorem dX5_record_83 : decode cX5_record 83 = .ok (.aload_n 0, 1) := by decide +kernel
theorem dX5_record_84 : decode cX5_record 84 = .ok (.getfield 100, 3) := by decide +kernel
theorem dX5_record_87 : decode cX5_record 87 = .ok (.aload_n 0, 1) := by decide +kernel
theorem dX5_record_88 : decode cX5_record 88 = .ok (.getfield 22, 3) := by decide +kernel
theorem dX5_record_91 : decode cX5_record 91 = .ok (.arraylength, 1) := by decide +kernel
theorem dX5_record_92 : decode cX5_record 92 = .ok (.if_icmp .ge 29, 3) := by decide +kernel
theorem dX5_record_95 : decode cX5_record 95 = .ok (.aload_n 0, 1) := by decide +kernel
theorem dX5_record_96 : decode cX5_record 96 = .ok (.getfield 22, 3) := by decide +kernel
theorem dX5_record_99 : decode cX5_record 99 = .ok (.aload_n 0, 1) := by decide +kernel
theorem dX5_record_100 : decode cX5_record 100 = .ok (.getfield 100, 3) := by decide +kernel
theorem dX5_record_103 : decode cX5_record 103 = .ok (.aaload, 1) := by decide +kernel
theorem dX5_record_104 : decode cX5_record 104 = .ok (.aload_n 0, 1) := by decide +kernel
theorem dX5_record_105 : decode cX5_record 105 = .ok (.getfield 12, 3) := by decide +kernel
theorem dX5_record_108 : decode cX5_record 108 = .ok (.invokevirtual 103, 3) := by decide +kernel
theorem dX5_record_111 : decode cX5_record 111 = .ok (.aload_n 0, 1) := by decide +kernel
theorem dX5_record_112 : decode cX5_record 112 = .ok (.dup, 1) := by decide +kernel
theorem dX5_record_113 : decode cX5_record 113 = .ok (.getfield 100, 3) := by decide +kernel
theorem dX5_record_116 : decode cX5_record 116 = .ok (.iconst 1, 1) := by decide +kernel
theorem dX5_record_117 : decode cX5_record 117 = .ok (.iadd, 1) := by decide +kernel
theorem dX5_record_118 : decode cX5_record 118 = .ok (.putfield 100, 3) := by decide +kernel
theorem dX5_record_121 : decode cX5_record 121 = .ok (.return_, 1) := by decide +kernel
theorem dX5_ticksUntil_0 : decode cX5_ticksUntil 0 = .ok (.aload_n 0, 1) := by decide +kernel
theorem dX5_ticksUntil_1 : decode cX5_ticksUntil 1 = .ok (.getfield 19, 3) := by decide +kernel
theorem dX5_ticksUntil_4 : decode cX5_ticksUntil 4 = .ok (.aload_n 0, 1) := by decide +kernel
theorem dX5_ticksUntil_5 : decode cX5_ticksUntil 5 = .ok (.getfield 12, 3) := by decide +kernel
theorem dX5_ticksUntil_8 : decode cX5_ticksUntil 8 = .ok (.invokevirtual 103, 3) := by decide +kernel
theorem dX5_ticksUntil_11 : decode cX5_ticksUntil 11 = .ok (.iconst 0, 1) := by decide +kernel
theorem dX5_ticksUntil_12 : decode cX5_ticksUntil 12 = .ok (.istore_n 2, 1) := by decide +kernel
theorem dX5_ticksUntil_13 : decode cX5_ticksUntil 13 = .ok (.iload_n 2, 1) := by decide +kernel
theorem dX5_ticksUntil_14 : decode cX5_ticksUntil 14 = .ok (.sipush 500, 3) := by decide +kernel
theorem dX5_ticksUntil_17 : decode cX5_ticksUntil 17 = .ok (.if_icmp .gt 58, 3) := by decide +kernel
theorem dX5_ticksUntil_20 : decode cX5_ticksUntil 20 = .ok (.iload_n 1, 1) := by decide +kernel
theorem dX5_ticksUntil_21 : decode cX5_ticksUntil 21 = .ok (.ifCond .eq 16, 3) := by decide +kernel
theorem dX5_ticksUntil_24 : decode cX5_ticksUntil 24 = .ok (.aload_n 0, 1) := by decide +kernel
theorem dX5_ticksUntil_25 : decode cX5_ticksUntil 25 = .ok (.getfield 19, 3) := by decide +kernel
theorem dX5_ticksUntil_28 : decode cX5_ticksUntil 28 = .ok (.invokevirtual 157, 3) := by decide +kernel
theorem dX5_ticksUntil_31 : decode cX5_ticksUntil 31 = .ok (.ifCond .eq 18, 3) := by decide +kernel
theorem dX5_ticksUntil_34 : decode cX5_ticksUntil 34 = .ok (.goto 13, 3) := by decide +kernel
theorem dX5_ticksUntil_37 : decode cX5_ticksUntil 37 = .ok (.aload_n 0, 1) := by decide +kernel
theorem dX5_ticksUntil_38 : decode cX5_ticksUntil 38 = .ok (.getfield 19, 3) := by decide +kernel
theorem dX5_ticksUntil_41 : decode cX5_ticksUntil 41 = .ok (.invokevirtual 161, 3) := by decide +kernel
theorem dX5_ticksUntil_44 : decode cX5_ticksUntil 44 = .ok (.ifCond .eq 5, 3) := by decide +kernel
theorem dX5_ticksUntil_47 : decode cX5_ticksUntil 47 = .ok (.iload_n 2, 1) := by decide +kernel
theorem dX5_ticksUntil_48 : decode cX5_ticksUntil 48 = .ok (.ireturn, 1) := by decide +kernel
theorem dX5_ticksUntil_49 : decode cX5_ticksUntil 49 = .ok (.aload_n 0, 1) := by decide +kernel
theorem dX5_ticksUntil_50 : decode cX5_ticksUntil 50 = .ok (.getfield 19, 3) := by decide +kernel
theorem dX5_ticksUntil_53 : decode cX5_ticksUntil 53 = .ok (.invokevirtual 164, 3) := by decide +kernel
theorem dX5_ticksUntil_56 : decode cX5_ticksUntil 56 = .ok (.ifCond .eq 6, 3) := by decide +kernel
theorem dX5_ticksUntil_59 : decode cX5_ticksUntil 59 = .ok (.bipush (-5), 2) := by decide +kernel
theorem dX5_ticksUntil_61 : decode cX5_ticksUntil 61 = .ok (.ireturn, 1) := by decide +kernel
theorem dX5_ticksUntil_62 : decode cX5_ticksUntil 62 = .ok (.aload_n 0, 1) := by decide +kernel
theorem dX5_ticksUntil_63 : decode cX5_ticksUntil 63 = .ok (.getfield 19, 3) := by decide +kernel
theorem dX5_ticksUntil_66 : decode cX5_ticksUntil 66 = .ok (.invokevirtual 84, 3) := by decide +kernel
theorem dX5_ticksUntil_69 : decode cX5_ticksUntil 69 = .ok (.iinc 2 1, 3) := by decide +kernel
theorem dX5_ticksUntil_72 : decode cX5_ticksUntil 72 = .ok (.goto (-59), 3) := by decide +kernel
theorem dX5_ticksUntil_75 : decode cX5_ticksUntil 75 = .ok (.bipush (-5), 2) := by decide +kernel
theorem dX5_ticksUntil_77 : decode cX5_ticksUntil 77 = .ok (.ireturn, 1) := by decide +kernel
theorem dJ9_max_7cf53_0 : decode cJ9_max_7cf53 0 = .ok (.iload_n 0, 1) := by decide +kernel
theorem dJ9_max_7cf53_1 : decode cJ9_max_7cf53 1 = .ok (.iload_n 1, 1) := by decide +kernel
theorem dJ9_max_7cf53_2 : decode cJ9_max_7cf53 2 = .ok (.if_icmp .lt 7, 3) := by decide +kernel
theorem dJ9_max_7cf53_5 : decode cJ9_max_7cf53 5 = .ok (.iload_n 0, 1) := by decide +kernel
theorem dJ9_max_7cf53_6 : decode cJ9_max_7cf53 6 = .ok (.goto 4, 3) := by decide +kernel
theorem dJ9_max_7cf53_9 : decode cJ9_max_7cf53 9 = .ok (.iload_n 1, 1) := by decide +kernel
theorem dJ9_max_7cf53_10 : decode cJ9_max_7cf53 10 = .ok (.ireturn, 1) := by decide +kernel
theorem dL_cell_0 : decode cL_cell 0 = .ok (.iload_n 1, 1) := by decide +kernel
theorem dL_cell_1 : decode cL_cell 1 = .ok (.aload_n 0, 1) := by decide +kernel
theorem dL_cell_2 : decode cL_cell 2 = .ok (.arraylength, 1) := by decide +kernel
theorem dL_cell_3 : decode cL_cell 3 = .ok (.if_icmp .ge 9, 3) := by decide +kernel
theorem dL_cell_6 : decode cL_cell 6 = .ok (.aload_n 0, 1) := by decide +kernel
theorem dL_cell_7 : decode cL_cell 7 = .ok (.iload_n 1, 1) := by decide +kernel
theorem dL_cell_8 : decode cL_cell 8 = .ok (.iaload, 1) := by decide +kernel
theorem dL_cell_9 : decode cL_cell 9 = .ok (.goto 12, 3) := by decide +kernel
theorem dL_cell_12 : decode cL_cell 12 = .ok (.ldc 7, 2) := by decide +kernel
theorem dL_cell_14 : decode cL_cell 14 = .ok (.iload_n 1, 1) := by decide +kernel
theorem dL_cell_15 : decode cL_cell 15 = .ok (.iconst 5, 1) := by decide +kernel
theorem dL_cell_16 : decode cL_cell 16 = .ok (.iadd, 1) := by decide +kernel
theorem dL_cell_17 : decode cL_cell 17 = .ok (.imul, 1) := by decide +kernel
theorem dL_cell_18 : decode cL_cell 18 = .ok (.ldc 8, 2) := by decide +kernel
theorem dL_cell_20 : decode cL_cell 20 = .ok (.iadd, 1) := by decide +kernel
theorem dL_cell_21 : decode cL_cell 21 = .ok (.ireturn, 1) := by decide +kernel
theorem dL_low_0 : decode cL_low 0 = .ok (.iload_n 0, 1) := by decide +kernel
theorem dL_low_1 : decode cL_low 1 = .ok (.ldc 9, 2) := by decide +kernel
theorem dL_low_3 : decode cL_low 3 = .ok (.iand, 1) := by decide +kernel
theorem dL_low_4 : decode cL_low 4 = .ok (.iload_n 1, 1) := by decide +kernel
theorem dL_low_5 : decode cL_low 5 = .ok (.irem, 1) := by decide +kernel
theorem dL_low_6 : decode cL_low 6 = .ok (.ireturn, 1) := by decide +kernel
theorem dL_typeNumber_0 : decode cL_typeNumber 0 = .ok (.iload_n 1, 1) := by decide +kernel
theorem dL_typeNumber_1 : decode cL_typeNumber 1 = .ok (.bipush 9, 2) := by decide +kernel
theorem dL_typeNumber_3 : decode cL_typeNumber 3 = .ok (.if_icmp .le 16, 3) := by decide +kernel
theorem dL_typeNumber_6 : decode cL_typeNumber 6 = .ok (.aload_n 0, 1) := by decide +kernel
theorem dL_typeNumber_7 : decode cL_typeNumber 7 = .ok (.bipush 48, 2) := by decide +kernel
theorem dL_typeNumber_9 : decode cL_typeNumber 9 = .ok (.iload_n 1, 1) := by decide +kernel
theorem dL_typeNumber_10 : decode cL_typeNumber 10 = .ok (.bipush 10, 2) := by decide +kernel
theorem dL_typeNumber_12 : decode cL_typeNumber 12 = .ok (.idiv, 1) := by decide +kernel
theorem dL_typeNumber_13 : decode cL_typeNumber 13 = .ok (.iadd, 1) := by decide +kernel
theorem dL_typeNumber_14 : decode cL_typeNumber 14 = .ok (.i2c, 1) := by decide +kernel
theorem dL_typeNumber_15 : decode cL_typeNumber 15 = .ok (.invokevirtual 10, 3) := by decide +kernel
theorem dL_typeNumber_18 : decode cL_typeNumber 18 = .ok (.pop, 1) := by decide +kernel
theorem dL_typeNumber_19 : decode cL_typeNumber 19 = .ok (.aload_n 0, 1) := by decide +kernel
theorem dL_typeNumber_20 : decode cL_typeNumber 20 = .ok (.bipush 48, 2) := by decide +kernel
theorem dL_typeNumber_22 : decode cL_typeNumber 22 = .ok (.iload_n 1, 1) := by decide +kernel
theorem dL_typeNumber_23 : decode cL_typeNumber 23 = .ok (.bipush 10, 2) := by decide +kernel
theorem dL_typeNumber_25 : decode cL_typeNumber 25 = .ok (.irem, 1) := by decide +kernel
theorem dL_typeNumber_26 : decode cL_typeNumber 26 = .ok (.iadd, 1) := by decide +kernel
theorem dL_typeNumber_27 : decode cL_typeNumber 27 = .ok (.i2c, 1) := by decide +kernel
theorem dL_typeNumber_28 : decode cL_typeNumber 28 = .ok (.invokevirtual 10, 3) := by decide +kernel
theorem dL_typeNumber_31 : decode cL_typeNumber 31 = .ok (.pop, 1) := by decide +kernel
theorem dL_typeNumber_32 : decode cL_typeNumber 32 = .ok (.return_, 1) := by decide +kernel
theorem dL_types_0 : decode cL_types 0 = .ok (.aload_n 0, 1) := by decide +kernel
theorem dL_types_1 : decode cL_types 1 = .ok (.invokevirtual 16, 3) := by decide +kernel
theorem dL_types_4 : decode cL_types 4 = .ok (.pop, 1) := by decide +kernel
theorem dL_types_5 : decode cL_types 5 = .ok (.iconst 1, 1) := by decide +kernel
theorem dL_types_6 : decode cL_types 6 = .ok (.iload_n 1, 1) := by decide +kernel
theorem dL_types_7 : decode cL_types 7 = .ok (.iconst 5, 1) := by decide +kernel
theorem dL_types_8 : decode cL_types 8 = .ok (.invokestatic 20, 3) := by decide +kernel
theorem dL_types_11 : decode cL_types 11 = .ok (.iadd, 1) := by decide +kernel
theorem dL_types_12 : decode cL_types 12 = .ok (.istore_n 3, 1) := by decide +kernel
theorem dL_types_13 : decode cL_types 13 = .ok (.iconst 0, 1) := by decide +kernel
theorem dL_types_14 : decode cL_types 14 = .ok (.istore 4, 2) := by decide +kernel
theorem dL_types_16 : decode cL_types 16 = .ok (.iconst 0, 1) := by decide +kernel
theorem dL_types_17 : decode cL_types 17 = .ok (.istore 5, 2) := by decide +kernel
theorem dL_types_19 : decode cL_types 19 = .ok (.iload 5, 2) := by decide +kernel
theorem dL_types_21 : decode cL_types 21 = .ok (.iload_n 3, 1) := by decide +kernel
theorem dL_types_22 : decode cL_types 22 = .ok (.if_icmp .ge 160, 3) := by decide +kernel
theorem dL_types_25 : decode cL_types 25 = .ok (.iload_n 1, 1) := by decide +kernel
theorem dL_types_26 : decode cL_types 26 = .ok (.iconst 3, 1) := by decide +kernel
theorem dL_types_27 : decode cL_types 27 = .ok (.iload 5, 2) := by decide +kernel
theorem dL_types_29 : decode cL_types 29 = .ok (.imul, 1) := by decide +kernel
theorem dL_types_30 : decode cL_types 30 = .ok (.ishr, 1) := by decide +kernel
theorem dL_types_31 : decode cL_types 31 = .ok (.iload_n 2, 1) := by decide +kernel
theorem dL_types_32 : decode cL_types 32 = .ok (.iconst 2, 1) := by decide +kernel
theorem dL_types_33 : decode cL_types 33 = .ok (.iload 5, 2) := by decide +kernel
theorem dL_types_35 : decode cL_types 35 = .ok (.imul, 1) := by decide +kernel
theorem dL_types_36 : decode cL_types 36 = .ok (.ishr, 1) := by decide +kernel
theorem dL_types_37 : decode cL_types 37 = .ok (.ixor, 1) := by decide +kernel
theorem dL_types_38 : decode cL_types 38 = .ok (.istore 6, 2) := by decide +kernel
theorem dL_types_40 : decode cL_types 40 = .ok (.iload 5, 2) := by decide +kernel
theorem dL_types_42 : decode cL_types 42 = .ok (.ifCond .le 25, 3) := by decide +kernel
theorem dL_types_45 : decode cL_types 45 = .ok (.iload 6, 2) := by decide +kernel
theorem dL_types_47 : decode cL_types 47 = .ok (.iconst 3, 1) := by decide +kernel
theorem dL_types_48 : decode cL_types 48 = .ok (.invokestatic 20, 3) := by decide +kernel
theorem dL_types_51 : decode cL_types 51 = .ok (.ifCond .ne 16, 3) := by decide +kernel
theorem dL_types_54 : decode cL_types 54 = .ok (.aload_n 0, 1) := by decide +kernel
theorem dL_types_55 : decode cL_types 55 = .ok (.bipush 40, 2) := by decide +kernel
theorem dL_types_57 : decode cL_types 57 = .ok (.invokevirtual 10, 3) := by decide +kernel
theorem dL_types_60 : decode cL_types 60 = .ok (.pop, 1) := by decide +kernel
theorem dL_types_61 : decode cL_types 61 = .ok (.iinc 4 1, 3) := by decide +kernel
theorem dL_types_64 : decode cL_types 64 = .ok (.goto 57, 3) := by decide +kernel
theorem dL_types_67 : decode cL_types 67 = .ok (.iload 5, 2) := by decide +kernel
theorem dL_types_69 : decode cL_types 69 = .ok (.ifCond .le 52, 3) := by decide +kernel
theorem dL_types_72 : decode cL_types 72 = .ok (.iload 4, 2) := by decide +kernel
theorem dL_types_74 : decode cL_types 74 = .ok (.ifCond .le 30, 3) := by decide +kernel
theorem dL_types_77 : decode cL_types 77 = .ok (.iload 6, 2) := by decide +kernel
theorem dL_types_79 : decode cL_types 79 = .ok (.iconst 2, 1) := by decide +kernel
theorem dL_types_80 : decode cL_types 80 = .ok (.iload 4, 2) := by decide +kernel
theorem dL_types_82 : decode cL_types 82 = .ok (.iadd, 1) := by decide +kernel
theorem dL_types_83 : decode cL_types 83 = .ok (.ishr, 1) := by decide +kernel
theorem dL_types_84 : decode cL_types 84 = .ok (.iconst 2, 1) := by decide +kernel
theorem dL_types_85 : decode cL_types 85 = .ok (.invokestatic 20, 3) := by decide +kernel
theorem dL_types_88 : decode cL_types 88 = .ok (.ifCond .ne 16, 3) := by decide +kernel
theorem dL_types_91 : decode cL_types 91 = .ok (.aload_n 0, 1) := by decide +kernel
theorem dL_types_92 : decode cL_types 92 = .ok (.bipush 41, 2) := by decide +kernel
theorem dL_types_94 : decode cL_types 94 = .ok (.invokevirtual 10, 3) := by decide +kernel
theorem dL_types_97 : decode cL_types 97 = .ok (.pop, 1) := by decide +kernel
theorem dL_types_98 : decode cL_types 98 = .ok (.iinc 4 (-1), 3) := by decide +kernel
theorem dL_types_101 : decode cL_types 101 = .ok (.goto (-29), 3) := by decide +kernel
theorem dL_types_104 : decode cL_types 104 = .ok (.aload_n 0, 1) := by decide +kernel
theorem dL_types_105 : decode cL_types 105 = .ok (.iload 4, 2) := by decide +kernel
theorem dL_types_107 : decode cL_types 107 = .ok (.ifCond .ne 8, 3) := by decide +kernel
theorem dL_types_110 : decode cL_types 110 = .ok (.bipush 59, 2) := by decide +kernel
theorem dL_types_112 : decode cL_types 112 = .ok (.goto 5, 3) := by decide +kernel
theorem dL_types_115 : decode cL_types 115 = .ok (.bipush 44, 2) := by decide +kernel
theorem dL_types_117 : decode cL_types 117 = .ok (.invokevirtual 10, 3) := by decide +kernel
theorem dL_types_120 : decode cL_types 120 = .ok (.pop, 1) := by decide +kernel
theorem dL_types_121 : decode cL_types 121 = .ok (.aload_n 0, 1) := by decide +kernel
theorem dL_types_122 : decode cL_types 122 = .ok (.bipush 48, 2) := by decide +kernel
theorem dL_types_124 : decode cL_types 124 = .ok (.iload 6, 2) := by decide +kernel
theorem dL_types_126 : decode cL_types 126 = .ok (.iconst 5, 1) := by decide +kernel
theorem dL_types_127 : decode cL_types 127 = .ok (.ishr, 1) := by decide +kernel
theorem dL_types_128 : decode cL_types 128 = .ok (.bipush 6, 2) := by decide +kernel
theorem dL_types_130 : decode cL_types 130 = .ok (.invokestatic 20, 3) := by decide +kernel
theorem dL_types_133 : decode cL_types 133 = .ok (.iadd, 1) := by decide +kernel
theorem dL_types_134 : decode cL_types 134 = .ok (.i2c, 1) := by decide +kernel
theorem dL_types_135 : decode cL_types 135 = .ok (.invokevirtual 10, 3) := by decide +kernel
theorem dL_types_138 : decode cL_types 138 = .ok (.pop, 1) := by decide +kernel
theorem dL_types_139 : decode cL_types 139 = .ok (.aload_n 0, 1) := by decide +kernel
theorem dL_types_140 : decode cL_types 140 = .ok (.bipush 58, 2) := by decide +kernel
theorem dL_types_142 : decode cL_types 142 = .ok (.invokevirtual 10, 3) := by decide +kernel
theorem dL_types_145 : decode cL_types 145 = .ok (.pop, 1) := by decide +kernel
theorem dL_types_146 : decode cL_types 146 = .ok (.aload_n 0, 1) := by decide +kernel
theorem dL_types_147 : decode cL_types 147 = .ok (.iload 6, 2) := by decide +kernel
theorem dL_types_149 : decode cL_types 149 = .ok (.bipush 8, 2) := by decide +kernel
theorem dL_types_151 : decode cL_types 151 = .ok (.ishr, 1) := by decide +kernel
theorem dL_types_152 : decode cL_types 152 = .ok (.iload 6, 2) := by decide +kernel
theorem dL_types_154 : decode cL_types 154 = .ok (.bipush 13, 2) := by decide +kernel
theorem dL_types_156 : decode cL_types 156 = .ok (.ishr, 1) := by decide +kernel
theorem dL_types_157 : decode cL_types 157 = .ok (.iconst 3, 1) := by decide +kernel
theorem dL_types_158 : decode cL_types 158 = .ok (.invokestatic 20, 3) := by decide +kernel
theorem dL_types_161 : decode cL_types 161 = .ok (.ifCond .ne 8, 3) := by decide +kernel
theorem dL_types_164 : decode cL_types 164 = .ok (.bipush 21, 2) := by decide +kernel
theorem dL_types_166 : decode cL_types 166 = .ok (.goto 4, 3) := by decide +kernel
theorem dL_types_169 : decode cL_types 169 = .ok (.iconst 4, 1) := by decide +kernel
theorem dL_types_170 : decode cL_types 170 = .ok (.invokestatic 20, 3) := by decide +kernel
theorem dL_types_173 : decode cL_types 173 = .ok (.invokestatic 26, 3) := by decide +kernel
theorem dL_types_176 : decode cL_types 176 = .ok (.iinc 5 1, 3) := by decide +kernel
theorem dL_types_179 : decode cL_types 179 = .ok (.goto (-160), 3) := by decide +kernel
theorem dL_types_182 : decode cL_types 182 = .ok (.iload 4, 2) := by decide +kernel
theorem dL_types_184 : decode cL_types 184 = .ok (.ifCond .le 16, 3) := by decide +kernel
theorem dL_types_187 : decode cL_types 187 = .ok (.aload_n 0, 1) := by decide +kernel
theorem dL_types_188 : decode cL_types 188 = .ok (.bipush 41, 2) := by decide +kernel
theorem dL_types_190 : decode cL_types 190 = .ok (.invokevirtual 10, 3) := by decide +kernel
theorem dL_types_193 : decode cL_types 193 = .ok (.pop, 1) := by decide +kernel
theorem dL_types_194 : decode cL_types 194 = .ok (.iinc 4 (-1), 3) := by decide +kernel
theorem dL_types_197 : decode cL_types 197 = .ok (.goto (-15), 3) := by decide +kernel
theorem dL_types_200 : decode cL_types 200 = .ok (.iload_n 3, 1) := by decide +kernel
theorem dL_types_201 : decode cL_types 201 = .ok (.ireturn, 1) := by decide +kernel
theorem dL_messages_0 : decode cL_messages 0 = .ok (.iconst 0, 1) := by decide +kernel
theorem dL_messages_1 : decode cL_messages 1 = .ok (.istore_n 2, 1) := by decide +kernel
theorem dL_messages_2 : decode cL_messages 2 = .ok (.iconst 0, 1) := by decide +kernel
theorem dL_messages_3 : decode cL_messages 3 = .ok (.istore_n 3, 1) := by decide +kernel
theorem dL_messages_4 : decode cL_messages 4 = .ok (.iload_n 3, 1) := by decide +kernel
theorem dL_messages_5 : decode cL_messages 5 = .ok (.aload_n 0, 1) := by decide +kernel
theorem dL_messages_6 : decode cL_messages 6 = .ok (.bipush 6, 2) := by decide +kernel
theorem dL_messages_8 : decode cL_messages 8 = .ok (.invokevirtual 30, 3) := by decide +kernel
theorem dL_messages_11 : decode cL_messages 11 = .ok (.if_icmp .ge 27, 3) := by decide +kernel
theorem dL_messages_14 : decode cL_messages 14 = .ok (.iload_n 2, 1) := by decide +kernel
theorem dL_messages_15 : decode cL_messages 15 = .ok (.aload_n 0, 1) := by decide +kernel
theorem dL_messages_16 : decode cL_messages 16 = .ok (.iload_n 3, 1) := by decide +kernel
theorem dL_messages_17 : decode cL_messages 17 = .ok (.iconst 0, 1) := by decide +kernel
theorem dL_messages_18 : decode cL_messages 18 = .ok (.invokevirtual 34, 3) := by decide +kernel
theorem dL_messages_21 : decode cL_messages 21 = .ok (.iload_n 1, 1) := by decide +kernel
theorem dL_messages_22 : decode cL_messages 22 = .ok (.if_icmp .ne 7, 3) := by decide +kernel
theorem dL_messages_25 : decode cL_messages 25 = .ok (.iconst 1, 1) := by decide +kernel
theorem dL_messages_26 : decode cL_messages 26 = .ok (.goto 4, 3) := by decide +kernel
theorem dL_messages_29 : decode cL_messages 29 = .ok (.iconst 0, 1) := by decide +kernel
theorem dL_messages_30 : decode cL_messages 30 = .ok (.iadd, 1) := by decide +kernel
theorem dL_messages_31 : decode cL_messages 31 = .ok (.istore_n 2, 1) := by decide +kernel
theorem dL_messages_32 : decode cL_messages 32 = .ok (.iinc 3 1, 3) := by decide +kernel
theorem dL_messages_35 : decode cL_messages 35 = .ok (.goto (-31), 3) := by decide +kernel
theorem dL_messages_38 : decode cL_messages 38 = .ok (.iload_n 2, 1) := by decide +kernel
theorem dL_messages_39 : decode cL_messages 39 = .ok (.ireturn, 1) := by decide +kernel
theorem dL_houses_0 : decode cL_houses 0 = .ok (.iconst 0, 1) := by decide +kernel
theorem dL_houses_1 : decode cL_houses 1 = .ok (.istore_n 2, 1) := by decide +kernel
theorem dL_houses_2 : decode cL_houses 2 = .ok (.iconst 0, 1) := by decide +kernel
theorem dL_houses_3 : decode cL_houses 3 = .ok (.istore_n 3, 1) := by decide +kernel
theorem dL_houses_4 : decode cL_houses 4 = .ok (.iload_n 3, 1) := by decide +kernel
theorem dL_houses_5 : decode cL_houses 5 = .ok (.bipush 6, 2) := by decide +kernel
theorem dL_houses_7 : decode cL_houses 7 = .ok (.if_icmp .ge 18, 3) := by decide +kernel
theorem dL_houses_10 : decode cL_houses 10 = .ok (.iload_n 2, 1) := by decide +kernel
theorem dL_houses_11 : decode cL_houses 11 = .ok (.aload_n 0, 1) := by decide +kernel
theorem dL_houses_12 : decode cL_houses 12 = .ok (.iload_n 3, 1) := by decide +kernel
theorem dL_houses_13 : decode cL_houses 13 = .ok (.iload_n 1, 1) := by decide +kernel
theorem dL_houses_14 : decode cL_houses 14 = .ok (.invokevirtual 37, 3) := by decide +kernel
theorem dL_houses_17 : decode cL_houses 17 = .ok (.iadd, 1) := by decide +kernel
theorem dL_houses_18 : decode cL_houses 18 = .ok (.istore_n 2, 1) := by decide +kernel
theorem dL_houses_19 : decode cL_houses 19 = .ok (.iinc 3 1, 3) := by decide +kernel
theorem dL_houses_22 : decode cL_houses 22 = .ok (.goto (-18), 3) := by decide +kernel
theorem dL_houses_25 : decode cL_houses 25 = .ok (.iload_n 2, 1) := by decide +kernel
theorem dL_houses_26 : decode cL_houses 26 = .ok (.ireturn, 1) := by decide +kernel
theorem dL_areMessages_0 : decode cL_areMessages 0 = .ok (.iconst 0, 1) := by decide +kernel
theorem dL_areMessages_1 : decode cL_areMessages 1 = .ok (.istore_n 1, 1) := by decide +kernel
theorem dL_areMessages_2 : decode cL_areMessages 2 = .ok (.iconst 1, 1) := by decide +kernel
theorem dL_areMessages_3 : decode cL_areMessages 3 = .ok (.istore_n 2, 1) := by decide +kernel
theorem dL_areMessages_4 : decode cL_areMessages 4 = .ok (.iconst 1, 1) := by decide +kernel
theorem dL_areMessages_5 : decode cL_areMessages 5 = .ok (.istore_n 3, 1) := by decide +kernel
theorem dL_areMessages_6 : decode cL_areMessages 6 = .ok (.iconst 0, 1) := by decide +kernel
theorem dL_areMessages_7 : decode cL_areMessages 7 = .ok (.istore 4, 2) := by decide +kernel
theorem dL_areMessages_9 : decode cL_areMessages 9 = .ok (.iload 4, 2) := by decide +kernel
theorem dL_areMessages_11 : decode cL_areMessages 11 = .ok (.aload_n 0, 1) := by decide +kernel
theorem dL_areMessages_12 : decode cL_areMessages 12 = .ok (.bipush 6, 2) := by decide +kernel
theorem dL_areMessages_14 : decode cL_areMessages 14 = .ok (.invokevirtual 30, 3) := by decide +kernel
theorem dL_areMessages_17 : decode cL_areMessages 17 = .ok (.if_icmp .ge 301, 3) := by decide +kernel
theorem dL_areMessages_20 : decode cL_areMessages 20 = .ok (.aload_n 0, 1) := by decide +kernel
theorem dL_areMessages_21 : decode cL_areMessages 21 = .ok (.iload 4, 2) := by decide +kernel
theorem dL_areMessages_23 : decode cL_areMessages 23 = .ok (.iconst 0, 1) := by decide +kernel
theorem dL_areMessages_24 : decode cL_areMessages 24 = .ok (.invokevirtual 34, 3) := by decide +kernel
theorem dL_areMessages_27 : decode cL_areMessages 27 = .ok (.istore 5, 2) := by decide +kernel
theorem dL_areMessages_29 : decode cL_areMessages 29 = .ok (.aload_n 0, 1) := by decide +kernel
theorem dL_areMessages_30 : decode cL_areMessages 30 = .ok (.iload 4, 2) := by decide +kernel
theorem dL_areMessages_32 : decode cL_areMessages 32 = .ok (.iconst 1, 1) := by decide +kernel
theorem dL_areMessages_33 : decode cL_areMessages 33 = .ok (.invokevirtual 34, 3) := by decide +kernel
theorem dL_areMessages_36 : decode cL_areMessages 36 = .ok (.istore 6, 2) := by decide +kernel
theorem dL_areMessages_38 : decode cL_areMessages 38 = .ok (.aload_n 0, 1) := by decide +kernel
theorem dL_areMessages_39 : decode cL_areMessages 39 = .ok (.iload 4, 2) := by decide +kernel
theorem dL_areMessages_41 : decode cL_areMessages 41 = .ok (.iconst 2, 1) := by decide +kernel
theorem dL_areMessages_42 : decode cL_areMessages 42 = .ok (.invokevirtual 34, 3) := by decide +kernel
theorem dL_areMessages_45 : decode cL_areMessages 45 = .ok (.istore 7, 2) := by decide +kernel
theorem dL_areMessages_47 : decode cL_areMessages 47 = .ok (.aload_n 0, 1) := by decide +kernel
theorem dL_areMessages_48 : decode cL_areMessages 48 = .ok (.iload 4, 2) := by decide +kernel
theorem dL_areMessages_50 : decode cL_areMessages 50 = .ok (.iconst 3, 1) := by decide +kernel
theorem dL_areMessages_51 : decode cL_areMessages 51 = .ok (.invokevirtual 34, 3) := by decide +kernel
theorem dL_areMessages_54 : decode cL_areMessages 54 = .ok (.istore 8, 2) := by decide +kernel
theorem dL_areMessages_56 : decode cL_areMessages 56 = .ok (.aload_n 0, 1) := by decide +kernel
theorem dL_areMessages_57 : decode cL_areMessages 57 = .ok (.iload 4, 2) := by decide +kernel
theorem dL_areMessages_59 : decode cL_areMessages 59 = .ok (.iconst 4, 1) := by decide +kernel
theorem dL_areMessages_60 : decode cL_areMessages 60 = .ok (.invokevirtual 34, 3) := by decide +kernel
theorem dL_areMessages_63 : decode cL_areMessages 63 = .ok (.istore 9, 2) := by decide +kernel
theorem dL_areMessages_65 : decode cL_areMessages 65 = .ok (.iload 5, 2) := by decide +kernel
theorem dL_areMessages_67 : decode cL_areMessages 67 = .ok (.ifCond .ne 23, 3) := by decide +kernel
theorem dL_areMessages_70 : decode cL_areMessages 70 = .ok (.iload 7, 2) := by decide +kernel
theorem dL_areMessages_72 : decode cL_areMessages 72 = .ok (.bipush 6, 2) := by decide +kernel
theorem dL_areMessages_74 : decode cL_areMessages 74 = .ok (.if_icmp .ge 12, 3) := by decide +kernel
theorem dL_areMessages_77 : decode cL_areMessages 77 = .ok (.iload 8, 2) := by decide +kernel
theorem dL_areMessages_79 : decode cL_areMessages 79 = .ok (.ifCond .le 7, 3) := by decide +kernel
theorem dL_areMessages_82 : decode cL_areMessages 82 = .ok (.iconst 1, 1) := by decide +kernel
theorem dL_areMessages_83 : decode cL_areMessages 83 = .ok (.goto 104, 3) := by decide +kernel
theorem dL_areMessages_86 : decode cL_areMessages 86 = .ok (.iconst 0, 1) := by decide +kernel
theorem dL_areMessages_87 : decode cL_areMessages 87 = .ok (.goto 100, 3) := by decide +kernel
theorem dL_areMessages_90 : decode cL_areMessages 90 = .ok (.iload 5, 2) := by decide +kernel
theorem dL_areMessages_92 : decode cL_areMessages 92 = .ok (.iconst 1, 1) := by decide +kernel
theorem dL_areMessages_93 : decode cL_areMessages 93 = .ok (.if_icmp .ne 30, 3) := by decide +kernel
theorem dL_areMessages_96 : decode cL_areMessages 96 = .ok (.iload 6, 2) := by decide +kernel
theorem dL_areMessages_98 : decode cL_areMessages 98 = .ok (.bipush 6, 2) := by decide +kernel
theorem dL_areMessages_100 : decode cL_areMessages 100 = .ok (.if_icmp .ge 19, 3) := by decide +kernel
theorem dL_areMessages_103 : decode cL_areMessages 103 = .ok (.iload 7, 2) := by decide +kernel
theorem dL_areMessages_105 : decode cL_areMessages 105 = .ok (.bipush 6, 2) := by decide +kernel
theorem dL_areMessages_107 : decode cL_areMessages 107 = .ok (.if_icmp .ne 12, 3) := by decide +kernel
theorem dL_areMessages_110 : decode cL_areMessages 110 = .ok (.iload 8, 2) := by decide +kernel
theorem dL_areMessages_112 : decode cL_areMessages 112 = .ok (.ifCond .ne 7, 3) := by decide +kernel
theorem dL_areMessages_115 : decode cL_areMessages 115 = .ok (.iconst 1, 1) := by decide +kernel
theorem dL_areMessages_116 : decode cL_areMessages 116 = .ok (.goto 71, 3) := by decide +kernel
theorem dL_areMessages_119 : decode cL_areMessages 119 = .ok (.iconst 0, 1) := by decide +kernel
theorem dL_areMessages_120 : decode cL_areMessages 120 = .ok (.goto 67, 3) := by decide +kernel
theorem dL_areMessages_123 : decode cL_areMessages 123 = .ok (.iload 5, 2) := by decide +kernel
theorem dL_areMessages_125 : decode cL_areMessages 125 = .ok (.iconst 2, 1) := by decide +kernel
theorem dL_areMessages_126 : decode cL_areMessages 126 = .ok (.if_icmp .ne 31, 3) := by decide +kernel
theorem dL_areMessages_129 : decode cL_areMessages 129 = .ok (.iload 6, 2) := by decide +kernel
theorem dL_areMessages_131 : decode cL_areMessages 131 = .ok (.bipush 6, 2) := by decide +kernel
theorem dL_areMessages_133 : decode cL_areMessages 133 = .ok (.if_icmp .ne 20, 3) := by decide +kernel
theorem dL_areMessages_136 : decode cL_areMessages 136 = .ok (.iload 7, 2) := by decide +kernel
theorem dL_areMessages_138 : decode cL_areMessages 138 = .ok (.bipush 6, 2) := by decide +kernel
theorem dL_areMessages_140 : decode cL_areMessages 140 = .ok (.if_icmp .ge 13, 3) := by decide +kernel
theorem dL_areMessages_143 : decode cL_areMessages 143 = .ok (.iload 8, 2) := by decide +kernel
theorem dL_areMessages_145 : decode cL_areMessages 145 = .ok (.iconst 3, 1) := by decide +kernel
theorem dL_areMessages_146 : decode cL_areMessages 146 = .ok (.if_icmp .le 7, 3) := by decide +kernel
theorem dL_areMessages_149 : decode cL_areMessages 149 = .ok (.iconst 1, 1) := by decide +kernel
theorem dL_areMessages_150 : decode cL_areMessages 150 = .ok (.goto 37, 3) := by decide +kernel
theorem dL_areMessages_153 : decode cL_areMessages 153 = .ok (.iconst 0, 1) := by decide +kernel
theorem dL_areMessages_154 : decode cL_areMessages 154 = .ok (.goto 33, 3) := by decide +kernel
theorem dL_areMessages_157 : decode cL_areMessages 157 = .ok (.iload 5, 2) := by decide +kernel
theorem dL_areMessages_159 : decode cL_areMessages 159 = .ok (.iconst 3, 1) := by decide +kernel
theorem dL_areMessages_160 : decode cL_areMessages 160 = .ok (.if_icmp .ne 26, 3) := by decide +kernel
theorem dL_areMessages_163 : decode cL_areMessages 163 = .ok (.iload 6, 2) := by decide +kernel
theorem dL_areMessages_165 : decode cL_areMessages 165 = .ok (.bipush 6, 2) := by decide +kernel
theorem dL_areMessages_167 : decode cL_areMessages 167 = .ok (.if_icmp .ge 19, 3) := by decide +kernel
theorem dL_areMessages_170 : decode cL_areMessages 170 = .ok (.iload 7, 2) := by decide +kernel
theorem dL_areMessages_172 : decode cL_areMessages 172 = .ok (.bipush 6, 2) := by decide +kernel
theorem dL_areMessages_174 : decode cL_areMessages 174 = .ok (.if_icmp .ne 12, 3) := by decide +kernel
theorem dL_areMessages_177 : decode cL_areMessages 177 = .ok (.iload 8, 2) := by decide +kernel
theorem dL_areMessages_179 : decode cL_areMessages 179 = .ok (.ifCond .le 7, 3) := by decide +kernel
theorem dL_areMessages_182 : decode cL_areMessages 182 = .ok (.iconst 1, 1) := by decide +kernel
theorem dL_areMessages_183 : decode cL_areMessages 183 = .ok (.goto 4, 3) := by decide +kernel
theorem dL_areMessages_186 : decode cL_areMessages 186 = .ok (.iconst 0, 1) := by decide +kernel
theorem dL_areMessages_187 : decode cL_areMessages 187 = .ok (.istore 10, 2) := by decide +kernel
theorem dL_areMessages_189 : decode cL_areMessages 189 = .ok (.iload 5, 2) := by decide +kernel
theorem dL_areMessages_191 : decode cL_areMessages 191 = .ok (.ifCond .ne 44, 3) := by decide +kernel
theorem dL_areMessages_194 : decode cL_areMessages 194 = .ok (.aload_n 0, 1) := by decide +kernel
theorem dL_areMessages_195 : decode cL_areMessages 195 = .ok (.iload 4, 2) := by decide +kernel
theorem dL_areMessages_197 : decode cL_areMessages 197 = .ok (.iconst 5, 1) := by decide +kernel
theorem dL_areMessages_198 : decode cL_areMessages 198 = .ok (.invokevirtual 34, 3) := by decide +kernel
theorem dL_areMessages_201 : decode cL_areMessages 201 = .ok (.ifCond .lt 30, 3) := by decide +kernel
theorem dL_areMessages_204 : decode cL_areMessages 204 = .ok (.aload_n 0, 1) := by decide +kernel
theorem dL_areMessages_205 : decode cL_areMessages 205 = .ok (.iload 4, 2) := by decide +kernel
theorem dL_areMessages_207 : decode cL_areMessages 207 = .ok (.iconst 5, 1) := by decide +kernel
theorem dL_areMessages_208 : decode cL_areMessages 208 = .ok (.invokevirtual 34, 3) := by decide +kernel
theorem dL_areMessages_211 : decode cL_areMessages 211 = .ok (.bipush 20, 2) := by decide +kernel
theorem dL_areMessages_213 : decode cL_areMessages 213 = .ok (.if_icmp .gt 18, 3) := by decide +kernel
theorem dL_areMessages_216 : decode cL_areMessages 216 = .ok (.aload_n 0, 1) := by decide +kernel
theorem dL_areMessages_217 : decode cL_areMessages 217 = .ok (.iload 4, 2) := by decide +kernel
theorem dL_areMessages_219 : decode cL_areMessages 219 = .ok (.bipush 6, 2) := by decide +kernel
theorem dL_areMessages_221 : decode cL_areMessages 221 = .ok (.invokevirtual 34, 3) := by decide +kernel
theorem dL_areMessages_224 : decode cL_areMessages 224 = .ok (.ifCond .le 7, 3) := by decide +kernel
theorem dL_areMessages_227 : decode cL_areMessages 227 = .ok (.iconst 1, 1) := by decide +kernel
theorem dL_areMessages_228 : decode cL_areMessages 228 = .ok (.goto 33, 3) := by decide +kernel
theorem dL_areMessages_231 : decode cL_areMessages 231 = .ok (.iconst 0, 1) := by decide +kernel
theorem dL_areMessages_232 : decode cL_areMessages 232 = .ok (.goto 29, 3) := by decide +kernel
theorem dL_areMessages_235 : decode cL_areMessages 235 = .ok (.aload_n 0, 1) := by decide +kernel
theorem dL_areMessages_236 : decode cL_areMessages 236 = .ok (.iload 4, 2) := by decide +kernel
theorem dL_areMessages_238 : decode cL_areMessages 238 = .ok (.iconst 5, 1) := by decide +kernel
theorem dL_areMessages_239 : decode cL_areMessages 239 = .ok (.invokevirtual 34, 3) := by decide +kernel
theorem dL_areMessages_242 : decode cL_areMessages 242 = .ok (.ifCond .ne 18, 3) := by decide +kernel
theorem dL_areMessages_245 : decode cL_areMessages 245 = .ok (.aload_n 0, 1) := by decide +kernel
theorem dL_areMessages_246 : decode cL_areMessages 246 = .ok (.iload 4, 2) := by decide +kernel
theorem dL_areMessages_248 : decode cL_areMessages 248 = .ok (.bipush 6, 2) := by decide +kernel
theorem dL_areMessages_250 : decode cL_areMessages 250 = .ok (.invokevirtual 34, 3) := by decide +kernel
theorem dL_areMessages_253 : decode cL_areMessages 253 = .ok (.ifCond .ne 7, 3) := by decide +kernel
theorem dL_areMessages_256 : decode cL_areMessages 256 = .ok (.iconst 1, 1) := by decide +kernel
theorem dL_areMessages_257 : decode cL_areMessages 257 = .ok (.goto 4, 3) := by decide +kernel
theorem dL_areMessages_260 : decode cL_areMessages 260 = .ok (.iconst 0, 1) := by decide +kernel
theorem dL_areMessages_261 : decode cL_areMessages 261 = .ok (.istore 11, 2) := by decide +kernel
theorem dL_areMessages_263 : decode cL_areMessages 263 = .ok (.iload 10, 2) := by decide +kernel
theorem dL_areMessages_265 : decode cL_areMessages 265 = .ok (.ifCond .eq 21, 3) := by decide +kernel
theorem dL_areMessages_268 : decode cL_areMessages 268 = .ok (.iload 11, 2) := by decide +kernel
theorem dL_areMessages_270 : decode cL_areMessages 270 = .ok (.ifCond .eq 16, 3) := by decide +kernel
theorem dL_areMessages_273 : decode cL_areMessages 273 = .ok (.iload 9, 2) := by decide +kernel
theorem dL_areMessages_275 : decode cL_areMessages 275 = .ok (.iload_n 2, 1) := by decide +kernel
theorem dL_areMessages_276 : decode cL_areMessages 276 = .ok (.if_icmp .lt 10, 3) := by decide +kernel
theorem dL_areMessages_279 : decode cL_areMessages 279 = .ok (.iload 9, 2) := by decide +kernel
theorem dL_areMessages_281 : decode cL_areMessages 281 = .ok (.bipush 9, 2) := by decide +kernel
theorem dL_areMessages_283 : decode cL_areMessages 283 = .ok (.if_icmp .le 5, 3) := by decide +kernel
theorem dL_areMessages_286 : decode cL_areMessages 286 = .ok (.iconst 0, 1) := by decide +kernel
theorem dL_areMessages_287 : decode cL_areMessages 287 = .ok (.ireturn, 1) := by decide +kernel
theorem dL_areMessages_288 : decode cL_areMessages 288 = .ok (.iload_n 3, 1) := by decide +kernel
theorem dL_areMessages_289 : decode cL_areMessages 289 = .ok (.ifCond .eq 13, 3) := by decide +kernel
theorem dL_areMessages_292 : decode cL_areMessages 292 = .ok (.iload 5, 2) := by decide +kernel
theorem dL_areMessages_294 : decode cL_areMessages 294 = .ok (.iconst 3, 1) := by decide +kernel
theorem dL_areMessages_295 : decode cL_areMessages 295 = .ok (.if_icmp .ne 7, 3) := by decide +kernel
theorem dL_areMessages_298 : decode cL_areMessages 298 = .ok (.iconst 1, 1) := by decide +kernel
theorem dL_areMessages_299 : decode cL_areMessages 299 = .ok (.goto 4, 3) := by decide +kernel
theorem dL_areMessages_302 : decode cL_areMessages 302 = .ok (.iconst 0, 1) := by decide +kernel
theorem dL_areMessages_303 : decode cL_areMessages 303 = .ok (.istore_n 3, 1) := by decide +kernel
theorem dL_areMessages_304 : decode cL_areMessages 304 = .ok (.iload_n 1, 1) := by decide +kernel
theorem dL_areMessages_305 : decode cL_areMessages 305 = .ok (.iload 8, 2) := by decide +kernel
theorem dL_areMessages_307 : decode cL_areMessages 307 = .ok (.iadd, 1) := by decide +kernel
theorem dL_areMessages_308 : decode cL_areMessages 308 = .ok (.istore_n 1, 1) := by decide +kernel
theorem dL_areMessages_309 : decode cL_areMessages 309 = .ok (.iload 9, 2) := by decide +kernel
theorem dL_areMessages_311 : decode cL_areMessages 311 = .ok (.istore_n 2, 1) := by decide +kernel
theorem dL_areMessages_312 : decode cL_areMessages 312 = .ok (.iinc 4 1, 3) := by decide +kernel
theorem dL_areMessages_315 : decode cL_areMessages 315 = .ok (.goto (-306), 3) := by decide +kernel
theorem dL_areMessages_318 : decode cL_areMessages 318 = .ok (.aload_n 0, 1) := by decide +kernel
theorem dL_areMessages_319 : decode cL_areMessages 319 = .ok (.aload_n 0, 1) := by decide +kernel
theorem dL_areMessages_320 : decode cL_areMessages 320 = .ok (.bipush 6, 2) := by decide +kernel
theorem dL_areMessages_322 : decode cL_areMessages 322 = .ok (.invokevirtual 30, 3) := by decide +kernel
theorem dL_areMessages_325 : decode cL_areMessages 325 = .ok (.iconst 0, 1) := by decide +kernel
theorem dL_areMessages_326 : decode cL_areMessages 326 = .ok (.invokevirtual 34, 3) := by decide +kernel
theorem dL_areMessages_329 : decode cL_areMessages 329 = .ok (.bipush (-5), 2) := by decide +kernel
theorem dL_areMessages_331 : decode cL_areMessages 331 = .ok (.if_icmp .ne 43, 3) := by decide +kernel
theorem dL_areMessages_334 : decode cL_areMessages 334 = .ok (.aload_n 0, 1) := by decide +kernel
theorem dL_areMessages_335 : decode cL_areMessages 335 = .ok (.iconst 4, 1) := by decide +kernel
theorem dL_areMessages_336 : decode cL_areMessages 336 = .ok (.invokevirtual 30, 3) := by decide +kernel
theorem dL_areMessages_339 : decode cL_areMessages 339 = .ok (.iload_n 1, 1) := by decide +kernel
theorem dL_areMessages_340 : decode cL_areMessages 340 = .ok (.if_icmp .ne 34, 3) := by decide +kernel
theorem dL_areMessages_343 : decode cL_areMessages 343 = .ok (.aload_n 0, 1) := by decide +kernel
theorem dL_areMessages_344 : decode cL_areMessages 344 = .ok (.bipush 12, 2) := by decide +kernel
theorem dL_areMessages_346 : decode cL_areMessages 346 = .ok (.invokevirtual 30, 3) := by decide +kernel
theorem dL_areMessages_349 : decode cL_areMessages 349 = .ok (.iload_n 3, 1) := by decide +kernel
theorem dL_areMessages_350 : decode cL_areMessages 350 = .ok (.ifCond .eq 16, 3) := by decide +kernel
theorem dL_areMessages_353 : decode cL_areMessages 353 = .ok (.aload_n 0, 1) := by decide +kernel
theorem dL_areMessages_354 : decode cL_areMessages 354 = .ok (.bipush 7, 2) := by decide +kernel
theorem dL_areMessages_356 : decode cL_areMessages 356 = .ok (.invokevirtual 30, 3) := by decide +kernel
theorem dL_areMessages_359 : decode cL_areMessages 359 = .ok (.ifCond .ne 7, 3) := by decide +kernel
theorem dL_areMessages_362 : decode cL_areMessages 362 = .ok (.iconst 1, 1) := by decide +kernel
theorem dL_areMessages_363 : decode cL_areMessages 363 = .ok (.goto 4, 3) := by decide +kernel
theorem dL_areMessages_366 : decode cL_areMessages 366 = .ok (.iconst 0, 1) := by decide +kernel
theorem dL_areMessages_367 : decode cL_areMessages 367 = .ok (.if_icmp .ne 7, 3) := by decide +kernel
theorem dL_areMessages_370 : decode cL_areMessages 370 = .ok (.iconst 1, 1) := by decide +kernel
theorem dL_areMessages_371 : decode cL_areMessages 371 = .ok (.goto 4, 3) := by decide +kernel
theorem dL_areMessages_374 : decode cL_areMessages 374 = .ok (.iconst 0, 1) := by decide +kernel
theorem dL_areMessages_375 : decode cL_areMessages 375 = .ok (.ireturn, 1) := by decide +kernel
theorem dL_areHouses_0 : decode cL_areHouses 0 = .ok (.iconst 0, 1) := by decide +kernel
theorem dL_areHouses_1 : decode cL_areHouses 1 = .ok (.istore_n 2, 1) := by decide +kernel
theorem dL_areHouses_2 : decode cL_areHouses 2 = .ok (.iconst 0, 1) := by decide +kernel
theorem dL_areHouses_3 : decode cL_areHouses 3 = .ok (.istore_n 3, 1) := by decide +kernel
theorem dL_areHouses_4 : decode cL_areHouses 4 = .ok (.iload_n 3, 1) := by decide +kernel
theorem dL_areHouses_5 : decode cL_areHouses 5 = .ok (.bipush 6, 2) := by decide +kernel
theorem dL_areHouses_7 : decode cL_areHouses 7 = .ok (.if_icmp .ge 317, 3) := by decide +kernel
theorem dL_areHouses_10 : decode cL_areHouses 10 = .ok (.aload_n 0, 1) := by decide +kernel
theorem dL_areHouses_11 : decode cL_areHouses 11 = .ok (.iload_n 3, 1) := by decide +kernel
theorem dL_areHouses_12 : decode cL_areHouses 12 = .ok (.iconst 0, 1) := by decide +kernel
theorem dL_areHouses_13 : decode cL_areHouses 13 = .ok (.invokevirtual 37, 3) := by decide +kernel
theorem dL_areHouses_16 : decode cL_areHouses 16 = .ok (.iconst 1, 1) := by decide +kernel
theorem dL_areHouses_17 : decode cL_areHouses 17 = .ok (.if_icmp .ne 7, 3) := by decide +kernel
theorem dL_areHouses_20 : decode cL_areHouses 20 = .ok (.iconst 1, 1) := by decide +kernel
theorem dL_areHouses_21 : decode cL_areHouses 21 = .ok (.goto 4, 3) := by decide +kernel
theorem dL_areHouses_24 : decode cL_areHouses 24 = .ok (.iconst 0, 1) := by decide +kernel
theorem dL_areHouses_25 : decode cL_areHouses 25 = .ok (.istore 4, 2) := by decide +kernel
theorem dL_areHouses_27 : decode cL_areHouses 27 = .ok (.iconst 0, 1) := by decide +kernel
theorem dL_areHouses_28 : decode cL_areHouses 28 = .ok (.istore 5, 2) := by decide +kernel
theorem dL_areHouses_30 : decode cL_areHouses 30 = .ok (.iconst 0, 1) := by decide +kernel
theorem dL_areHouses_31 : decode cL_areHouses 31 = .ok (.istore 6, 2) := by decide +kernel
theorem dL_areHouses_33 : decode cL_areHouses 33 = .ok (.iload 6, 2) := by decide +kernel
theorem dL_areHouses_35 : decode cL_areHouses 35 = .ok (.aload_n 0, 1) := by decide +kernel
theorem dL_areHouses_36 : decode cL_areHouses 36 = .ok (.bipush 6, 2) := by decide +kernel
theorem dL_areHouses_38 : decode cL_areHouses 38 = .ok (.invokevirtual 30, 3) := by decide +kernel
theorem dL_areHouses_41 : decode cL_areHouses 41 = .ok (.if_icmp .ge 63, 3) := by decide +kernel
theorem dL_areHouses_44 : decode cL_areHouses 44 = .ok (.iload 5, 2) := by decide +kernel
theorem dL_areHouses_46 : decode cL_areHouses 46 = .ok (.aload_n 0, 1) := by decide +kernel
theorem dL_areHouses_47 : decode cL_areHouses 47 = .ok (.iload 6, 2) := by decide +kernel
theorem dL_areHouses_49 : decode cL_areHouses 49 = .ok (.iconst 0, 1) := by decide +kernel
theorem dL_areHouses_50 : decode cL_areHouses 50 = .ok (.invokevirtual 34, 3) := by decide +kernel
theorem dL_areHouses_53 : decode cL_areHouses 53 = .ok (.iconst 1, 1) := by decide +kernel
theorem dL_areHouses_54 : decode cL_areHouses 54 = .ok (.if_icmp .ne 14, 3) := by decide +kernel
theorem dL_areHouses_57 : decode cL_areHouses 57 = .ok (.aload_n 0, 1) := by decide +kernel
theorem dL_areHouses_58 : decode cL_areHouses 58 = .ok (.iload 6, 2) := by decide +kernel
theorem dL_areHouses_60 : decode cL_areHouses 60 = .ok (.iconst 1, 1) := by decide +kernel
theorem dL_areHouses_61 : decode cL_areHouses 61 = .ok (.invokevirtual 34, 3) := by decide +kernel
theorem dL_areHouses_64 : decode cL_areHouses 64 = .ok (.iload_n 3, 1) := by decide +kernel
theorem dL_areHouses_65 : decode cL_areHouses 65 = .ok (.if_icmp .eq 25, 3) := by decide +kernel
theorem dL_areHouses_68 : decode cL_areHouses 68 = .ok (.aload_n 0, 1) := by decide +kernel
theorem dL_areHouses_69 : decode cL_areHouses 69 = .ok (.iload 6, 2) := by decide +kernel
theorem dL_areHouses_71 : decode cL_areHouses 71 = .ok (.iconst 0, 1) := by decide +kernel
theorem dL_areHouses_72 : decode cL_areHouses 72 = .ok (.invokevirtual 34, 3) := by decide +kernel
theorem dL_areHouses_75 : decode cL_areHouses 75 = .ok (.iconst 2, 1) := by decide +kernel
theorem dL_areHouses_76 : decode cL_areHouses 76 = .ok (.if_icmp .ne 18, 3) := by decide +kernel
theorem dL_areHouses_79 : decode cL_areHouses 79 = .ok (.aload_n 0, 1) := by decide +kernel
theorem dL_areHouses_80 : decode cL_areHouses 80 = .ok (.iload 6, 2) := by decide +kernel
theorem dL_areHouses_82 : decode cL_areHouses 82 = .ok (.iconst 2, 1) := by decide +kernel
theorem dL_areHouses_83 : decode cL_areHouses 83 = .ok (.invokevirtual 34, 3) := by decide +kernel
theorem dL_areHouses_86 : decode cL_areHouses 86 = .ok (.iload_n 3, 1) := by decide +kernel
theorem dL_areHouses_87 : decode cL_areHouses 87 = .ok (.if_icmp .ne 7, 3) := by decide +kernel
theorem dL_areHouses_90 : decode cL_areHouses 90 = .ok (.iconst 1, 1) := by decide +kernel
theorem dL_areHouses_91 : decode cL_areHouses 91 = .ok (.goto 4, 3) := by decide +kernel
theorem dL_areHouses_94 : decode cL_areHouses 94 = .ok (.iconst 0, 1) := by decide +kernel
theorem dL_areHouses_95 : decode cL_areHouses 95 = .ok (.iadd, 1) := by decide +kernel
theorem dL_areHouses_96 : decode cL_areHouses 96 = .ok (.istore 5, 2) := by decide +kernel
theorem dL_areHouses_98 : decode cL_areHouses 98 = .ok (.iinc 6 1, 3) := by decide +kernel
theorem dL_areHouses_101 : decode cL_areHouses 101 = .ok (.goto (-68), 3) := by decide +kernel
theorem dL_areHouses_104 : decode cL_areHouses 104 = .ok (.iload 4, 2) := by decide +kernel
theorem dL_areHouses_106 : decode cL_areHouses 106 = .ok (.ifCond .eq 16, 3) := by decide +kernel
theorem dL_areHouses_109 : decode cL_areHouses 109 = .ok (.aload_n 0, 1) := by decide +kernel
theorem dL_areHouses_110 : decode cL_areHouses 110 = .ok (.iload_n 3, 1) := by decide +kernel
theorem dL_areHouses_111 : decode cL_areHouses 111 = .ok (.iconst 1, 1) := by decide +kernel
theorem dL_areHouses_112 : decode cL_areHouses 112 = .ok (.invokevirtual 37, 3) := by decide +kernel
theorem dL_areHouses_115 : decode cL_areHouses 115 = .ok (.iconst 1, 1) := by decide +kernel
theorem dL_areHouses_116 : decode cL_areHouses 116 = .ok (.if_icmp .ge 38, 3) := by decide +kernel
theorem dL_areHouses_119 : decode cL_areHouses 119 = .ok (.goto 33, 3) := by decide +kernel
theorem dL_areHouses_122 : decode cL_areHouses 122 = .ok (.aload_n 0, 1) := by decide +kernel
theorem dL_areHouses_123 : decode cL_areHouses 123 = .ok (.iload_n 3, 1) := by decide +kernel
theorem dL_areHouses_124 : decode cL_areHouses 124 = .ok (.iconst 1, 1) := by decide +kernel
theorem dL_areHouses_125 : decode cL_areHouses 125 = .ok (.invokevirtual 37, 3) := by decide +kernel
theorem dL_areHouses_128 : decode cL_areHouses 128 = .ok (.aload_n 0, 1) := by decide +kernel
theorem dL_areHouses_129 : decode cL_areHouses 129 = .ok (.iload_n 3, 1) := by decide +kernel
theorem dL_areHouses_130 : decode cL_areHouses 130 = .ok (.iconst 2, 1) := by decide +kernel
theorem dL_areHouses_131 : decode cL_areHouses 131 = .ok (.invokevirtual 37, 3) := by decide +kernel
theorem dL_areHouses_134 : decode cL_areHouses 134 = .ok (.iadd, 1) := by decide +kernel
theorem dL_areHouses_135 : decode cL_areHouses 135 = .ok (.aload_n 0, 1) := by decide +kernel
theorem dL_areHouses_136 : decode cL_areHouses 136 = .ok (.iload_n 3, 1) := by decide +kernel
theorem dL_areHouses_137 : decode cL_areHouses 137 = .ok (.iconst 3, 1) := by decide +kernel
theorem dL_areHouses_138 : decode cL_areHouses 138 = .ok (.invokevirtual 37, 3) := by decide +kernel
theorem dL_areHouses_141 : decode cL_areHouses 141 = .ok (.iadd, 1) := by decide +kernel
theorem dL_areHouses_142 : decode cL_areHouses 142 = .ok (.aload_n 0, 1) := by decide +kernel
theorem dL_areHouses_143 : decode cL_areHouses 143 = .ok (.iload_n 3, 1) := by decide +kernel
theorem dL_areHouses_144 : decode cL_areHouses 144 = .ok (.iconst 4, 1) := by decide +kernel
theorem dL_areHouses_145 : decode cL_areHouses 145 = .ok (.invokevirtual 37, 3) := by decide +kernel
theorem dL_areHouses_148 : decode cL_areHouses 148 = .ok (.iadd, 1) := by decide +kernel
theorem dL_areHouses_149 : decode cL_areHouses 149 = .ok (.ifCond .le 5, 3) := by decide +kernel
theorem dL_areHouses_152 : decode cL_areHouses 152 = .ok (.iconst 0, 1) := by decide +kernel
theorem dL_areHouses_153 : decode cL_areHouses 153 = .ok (.ireturn, 1) := by decide +kernel
theorem dL_areHouses_154 : decode cL_areHouses 154 = .ok (.iload 5, 2) := by decide +kernel
theorem dL_areHouses_156 : decode cL_areHouses 156 = .ok (.aload_n 0, 1) := by decide +kernel
theorem dL_areHouses_157 : decode cL_areHouses 157 = .ok (.iload_n 3, 1) := by decide +kernel
theorem dL_areHouses_158 : decode cL_areHouses 158 = .ok (.iconst 4, 1) := by decide +kernel
theorem dL_areHouses_159 : decode cL_areHouses 159 = .ok (.invokevirtual 37, 3) := by decide +kernel
theorem dL_areHouses_162 : decode cL_areHouses 162 = .ok (.if_icmp .gt 38, 3) := by decide +kernel
theorem dL_areHouses_165 : decode cL_areHouses 165 = .ok (.aload_n 1, 1) := by decide +kernel
theorem dL_areHouses_166 : decode cL_areHouses 166 = .ok (.iconst 3, 1) := by decide +kernel
theorem dL_areHouses_167 : decode cL_areHouses 167 = .ok (.iaload, 1) := by decide +kernel
theorem dL_areHouses_168 : decode cL_areHouses 168 = .ok (.ifCond .ne 14, 3) := by decide +kernel
theorem dL_areHouses_171 : decode cL_areHouses 171 = .ok (.iload 5, 2) := by decide +kernel
theorem dL_areHouses_173 : decode cL_areHouses 173 = .ok (.aload_n 0, 1) := by decide +kernel
theorem dL_areHouses_174 : decode cL_areHouses 174 = .ok (.iload_n 3, 1) := by decide +kernel
theorem dL_areHouses_175 : decode cL_areHouses 175 = .ok (.iconst 4, 1) := by decide +kernel
theorem dL_areHouses_176 : decode cL_areHouses 176 = .ok (.invokevirtual 37, 3) := by decide +kernel
theorem dL_areHouses_179 : decode cL_areHouses 179 = .ok (.if_icmp .ne 21, 3) := by decide +kernel
theorem dL_areHouses_182 : decode cL_areHouses 182 = .ok (.aload_n 0, 1) := by decide +kernel
theorem dL_areHouses_183 : decode cL_areHouses 183 = .ok (.iload_n 3, 1) := by decide +kernel
theorem dL_areHouses_184 : decode cL_areHouses 184 = .ok (.iconst 3, 1) := by decide +kernel
theorem dL_areHouses_185 : decode cL_areHouses 185 = .ok (.invokevirtual 37, 3) := by decide +kernel
theorem dL_areHouses_188 : decode cL_areHouses 188 = .ok (.ifCond .le 14, 3) := by decide +kernel
theorem dL_areHouses_191 : decode cL_areHouses 191 = .ok (.aload_n 0, 1) := by decide +kernel
theorem dL_areHouses_192 : decode cL_areHouses 192 = .ok (.iload_n 3, 1) := by decide +kernel
theorem dL_areHouses_193 : decode cL_areHouses 193 = .ok (.iconst 4, 1) := by decide +kernel
theorem dL_areHouses_194 : decode cL_areHouses 194 = .ok (.invokevirtual 37, 3) := by decide +kernel
theorem dL_areHouses_197 : decode cL_areHouses 197 = .ok (.ifCond .ne 5, 3) := by decide +kernel
theorem dL_areHouses_200 : decode cL_areHouses 200 = .ok (.iconst 0, 1) := by decide +kernel
theorem dL_areHouses_201 : decode cL_areHouses 201 = .ok (.ireturn, 1) := by decide +kernel
theorem dL_areHouses_202 : decode cL_areHouses 202 = .ok (.iconst 0, 1) := by decide +kernel
theorem dL_areHouses_203 : decode cL_areHouses 203 = .ok (.istore 6, 2) := by decide +kernel
theorem dL_areHouses_205 : decode cL_areHouses 205 = .ok (.iload 6, 2) := by decide +kernel
theorem dL_areHouses_207 : decode cL_areHouses 207 = .ok (.aload_n 0, 1) := by decide +kernel
theorem dL_areHouses_208 : decode cL_areHouses 208 = .ok (.iload_n 3, 1) := by decide +kernel
theorem dL_areHouses_209 : decode cL_areHouses 209 = .ok (.iconst 3, 1) := by decide +kernel
theorem dL_areHouses_210 : decode cL_areHouses 210 = .ok (.invokevirtual 37, 3) := by decide +kernel
theorem dL_areHouses_213 : decode cL_areHouses 213 = .ok (.if_icmp .ge 86, 3) := by decide +kernel
theorem dL_areHouses_216 : decode cL_areHouses 216 = .ok (.aload_n 0, 1) := by decide +kernel
theorem dL_areHouses_217 : decode cL_areHouses 217 = .ok (.iload_n 3, 1) := by decide +kernel
theorem dL_areHouses_218 : decode cL_areHouses 218 = .ok (.iload 6, 2) := by decide +kernel
theorem dL_areHouses_220 : decode cL_areHouses 220 = .ok (.iconst 3, 1) := by decide +kernel
theorem dL_areHouses_221 : decode cL_areHouses 221 = .ok (.invokevirtual 40, 3) := by decide +kernel
theorem dL_areHouses_224 : decode cL_areHouses 224 = .ok (.istore 7, 2) := by decide +kernel
theorem dL_areHouses_226 : decode cL_areHouses 226 = .ok (.iload_n 2, 1) := by decide +kernel
theorem dL_areHouses_227 : decode cL_areHouses 227 = .ok (.iload 7, 2) := by decide +kernel
theorem dL_areHouses_229 : decode cL_areHouses 229 = .ok (.iadd, 1) := by decide +kernel
theorem dL_areHouses_230 : decode cL_areHouses 230 = .ok (.istore_n 2, 1) := by decide +kernel
theorem dL_areHouses_231 : decode cL_areHouses 231 = .ok (.aload_n 0, 1) := by decide +kernel
theorem dL_areHouses_232 : decode cL_areHouses 232 = .ok (.iload_n 3, 1) := by decide +kernel
theorem dL_areHouses_233 : decode cL_areHouses 233 = .ok (.iload 6, 2) := by decide +kernel
theorem dL_areHouses_235 : decode cL_areHouses 235 = .ok (.iconst 0, 1) := by decide +kernel
theorem dL_areHouses_236 : decode cL_areHouses 236 = .ok (.invokevirtual 40, 3) := by decide +kernel
theorem dL_areHouses_239 : decode cL_areHouses 239 = .ok (.ifCond .lt 52, 3) := by decide +kernel
theorem dL_areHouses_242 : decode cL_areHouses 242 = .ok (.aload_n 0, 1) := by decide +kernel
theorem dL_areHouses_243 : decode cL_areHouses 243 = .ok (.iload_n 3, 1) := by decide +kernel
theorem dL_areHouses_244 : decode cL_areHouses 244 = .ok (.iload 6, 2) := by decide +kernel
theorem dL_areHouses_246 : decode cL_areHouses 246 = .ok (.iconst 0, 1) := by decide +kernel
theorem dL_areHouses_247 : decode cL_areHouses 247 = .ok (.invokevirtual 40, 3) := by decide +kernel
theorem dL_areHouses_250 : decode cL_areHouses 250 = .ok (.iconst 5, 1) := by decide +kernel
theorem dL_areHouses_251 : decode cL_areHouses 251 = .ok (.if_icmp .gt 40, 3) := by decide +kernel
theorem dL_areHouses_254 : decode cL_areHouses 254 = .ok (.aload_n 0, 1) := by decide +kernel
theorem dL_areHouses_255 : decode cL_areHouses 255 = .ok (.iload_n 3, 1) := by decide +kernel
theorem dL_areHouses_256 : decode cL_areHouses 256 = .ok (.iload 6, 2) := by decide +kernel
theorem dL_areHouses_258 : decode cL_areHouses 258 = .ok (.iconst 1, 1) := by decide +kernel
theorem dL_areHouses_259 : decode cL_areHouses 259 = .ok (.invokevirtual 40, 3) := by decide +kernel
theorem dL_areHouses_262 : decode cL_areHouses 262 = .ok (.ifCond .lt 29, 3) := by decide +kernel
theorem dL_areHouses_265 : decode cL_areHouses 265 = .ok (.aload_n 0, 1) := by decide +kernel
theorem dL_areHouses_266 : decode cL_areHouses 266 = .ok (.iload_n 3, 1) := by decide +kernel
theorem dL_areHouses_267 : decode cL_areHouses 267 = .ok (.iload 6, 2) := by decide +kernel
theorem dL_areHouses_269 : decode cL_areHouses 269 = .ok (.iconst 1, 1) := by decide +kernel
theorem dL_areHouses_270 : decode cL_areHouses 270 = .ok (.invokevirtual 40, 3) := by decide +kernel
theorem dL_areHouses_273 : decode cL_areHouses 273 = .ok (.bipush 20, 2) := by decide +kernel
theorem dL_areHouses_275 : decode cL_areHouses 275 = .ok (.if_icmp .gt 16, 3) := by decide +kernel
theorem dL_areHouses_278 : decode cL_areHouses 278 = .ok (.iload 7, 2) := by decide +kernel
theorem dL_areHouses_280 : decode cL_areHouses 280 = .ok (.aload_n 0, 1) := by decide +kernel
theorem dL_areHouses_281 : decode cL_areHouses 281 = .ok (.iload_n 3, 1) := by decide +kernel
theorem dL_areHouses_282 : decode cL_areHouses 282 = .ok (.iload 6, 2) := by decide +kernel
theorem dL_areHouses_284 : decode cL_areHouses 284 = .ok (.iconst 2, 1) := by decide +kernel
theorem dL_areHouses_285 : decode cL_areHouses 285 = .ok (.invokevirtual 40, 3) := by decide +kernel
theorem dL_areHouses_288 : decode cL_areHouses 288 = .ok (.if_icmp .gt 5, 3) := by decide +kernel
theorem dL_areHouses_291 : decode cL_areHouses 291 = .ok (.iconst 0, 1) := by decide +kernel
theorem dL_areHouses_292 : decode cL_areHouses 292 = .ok (.ireturn, 1) := by decide +kernel
theorem dL_areHouses_293 : decode cL_areHouses 293 = .ok (.iinc 6 1, 3) := by decide +kernel
theorem dL_areHouses_296 : decode cL_areHouses 296 = .ok (.goto (-91), 3) := by decide +kernel
theorem dL_areHouses_299 : decode cL_areHouses 299 = .ok (.aload_n 0, 1) := by decide +kernel
theorem dL_areHouses_300 : decode cL_areHouses 300 = .ok (.iload_n 3, 1) := by decide +kernel
theorem dL_areHouses_301 : decode cL_areHouses 301 = .ok (.aload_n 0, 1) := by decide +kernel
theorem dL_areHouses_302 : decode cL_areHouses 302 = .ok (.iload_n 3, 1) := by decide +kernel
theorem dL_areHouses_303 : decode cL_areHouses 303 = .ok (.iconst 3, 1) := by decide +kernel
theorem dL_areHouses_304 : decode cL_areHouses 304 = .ok (.invokevirtual 37, 3) := by decide +kernel
theorem dL_areHouses_307 : decode cL_areHouses 307 = .ok (.iconst 0, 1) := by decide +kernel
theorem dL_areHouses_308 : decode cL_areHouses 308 = .ok (.invokevirtual 40, 3) := by decide +kernel
theorem dL_areHouses_311 : decode cL_areHouses 311 = .ok (.bipush (-5), 2) := by decide +kernel
theorem dL_areHouses_313 : decode cL_areHouses 313 = .ok (.if_icmp .eq 5, 3) := by decide +kernel
theorem dL_areHouses_316 : decode cL_areHouses 316 = .ok (.iconst 0, 1) := by decide +kernel
theorem dL_areHouses_317 : decode cL_areHouses 317 = .ok (.ireturn, 1) := by decide +kernel
theorem dL_areHouses_318 : decode cL_areHouses 318 = .ok (.iinc 3 1, 3) := by decide +kernel
theorem dL_areHouses_321 : decode cL_areHouses 321 = .ok (.goto (-317), 3) := by decide +kernel
theorem dL_areHouses_324 : decode cL_areHouses 324 = .ok (.iconst 0, 1) := by decide +kernel
theorem dL_areHouses_325 : decode cL_areHouses 325 = .ok (.istore_n 3, 1) := by decide +kernel
theorem dL_areHouses_326 : decode cL_areHouses 326 = .ok (.iload_n 3, 1) := by decide +kernel
theorem dL_areHouses_327 : decode cL_areHouses 327 = .ok (.aload_n 0, 1) := by decide +kernel
theorem dL_areHouses_328 : decode cL_areHouses 328 = .ok (.bipush 6, 2) := by decide +kernel
theorem dL_areHouses_330 : decode cL_areHouses 330 = .ok (.invokevirtual 30, 3) := by decide +kernel
theorem dL_areHouses_333 : decode cL_areHouses 333 = .ok (.if_icmp .ge 19, 3) := by decide +kernel
theorem dL_areHouses_336 : decode cL_areHouses 336 = .ok (.iload_n 2, 1) := by decide +kernel
theorem dL_areHouses_337 : decode cL_areHouses 337 = .ok (.aload_n 0, 1) := by decide +kernel
theorem dL_areHouses_338 : decode cL_areHouses 338 = .ok (.iload_n 3, 1) := by decide +kernel
theorem dL_areHouses_339 : decode cL_areHouses 339 = .ok (.bipush 6, 2) := by decide +kernel
theorem dL_areHouses_341 : decode cL_areHouses 341 = .ok (.invokevirtual 34, 3) := by decide +kernel
theorem dL_areHouses_344 : decode cL_areHouses 344 = .ok (.iadd, 1) := by decide +kernel
theorem dL_areHouses_345 : decode cL_areHouses 345 = .ok (.istore_n 2, 1) := by decide +kernel
theorem dL_areHouses_346 : decode cL_areHouses 346 = .ok (.iinc 3 1, 3) := by decide +kernel
theorem dL_areHouses_349 : decode cL_areHouses 349 = .ok (.goto (-23), 3) := by decide +kernel
theorem dL_areHouses_352 : decode cL_areHouses 352 = .ok (.iload_n 2, 1) := by decide +kernel
theorem dL_areHouses_353 : decode cL_areHouses 353 = .ok (.bipush 80, 2) := by decide +kernel
theorem dL_areHouses_355 : decode cL_areHouses 355 = .ok (.if_icmp .gt 7, 3) := by decide +kernel
theorem dL_areHouses_358 : decode cL_areHouses 358 = .ok (.iconst 1, 1) := by decide +kernel
theorem dL_areHouses_359 : decode cL_areHouses 359 = .ok (.goto 4, 3) := by decide +kernel
theorem dL_areHouses_362 : decode cL_areHouses 362 = .ok (.iconst 0, 1) := by decide +kernel
theorem dL_areHouses_363 : decode cL_areHouses 363 = .ok (.ireturn, 1) := by decide +kernel
theorem dL_holds_0 : decode cL_holds 0 = .ok (.aload_n 0, 1) := by decide +kernel
theorem dL_holds_1 : decode cL_holds 1 = .ok (.iconst 1, 1) := by decide +kernel
theorem dL_holds_2 : decode cL_holds 2 = .ok (.invokevirtual 30, 3) := by decide +kernel
theorem dL_holds_5 : decode cL_holds 5 = .ok (.aload_n 0, 1) := by decide +kernel
theorem dL_holds_6 : decode cL_holds 6 = .ok (.iconst 2, 1) := by decide +kernel
theorem dL_holds_7 : decode cL_holds 7 = .ok (.invokevirtual 30, 3) := by decide +kernel
theorem dL_holds_10 : decode cL_holds 10 = .ok (.aload_n 0, 1) := by decide +kernel
theorem dL_holds_11 : decode cL_holds 11 = .ok (.iconst 3, 1) := by decide +kernel
theorem dL_holds_12 : decode cL_holds 12 = .ok (.invokevirtual 30, 3) := by decide +kernel
theorem dL_holds_15 : decode cL_holds 15 = .ok (.iadd, 1) := by decide +kernel
theorem dL_holds_16 : decode cL_holds 16 = .ok (.aload_n 0, 1) := by decide +kernel
theorem dL_holds_17 : decode cL_holds 17 = .ok (.iconst 4, 1) := by decide +kernel
theorem dL_holds_18 : decode cL_holds 18 = .ok (.invokevirtual 30, 3) := by decide +kernel
theorem dL_holds_21 : decode cL_holds 21 = .ok (.iadd, 1) := by decide +kernel
theorem dL_holds_22 : decode cL_holds 22 = .ok (.aload_n 0, 1) := by decide +kernel
theorem dL_holds_23 : decode cL_holds 23 = .ok (.iconst 5, 1) := by decide +kernel
theorem dL_holds_24 : decode cL_holds 24 = .ok (.invokevirtual 30, 3) := by decide +kernel
theorem dL_holds_27 : decode cL_holds 27 = .ok (.iadd, 1) := by decide +kernel
theorem dL_holds_28 : decode cL_holds 28 = .ok (.if_icmp .ne 87, 3) := by decide +kernel
theorem dL_holds_31 : decode cL_holds 31 = .ok (.aload_n 0, 1) := by decide +kernel
theorem dL_holds_32 : decode cL_holds 32 = .ok (.iconst 3, 1) := by decide +kernel
theorem dL_holds_33 : decode cL_holds 33 = .ok (.invokevirtual 30, 3) := by decide +kernel
theorem dL_holds_36 : decode cL_holds 36 = .ok (.aload_n 0, 1) := by decide +kernel
theorem dL_holds_37 : decode cL_holds 37 = .ok (.iconst 1, 1) := by decide +kernel
theorem dL_holds_38 : decode cL_holds 38 = .ok (.invokestatic 44, 3) := by decide +kernel
theorem dL_holds_41 : decode cL_holds 41 = .ok (.if_icmp .ne 74, 3) := by decide +kernel
theorem dL_holds_44 : decode cL_holds 44 = .ok (.aload_n 0, 1) := by decide +kernel
theorem dL_holds_45 : decode cL_holds 45 = .ok (.bipush 7, 2) := by decide +kernel
theorem dL_holds_47 : decode cL_holds 47 = .ok (.invokevirtual 30, 3) := by decide +kernel
theorem dL_holds_50 : decode cL_holds 50 = .ok (.aload_n 0, 1) := by decide +kernel
theorem dL_holds_51 : decode cL_holds 51 = .ok (.iconst 0, 1) := by decide +kernel
theorem dL_holds_52 : decode cL_holds 52 = .ok (.invokestatic 44, 3) := by decide +kernel
theorem dL_holds_55 : decode cL_holds 55 = .ok (.if_icmp .ne 60, 3) := by decide +kernel
theorem dL_holds_58 : decode cL_holds 58 = .ok (.aload_n 0, 1) := by decide +kernel
theorem dL_holds_59 : decode cL_holds 59 = .ok (.bipush 11, 2) := by decide +kernel
theorem dL_holds_61 : decode cL_holds 61 = .ok (.invokevirtual 30, 3) := by decide +kernel
theorem dL_holds_64 : decode cL_holds 64 = .ok (.aload_n 0, 1) := by decide +kernel
theorem dL_holds_65 : decode cL_holds 65 = .ok (.iconst 1, 1) := by decide +kernel
theorem dL_holds_66 : decode cL_holds 66 = .ok (.invokevirtual 30, 3) := by decide +kernel
theorem dL_holds_69 : decode cL_holds 69 = .ok (.aload_n 0, 1) := by decide +kernel
theorem dL_holds_70 : decode cL_holds 70 = .ok (.iconst 2, 1) := by decide +kernel
theorem dL_holds_71 : decode cL_holds 71 = .ok (.invokevirtual 30, 3) := by decide +kernel
theorem dL_holds_74 : decode cL_holds 74 = .ok (.if_icmp .ne 7, 3) := by decide +kernel
theorem dL_holds_77 : decode cL_holds 77 = .ok (.iconst 1, 1) := by decide +kernel
theorem dL_holds_78 : decode cL_holds 78 = .ok (.goto 4, 3) := by decide +kernel
theorem dL_holds_81 : decode cL_holds 81 = .ok (.iconst 0, 1) := by decide +kernel
theorem dL_holds_82 : decode cL_holds 82 = .ok (.if_icmp .ne 33, 3) := by decide +kernel
theorem dL_holds_85 : decode cL_holds 85 = .ok (.aload_n 0, 1) := by decide +kernel
theorem dL_holds_86 : decode cL_holds 86 = .ok (.bipush 11, 2) := by decide +kernel
theorem dL_holds_88 : decode cL_holds 88 = .ok (.invokevirtual 30, 3) := by decide +kernel
theorem dL_holds_91 : decode cL_holds 91 = .ok (.ifCond .eq 20, 3) := by decide +kernel
theorem dL_holds_94 : decode cL_holds 94 = .ok (.aload_n 0, 1) := by decide +kernel
theorem dL_holds_95 : decode cL_holds 95 = .ok (.bipush 12, 2) := by decide +kernel
theorem dL_holds_97 : decode cL_holds 97 = .ok (.invokevirtual 30, 3) := by decide +kernel
theorem dL_holds_100 : decode cL_holds 100 = .ok (.iconst 1, 1) := by decide +kernel
theorem dL_holds_101 : decode cL_holds 101 = .ok (.if_icmp .eq 10, 3) := by decide +kernel
theorem dL_holds_104 : decode cL_holds 104 = .ok (.aload_n 1, 1) := by decide +kernel
theorem dL_holds_105 : decode cL_holds 105 = .ok (.iconst 2, 1) := by decide +kernel
theorem dL_holds_106 : decode cL_holds 106 = .ok (.iaload, 1) := by decide +kernel
theorem dL_holds_107 : decode cL_holds 107 = .ok (.iconst 1, 1) := by decide +kernel
theorem dL_holds_108 : decode cL_holds 108 = .ok (.if_icmp .ne 7, 3) := by decide +kernel
theorem dL_holds_111 : decode cL_holds 111 = .ok (.iconst 1, 1) := by decide +kernel
theorem dL_holds_112 : decode cL_holds 112 = .ok (.goto 4, 3) := by decide +kernel
theorem dL_holds_115 : decode cL_holds 115 = .ok (.iconst 0, 1) := by decide +kernel
theorem dL_holds_116 : decode cL_holds 116 = .ok (.istore_n 2, 1) := by decide +kernel
theorem dL_holds_117 : decode cL_holds 117 = .ok (.iload_n 2, 1) := by decide +kernel
theorem dL_holds_118 : decode cL_holds 118 = .ok (.ifCond .eq 70, 3) := by decide +kernel
theorem dL_holds_121 : decode cL_holds 121 = .ok (.aload_n 0, 1) := by decide +kernel
theorem dL_holds_122 : decode cL_holds 122 = .ok (.bipush 6, 2) := by decide +kernel
theorem dL_holds_124 : decode cL_holds 124 = .ok (.invokestatic 44, 3) := by decide +kernel
theorem dL_holds_127 : decode cL_holds 127 = .ok (.aload_n 0, 1) := by decide +kernel
theorem dL_holds_128 : decode cL_holds 128 = .ok (.bipush 8, 2) := by decide +kernel
theorem dL_holds_130 : decode cL_holds 130 = .ok (.invokevirtual 30, 3) := by decide +kernel
theorem dL_holds_133 : decode cL_holds 133 = .ok (.iadd, 1) := by decide +kernel
theorem dL_holds_134 : decode cL_holds 134 = .ok (.aload_n 0, 1) := by decide +kernel
theorem dL_holds_135 : decode cL_holds 135 = .ok (.iconst 5, 1) := by decide +kernel
theorem dL_holds_136 : decode cL_holds 136 = .ok (.invokestatic 44, 3) := by decide +kernel
theorem dL_holds_139 : decode cL_holds 139 = .ok (.aload_n 0, 1) := by decide +kernel
theorem dL_holds_140 : decode cL_holds 140 = .ok (.iconst 0, 1) := by decide +kernel
theorem dL_holds_141 : decode cL_holds 141 = .ok (.invokestatic 48, 3) := by decide +kernel
theorem dL_holds_144 : decode cL_holds 144 = .ok (.iadd, 1) := by decide +kernel
theorem dL_holds_145 : decode cL_holds 145 = .ok (.aload_n 1, 1) := by decide +kernel
theorem dL_holds_146 : decode cL_holds 146 = .ok (.iconst 0, 1) := by decide +kernel
theorem dL_holds_147 : decode cL_holds 147 = .ok (.iaload, 1) := by decide +kernel
theorem dL_holds_148 : decode cL_holds 148 = .ok (.iadd, 1) := by decide +kernel
theorem dL_holds_149 : decode cL_holds 149 = .ok (.if_icmp .ne 39, 3) := by decide +kernel
theorem dL_holds_152 : decode cL_holds 152 = .ok (.aload_n 0, 1) := by decide +kernel
theorem dL_holds_153 : decode cL_holds 153 = .ok (.bipush 9, 2) := by decide +kernel
theorem dL_holds_155 : decode cL_holds 155 = .ok (.invokevirtual 30, 3) := by decide +kernel
theorem dL_holds_158 : decode cL_holds 158 = .ok (.aload_n 0, 1) := by decide +kernel
theorem dL_holds_159 : decode cL_holds 159 = .ok (.bipush 8, 2) := by decide +kernel
theorem dL_holds_161 : decode cL_holds 161 = .ok (.invokevirtual 30, 3) := by decide +kernel
theorem dL_holds_164 : decode cL_holds 164 = .ok (.aload_n 0, 1) := by decide +kernel
theorem dL_holds_165 : decode cL_holds 165 = .ok (.bipush 7, 2) := by decide +kernel
theorem dL_holds_167 : decode cL_holds 167 = .ok (.invokestatic 44, 3) := by decide +kernel
theorem dL_holds_170 : decode cL_holds 170 = .ok (.iadd, 1) := by decide +kernel
theorem dL_holds_171 : decode cL_holds 171 = .ok (.aload_n 0, 1) := by decide +kernel
theorem dL_holds_172 : decode cL_holds 172 = .ok (.iconst 1, 1) := by decide +kernel
theorem dL_holds_173 : decode cL_holds 173 = .ok (.invokestatic 48, 3) := by decide +kernel
theorem dL_holds_176 : decode cL_holds 176 = .ok (.isub, 1) := by decide +kernel
theorem dL_holds_177 : decode cL_holds 177 = .ok (.aload_n 1, 1) := by decide +kernel
theorem dL_holds_178 : decode cL_holds 178 = .ok (.iconst 1, 1) := by decide +kernel
theorem dL_holds_179 : decode cL_holds 179 = .ok (.iaload, 1) := by decide +kernel
theorem dL_holds_180 : decode cL_holds 180 = .ok (.isub, 1) := by decide +kernel
theorem dL_holds_181 : decode cL_holds 181 = .ok (.if_icmp .ne 7, 3) := by decide +kernel
theorem dL_holds_184 : decode cL_holds 184 = .ok (.iconst 1, 1) := by decide +kernel
theorem dL_holds_185 : decode cL_holds 185 = .ok (.goto 4, 3) := by decide +kernel
theorem dL_holds_188 : decode cL_holds 188 = .ok (.iconst 0, 1) := by decide +kernel
theorem dL_holds_189 : decode cL_holds 189 = .ok (.istore_n 2, 1) := by decide +kernel
theorem dL_holds_190 : decode cL_holds 190 = .ok (.iload_n 2, 1) := by decide +kernel
theorem dL_holds_191 : decode cL_holds 191 = .ok (.ifCond .eq 22, 3) := by decide +kernel
theorem dL_holds_194 : decode cL_holds 194 = .ok (.aload_n 0, 1) := by decide +kernel
theorem dL_holds_195 : decode cL_holds 195 = .ok (.invokestatic 51, 3) := by decide +kernel
theorem dL_holds_198 : decode cL_holds 198 = .ok (.ifCond .eq 15, 3) := by decide +kernel
theorem dL_holds_201 : decode cL_holds 201 = .ok (.aload_n 0, 1) := by decide +kernel
theorem dL_holds_202 : decode cL_holds 202 = .ok (.aload_n 1, 1) := by decide +kernel
theorem dL_holds_203 : decode cL_holds 203 = .ok (.invokestatic 55, 3) := by decide +kernel
theorem dL_holds_206 : decode cL_holds 206 = .ok (.ifCond .eq 7, 3) := by decide +kernel
theorem dL_holds_209 : decode cL_holds 209 = .ok (.iconst 1, 1) := by decide +kernel
theorem dL_holds_210 : decode cL_holds 210 = .ok (.goto 4, 3) := by decide +kernel
theorem dL_holds_213 : decode cL_holds 213 = .ok (.iconst 0, 1) := by decide +kernel
theorem dL_holds_214 : decode cL_holds 214 = .ok (.ireturn, 1) := by decide +kernel
theorem dL_isAhead_0 : decode cL_isAhead 0 = .ok (.iload_n 2, 1) := by decide +kernel
theorem dL_isAhead_1 : decode cL_isAhead 1 = .ok (.ifCond .ne 18, 3) := by decide +kernel
theorem dL_isAhead_4 : decode cL_isAhead 4 = .ok (.aload_n 0, 1) := by decide +kernel
theorem dL_isAhead_5 : decode cL_isAhead 5 = .ok (.iload_n 1, 1) := by decide +kernel
theorem dL_isAhead_6 : decode cL_isAhead 6 = .ok (.invokevirtual 30, 3) := by decide +kernel
theorem dL_isAhead_9 : decode cL_isAhead 9 = .ok (.iconst 1, 1) := by decide +kernel
theorem dL_isAhead_10 : decode cL_isAhead 10 = .ok (.if_icmp .ne 7, 3) := by decide +kernel
theorem dL_isAhead_13 : decode cL_isAhead 13 = .ok (.iconst 1, 1) := by decide +kernel
theorem dL_isAhead_14 : decode cL_isAhead 14 = .ok (.goto 4, 3) := by decide +kernel
theorem dL_isAhead_17 : decode cL_isAhead 17 = .ok (.iconst 0, 1) := by decide +kernel
theorem dL_isAhead_18 : decode cL_isAhead 18 = .ok (.ireturn, 1) := by decide +kernel
theorem dL_isAhead_19 : decode cL_isAhead 19 = .ok (.iload_n 2, 1) := by decide +kernel
theorem dL_isAhead_20 : decode cL_isAhead 20 = .ok (.ifCond .ge 33, 3) := by decide +kernel
theorem dL_isAhead_23 : decode cL_isAhead 23 = .ok (.aload_n 0, 1) := by decide +kernel
theorem dL_isAhead_24 : decode cL_isAhead 24 = .ok (.bipush 100, 2) := by decide +kernel
theorem dL_isAhead_26 : decode cL_isAhead 26 = .ok (.invokevirtual 59, 3) := by decide +kernel
theorem dL_isAhead_29 : decode cL_isAhead 29 = .ok (.ifCond .lt 22, 3) := by decide +kernel
theorem dL_isAhead_32 : decode cL_isAhead 32 = .ok (.aload_n 0, 1) := by decide +kernel
theorem dL_isAhead_33 : decode cL_isAhead 33 = .ok (.iload_n 1, 1) := by decide +kernel
theorem dL_isAhead_34 : decode cL_isAhead 34 = .ok (.invokevirtual 30, 3) := by decide +kernel
theorem dL_isAhead_37 : decode cL_isAhead 37 = .ok (.ifCond .ne 14, 3) := by decide +kernel
theorem dL_isAhead_40 : decode cL_isAhead 40 = .ok (.aload_n 0, 1) := by decide +kernel
theorem dL_isAhead_41 : decode cL_isAhead 41 = .ok (.invokevirtual 62, 3) := by decide +kernel
theorem dL_isAhead_44 : decode cL_isAhead 44 = .ok (.ifCond .lt 7, 3) := by decide +kernel
theorem dL_isAhead_47 : decode cL_isAhead 47 = .ok (.iconst 1, 1) := by decide +kernel
theorem dL_isAhead_48 : decode cL_isAhead 48 = .ok (.goto 4, 3) := by decide +kernel
theorem dL_isAhead_51 : decode cL_isAhead 51 = .ok (.iconst 0, 1) := by decide +kernel
theorem dL_isAhead_52 : decode cL_isAhead 52 = .ok (.ireturn, 1) := by decide +kernel
theorem dL_isAhead_53 : decode cL_isAhead 53 = .ok (.iload_n 2, 1) := by decide +kernel
theorem dL_isAhead_54 : decode cL_isAhead 54 = .ok (.bipush 100, 2) := by decide +kernel
theorem dL_isAhead_56 : decode cL_isAhead 56 = .ok (.if_icmp .le 8, 3) := by decide +kernel
theorem dL_isAhead_59 : decode cL_isAhead 59 = .ok (.bipush 100, 2) := by decide +kernel
theorem dL_isAhead_61 : decode cL_isAhead 61 = .ok (.goto 4, 3) := by decide +kernel
theorem dL_isAhead_64 : decode cL_isAhead 64 = .ok (.iload_n 2, 1) := by decide +kernel
theorem dL_isAhead_65 : decode cL_isAhead 65 = .ok (.istore_n 3, 1) := by decide +kernel
theorem dL_isAhead_66 : decode cL_isAhead 66 = .ok (.aload_n 0, 1) := by decide +kernel
theorem dL_isAhead_67 : decode cL_isAhead 67 = .ok (.iload_n 1, 1) := by decide +kernel
theorem dL_isAhead_68 : decode cL_isAhead 68 = .ok (.invokevirtual 30, 3) := by decide +kernel
theorem dL_isAhead_71 : decode cL_isAhead 71 = .ok (.ifCond .ne 63, 3) := by decide +kernel
theorem dL_isAhead_74 : decode cL_isAhead 74 = .ok (.aload_n 0, 1) := by decide +kernel
theorem dL_isAhead_75 : decode cL_isAhead 75 = .ok (.iload_n 3, 1) := by decide +kernel
theorem dL_isAhead_76 : decode cL_isAhead 76 = .ok (.invokevirtual 59, 3) := by decide +kernel
theorem dL_isAhead_79 : decode cL_isAhead 79 = .ok (.ifCond .lt 55, 3) := by decide +kernel
theorem dL_isAhead_82 : decode cL_isAhead 82 = .ok (.aload_n 0, 1) := by decide +kernel
theorem dL_isAhead_83 : decode cL_isAhead 83 = .ok (.iload_n 1, 1) := by decide +kernel
theorem dL_isAhead_84 : decode cL_isAhead 84 = .ok (.invokevirtual 30, 3) := by decide +kernel
theorem dL_isAhead_87 : decode cL_isAhead 87 = .ok (.iload_n 3, 1) := by decide +kernel
theorem dL_isAhead_88 : decode cL_isAhead 88 = .ok (.iload_n 2, 1) := by decide +kernel
theorem dL_isAhead_89 : decode cL_isAhead 89 = .ok (.if_icmp .ne 7, 3) := by decide +kernel
theorem dL_isAhead_92 : decode cL_isAhead 92 = .ok (.iconst 1, 1) := by decide +kernel
theorem dL_isAhead_93 : decode cL_isAhead 93 = .ok (.goto 4, 3) := by decide +kernel
theorem dL_isAhead_96 : decode cL_isAhead 96 = .ok (.iconst 0, 1) := by decide +kernel
theorem dL_isAhead_97 : decode cL_isAhead 97 = .ok (.if_icmp .ne 37, 3) := by decide +kernel
theorem dL_isAhead_100 : decode cL_isAhead 100 = .ok (.iload_n 1, 1) := by decide +kernel
theorem dL_isAhead_101 : decode cL_isAhead 101 = .ok (.bipush 11, 2) := by decide +kernel
theorem dL_isAhead_103 : decode cL_isAhead 103 = .ok (.if_icmp .ne 10, 3) := by decide +kernel
theorem dL_isAhead_106 : decode cL_isAhead 106 = .ok (.aload_n 0, 1) := by decide +kernel
theorem dL_isAhead_107 : decode cL_isAhead 107 = .ok (.invokevirtual 65, 3) := by decide +kernel
theorem dL_isAhead_110 : decode cL_isAhead 110 = .ok (.goto 7, 3) := by decide +kernel
theorem dL_isAhead_113 : decode cL_isAhead 113 = .ok (.aload_n 0, 1) := by decide +kernel
theorem dL_isAhead_114 : decode cL_isAhead 114 = .ok (.invokevirtual 68, 3) := by decide +kernel
theorem dL_isAhead_117 : decode cL_isAhead 117 = .ok (.iload_n 2, 1) := by decide +kernel
theorem dL_isAhead_118 : decode cL_isAhead 118 = .ok (.iload_n 3, 1) := by decide +kernel
theorem dL_isAhead_119 : decode cL_isAhead 119 = .ok (.isub, 1) := by decide +kernel
theorem dL_isAhead_120 : decode cL_isAhead 120 = .ok (.if_icmp .ne 14, 3) := by decide +kernel
theorem dL_isAhead_123 : decode cL_isAhead 123 = .ok (.aload_n 0, 1) := by decide +kernel
theorem dL_isAhead_124 : decode cL_isAhead 124 = .ok (.invokevirtual 62, 3) := by decide +kernel
theorem dL_isAhead_127 : decode cL_isAhead 127 = .ok (.ifCond .lt 7, 3) := by decide +kernel
theorem dL_isAhead_130 : decode cL_isAhead 130 = .ok (.iconst 1, 1) := by decide +kernel
theorem dL_isAhead_131 : decode cL_isAhead 131 = .ok (.goto 4, 3) := by decide +kernel
theorem dL_isAhead_134 : decode cL_isAhead 134 = .ok (.iconst 0, 1) := by decide +kernel
theorem dL_isAhead_135 : decode cL_isAhead 135 = .ok (.istore 4, 2) := by decide +kernel
theorem dL_isAhead_137 : decode cL_isAhead 137 = .ok (.iload 4, 2) := by decide +kernel
theorem dL_isAhead_139 : decode cL_isAhead 139 = .ok (.ifCond .eq 37, 3) := by decide +kernel
theorem dL_isAhead_142 : decode cL_isAhead 142 = .ok (.iload_n 3, 1) := by decide +kernel
theorem dL_isAhead_143 : decode cL_isAhead 143 = .ok (.iconst 1, 1) := by decide +kernel
theorem dL_isAhead_144 : decode cL_isAhead 144 = .ok (.if_icmp .eq 28, 3) := by decide +kernel
theorem dL_isAhead_147 : decode cL_isAhead 147 = .ok (.aload_n 0, 1) := by decide +kernel
theorem dL_isAhead_148 : decode cL_isAhead 148 = .ok (.iload_n 3, 1) := by decide +kernel
theorem dL_isAhead_149 : decode cL_isAhead 149 = .ok (.iconst 1, 1) := by decide +kernel
theorem dL_isAhead_150 : decode cL_isAhead 150 = .ok (.isub, 1) := by decide +kernel
theorem dL_isAhead_151 : decode cL_isAhead 151 = .ok (.invokevirtual 59, 3) := by decide +kernel
theorem dL_isAhead_154 : decode cL_isAhead 154 = .ok (.ifCond .lt 22, 3) := by decide +kernel
theorem dL_isAhead_157 : decode cL_isAhead 157 = .ok (.aload_n 0, 1) := by decide +kernel
theorem dL_isAhead_158 : decode cL_isAhead 158 = .ok (.iload_n 1, 1) := by decide +kernel
theorem dL_isAhead_159 : decode cL_isAhead 159 = .ok (.invokevirtual 30, 3) := by decide +kernel
theorem dL_isAhead_162 : decode cL_isAhead 162 = .ok (.ifCond .ne 14, 3) := by decide +kernel
theorem dL_isAhead_165 : decode cL_isAhead 165 = .ok (.aload_n 0, 1) := by decide +kernel
theorem dL_isAhead_166 : decode cL_isAhead 166 = .ok (.invokevirtual 62, 3) := by decide +kernel
theorem dL_isAhead_169 : decode cL_isAhead 169 = .ok (.ifCond .lt 7, 3) := by decide +kernel
theorem dL_isAhead_172 : decode cL_isAhead 172 = .ok (.iconst 1, 1) := by decide +kernel
theorem dL_isAhead_173 : decode cL_isAhead 173 = .ok (.goto 4, 3) := by decide +kernel
theorem dL_isAhead_176 : decode cL_isAhead 176 = .ok (.iconst 0, 1) := by decide +kernel
theorem dL_isAhead_177 : decode cL_isAhead 177 = .ok (.ireturn, 1) := by decide +kernel
theorem dL_forecasts_0 : decode cL_forecasts 0 = .ok (.aload_n 0, 1) := by decide +kernel
theorem dL_forecasts_1 : decode cL_forecasts 1 = .ok (.iconst 0, 1) := by decide +kernel
theorem dL_forecasts_2 : decode cL_forecasts 2 = .ok (.invokevirtual 30, 3) := by decide +kernel
theorem dL_forecasts_5 : decode cL_forecasts 5 = .ok (.istore_n 2, 1) := by decide +kernel
theorem dL_forecasts_6 : decode cL_forecasts 6 = .ok (.aload_n 0, 1) := by decide +kernel
theorem dL_forecasts_7 : decode cL_forecasts 7 = .ok (.invokevirtual 65, 3) := by decide +kernel
theorem dL_forecasts_10 : decode cL_forecasts 10 = .ok (.istore_n 3, 1) := by decide +kernel
theorem dL_forecasts_11 : decode cL_forecasts 11 = .ok (.aload_n 0, 1) := by decide +kernel
theorem dL_forecasts_12 : decode cL_forecasts 12 = .ok (.invokevirtual 68, 3) := by decide +kernel
theorem dL_forecasts_15 : decode cL_forecasts 15 = .ok (.istore 4, 2) := by decide +kernel
theorem dL_forecasts_17 : decode cL_forecasts 17 = .ok (.iload_n 3, 1) := by decide +kernel
theorem dL_forecasts_18 : decode cL_forecasts 18 = .ok (.ifCond .lt 21, 3) := by decide +kernel
theorem dL_forecasts_21 : decode cL_forecasts 21 = .ok (.aload_n 1, 1) := by decide +kernel
theorem dL_forecasts_22 : decode cL_forecasts 22 = .ok (.iconst 2, 1) := by decide +kernel
theorem dL_forecasts_23 : decode cL_forecasts 23 = .ok (.iaload, 1) := by decide +kernel
theorem dL_forecasts_24 : decode cL_forecasts 24 = .ok (.iconst 1, 1) := by decide +kernel
theorem dL_forecasts_25 : decode cL_forecasts 25 = .ok (.if_icmp .eq 14, 3) := by decide +kernel
theorem dL_forecasts_28 : decode cL_forecasts 28 = .ok (.iload 4, 2) := by decide +kernel
theorem dL_forecasts_30 : decode cL_forecasts 30 = .ok (.ifCond .lt 34, 3) := by decide +kernel
theorem dL_forecasts_33 : decode cL_forecasts 33 = .ok (.iload 4, 2) := by decide +kernel
theorem dL_forecasts_35 : decode cL_forecasts 35 = .ok (.iload_n 3, 1) := by decide +kernel
theorem dL_forecasts_36 : decode cL_forecasts 36 = .ok (.if_icmp .gt 28, 3) := by decide +kernel
theorem dL_forecasts_39 : decode cL_forecasts 39 = .ok (.aload_n 0, 1) := by decide +kernel
theorem dL_forecasts_40 : decode cL_forecasts 40 = .ok (.bipush 11, 2) := by decide +kernel
theorem dL_forecasts_42 : decode cL_forecasts 42 = .ok (.iload_n 3, 1) := by decide +kernel
theorem dL_forecasts_43 : decode cL_forecasts 43 = .ok (.invokestatic 71, 3) := by decide +kernel
theorem dL_forecasts_46 : decode cL_forecasts 46 = .ok (.ifCond .eq 18, 3) := by decide +kernel
theorem dL_forecasts_49 : decode cL_forecasts 49 = .ok (.aload_n 0, 1) := by decide +kernel
theorem dL_forecasts_50 : decode cL_forecasts 50 = .ok (.bipush 12, 2) := by decide +kernel
theorem dL_forecasts_52 : decode cL_forecasts 52 = .ok (.iload 4, 2) := by decide +kernel
theorem dL_forecasts_54 : decode cL_forecasts 54 = .ok (.invokestatic 71, 3) := by decide +kernel
theorem dL_forecasts_57 : decode cL_forecasts 57 = .ok (.ifCond .eq 7, 3) := by decide +kernel
theorem dL_forecasts_60 : decode cL_forecasts 60 = .ok (.iconst 1, 1) := by decide +kernel
theorem dL_forecasts_61 : decode cL_forecasts 61 = .ok (.goto 4, 3) := by decide +kernel
theorem dL_forecasts_64 : decode cL_forecasts 64 = .ok (.iconst 0, 1) := by decide +kernel
theorem dL_forecasts_65 : decode cL_forecasts 65 = .ok (.istore 5, 2) := by decide +kernel
theorem dL_forecasts_67 : decode cL_forecasts 67 = .ok (.iload 5, 2) := by decide +kernel
theorem dL_forecasts_69 : decode cL_forecasts 69 = .ok (.ifCond .eq 24, 3) := by decide +kernel
theorem dL_forecasts_72 : decode cL_forecasts 72 = .ok (.aload_n 0, 1) := by decide +kernel
theorem dL_forecasts_73 : decode cL_forecasts 73 = .ok (.iconst 0, 1) := by decide +kernel
theorem dL_forecasts_74 : decode cL_forecasts 74 = .ok (.invokevirtual 30, 3) := by decide +kernel
theorem dL_forecasts_77 : decode cL_forecasts 77 = .ok (.iload_n 2, 1) := by decide +kernel
theorem dL_forecasts_78 : decode cL_forecasts 78 = .ok (.if_icmp .ne 15, 3) := by decide +kernel
theorem dL_forecasts_81 : decode cL_forecasts 81 = .ok (.aload_n 0, 1) := by decide +kernel
theorem dL_forecasts_82 : decode cL_forecasts 82 = .ok (.aload_n 1, 1) := by decide +kernel
theorem dL_forecasts_83 : decode cL_forecasts 83 = .ok (.invokestatic 75, 3) := by decide +kernel
theorem dL_forecasts_86 : decode cL_forecasts 86 = .ok (.ifCond .eq 7, 3) := by decide +kernel
theorem dL_forecasts_89 : decode cL_forecasts 89 = .ok (.iconst 1, 1) := by decide +kernel
theorem dL_forecasts_90 : decode cL_forecasts 90 = .ok (.goto 4, 3) := by decide +kernel
theorem dL_forecasts_93 : decode cL_forecasts 93 = .ok (.iconst 0, 1) := by decide +kernel
theorem dL_forecasts_94 : decode cL_forecasts 94 = .ok (.ireturn, 1) := by decide +kernel
theorem dL_act_0 : decode cL_act 0 = .ok (.iload_n 2, 1) := by decide +kernel
theorem dL_act_1 : decode cL_act 1 = .ok (.bipush 6, 2) := by decide +kernel
theorem dL_act_3 : decode cL_act 3 = .ok (.invokestatic 20, 3) := by decide +kernel
theorem dL_act_6 : decode cL_act 6 = .ok (.istore 4, 2) := by decide +kernel
theorem dL_act_8 : decode cL_act 8 = .ok (.iload_n 2, 1) := by decide +kernel
theorem dL_act_9 : decode cL_act 9 = .ok (.iconst 3, 1) := by decide +kernel
theorem dL_act_10 : decode cL_act 10 = .ok (.ishr, 1) := by decide +kernel
theorem dL_act_11 : decode cL_act 11 = .ok (.bipush 6, 2) := by decide +kernel
theorem dL_act_13 : decode cL_act 13 = .ok (.invokestatic 20, 3) := by decide +kernel
theorem dL_act_16 : decode cL_act 16 = .ok (.istore 5, 2) := by decide +kernel
theorem dL_act_18 : decode cL_act 18 = .ok (.aload_n 0, 1) := by decide +kernel
theorem dL_act_19 : decode cL_act 19 = .ok (.bipush 8, 2) := by decide +kernel
theorem dL_act_21 : decode cL_act 21 = .ok (.invokevirtual 30, 3) := by decide +kernel
theorem dL_act_24 : decode cL_act 24 = .ok (.istore 6, 2) := by decide +kernel
theorem dL_act_26 : decode cL_act 26 = .ok (.iload_n 1, 1) := by decide +kernel
theorem dL_act_27 : decode cL_act 27 = .ok (.bipush 14, 2) := by decide +kernel
theorem dL_act_29 : decode cL_act 29 = .ok (.invokestatic 20, 3) := by decide +kernel
theorem dL_act_32 : decode cL_act 32 = .ok (.tableswitch 725 0 7 #[48, 163, 226, 351, 351, 351, 515, 644], 48) := by decide +kernel
theorem dL_act_80 : decode cL_act 80 = .ok (.iconst 1, 1) := by decide +kernel
theorem dL_act_81 : decode cL_act 81 = .ok (.iload_n 2, 1) := by decide +kernel
theorem dL_act_82 : decode cL_act 82 = .ok (.bipush 6, 2) := by decide +kernel
theorem dL_act_84 : decode cL_act 84 = .ok (.ishr, 1) := by decide +kernel
theorem dL_act_85 : decode cL_act 85 = .ok (.bipush 9, 2) := by decide +kernel
theorem dL_act_87 : decode cL_act 87 = .ok (.invokestatic 20, 3) := by decide +kernel
theorem dL_act_90 : decode cL_act 90 = .ok (.iadd, 1) := by decide +kernel
theorem dL_act_91 : decode cL_act 91 = .ok (.istore 7, 2) := by decide +kernel
theorem dL_act_93 : decode cL_act 93 = .ok (.aload_n 0, 1) := by decide +kernel
theorem dL_act_94 : decode cL_act 94 = .ok (.iload 4, 2) := by decide +kernel
theorem dL_act_96 : decode cL_act 96 = .ok (.iload 5, 2) := by decide +kernel
theorem dL_act_98 : decode cL_act 98 = .ok (.invokevirtual 78, 3) := by decide +kernel
theorem dL_act_101 : decode cL_act 101 = .ok (.istore 8, 2) := by decide +kernel
theorem dL_act_103 : decode cL_act 103 = .ok (.aload_n 0, 1) := by decide +kernel
theorem dL_act_104 : decode cL_act 104 = .ok (.iload 4, 2) := by decide +kernel
theorem dL_act_106 : decode cL_act 106 = .ok (.iload 5, 2) := by decide +kernel
theorem dL_act_108 : decode cL_act 108 = .ok (.iload 7, 2) := by decide +kernel
theorem dL_act_110 : decode cL_act 110 = .ok (.invokevirtual 81, 3) := by decide +kernel
theorem dL_act_113 : decode cL_act 113 = .ok (.istore 9, 2) := by decide +kernel
theorem dL_act_115 : decode cL_act 115 = .ok (.iload 9, 2) := by decide +kernel
theorem dL_act_117 : decode cL_act 117 = .ok (.iload 4, 2) := by decide +kernel
theorem dL_act_119 : decode cL_act 119 = .ok (.iload 5, 2) := by decide +kernel
theorem dL_act_121 : decode cL_act 121 = .ok (.if_icmp .ne 8, 3) := by decide +kernel
theorem dL_act_124 : decode cL_act 124 = .ok (.bipush (-2), 2) := by decide +kernel
theorem dL_act_126 : decode cL_act 126 = .ok (.goto 17, 3) := by decide +kernel
theorem dL_act_129 : decode cL_act 129 = .ok (.iload 8, 2) := by decide +kernel
theorem dL_act_131 : decode cL_act 131 = .ok (.iload 7, 2) := by decide +kernel
theorem dL_act_133 : decode cL_act 133 = .ok (.if_icmp .ne 8, 3) := by decide +kernel
theorem dL_act_136 : decode cL_act 136 = .ok (.bipush (-5), 2) := by decide +kernel
theorem dL_act_138 : decode cL_act 138 = .ok (.goto 5, 3) := by decide +kernel
theorem dL_act_141 : decode cL_act 141 = .ok (.iload 8, 2) := by decide +kernel
theorem dL_act_143 : decode cL_act 143 = .ok (.if_icmp .ne 50, 3) := by decide +kernel
theorem dL_act_146 : decode cL_act 146 = .ok (.aload_n 0, 1) := by decide +kernel
theorem dL_act_147 : decode cL_act 147 = .ok (.iload 4, 2) := by decide +kernel
theorem dL_act_149 : decode cL_act 149 = .ok (.iload 5, 2) := by decide +kernel
theorem dL_act_151 : decode cL_act 151 = .ok (.invokevirtual 78, 3) := by decide +kernel
theorem dL_act_154 : decode cL_act 154 = .ok (.iload 4, 2) := by decide +kernel
theorem dL_act_156 : decode cL_act 156 = .ok (.iload 5, 2) := by decide +kernel
theorem dL_act_158 : decode cL_act 158 = .ok (.if_icmp .ne 7, 3) := by decide +kernel
theorem dL_act_161 : decode cL_act 161 = .ok (.iconst 1, 1) := by decide +kernel
theorem dL_act_162 : decode cL_act 162 = .ok (.goto 5, 3) := by decide +kernel
theorem dL_act_165 : decode cL_act 165 = .ok (.iload 7, 2) := by decide +kernel
theorem dL_act_167 : decode cL_act 167 = .ok (.if_icmp .ne 26, 3) := by decide +kernel
theorem dL_act_170 : decode cL_act 170 = .ok (.aload_n 0, 1) := by decide +kernel
theorem dL_act_171 : decode cL_act 171 = .ok (.iload 5, 2) := by decide +kernel
theorem dL_act_173 : decode cL_act 173 = .ok (.iload 4, 2) := by decide +kernel
theorem dL_act_175 : decode cL_act 175 = .ok (.invokevirtual 78, 3) := by decide +kernel
theorem dL_act_178 : decode cL_act 178 = .ok (.aload_n 0, 1) := by decide +kernel
theorem dL_act_179 : decode cL_act 179 = .ok (.iload 4, 2) := by decide +kernel
theorem dL_act_181 : decode cL_act 181 = .ok (.iload 5, 2) := by decide +kernel
theorem dL_act_183 : decode cL_act 183 = .ok (.invokevirtual 78, 3) := by decide +kernel
theorem dL_act_186 : decode cL_act 186 = .ok (.if_icmp .ne 7, 3) := by decide +kernel
theorem dL_act_189 : decode cL_act 189 = .ok (.iconst 1, 1) := by decide +kernel
theorem dL_act_190 : decode cL_act 190 = .ok (.goto 4, 3) := by decide +kernel
theorem dL_act_193 : decode cL_act 193 = .ok (.iconst 0, 1) := by decide +kernel
theorem dL_act_194 : decode cL_act 194 = .ok (.ireturn, 1) := by decide +kernel
theorem dL_act_195 : decode cL_act 195 = .ok (.iconst 1, 1) := by decide +kernel
theorem dL_act_196 : decode cL_act 196 = .ok (.iload_n 2, 1) := by decide +kernel
theorem dL_act_197 : decode cL_act 197 = .ok (.bipush 6, 2) := by decide +kernel
theorem dL_act_199 : decode cL_act 199 = .ok (.ishr, 1) := by decide +kernel
theorem dL_act_200 : decode cL_act 200 = .ok (.bipush 9, 2) := by decide +kernel
theorem dL_act_202 : decode cL_act 202 = .ok (.invokestatic 20, 3) := by decide +kernel
theorem dL_act_205 : decode cL_act 205 = .ok (.iadd, 1) := by decide +kernel
theorem dL_act_206 : decode cL_act 206 = .ok (.istore 7, 2) := by decide +kernel
theorem dL_act_208 : decode cL_act 208 = .ok (.aload_n 0, 1) := by decide +kernel
theorem dL_act_209 : decode cL_act 209 = .ok (.iload 4, 2) := by decide +kernel
theorem dL_act_211 : decode cL_act 211 = .ok (.invokevirtual 84, 3) := by decide +kernel
theorem dL_act_214 : decode cL_act 214 = .ok (.istore 8, 2) := by decide +kernel
theorem dL_act_216 : decode cL_act 216 = .ok (.aload_n 0, 1) := by decide +kernel
theorem dL_act_217 : decode cL_act 217 = .ok (.iload 4, 2) := by decide +kernel
theorem dL_act_219 : decode cL_act 219 = .ok (.iload 7, 2) := by decide +kernel
theorem dL_act_221 : decode cL_act 221 = .ok (.invokevirtual 87, 3) := by decide +kernel
theorem dL_act_224 : decode cL_act 224 = .ok (.iload 8, 2) := by decide +kernel
theorem dL_act_226 : decode cL_act 226 = .ok (.iload 7, 2) := by decide +kernel
theorem dL_act_228 : decode cL_act 228 = .ok (.if_icmp .ne 8, 3) := by decide +kernel
theorem dL_act_231 : decode cL_act 231 = .ok (.bipush (-5), 2) := by decide +kernel
theorem dL_act_233 : decode cL_act 233 = .ok (.goto 5, 3) := by decide +kernel
theorem dL_act_236 : decode cL_act 236 = .ok (.iload 8, 2) := by decide +kernel
theorem dL_act_238 : decode cL_act 238 = .ok (.if_icmp .ne 18, 3) := by decide +kernel
theorem dL_act_241 : decode cL_act 241 = .ok (.aload_n 0, 1) := by decide +kernel
theorem dL_act_242 : decode cL_act 242 = .ok (.iload 4, 2) := by decide +kernel
theorem dL_act_244 : decode cL_act 244 = .ok (.invokevirtual 84, 3) := by decide +kernel
theorem dL_act_247 : decode cL_act 247 = .ok (.iload 7, 2) := by decide +kernel
theorem dL_act_249 : decode cL_act 249 = .ok (.if_icmp .ne 7, 3) := by decide +kernel
theorem dL_act_252 : decode cL_act 252 = .ok (.iconst 1, 1) := by decide +kernel
theorem dL_act_253 : decode cL_act 253 = .ok (.goto 4, 3) := by decide +kernel
theorem dL_act_256 : decode cL_act 256 = .ok (.iconst 0, 1) := by decide +kernel
theorem dL_act_257 : decode cL_act 257 = .ok (.ireturn, 1) := by decide +kernel
theorem dL_act_258 : decode cL_act 258 = .ok (.iload_n 2, 1) := by decide +kernel
theorem dL_act_259 : decode cL_act 259 = .ok (.iconst 3, 1) := by decide +kernel
theorem dL_act_260 : decode cL_act 260 = .ok (.ishr, 1) := by decide +kernel
theorem dL_act_261 : decode cL_act 261 = .ok (.iconst 2, 1) := by decide +kernel
theorem dL_act_262 : decode cL_act 262 = .ok (.invokestatic 20, 3) := by decide +kernel
theorem dL_act_265 : decode cL_act 265 = .ok (.istore 7, 2) := by decide +kernel
theorem dL_act_267 : decode cL_act 267 = .ok (.iload 7, 2) := by decide +kernel
theorem dL_act_269 : decode cL_act 269 = .ok (.ifCond .ne 31, 3) := by decide +kernel
theorem dL_act_272 : decode cL_act 272 = .ok (.iconst 2, 1) := by decide +kernel
theorem dL_act_273 : decode cL_act 273 = .ok (.iload_n 2, 1) := by decide +kernel
theorem dL_act_274 : decode cL_act 274 = .ok (.iconst 4, 1) := by decide +kernel
theorem dL_act_275 : decode cL_act 275 = .ok (.ishr, 1) := by decide +kernel
theorem dL_act_276 : decode cL_act 276 = .ok (.iload_n 2, 1) := by decide +kernel
theorem dL_act_277 : decode cL_act 277 = .ok (.bipush 12, 2) := by decide +kernel
theorem dL_act_279 : decode cL_act 279 = .ok (.ishr, 1) := by decide +kernel
theorem dL_act_280 : decode cL_act 280 = .ok (.iconst 2, 1) := by decide +kernel
theorem dL_act_281 : decode cL_act 281 = .ok (.invokestatic 20, 3) := by decide +kernel
theorem dL_act_284 : decode cL_act 284 = .ok (.ifCond .ne 8, 3) := by decide +kernel
theorem dL_act_287 : decode cL_act 287 = .ok (.bipush 15, 2) := by decide +kernel
theorem dL_act_289 : decode cL_act 289 = .ok (.goto 4, 3) := by decide +kernel
theorem dL_act_292 : decode cL_act 292 = .ok (.iconst 3, 1) := by decide +kernel
theorem dL_act_293 : decode cL_act 293 = .ok (.invokestatic 20, 3) := by decide +kernel
theorem dL_act_296 : decode cL_act 296 = .ok (.iadd, 1) := by decide +kernel
theorem dL_act_297 : decode cL_act 297 = .ok (.goto 28, 3) := by decide +kernel
theorem dL_act_300 : decode cL_act 300 = .ok (.iconst 1, 1) := by decide +kernel
theorem dL_act_301 : decode cL_act 301 = .ok (.iload_n 2, 1) := by decide +kernel
theorem dL_act_302 : decode cL_act 302 = .ok (.iconst 4, 1) := by decide +kernel
theorem dL_act_303 : decode cL_act 303 = .ok (.ishr, 1) := by decide +kernel
theorem dL_act_304 : decode cL_act 304 = .ok (.iload_n 2, 1) := by decide +kernel
theorem dL_act_305 : decode cL_act 305 = .ok (.bipush 12, 2) := by decide +kernel
theorem dL_act_307 : decode cL_act 307 = .ok (.ishr, 1) := by decide +kernel
theorem dL_act_308 : decode cL_act 308 = .ok (.iconst 2, 1) := by decide +kernel
theorem dL_act_309 : decode cL_act 309 = .ok (.invokestatic 20, 3) := by decide +kernel
theorem dL_act_312 : decode cL_act 312 = .ok (.ifCond .ne 8, 3) := by decide +kernel
theorem dL_act_315 : decode cL_act 315 = .ok (.bipush 99, 2) := by decide +kernel
theorem dL_act_317 : decode cL_act 317 = .ok (.goto 4, 3) := by decide +kernel
theorem dL_act_320 : decode cL_act 320 = .ok (.iconst 4, 1) := by decide +kernel
theorem dL_act_321 : decode cL_act 321 = .ok (.invokestatic 20, 3) := by decide +kernel
theorem dL_act_324 : decode cL_act 324 = .ok (.iadd, 1) := by decide +kernel
theorem dL_act_325 : decode cL_act 325 = .ok (.istore 8, 2) := by decide +kernel
theorem dL_act_327 : decode cL_act 327 = .ok (.aload_n 0, 1) := by decide +kernel
theorem dL_act_328 : decode cL_act 328 = .ok (.bipush 13, 2) := by decide +kernel
theorem dL_act_330 : decode cL_act 330 = .ok (.iload 7, 2) := by decide +kernel
theorem dL_act_332 : decode cL_act 332 = .ok (.iadd, 1) := by decide +kernel
theorem dL_act_333 : decode cL_act 333 = .ok (.invokevirtual 30, 3) := by decide +kernel
theorem dL_act_336 : decode cL_act 336 = .ok (.istore 9, 2) := by decide +kernel
theorem dL_act_338 : decode cL_act 338 = .ok (.aload_n 0, 1) := by decide +kernel
theorem dL_act_339 : decode cL_act 339 = .ok (.iload 7, 2) := by decide +kernel
theorem dL_act_341 : decode cL_act 341 = .ok (.iload 8, 2) := by decide +kernel
theorem dL_act_343 : decode cL_act 343 = .ok (.invokevirtual 90, 3) := by decide +kernel
theorem dL_act_346 : decode cL_act 346 = .ok (.iload 9, 2) := by decide +kernel
theorem dL_act_348 : decode cL_act 348 = .ok (.iload 8, 2) := by decide +kernel
theorem dL_act_350 : decode cL_act 350 = .ok (.if_icmp .ne 8, 3) := by decide +kernel
theorem dL_act_353 : decode cL_act 353 = .ok (.bipush (-5), 2) := by decide +kernel
theorem dL_act_355 : decode cL_act 355 = .ok (.goto 5, 3) := by decide +kernel
theorem dL_act_358 : decode cL_act 358 = .ok (.iload 9, 2) := by decide +kernel
theorem dL_act_360 : decode cL_act 360 = .ok (.if_icmp .ne 21, 3) := by decide +kernel
theorem dL_act_363 : decode cL_act 363 = .ok (.aload_n 0, 1) := by decide +kernel
theorem dL_act_364 : decode cL_act 364 = .ok (.bipush 13, 2) := by decide +kernel
theorem dL_act_366 : decode cL_act 366 = .ok (.iload 7, 2) := by decide +kernel
theorem dL_act_368 : decode cL_act 368 = .ok (.iadd, 1) := by decide +kernel
theorem dL_act_369 : decode cL_act 369 = .ok (.invokevirtual 30, 3) := by decide +kernel
theorem dL_act_372 : decode cL_act 372 = .ok (.iload 8, 2) := by decide +kernel
theorem dL_act_374 : decode cL_act 374 = .ok (.if_icmp .ne 7, 3) := by decide +kernel
theorem dL_act_377 : decode cL_act 377 = .ok (.iconst 1, 1) := by decide +kernel
theorem dL_act_378 : decode cL_act 378 = .ok (.goto 4, 3) := by decide +kernel
theorem dL_act_381 : decode cL_act 381 = .ok (.iconst 0, 1) := by decide +kernel
theorem dL_act_382 : decode cL_act 382 = .ok (.ireturn, 1) := by decide +kernel
theorem dL_act_383 : decode cL_act 383 = .ok (.aload_n 0, 1) := by decide +kernel
theorem dL_act_384 : decode cL_act 384 = .ok (.iload_n 1, 1) := by decide +kernel
theorem dL_act_385 : decode cL_act 385 = .ok (.iconst 4, 1) := by decide +kernel
theorem dL_act_386 : decode cL_act 386 = .ok (.ishr, 1) := by decide +kernel
theorem dL_act_387 : decode cL_act 387 = .ok (.iload_n 2, 1) := by decide +kernel
theorem dL_act_388 : decode cL_act 388 = .ok (.invokestatic 93, 3) := by decide +kernel
theorem dL_act_391 : decode cL_act 391 = .ok (.istore 7, 2) := by decide +kernel
theorem dL_act_393 : decode cL_act 393 = .ok (.aload_n 0, 1) := by decide +kernel
theorem dL_act_394 : decode cL_act 394 = .ok (.iconst 0, 1) := by decide +kernel
theorem dL_act_395 : decode cL_act 395 = .ok (.invokevirtual 97, 3) := by decide +kernel
theorem dL_act_398 : decode cL_act 398 = .ok (.istore 8, 2) := by decide +kernel
theorem dL_act_400 : decode cL_act 400 = .ok (.aload_n 0, 1) := by decide +kernel
theorem dL_act_401 : decode cL_act 401 = .ok (.iconst 1, 1) := by decide +kernel
theorem dL_act_402 : decode cL_act 402 = .ok (.invokevirtual 30, 3) := by decide +kernel
theorem dL_act_405 : decode cL_act 405 = .ok (.istore 9, 2) := by decide +kernel
theorem dL_act_407 : decode cL_act 407 = .ok (.aload_n 0, 1) := by decide +kernel
theorem dL_act_408 : decode cL_act 408 = .ok (.bipush 9, 2) := by decide +kernel
theorem dL_act_410 : decode cL_act 410 = .ok (.invokevirtual 30, 3) := by decide +kernel
theorem dL_act_413 : decode cL_act 413 = .ok (.istore 10, 2) := by decide +kernel
theorem dL_act_415 : decode cL_act 415 = .ok (.aload_n 0, 1) := by decide +kernel
theorem dL_act_416 : decode cL_act 416 = .ok (.invokevirtual 100, 3) := by decide +kernel
theorem dL_act_419 : decode cL_act 419 = .ok (.istore 11, 2) := by decide +kernel
theorem dL_act_421 : decode cL_act 421 = .ok (.iload 8, 2) := by decide +kernel
theorem dL_act_423 : decode cL_act 423 = .ok (.iload 7, 2) := by decide +kernel
theorem dL_act_425 : decode cL_act 425 = .ok (.if_icmp .ne 27, 3) := by decide +kernel
theorem dL_act_428 : decode cL_act 428 = .ok (.iload 11, 2) := by decide +kernel
theorem dL_act_430 : decode cL_act 430 = .ok (.bipush (-3), 2) := by decide +kernel
theorem dL_act_432 : decode cL_act 432 = .ok (.if_icmp .eq 16, 3) := by decide +kernel
theorem dL_act_435 : decode cL_act 435 = .ok (.iload 11, 2) := by decide +kernel
theorem dL_act_437 : decode cL_act 437 = .ok (.iconst 1, 1) := by decide +kernel
theorem dL_act_438 : decode cL_act 438 = .ok (.if_icmp .lt 14, 3) := by decide +kernel
theorem dL_act_441 : decode cL_act 441 = .ok (.iload 11, 2) := by decide +kernel
theorem dL_act_443 : decode cL_act 443 = .ok (.iload 7, 2) := by decide +kernel
theorem dL_act_445 : decode cL_act 445 = .ok (.if_icmp .gt 7, 3) := by decide +kernel
theorem dL_act_448 : decode cL_act 448 = .ok (.iconst 1, 1) := by decide +kernel
theorem dL_act_449 : decode cL_act 449 = .ok (.goto 4, 3) := by decide +kernel
theorem dL_act_452 : decode cL_act 452 = .ok (.iconst 0, 1) := by decide +kernel
theorem dL_act_453 : decode cL_act 453 = .ok (.istore 12, 2) := by decide +kernel
theorem dL_act_455 : decode cL_act 455 = .ok (.iload 11, 2) := by decide +kernel
theorem dL_act_457 : decode cL_act 457 = .ok (.ifCond .ge 7, 3) := by decide +kernel
theorem dL_act_460 : decode cL_act 460 = .ok (.iconst 0, 1) := by decide +kernel
theorem dL_act_461 : decode cL_act 461 = .ok (.goto 14, 3) := by decide +kernel
theorem dL_act_464 : decode cL_act 464 = .ok (.iload 11, 2) := by decide +kernel
theorem dL_act_466 : decode cL_act 466 = .ok (.iconst 1, 1) := by decide +kernel
theorem dL_act_467 : decode cL_act 467 = .ok (.aload_n 0, 1) := by decide +kernel
theorem dL_act_468 : decode cL_act 468 = .ok (.bipush 13, 2) := by decide +kernel
theorem dL_act_470 : decode cL_act 470 = .ok (.invokevirtual 30, 3) := by decide +kernel
theorem dL_act_473 : decode cL_act 473 = .ok (.ishl, 1) := by decide +kernel
theorem dL_act_474 : decode cL_act 474 = .ok (.imul, 1) := by decide +kernel
theorem dL_act_475 : decode cL_act 475 = .ok (.istore 13, 2) := by decide +kernel
theorem dL_act_477 : decode cL_act 477 = .ok (.iload 12, 2) := by decide +kernel
theorem dL_act_479 : decode cL_act 479 = .ok (.ifCond .eq 66, 3) := by decide +kernel
theorem dL_act_482 : decode cL_act 482 = .ok (.aload_n 0, 1) := by decide +kernel
theorem dL_act_483 : decode cL_act 483 = .ok (.bipush 8, 2) := by decide +kernel
theorem dL_act_485 : decode cL_act 485 = .ok (.invokevirtual 30, 3) := by decide +kernel
theorem dL_act_488 : decode cL_act 488 = .ok (.iload 6, 2) := by decide +kernel
theorem dL_act_490 : decode cL_act 490 = .ok (.iload 11, 2) := by decide +kernel
theorem dL_act_492 : decode cL_act 492 = .ok (.ifCond .ge 7, 3) := by decide +kernel
theorem dL_act_495 : decode cL_act 495 = .ok (.iconst 0, 1) := by decide +kernel
theorem dL_act_496 : decode cL_act 496 = .ok (.goto 5, 3) := by decide +kernel
theorem dL_act_499 : decode cL_act 499 = .ok (.iload 11, 2) := by decide +kernel
theorem dL_act_501 : decode cL_act 501 = .ok (.iadd, 1) := by decide +kernel
theorem dL_act_502 : decode cL_act 502 = .ok (.if_icmp .ne 43, 3) := by decide +kernel
theorem dL_act_505 : decode cL_act 505 = .ok (.aload_n 0, 1) := by decide +kernel
theorem dL_act_506 : decode cL_act 506 = .ok (.bipush 9, 2) := by decide +kernel
theorem dL_act_508 : decode cL_act 508 = .ok (.invokevirtual 30, 3) := by decide +kernel
theorem dL_act_511 : decode cL_act 511 = .ok (.iload 10, 2) := by decide +kernel
theorem dL_act_513 : decode cL_act 513 = .ok (.iload 11, 2) := by decide +kernel
theorem dL_act_515 : decode cL_act 515 = .ok (.ifCond .ge 7, 3) := by decide +kernel
theorem dL_act_518 : decode cL_act 518 = .ok (.iconst 0, 1) := by decide +kernel
theorem dL_act_519 : decode cL_act 519 = .ok (.goto 5, 3) := by decide +kernel
theorem dL_act_522 : decode cL_act 522 = .ok (.iload 11, 2) := by decide +kernel
theorem dL_act_524 : decode cL_act 524 = .ok (.iadd, 1) := by decide +kernel
theorem dL_act_525 : decode cL_act 525 = .ok (.if_icmp .ne 20, 3) := by decide +kernel
theorem dL_act_528 : decode cL_act 528 = .ok (.aload_n 0, 1) := by decide +kernel
theorem dL_act_529 : decode cL_act 529 = .ok (.iconst 1, 1) := by decide +kernel
theorem dL_act_530 : decode cL_act 530 = .ok (.invokevirtual 30, 3) := by decide +kernel
theorem dL_act_533 : decode cL_act 533 = .ok (.iload 9, 2) := by decide +kernel
theorem dL_act_535 : decode cL_act 535 = .ok (.iload 13, 2) := by decide +kernel
theorem dL_act_537 : decode cL_act 537 = .ok (.iadd, 1) := by decide +kernel
theorem dL_act_538 : decode cL_act 538 = .ok (.if_icmp .ne 7, 3) := by decide +kernel
theorem dL_act_541 : decode cL_act 541 = .ok (.iconst 1, 1) := by decide +kernel
theorem dL_act_542 : decode cL_act 542 = .ok (.goto 4, 3) := by decide +kernel
theorem dL_act_545 : decode cL_act 545 = .ok (.iconst 0, 1) := by decide +kernel
theorem dL_act_546 : decode cL_act 546 = .ok (.ireturn, 1) := by decide +kernel
theorem dL_act_547 : decode cL_act 547 = .ok (.iload_n 2, 1) := by decide +kernel
theorem dL_act_548 : decode cL_act 548 = .ok (.aload_n 0, 1) := by decide +kernel
theorem dL_act_549 : decode cL_act 549 = .ok (.bipush 6, 2) := by decide +kernel
theorem dL_act_551 : decode cL_act 551 = .ok (.invokevirtual 30, 3) := by decide +kernel
theorem dL_act_554 : decode cL_act 554 = .ok (.iconst 1, 1) := by decide +kernel
theorem dL_act_555 : decode cL_act 555 = .ok (.iadd, 1) := by decide +kernel
theorem dL_act_556 : decode cL_act 556 = .ok (.invokestatic 20, 3) := by decide +kernel
theorem dL_act_559 : decode cL_act 559 = .ok (.istore 7, 2) := by decide +kernel
theorem dL_act_561 : decode cL_act 561 = .ok (.aload_n 0, 1) := by decide +kernel
theorem dL_act_562 : decode cL_act 562 = .ok (.iload 7, 2) := by decide +kernel
theorem dL_act_564 : decode cL_act 564 = .ok (.iconst 0, 1) := by decide +kernel
theorem dL_act_565 : decode cL_act 565 = .ok (.invokevirtual 34, 3) := by decide +kernel
theorem dL_act_568 : decode cL_act 568 = .ok (.istore 8, 2) := by decide +kernel
theorem dL_act_570 : decode cL_act 570 = .ok (.aload_n 0, 1) := by decide +kernel
theorem dL_act_571 : decode cL_act 571 = .ok (.iload 7, 2) := by decide +kernel
theorem dL_act_573 : decode cL_act 573 = .ok (.iconst 3, 1) := by decide +kernel
theorem dL_act_574 : decode cL_act 574 = .ok (.invokevirtual 34, 3) := by decide +kernel
theorem dL_act_577 : decode cL_act 577 = .ok (.istore 9, 2) := by decide +kernel
theorem dL_act_579 : decode cL_act 579 = .ok (.aload_n 0, 1) := by decide +kernel
theorem dL_act_580 : decode cL_act 580 = .ok (.iconst 5, 1) := by decide +kernel
theorem dL_act_581 : decode cL_act 581 = .ok (.invokevirtual 30, 3) := by decide +kernel
theorem dL_act_584 : decode cL_act 584 = .ok (.istore 10, 2) := by decide +kernel
theorem dL_act_586 : decode cL_act 586 = .ok (.aload_n 0, 1) := by decide +kernel
theorem dL_act_587 : decode cL_act 587 = .ok (.iload 7, 2) := by decide +kernel
theorem dL_act_589 : decode cL_act 589 = .ok (.invokevirtual 103, 3) := by decide +kernel
theorem dL_act_592 : decode cL_act 592 = .ok (.istore 11, 2) := by decide +kernel
theorem dL_act_594 : decode cL_act 594 = .ok (.iload 8, 2) := by decide +kernel
theorem dL_act_596 : decode cL_act 596 = .ok (.bipush (-5), 2) := by decide +kernel
theorem dL_act_598 : decode cL_act 598 = .ok (.if_icmp .ne 15, 3) := by decide +kernel
theorem dL_act_601 : decode cL_act 601 = .ok (.iload 11, 2) := by decide +kernel
theorem dL_act_603 : decode cL_act 603 = .ok (.iconst (-1), 1) := by decide +kernel
theorem dL_act_604 : decode cL_act 604 = .ok (.if_icmp .ne 7, 3) := by decide +kernel
theorem dL_act_607 : decode cL_act 607 = .ok (.iconst 1, 1) := by decide +kernel
theorem dL_act_608 : decode cL_act 608 = .ok (.goto 4, 3) := by decide +kernel
theorem dL_act_611 : decode cL_act 611 = .ok (.iconst 0, 1) := by decide +kernel
theorem dL_act_612 : decode cL_act 612 = .ok (.ireturn, 1) := by decide +kernel
theorem dL_act_613 : decode cL_act 613 = .ok (.aload_n 3, 1) := by decide +kernel
theorem dL_act_614 : decode cL_act 614 = .ok (.iconst 0, 1) := by decide +kernel
theorem dL_act_615 : decode cL_act 615 = .ok (.dup2, 1) := by decide +kernel
theorem dL_act_616 : decode cL_act 616 = .ok (.iaload, 1) := by decide +kernel
theorem dL_act_617 : decode cL_act 617 = .ok (.iload 8, 2) := by decide +kernel
theorem dL_act_619 : decode cL_act 619 = .ok (.ifCond .ne 7, 3) := by decide +kernel
theorem dL_act_622 : decode cL_act 622 = .ok (.iconst 1, 1) := by decide +kernel
theorem dL_act_623 : decode cL_act 623 = .ok (.goto 4, 3) := by decide +kernel
theorem dL_act_626 : decode cL_act 626 = .ok (.iconst 0, 1) := by decide +kernel
theorem dL_act_627 : decode cL_act 627 = .ok (.iadd, 1) := by decide +kernel
theorem dL_act_628 : decode cL_act 628 = .ok (.iastore, 1) := by decide +kernel
theorem dL_act_629 : decode cL_act 629 = .ok (.aload_n 3, 1) := by decide +kernel
theorem dL_act_630 : decode cL_act 630 = .ok (.iconst 1, 1) := by decide +kernel
theorem dL_act_631 : decode cL_act 631 = .ok (.dup2, 1) := by decide +kernel
theorem dL_act_632 : decode cL_act 632 = .ok (.iaload, 1) := by decide +kernel
theorem dL_act_633 : decode cL_act 633 = .ok (.iload 8, 2) := by decide +kernel
theorem dL_act_635 : decode cL_act 635 = .ok (.iconst 1, 1) := by decide +kernel
theorem dL_act_636 : decode cL_act 636 = .ok (.if_icmp .ne 7, 3) := by decide +kernel
theorem dL_act_639 : decode cL_act 639 = .ok (.iconst 1, 1) := by decide +kernel
theorem dL_act_640 : decode cL_act 640 = .ok (.goto 4, 3) := by decide +kernel
theorem dL_act_643 : decode cL_act 643 = .ok (.iconst 0, 1) := by decide +kernel
theorem dL_act_644 : decode cL_act 644 = .ok (.iadd, 1) := by decide +kernel
theorem dL_act_645 : decode cL_act 645 = .ok (.iastore, 1) := by decide +kernel
theorem dL_act_646 : decode cL_act 646 = .ok (.aload_n 3, 1) := by decide +kernel
theorem dL_act_647 : decode cL_act 647 = .ok (.iconst 3, 1) := by decide +kernel
theorem dL_act_648 : decode cL_act 648 = .ok (.iconst 1, 1) := by decide +kernel
theorem dL_act_649 : decode cL_act 649 = .ok (.iastore, 1) := by decide +kernel
theorem dL_act_650 : decode cL_act 650 = .ok (.iload 11, 2) := by decide +kernel
theorem dL_act_652 : decode cL_act 652 = .ok (.iload 9, 2) := by decide +kernel
theorem dL_act_654 : decode cL_act 654 = .ok (.if_icmp .ne 20, 3) := by decide +kernel
theorem dL_act_657 : decode cL_act 657 = .ok (.aload_n 0, 1) := by decide +kernel
theorem dL_act_658 : decode cL_act 658 = .ok (.iconst 5, 1) := by decide +kernel
theorem dL_act_659 : decode cL_act 659 = .ok (.invokevirtual 30, 3) := by decide +kernel
theorem dL_act_662 : decode cL_act 662 = .ok (.iload 10, 2) := by decide +kernel
theorem dL_act_664 : decode cL_act 664 = .ok (.iload 9, 2) := by decide +kernel
theorem dL_act_666 : decode cL_act 666 = .ok (.iadd, 1) := by decide +kernel
theorem dL_act_667 : decode cL_act 667 = .ok (.if_icmp .ne 7, 3) := by decide +kernel
theorem dL_act_670 : decode cL_act 670 = .ok (.iconst 1, 1) := by decide +kernel
theorem dL_act_671 : decode cL_act 671 = .ok (.goto 4, 3) := by decide +kernel
theorem dL_act_674 : decode cL_act 674 = .ok (.iconst 0, 1) := by decide +kernel
theorem dL_act_675 : decode cL_act 675 = .ok (.ireturn, 1) := by decide +kernel
theorem dL_act_676 : decode cL_act 676 = .ok (.aload_n 0, 1) := by decide +kernel
theorem dL_act_677 : decode cL_act 677 = .ok (.iconst 5, 1) := by decide +kernel
theorem dL_act_678 : decode cL_act 678 = .ok (.invokevirtual 30, 3) := by decide +kernel
theorem dL_act_681 : decode cL_act 681 = .ok (.istore 7, 2) := by decide +kernel
theorem dL_act_683 : decode cL_act 683 = .ok (.aload_n 0, 1) := by decide +kernel
theorem dL_act_684 : decode cL_act 684 = .ok (.iconst 2, 1) := by decide +kernel
theorem dL_act_685 : decode cL_act 685 = .ok (.invokevirtual 30, 3) := by decide +kernel
theorem dL_act_688 : decode cL_act 688 = .ok (.istore 8, 2) := by decide +kernel
theorem dL_act_690 : decode cL_act 690 = .ok (.aload_n 0, 1) := by decide +kernel
theorem dL_act_691 : decode cL_act 691 = .ok (.invokevirtual 106, 3) := by decide +kernel
theorem dL_act_694 : decode cL_act 694 = .ok (.istore 9, 2) := by decide +kernel
theorem dL_act_696 : decode cL_act 696 = .ok (.aload_n 3, 1) := by decide +kernel
theorem dL_act_697 : decode cL_act 697 = .ok (.iconst 3, 1) := by decide +kernel
theorem dL_act_698 : decode cL_act 698 = .ok (.iaload, 1) := by decide +kernel
theorem dL_act_699 : decode cL_act 699 = .ok (.ifCond .ne 16, 3) := by decide +kernel
theorem dL_act_702 : decode cL_act 702 = .ok (.iload 9, 2) := by decide +kernel
theorem dL_act_704 : decode cL_act 704 = .ok (.bipush (-5), 2) := by decide +kernel
theorem dL_act_706 : decode cL_act 706 = .ok (.if_icmp .ne 7, 3) := by decide +kernel
theorem dL_act_709 : decode cL_act 709 = .ok (.iconst 1, 1) := by decide +kernel
theorem dL_act_710 : decode cL_act 710 = .ok (.goto 4, 3) := by decide +kernel
theorem dL_act_713 : decode cL_act 713 = .ok (.iconst 0, 1) := by decide +kernel
theorem dL_act_714 : decode cL_act 714 = .ok (.ireturn, 1) := by decide +kernel
theorem dL_act_715 : decode cL_act 715 = .ok (.aload_n 3, 1) := by decide +kernel
theorem dL_act_716 : decode cL_act 716 = .ok (.iconst 2, 1) := by decide +kernel
theorem dL_act_717 : decode cL_act 717 = .ok (.iconst 1, 1) := by decide +kernel
theorem dL_act_718 : decode cL_act 718 = .ok (.iastore, 1) := by decide +kernel
theorem dL_act_719 : decode cL_act 719 = .ok (.aload_n 3, 1) := by decide +kernel
theorem dL_act_720 : decode cL_act 720 = .ok (.iconst 3, 1) := by decide +kernel
theorem dL_act_721 : decode cL_act 721 = .ok (.iconst 0, 1) := by decide +kernel
theorem dL_act_722 : decode cL_act 722 = .ok (.iastore, 1) := by decide +kernel
theorem dL_act_723 : decode cL_act 723 = .ok (.iload 9, 2) := by decide +kernel
theorem dL_act_725 : decode cL_act 725 = .ok (.iload 7, 2) := by decide +kernel
theorem dL_act_727 : decode cL_act 727 = .ok (.if_icmp .ne 28, 3) := by decide +kernel
theorem dL_act_730 : decode cL_act 730 = .ok (.aload_n 0, 1) := by decide +kernel
theorem dL_act_731 : decode cL_act 731 = .ok (.iconst 5, 1) := by decide +kernel
theorem dL_act_732 : decode cL_act 732 = .ok (.invokevirtual 30, 3) := by decide +kernel
theorem dL_act_735 : decode cL_act 735 = .ok (.ifCond .ne 20, 3) := by decide +kernel
theorem dL_act_738 : decode cL_act 738 = .ok (.aload_n 0, 1) := by decide +kernel
theorem dL_act_739 : decode cL_act 739 = .ok (.iconst 2, 1) := by decide +kernel
theorem dL_act_740 : decode cL_act 740 = .ok (.invokevirtual 30, 3) := by decide +kernel
theorem dL_act_743 : decode cL_act 743 = .ok (.iload 8, 2) := by decide +kernel
theorem dL_act_745 : decode cL_act 745 = .ok (.iload 7, 2) := by decide +kernel
theorem dL_act_747 : decode cL_act 747 = .ok (.iadd, 1) := by decide +kernel
theorem dL_act_748 : decode cL_act 748 = .ok (.if_icmp .ne 7, 3) := by decide +kernel
theorem dL_act_751 : decode cL_act 751 = .ok (.iconst 1, 1) := by decide +kernel
theorem dL_act_752 : decode cL_act 752 = .ok (.goto 4, 3) := by decide +kernel
theorem dL_act_755 : decode cL_act 755 = .ok (.iconst 0, 1) := by decide +kernel
theorem dL_act_756 : decode cL_act 756 = .ok (.ireturn, 1) := by decide +kernel
theorem dL_act_757 : decode cL_act 757 = .ok (.iconst 1, 1) := by decide +kernel
theorem dL_act_758 : decode cL_act 758 = .ok (.iload_n 2, 1) := by decide +kernel
theorem dL_act_759 : decode cL_act 759 = .ok (.iload_n 2, 1) := by decide +kernel
theorem dL_act_760 : decode cL_act 760 = .ok (.bipush 7, 2) := by decide +kernel
theorem dL_act_762 : decode cL_act 762 = .ok (.ishr, 1) := by decide +kernel
theorem dL_act_763 : decode cL_act 763 = .ok (.iconst 4, 1) := by decide +kernel
theorem dL_act_764 : decode cL_act 764 = .ok (.invokestatic 20, 3) := by decide +kernel
theorem dL_act_767 : decode cL_act 767 = .ok (.ifCond .ne 8, 3) := by decide +kernel
theorem dL_act_770 : decode cL_act 770 = .ok (.bipush 100, 2) := by decide +kernel
theorem dL_act_772 : decode cL_act 772 = .ok (.goto 4, 3) := by decide +kernel
theorem dL_act_775 : decode cL_act 775 = .ok (.iconst 5, 1) := by decide +kernel
theorem dL_act_776 : decode cL_act 776 = .ok (.invokestatic 20, 3) := by decide +kernel
theorem dL_act_779 : decode cL_act 779 = .ok (.iadd, 1) := by decide +kernel
theorem dL_act_780 : decode cL_act 780 = .ok (.istore 7, 2) := by decide +kernel
theorem dL_act_782 : decode cL_act 782 = .ok (.aload_n 0, 1) := by decide +kernel
theorem dL_act_783 : decode cL_act 783 = .ok (.iconst 0, 1) := by decide +kernel
theorem dL_act_784 : decode cL_act 784 = .ok (.invokevirtual 30, 3) := by decide +kernel
theorem dL_act_787 : decode cL_act 787 = .ok (.istore 8, 2) := by decide +kernel
theorem dL_act_789 : decode cL_act 789 = .ok (.aload_n 0, 1) := by decide +kernel
theorem dL_act_790 : decode cL_act 790 = .ok (.iload 7, 2) := by decide +kernel
theorem dL_act_792 : decode cL_act 792 = .ok (.invokevirtual 59, 3) := by decide +kernel
theorem dL_act_795 : decode cL_act 795 = .ok (.iload 8, 2) := by decide +kernel
theorem dL_act_797 : decode cL_act 797 = .ok (.iload 7, 2) := by decide +kernel
theorem dL_act_799 : decode cL_act 799 = .ok (.iadd, 1) := by decide +kernel
theorem dL_act_800 : decode cL_act 800 = .ok (.if_icmp .ne 20, 3) := by decide +kernel
theorem dL_act_803 : decode cL_act 803 = .ok (.aload_n 0, 1) := by decide +kernel
theorem dL_act_804 : decode cL_act 804 = .ok (.iconst 0, 1) := by decide +kernel
theorem dL_act_805 : decode cL_act 805 = .ok (.invokevirtual 30, 3) := by decide +kernel
theorem dL_act_808 : decode cL_act 808 = .ok (.iload 8, 2) := by decide +kernel
theorem dL_act_810 : decode cL_act 810 = .ok (.iload 7, 2) := by decide +kernel
theorem dL_act_812 : decode cL_act 812 = .ok (.iadd, 1) := by decide +kernel
theorem dL_act_813 : decode cL_act 813 = .ok (.if_icmp .ne 7, 3) := by decide +kernel
theorem dL_act_816 : decode cL_act 816 = .ok (.iconst 1, 1) := by decide +kernel
theorem dL_act_817 : decode cL_act 817 = .ok (.goto 4, 3) := by decide +kernel
theorem dL_act_820 : decode cL_act 820 = .ok (.iconst 0, 1) := by decide +kernel
theorem dL_act_821 : decode cL_act 821 = .ok (.ireturn, 1) := by decide +kernel
theorem dL_law_0 : decode cL_law 0 = .ok (.new 11, 3) := by decide +kernel
theorem dL_law_3 : decode cL_law 3 = .ok (.dup, 1) := by decide +kernel
theorem dL_law_4 : decode cL_law 4 = .ok (.invokespecial 109, 3) := by decide +kernel
theorem dL_law_7 : decode cL_law 7 = .ok (.astore_n 1, 1) := by decide +kernel
theorem dL_law_8 : decode cL_law 8 = .ok (.iconst 4, 1) := by decide +kernel
theorem dL_law_9 : decode cL_law 9 = .ok (.newarray .int, 2) := by decide +kernel
theorem dL_law_11 : decode cL_law 11 = .ok (.astore_n 2, 1) := by decide +kernel
theorem dL_law_12 : decode cL_law 12 = .ok (.aload_n 1, 1) := by decide +kernel
theorem dL_law_13 : decode cL_law 13 = .ok (.aload_n 2, 1) := by decide +kernel
theorem dL_law_14 : decode cL_law 14 = .ok (.invokestatic 75, 3) := by decide +kernel
theorem dL_law_17 : decode cL_law 17 = .ok (.ifCond .eq 26, 3) := by decide +kernel
theorem dL_law_20 : decode cL_law 20 = .ok (.aload_n 1, 1) := by decide +kernel
theorem dL_law_21 : decode cL_law 21 = .ok (.invokevirtual 65, 3) := by decide +kernel
theorem dL_law_24 : decode cL_law 24 = .ok (.ifCond .ne 19, 3) := by decide +kernel
theorem dL_law_27 : decode cL_law 27 = .ok (.aload_n 1, 1) := by decide +kernel
theorem dL_law_28 : decode cL_law 28 = .ok (.invokevirtual 68, 3) := by decide +kernel
theorem dL_law_31 : decode cL_law 31 = .ok (.ifCond .ne 12, 3) := by decide +kernel
theorem dL_law_34 : decode cL_law 34 = .ok (.aload_n 1, 1) := by decide +kernel
theorem dL_law_35 : decode cL_law 35 = .ok (.invokevirtual 106, 3) := by decide +kernel
theorem dL_law_38 : decode cL_law 38 = .ok (.bipush (-5), 2) := by decide +kernel
theorem dL_law_40 : decode cL_law 40 = .ok (.if_icmp .eq 5, 3) := by decide +kernel
theorem dL_law_43 : decode cL_law 43 = .ok (.iconst 0, 1) := by decide +kernel
theorem dL_law_44 : decode cL_law 44 = .ok (.ireturn, 1) := by decide +kernel
theorem dL_law_45 : decode cL_law 45 = .ok (.iconst 0, 1) := by decide +kernel
theorem dL_law_46 : decode cL_law 46 = .ok (.istore_n 3, 1) := by decide +kernel
theorem dL_law_47 : decode cL_law 47 = .ok (.iload_n 3, 1) := by decide +kernel
theorem dL_law_48 : decode cL_law 48 = .ok (.bipush 20, 2) := by decide +kernel
theorem dL_law_50 : decode cL_law 50 = .ok (.if_icmp .ge 66, 3) := by decide +kernel
theorem dL_law_53 : decode cL_law 53 = .ok (.aload_n 1, 1) := by decide +kernel
theorem dL_law_54 : decode cL_law 54 = .ok (.iload_n 3, 1) := by decide +kernel
theorem dL_law_55 : decode cL_law 55 = .ok (.ifCond .ne 7, 3) := by decide +kernel
