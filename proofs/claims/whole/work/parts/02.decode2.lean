theorem dX6_setTime_8 : decode cX6_setTime 8 = .ok (.invokestatic 103, 3) := by decide +kernel
theorem dX6_setTime_11 : decode cX6_setTime 11 = .ok (.ifCond .ne 5, 3) := by decide +kernel
theorem dX6_setTime_14 : decode cX6_setTime 14 = .ok (.iconst (-1), 1) := by decide +kernel
theorem dX6_setTime_15 : decode cX6_setTime 15 = .ok (.ireturn, 1) := by decide +kernel
theorem dX6_setTime_16 : decode cX6_setTime 16 = .ok (.iload_n 3, 1) := by decide +kernel
theorem dX6_setTime_17 : decode cX6_setTime 17 = .ok (.iconst 1, 1) := by decide +kernel
theorem dX6_setTime_18 : decode cX6_setTime 18 = .ok (.bipush 9, 2) := by decide +kernel
theorem dX6_setTime_20 : decode cX6_setTime 20 = .ok (.invokestatic 31, 3) := by decide +kernel
theorem dX6_setTime_23 : decode cX6_setTime 23 = .ok (.ifCond .eq 8, 3) := by decide +kernel
theorem dX6_setTime_26 : decode cX6_setTime 26 = .ok (.iload_n 1, 1) := by decide +kernel
theorem dX6_setTime_27 : decode cX6_setTime 27 = .ok (.iload_n 2, 1) := by decide +kernel
theorem dX6_setTime_28 : decode cX6_setTime 28 = .ok (.if_icmp .ne 6, 3) := by decide +kernel
theorem dX6_setTime_31 : decode cX6_setTime 31 = .ok (.bipush (-2), 2) := by decide +kernel
theorem dX6_setTime_33 : decode cX6_setTime 33 = .ok (.ireturn, 1) := by decide +kernel
theorem dX6_setTime_34 : decode cX6_setTime 34 = .ok (.aload_n 0, 1) := by decide +kernel
theorem dX6_setTime_35 : decode cX6_setTime 35 = .ok (.getfield 7, 3) := by decide +kernel
theorem dX6_setTime_38 : decode cX6_setTime 38 = .ok (.bipush 12, 2) := by decide +kernel
theorem dX6_setTime_40 : decode cX6_setTime 40 = .ok (.bipush 6, 2) := by decide +kernel
theorem dX6_setTime_42 : decode cX6_setTime 42 = .ok (.iload_n 1, 1) := by decide +kernel
theorem dX6_setTime_43 : decode cX6_setTime 43 = .ok (.imul, 1) := by decide +kernel
theorem dX6_setTime_44 : decode cX6_setTime 44 = .ok (.iadd, 1) := by decide +kernel
theorem dX6_setTime_45 : decode cX6_setTime 45 = .ok (.iload_n 2, 1) := by decide +kernel
theorem dX6_setTime_46 : decode cX6_setTime 46 = .ok (.iadd, 1) := by decide +kernel
theorem dX6_setTime_47 : decode cX6_setTime 47 = .ok (.iaload, 1) := by decide +kernel
theorem dX6_setTime_48 : decode cX6_setTime 48 = .ok (.istore 4, 2) := by decide +kernel
theorem dX6_setTime_50 : decode cX6_setTime 50 = .ok (.iload 4, 2) := by decide +kernel
theorem dX6_setTime_52 : decode cX6_setTime 52 = .ok (.iload_n 3, 1) := by decide +kernel
theorem dX6_setTime_53 : decode cX6_setTime 53 = .ok (.if_icmp .ne 6, 3) := by decide +kernel
theorem dX6_setTime_56 : decode cX6_setTime 56 = .ok (.bipush (-5), 2) := by decide +kernel
theorem dX6_setTime_58 : decode cX6_setTime 58 = .ok (.ireturn, 1) := by decide +kernel
theorem dX6_setTime_59 : decode cX6_setTime 59 = .ok (.aload_n 0, 1) := by decide +kernel
theorem dX6_setTime_60 : decode cX6_setTime 60 = .ok (.invokevirtual 107, 3) := by decide +kernel
theorem dX6_setTime_63 : decode cX6_setTime 63 = .ok (.aload_n 0, 1) := by decide +kernel
theorem dX6_setTime_64 : decode cX6_setTime 64 = .ok (.getfield 7, 3) := by decide +kernel
theorem dX6_setTime_67 : decode cX6_setTime 67 = .ok (.bipush 12, 2) := by decide +kernel
theorem dX6_setTime_69 : decode cX6_setTime 69 = .ok (.bipush 6, 2) := by decide +kernel
theorem dX6_setTime_71 : decode cX6_setTime 71 = .ok (.iload_n 1, 1) := by decide +kernel
theorem dX6_setTime_72 : decode cX6_setTime 72 = .ok (.imul, 1) := by decide +kernel
theorem dX6_setTime_73 : decode cX6_setTime 73 = .ok (.iadd, 1) := by decide +kernel
theorem dX6_setTime_74 : decode cX6_setTime 74 = .ok (.iload_n 2, 1) := by decide +kernel
theorem dX6_setTime_75 : decode cX6_setTime 75 = .ok (.iadd, 1) := by decide +kernel
theorem dX6_setTime_76 : decode cX6_setTime 76 = .ok (.iload_n 3, 1) := by decide +kernel
theorem dX6_setTime_77 : decode cX6_setTime 77 = .ok (.iastore, 1) := by decide +kernel
theorem dX6_setTime_78 : decode cX6_setTime 78 = .ok (.aload_n 0, 1) := by decide +kernel
theorem dX6_setTime_79 : decode cX6_setTime 79 = .ok (.getfield 7, 3) := by decide +kernel
theorem dX6_setTime_82 : decode cX6_setTime 82 = .ok (.bipush 12, 2) := by decide +kernel
theorem dX6_setTime_84 : decode cX6_setTime 84 = .ok (.bipush 6, 2) := by decide +kernel
theorem dX6_setTime_86 : decode cX6_setTime 86 = .ok (.iload_n 2, 1) := by decide +kernel
theorem dX6_setTime_87 : decode cX6_setTime 87 = .ok (.imul, 1) := by decide +kernel
theorem dX6_setTime_88 : decode cX6_setTime 88 = .ok (.iadd, 1) := by decide +kernel
theorem dX6_setTime_89 : decode cX6_setTime 89 = .ok (.iload_n 1, 1) := by decide +kernel
theorem dX6_setTime_90 : decode cX6_setTime 90 = .ok (.iadd, 1) := by decide +kernel
theorem dX6_setTime_91 : decode cX6_setTime 91 = .ok (.iload_n 3, 1) := by decide +kernel
theorem dX6_setTime_92 : decode cX6_setTime 92 = .ok (.iastore, 1) := by decide +kernel
theorem dX6_setTime_93 : decode cX6_setTime 93 = .ok (.iload 4, 2) := by decide +kernel
theorem dX6_setTime_95 : decode cX6_setTime 95 = .ok (.ireturn, 1) := by decide +kernel
theorem dX6_setBankTime_0 : decode cX6_setBankTime 0 = .ok (.iload_n 1, 1) := by decide +kernel
theorem dX6_setBankTime_1 : decode cX6_setBankTime 1 = .ok (.invokestatic 103, 3) := by decide +kernel
theorem dX6_setBankTime_4 : decode cX6_setBankTime 4 = .ok (.ifCond .ne 5, 3) := by decide +kernel
theorem dX6_setBankTime_7 : decode cX6_setBankTime 7 = .ok (.iconst (-1), 1) := by decide +kernel
theorem dX6_setBankTime_8 : decode cX6_setBankTime 8 = .ok (.ireturn, 1) := by decide +kernel
theorem dX6_setBankTime_9 : decode cX6_setBankTime 9 = .ok (.iload_n 2, 1) := by decide +kernel
theorem dX6_setBankTime_10 : decode cX6_setBankTime 10 = .ok (.iconst 1, 1) := by decide +kernel
theorem dX6_setBankTime_11 : decode cX6_setBankTime 11 = .ok (.bipush 9, 2) := by decide +kernel
theorem dX6_setBankTime_13 : decode cX6_setBankTime 13 = .ok (.invokestatic 31, 3) := by decide +kernel
theorem dX6_setBankTime_16 : decode cX6_setBankTime 16 = .ok (.ifCond .ne 6, 3) := by decide +kernel
theorem dX6_setBankTime_19 : decode cX6_setBankTime 19 = .ok (.bipush (-2), 2) := by decide +kernel
theorem dX6_setBankTime_21 : decode cX6_setBankTime 21 = .ok (.ireturn, 1) := by decide +kernel
theorem dX6_setBankTime_22 : decode cX6_setBankTime 22 = .ok (.aload_n 0, 1) := by decide +kernel
theorem dX6_setBankTime_23 : decode cX6_setBankTime 23 = .ok (.getfield 7, 3) := by decide +kernel
theorem dX6_setBankTime_26 : decode cX6_setBankTime 26 = .ok (.bipush 48, 2) := by decide +kernel
theorem dX6_setBankTime_28 : decode cX6_setBankTime 28 = .ok (.iload_n 1, 1) := by decide +kernel
theorem dX6_setBankTime_29 : decode cX6_setBankTime 29 = .ok (.iadd, 1) := by decide +kernel
theorem dX6_setBankTime_30 : decode cX6_setBankTime 30 = .ok (.iaload, 1) := by decide +kernel
theorem dX6_setBankTime_31 : decode cX6_setBankTime 31 = .ok (.istore_n 3, 1) := by decide +kernel
theorem dX6_setBankTime_32 : decode cX6_setBankTime 32 = .ok (.iload_n 3, 1) := by decide +kernel
theorem dX6_setBankTime_33 : decode cX6_setBankTime 33 = .ok (.iload_n 2, 1) := by decide +kernel
theorem dX6_setBankTime_34 : decode cX6_setBankTime 34 = .ok (.if_icmp .ne 6, 3) := by decide +kernel
theorem dX6_setBankTime_37 : decode cX6_setBankTime 37 = .ok (.bipush (-5), 2) := by decide +kernel
theorem dX6_setBankTime_39 : decode cX6_setBankTime 39 = .ok (.ireturn, 1) := by decide +kernel
theorem dX6_setBankTime_40 : decode cX6_setBankTime 40 = .ok (.aload_n 0, 1) := by decide +kernel
theorem dX6_setBankTime_41 : decode cX6_setBankTime 41 = .ok (.invokevirtual 107, 3) := by decide +kernel
theorem dX6_setBankTime_44 : decode cX6_setBankTime 44 = .ok (.aload_n 0, 1) := by decide +kernel
theorem dX6_setBankTime_45 : decode cX6_setBankTime 45 = .ok (.getfield 7, 3) := by decide +kernel
theorem dX6_setBankTime_48 : decode cX6_setBankTime 48 = .ok (.bipush 48, 2) := by decide +kernel
theorem dX6_setBankTime_50 : decode cX6_setBankTime 50 = .ok (.iload_n 1, 1) := by decide +kernel
theorem dX6_setBankTime_51 : decode cX6_setBankTime 51 = .ok (.iadd, 1) := by decide +kernel
theorem dX6_setBankTime_52 : decode cX6_setBankTime 52 = .ok (.iload_n 2, 1) := by decide +kernel
theorem dX6_setBankTime_53 : decode cX6_setBankTime 53 = .ok (.iastore, 1) := by decide +kernel
theorem dX6_setBankTime_54 : decode cX6_setBankTime 54 = .ok (.iload_n 3, 1) := by decide +kernel
theorem dX6_setBankTime_55 : decode cX6_setBankTime 55 = .ok (.ireturn, 1) := by decide +kernel
theorem dX6_set_0 : decode cX6_set 0 = .ok (.iload_n 1, 1) := by decide +kernel
theorem dX6_set_1 : decode cX6_set 1 = .ok (.iconst 0, 1) := by decide +kernel
theorem dX6_set_2 : decode cX6_set 2 = .ok (.iconst 1, 1) := by decide +kernel
theorem dX6_set_3 : decode cX6_set 3 = .ok (.invokestatic 31, 3) := by decide +kernel
theorem dX6_set_6 : decode cX6_set 6 = .ok (.ifCond .ne 5, 3) := by decide +kernel
theorem dX6_set_9 : decode cX6_set 9 = .ok (.iconst (-1), 1) := by decide +kernel
theorem dX6_set_10 : decode cX6_set 10 = .ok (.ireturn, 1) := by decide +kernel
theorem dX6_set_11 : decode cX6_set 11 = .ok (.iload_n 1, 1) := by decide +kernel
theorem dX6_set_12 : decode cX6_set 12 = .ok (.ifCond .ne 16, 3) := by decide +kernel
theorem dX6_set_15 : decode cX6_set 15 = .ok (.iload_n 2, 1) := by decide +kernel
theorem dX6_set_16 : decode cX6_set 16 = .ok (.iconst 2, 1) := by decide +kernel
theorem dX6_set_17 : decode cX6_set 17 = .ok (.bipush 16, 2) := by decide +kernel
theorem dX6_set_19 : decode cX6_set 19 = .ok (.invokestatic 31, 3) := by decide +kernel
theorem dX6_set_22 : decode cX6_set 22 = .ok (.ifCond .ne 19, 3) := by decide +kernel
theorem dX6_set_25 : decode cX6_set 25 = .ok (.goto 13, 3) := by decide +kernel
theorem dX6_set_28 : decode cX6_set 28 = .ok (.iload_n 2, 1) := by decide +kernel
theorem dX6_set_29 : decode cX6_set 29 = .ok (.iconst 1, 1) := by decide +kernel
theorem dX6_set_30 : decode cX6_set 30 = .ok (.bipush 99, 2) := by decide +kernel
theorem dX6_set_32 : decode cX6_set 32 = .ok (.invokestatic 31, 3) := by decide +kernel
theorem dX6_set_35 : decode cX6_set 35 = .ok (.ifCond .ne 6, 3) := by decide +kernel
theorem dX6_set_38 : decode cX6_set 38 = .ok (.bipush (-2), 2) := by decide +kernel
theorem dX6_set_40 : decode cX6_set 40 = .ok (.ireturn, 1) := by decide +kernel
theorem dX6_set_41 : decode cX6_set 41 = .ok (.aload_n 0, 1) := by decide +kernel
theorem dX6_set_42 : decode cX6_set 42 = .ok (.getfield 7, 3) := by decide +kernel
theorem dX6_set_45 : decode cX6_set 45 = .ok (.bipush 8, 2) := by decide +kernel
theorem dX6_set_47 : decode cX6_set 47 = .ok (.iload_n 1, 1) := by decide +kernel
theorem dX6_set_48 : decode cX6_set 48 = .ok (.iadd, 1) := by decide +kernel
theorem dX6_set_49 : decode cX6_set 49 = .ok (.iaload, 1) := by decide +kernel
theorem dX6_set_50 : decode cX6_set 50 = .ok (.istore_n 3, 1) := by decide +kernel
theorem dX6_set_51 : decode cX6_set 51 = .ok (.iload_n 3, 1) := by decide +kernel
theorem dX6_set_52 : decode cX6_set 52 = .ok (.iload_n 2, 1) := by decide +kernel
theorem dX6_set_53 : decode cX6_set 53 = .ok (.if_icmp .ne 6, 3) := by decide +kernel
theorem dX6_set_56 : decode cX6_set 56 = .ok (.bipush (-5), 2) := by decide +kernel
theorem dX6_set_58 : decode cX6_set 58 = .ok (.ireturn, 1) := by decide +kernel
theorem dX6_set_59 : decode cX6_set 59 = .ok (.aload_n 0, 1) := by decide +kernel
theorem dX6_set_60 : decode cX6_set 60 = .ok (.invokevirtual 107, 3) := by decide +kernel
theorem dX6_set_63 : decode cX6_set 63 = .ok (.aload_n 0, 1) := by decide +kernel
theorem dX6_set_64 : decode cX6_set 64 = .ok (.getfield 7, 3) := by decide +kernel
theorem dX6_set_67 : decode cX6_set 67 = .ok (.bipush 8, 2) := by decide +kernel
theorem dX6_set_69 : decode cX6_set 69 = .ok (.iload_n 1, 1) := by decide +kernel
theorem dX6_set_70 : decode cX6_set 70 = .ok (.iadd, 1) := by decide +kernel
theorem dX6_set_71 : decode cX6_set 71 = .ok (.iload_n 2, 1) := by decide +kernel
theorem dX6_set_72 : decode cX6_set 72 = .ok (.iastore, 1) := by decide +kernel
theorem dX6_set_73 : decode cX6_set 73 = .ok (.iload_n 3, 1) := by decide +kernel
theorem dX6_set_74 : decode cX6_set 74 = .ok (.ireturn, 1) := by decide +kernel
theorem dX6_type_0 : decode cX6_type 0 = .ok (.aload_n 0, 1) := by decide +kernel
theorem dX6_type_1 : decode cX6_type 1 = .ok (.getfield 110, 3) := by decide +kernel
theorem dX6_type_4 : decode cX6_type 4 = .ok (.bipush 60, 2) := by decide +kernel
theorem dX6_type_6 : decode cX6_type 6 = .ok (.if_icmp .ne 6, 3) := by decide +kernel
theorem dX6_type_9 : decode cX6_type 9 = .ok (.bipush (-3), 2) := by decide +kernel
theorem dX6_type_11 : decode cX6_type 11 = .ok (.ireturn, 1) := by decide +kernel
theorem dX6_type_12 : decode cX6_type 12 = .ok (.aload_n 0, 1) := by decide +kernel
theorem dX6_type_13 : decode cX6_type 13 = .ok (.getfield 22, 3) := by decide +kernel
theorem dX6_type_16 : decode cX6_type 16 = .ok (.aload_n 0, 1) := by decide +kernel
theorem dX6_type_17 : decode cX6_type 17 = .ok (.getfield 110, 3) := by decide +kernel
theorem dX6_type_20 : decode cX6_type 20 = .ok (.iload_n 1, 1) := by decide +kernel
theorem dX6_type_21 : decode cX6_type 21 = .ok (.iastore, 1) := by decide +kernel
theorem dX6_type_22 : decode cX6_type 22 = .ok (.aload_n 0, 1) := by decide +kernel
theorem dX6_type_23 : decode cX6_type 23 = .ok (.dup, 1) := by decide +kernel
theorem dX6_type_24 : decode cX6_type 24 = .ok (.getfield 110, 3) := by decide +kernel
theorem dX6_type_27 : decode cX6_type 27 = .ok (.iconst 1, 1) := by decide +kernel
theorem dX6_type_28 : decode cX6_type 28 = .ok (.iadd, 1) := by decide +kernel
theorem dX6_type_29 : decode cX6_type 29 = .ok (.putfield 110, 3) := by decide +kernel
theorem dX6_type_32 : decode cX6_type 32 = .ok (.aload_n 0, 1) := by decide +kernel
theorem dX6_type_33 : decode cX6_type 33 = .ok (.getfield 110, 3) := by decide +kernel
theorem dX6_type_36 : decode cX6_type 36 = .ok (.ireturn, 1) := by decide +kernel
theorem dX6_clearText_0 : decode cX6_clearText 0 = .ok (.aload_n 0, 1) := by decide +kernel
theorem dX6_clearText_1 : decode cX6_clearText 1 = .ok (.getfield 110, 3) := by decide +kernel
theorem dX6_clearText_4 : decode cX6_clearText 4 = .ok (.istore_n 1, 1) := by decide +kernel
theorem dX6_clearText_5 : decode cX6_clearText 5 = .ok (.aload_n 0, 1) := by decide +kernel
theorem dX6_clearText_6 : decode cX6_clearText 6 = .ok (.iconst 0, 1) := by decide +kernel
theorem dX6_clearText_7 : decode cX6_clearText 7 = .ok (.putfield 110, 3) := by decide +kernel
theorem dX6_clearText_10 : decode cX6_clearText 10 = .ok (.iload_n 1, 1) := by decide +kernel
theorem dX6_clearText_11 : decode cX6_clearText 11 = .ok (.ireturn, 1) := by decide +kernel
theorem dX6_isNext_0 : decode cX6_isNext 0 = .ok (.aload_n 0, 1) := by decide +kernel
theorem dX6_isNext_1 : decode cX6_isNext 1 = .ok (.getfield 113, 3) := by decide +kernel
theorem dX6_isNext_4 : decode cX6_isNext 4 = .ok (.aload_n 0, 1) := by decide +kernel
theorem dX6_isNext_5 : decode cX6_isNext 5 = .ok (.getfield 110, 3) := by decide +kernel
theorem dX6_isNext_8 : decode cX6_isNext 8 = .ok (.if_icmp .ge 24, 3) := by decide +kernel
theorem dX6_isNext_11 : decode cX6_isNext 11 = .ok (.aload_n 0, 1) := by decide +kernel
theorem dX6_isNext_12 : decode cX6_isNext 12 = .ok (.getfield 22, 3) := by decide +kernel
theorem dX6_isNext_15 : decode cX6_isNext 15 = .ok (.aload_n 0, 1) := by decide +kernel
theorem dX6_isNext_16 : decode cX6_isNext 16 = .ok (.getfield 113, 3) := by decide +kernel
theorem dX6_isNext_19 : decode cX6_isNext 19 = .ok (.iaload, 1) := by decide +kernel
theorem dX6_isNext_20 : decode cX6_isNext 20 = .ok (.iload_n 1, 1) := by decide +kernel
theorem dX6_isNext_21 : decode cX6_isNext 21 = .ok (.iload_n 2, 1) := by decide +kernel
theorem dX6_isNext_22 : decode cX6_isNext 22 = .ok (.invokestatic 31, 3) := by decide +kernel
theorem dX6_isNext_25 : decode cX6_isNext 25 = .ok (.ifCond .eq 7, 3) := by decide +kernel
theorem dX6_isNext_28 : decode cX6_isNext 28 = .ok (.iconst 1, 1) := by decide +kernel
theorem dX6_isNext_29 : decode cX6_isNext 29 = .ok (.goto 4, 3) := by decide +kernel
theorem dX6_isNext_32 : decode cX6_isNext 32 = .ok (.iconst 0, 1) := by decide +kernel
theorem dX6_isNext_33 : decode cX6_isNext 33 = .ok (.ireturn, 1) := by decide +kernel
theorem dX6_takes_0 : decode cX6_takes 0 = .ok (.aload_n 0, 1) := by decide +kernel
theorem dX6_takes_1 : decode cX6_takes 1 = .ok (.iload_n 1, 1) := by decide +kernel
theorem dX6_takes_2 : decode cX6_takes 2 = .ok (.iload_n 1, 1) := by decide +kernel
theorem dX6_takes_3 : decode cX6_takes 3 = .ok (.invokevirtual 116, 3) := by decide +kernel
theorem dX6_takes_6 : decode cX6_takes 6 = .ok (.istore_n 2, 1) := by decide +kernel
theorem dX6_takes_7 : decode cX6_takes 7 = .ok (.aload_n 0, 1) := by decide +kernel
theorem dX6_takes_8 : decode cX6_takes 8 = .ok (.dup, 1) := by decide +kernel
theorem dX6_takes_9 : decode cX6_takes 9 = .ok (.getfield 113, 3) := by decide +kernel
theorem dX6_takes_12 : decode cX6_takes 12 = .ok (.iload_n 2, 1) := by decide +kernel
theorem dX6_takes_13 : decode cX6_takes 13 = .ok (.ifCond .eq 7, 3) := by decide +kernel
theorem dX6_takes_16 : decode cX6_takes 16 = .ok (.iconst 1, 1) := by decide +kernel
theorem dX6_takes_17 : decode cX6_takes 17 = .ok (.goto 4, 3) := by decide +kernel
theorem dX6_takes_20 : decode cX6_takes 20 = .ok (.iconst 0, 1) := by decide +kernel
theorem dX6_takes_21 : decode cX6_takes 21 = .ok (.iadd, 1) := by decide +kernel
theorem dX6_takes_22 : decode cX6_takes 22 = .ok (.putfield 113, 3) := by decide +kernel
theorem dX6_takes_25 : decode cX6_takes 25 = .ok (.iload_n 2, 1) := by decide +kernel
theorem dX6_takes_26 : decode cX6_takes 26 = .ok (.ireturn, 1) := by decide +kernel
theorem dX6_readHead_0 : decode cX6_readHead 0 = .ok (.aload_n 0, 1) := by decide +kernel
theorem dX6_readHead_1 : decode cX6_readHead 1 = .ok (.bipush 48, 2) := by decide +kernel
theorem dX6_readHead_3 : decode cX6_readHead 3 = .ok (.bipush 53, 2) := by decide +kernel
theorem dX6_readHead_5 : decode cX6_readHead 5 = .ok (.invokevirtual 116, 3) := by decide +kernel
theorem dX6_readHead_8 : decode cX6_readHead 8 = .ok (.ifCond .ne 5, 3) := by decide +kernel
theorem dX6_readHead_11 : decode cX6_readHead 11 = .ok (.iconst 0, 1) := by decide +kernel
theorem dX6_readHead_12 : decode cX6_readHead 12 = .ok (.ireturn, 1) := by decide +kernel
theorem dX6_readHead_13 : decode cX6_readHead 13 = .ok (.aload_n 0, 1) := by decide +kernel
theorem dX6_readHead_14 : decode cX6_readHead 14 = .ok (.getfield 22, 3) := by decide +kernel
theorem dX6_readHead_17 : decode cX6_readHead 17 = .ok (.aload_n 0, 1) := by decide +kernel
theorem dX6_readHead_18 : decode cX6_readHead 18 = .ok (.getfield 113, 3) := by decide +kernel
theorem dX6_readHead_21 : decode cX6_readHead 21 = .ok (.iaload, 1) := by decide +kernel
theorem dX6_readHead_22 : decode cX6_readHead 22 = .ok (.bipush 48, 2) := by decide +kernel
theorem dX6_readHead_24 : decode cX6_readHead 24 = .ok (.isub, 1) := by decide +kernel
theorem dX6_readHead_25 : decode cX6_readHead 25 = .ok (.istore_n 1, 1) := by decide +kernel
theorem dX6_readHead_26 : decode cX6_readHead 26 = .ok (.aload_n 0, 1) := by decide +kernel
theorem dX6_readHead_27 : decode cX6_readHead 27 = .ok (.dup, 1) := by decide +kernel
theorem dX6_readHead_28 : decode cX6_readHead 28 = .ok (.getfield 113, 3) := by decide +kernel
theorem dX6_readHead_31 : decode cX6_readHead 31 = .ok (.iconst 1, 1) := by decide +kernel
theorem dX6_readHead_32 : decode cX6_readHead 32 = .ok (.iadd, 1) := by decide +kernel
theorem dX6_readHead_33 : decode cX6_readHead 33 = .ok (.putfield 113, 3) := by decide +kernel
theorem dX6_readHead_36 : decode cX6_readHead 36 = .ok (.aload_n 0, 1) := by decide +kernel
theorem dX6_readHead_37 : decode cX6_readHead 37 = .ok (.bipush 58, 2) := by decide +kernel
theorem dX6_readHead_39 : decode cX6_readHead 39 = .ok (.invokevirtual 119, 3) := by decide +kernel
theorem dX6_readHead_42 : decode cX6_readHead 42 = .ok (.ifCond .eq 14, 3) := by decide +kernel
theorem dX6_readHead_45 : decode cX6_readHead 45 = .ok (.aload_n 0, 1) := by decide +kernel
theorem dX6_readHead_46 : decode cX6_readHead 46 = .ok (.bipush 48, 2) := by decide +kernel
theorem dX6_readHead_48 : decode cX6_readHead 48 = .ok (.bipush 57, 2) := by decide +kernel
theorem dX6_readHead_50 : decode cX6_readHead 50 = .ok (.invokevirtual 116, 3) := by decide +kernel
theorem dX6_readHead_53 : decode cX6_readHead 53 = .ok (.ifCond .ne 5, 3) := by decide +kernel
theorem dX6_readHead_56 : decode cX6_readHead 56 = .ok (.iconst 0, 1) := by decide +kernel
theorem dX6_readHead_57 : decode cX6_readHead 57 = .ok (.ireturn, 1) := by decide +kernel
theorem dX6_readHead_58 : decode cX6_readHead 58 = .ok (.aload_n 0, 1) := by decide +kernel
theorem dX6_readHead_59 : decode cX6_readHead 59 = .ok (.getfield 22, 3) := by decide +kernel
theorem dX6_readHead_62 : decode cX6_readHead 62 = .ok (.aload_n 0, 1) := by decide +kernel
theorem dX6_readHead_63 : decode cX6_readHead 63 = .ok (.getfield 113, 3) := by decide +kernel
theorem dX6_readHead_66 : decode cX6_readHead 66 = .ok (.iaload, 1) := by decide +kernel
theorem dX6_readHead_67 : decode cX6_readHead 67 = .ok (.bipush 48, 2) := by decide +kernel
theorem dX6_readHead_69 : decode cX6_readHead 69 = .ok (.isub, 1) := by decide +kernel
theorem dX6_readHead_70 : decode cX6_readHead 70 = .ok (.istore_n 2, 1) := by decide +kernel
theorem dX6_readHead_71 : decode cX6_readHead 71 = .ok (.aload_n 0, 1) := by decide +kernel
theorem dX6_readHead_72 : decode cX6_readHead 72 = .ok (.dup, 1) := by decide +kernel
theorem dX6_readHead_73 : decode cX6_readHead 73 = .ok (.getfield 113, 3) := by decide +kernel
theorem dX6_readHead_76 : decode cX6_readHead 76 = .ok (.iconst 1, 1) := by decide +kernel
theorem dX6_readHead_77 : decode cX6_readHead 77 = .ok (.iadd, 1) := by decide +kernel
theorem dX6_readHead_78 : decode cX6_readHead 78 = .ok (.putfield 113, 3) := by decide +kernel
theorem dX6_readHead_81 : decode cX6_readHead 81 = .ok (.iload_n 2, 1) := by decide +kernel
theorem dX6_readHead_82 : decode cX6_readHead 82 = .ok (.ifCond .le 64, 3) := by decide +kernel
theorem dX6_readHead_85 : decode cX6_readHead 85 = .ok (.aload_n 0, 1) := by decide +kernel
theorem dX6_readHead_86 : decode cX6_readHead 86 = .ok (.bipush 48, 2) := by decide +kernel
theorem dX6_readHead_88 : decode cX6_readHead 88 = .ok (.bipush 57, 2) := by decide +kernel
theorem dX6_readHead_90 : decode cX6_readHead 90 = .ok (.invokevirtual 116, 3) := by decide +kernel
theorem dX6_readHead_93 : decode cX6_readHead 93 = .ok (.ifCond .eq 53, 3) := by decide +kernel
theorem dX6_readHead_96 : decode cX6_readHead 96 = .ok (.bipush 10, 2) := by decide +kernel
theorem dX6_readHead_98 : decode cX6_readHead 98 = .ok (.iload_n 2, 1) := by decide +kernel
theorem dX6_readHead_99 : decode cX6_readHead 99 = .ok (.imul, 1) := by decide +kernel
theorem dX6_readHead_100 : decode cX6_readHead 100 = .ok (.aload_n 0, 1) := by decide +kernel
theorem dX6_readHead_101 : decode cX6_readHead 101 = .ok (.getfield 22, 3) := by decide +kernel
theorem dX6_readHead_104 : decode cX6_readHead 104 = .ok (.aload_n 0, 1) := by decide +kernel
theorem dX6_readHead_105 : decode cX6_readHead 105 = .ok (.getfield 113, 3) := by decide +kernel
theorem dX6_readHead_108 : decode cX6_readHead 108 = .ok (.iaload, 1) := by decide +kernel
theorem dX6_readHead_109 : decode cX6_readHead 109 = .ok (.iadd, 1) := by decide +kernel
theorem dX6_readHead_110 : decode cX6_readHead 110 = .ok (.bipush 48, 2) := by decide +kernel
theorem dX6_readHead_112 : decode cX6_readHead 112 = .ok (.isub, 1) := by decide +kernel
theorem dX6_readHead_113 : decode cX6_readHead 113 = .ok (.bipush 20, 2) := by decide +kernel
theorem dX6_readHead_115 : decode cX6_readHead 115 = .ok (.if_icmp .gt 31, 3) := by decide +kernel
theorem dX6_readHead_118 : decode cX6_readHead 118 = .ok (.bipush 10, 2) := by decide +kernel
theorem dX6_readHead_120 : decode cX6_readHead 120 = .ok (.iload_n 2, 1) := by decide +kernel
theorem dX6_readHead_121 : decode cX6_readHead 121 = .ok (.imul, 1) := by decide +kernel
theorem dX6_readHead_122 : decode cX6_readHead 122 = .ok (.aload_n 0, 1) := by decide +kernel
theorem dX6_readHead_123 : decode cX6_readHead 123 = .ok (.getfield 22, 3) := by decide +kernel
theorem dX6_readHead_126 : decode cX6_readHead 126 = .ok (.aload_n 0, 1) := by decide +kernel
theorem dX6_readHead_127 : decode cX6_readHead 127 = .ok (.getfield 113, 3) := by decide +kernel
theorem dX6_readHead_130 : decode cX6_readHead 130 = .ok (.iaload, 1) := by decide +kernel
theorem dX6_readHead_131 : decode cX6_readHead 131 = .ok (.iadd, 1) := by decide +kernel
theorem dX6_readHead_132 : decode cX6_readHead 132 = .ok (.bipush 48, 2) := by decide +kernel
theorem dX6_readHead_134 : decode cX6_readHead 134 = .ok (.isub, 1) := by decide +kernel
theorem dX6_readHead_135 : decode cX6_readHead 135 = .ok (.istore_n 2, 1) := by decide +kernel
theorem dX6_readHead_136 : decode cX6_readHead 136 = .ok (.aload_n 0, 1) := by decide +kernel
theorem dX6_readHead_137 : decode cX6_readHead 137 = .ok (.dup, 1) := by decide +kernel
theorem dX6_readHead_138 : decode cX6_readHead 138 = .ok (.getfield 113, 3) := by decide +kernel
theorem dX6_readHead_141 : decode cX6_readHead 141 = .ok (.iconst 1, 1) := by decide +kernel
theorem dX6_readHead_142 : decode cX6_readHead 142 = .ok (.iadd, 1) := by decide +kernel
theorem dX6_readHead_143 : decode cX6_readHead 143 = .ok (.putfield 113, 3) := by decide +kernel
theorem dX6_readHead_146 : decode cX6_readHead 146 = .ok (.aload_n 0, 1) := by decide +kernel
theorem dX6_readHead_147 : decode cX6_readHead 147 = .ok (.getfield 25, 3) := by decide +kernel
theorem dX6_readHead_150 : decode cX6_readHead 150 = .ok (.iconst 3, 1) := by decide +kernel
theorem dX6_readHead_151 : decode cX6_readHead 151 = .ok (.aload_n 0, 1) := by decide +kernel
theorem dX6_readHead_152 : decode cX6_readHead 152 = .ok (.getfield 122, 3) := by decide +kernel
theorem dX6_readHead_155 : decode cX6_readHead 155 = .ok (.imul, 1) := by decide +kernel
theorem dX6_readHead_156 : decode cX6_readHead 156 = .ok (.iload_n 1, 1) := by decide +kernel
theorem dX6_readHead_157 : decode cX6_readHead 157 = .ok (.iastore, 1) := by decide +kernel
theorem dX6_readHead_158 : decode cX6_readHead 158 = .ok (.aload_n 0, 1) := by decide +kernel
theorem dX6_readHead_159 : decode cX6_readHead 159 = .ok (.getfield 25, 3) := by decide +kernel
theorem dX6_readHead_162 : decode cX6_readHead 162 = .ok (.iconst 3, 1) := by decide +kernel
theorem dX6_readHead_163 : decode cX6_readHead 163 = .ok (.aload_n 0, 1) := by decide +kernel
theorem dX6_readHead_164 : decode cX6_readHead 164 = .ok (.getfield 122, 3) := by decide +kernel
theorem dX6_readHead_167 : decode cX6_readHead 167 = .ok (.imul, 1) := by decide +kernel
theorem dX6_readHead_168 : decode cX6_readHead 168 = .ok (.iconst 1, 1) := by decide +kernel
theorem dX6_readHead_169 : decode cX6_readHead 169 = .ok (.iadd, 1) := by decide +kernel
theorem dX6_readHead_170 : decode cX6_readHead 170 = .ok (.iload_n 2, 1) := by decide +kernel
theorem dX6_readHead_171 : decode cX6_readHead 171 = .ok (.iastore, 1) := by decide +kernel
theorem dX6_readHead_172 : decode cX6_readHead 172 = .ok (.aload_n 0, 1) := by decide +kernel
theorem dX6_readHead_173 : decode cX6_readHead 173 = .ok (.getfield 25, 3) := by decide +kernel
theorem dX6_readHead_176 : decode cX6_readHead 176 = .ok (.iconst 3, 1) := by decide +kernel
theorem dX6_readHead_177 : decode cX6_readHead 177 = .ok (.aload_n 0, 1) := by decide +kernel
theorem dX6_readHead_178 : decode cX6_readHead 178 = .ok (.getfield 122, 3) := by decide +kernel
theorem dX6_readHead_181 : decode cX6_readHead 181 = .ok (.imul, 1) := by decide +kernel
theorem dX6_readHead_182 : decode cX6_readHead 182 = .ok (.iconst 2, 1) := by decide +kernel
theorem dX6_readHead_183 : decode cX6_readHead 183 = .ok (.iadd, 1) := by decide +kernel
theorem dX6_readHead_184 : decode cX6_readHead 184 = .ok (.aload_n 0, 1) := by decide +kernel
theorem dX6_readHead_185 : decode cX6_readHead 185 = .ok (.getfield 125, 3) := by decide +kernel
theorem dX6_readHead_188 : decode cX6_readHead 188 = .ok (.iastore, 1) := by decide +kernel
theorem dX6_readHead_189 : decode cX6_readHead 189 = .ok (.aload_n 0, 1) := by decide +kernel
theorem dX6_readHead_190 : decode cX6_readHead 190 = .ok (.dup, 1) := by decide +kernel
theorem dX6_readHead_191 : decode cX6_readHead 191 = .ok (.getfield 122, 3) := by decide +kernel
theorem dX6_readHead_194 : decode cX6_readHead 194 = .ok (.iconst 1, 1) := by decide +kernel
theorem dX6_readHead_195 : decode cX6_readHead 195 = .ok (.iadd, 1) := by decide +kernel
theorem dX6_readHead_196 : decode cX6_readHead 196 = .ok (.putfield 122, 3) := by decide +kernel
theorem dX6_readHead_199 : decode cX6_readHead 199 = .ok (.iconst 1, 1) := by decide +kernel
theorem dX6_readHead_200 : decode cX6_readHead 200 = .ok (.ireturn, 1) := by decide +kernel
theorem dX6_readText_0 : decode cX6_readText 0 = .ok (.aload_n 0, 1) := by decide +kernel
theorem dX6_readText_1 : decode cX6_readText 1 = .ok (.iconst 0, 1) := by decide +kernel
theorem dX6_readText_2 : decode cX6_readText 2 = .ok (.putfield 113, 3) := by decide +kernel
theorem dX6_readText_5 : decode cX6_readText 5 = .ok (.aload_n 0, 1) := by decide +kernel
theorem dX6_readText_6 : decode cX6_readText 6 = .ok (.iconst 0, 1) := by decide +kernel
theorem dX6_readText_7 : decode cX6_readText 7 = .ok (.putfield 122, 3) := by decide +kernel
theorem dX6_readText_10 : decode cX6_readText 10 = .ok (.aload_n 0, 1) := by decide +kernel
theorem dX6_readText_11 : decode cX6_readText 11 = .ok (.iconst 0, 1) := by decide +kernel
theorem dX6_readText_12 : decode cX6_readText 12 = .ok (.putfield 125, 3) := by decide +kernel
theorem dX6_readText_15 : decode cX6_readText 15 = .ok (.iconst 1, 1) := by decide +kernel
theorem dX6_readText_16 : decode cX6_readText 16 = .ok (.istore_n 1, 1) := by decide +kernel
theorem dX6_readText_17 : decode cX6_readText 17 = .ok (.aload_n 0, 1) := by decide +kernel
theorem dX6_readText_18 : decode cX6_readText 18 = .ok (.invokevirtual 128, 3) := by decide +kernel
theorem dX6_readText_21 : decode cX6_readText 21 = .ok (.ifCond .ne 8, 3) := by decide +kernel
theorem dX6_readText_24 : decode cX6_readText 24 = .ok (.aload_n 0, 1) := by decide +kernel
theorem dX6_readText_25 : decode cX6_readText 25 = .ok (.getfield 113, 3) := by decide +kernel
theorem dX6_readText_28 : decode cX6_readText 28 = .ok (.ireturn, 1) := by decide +kernel
theorem dX6_readText_29 : decode cX6_readText 29 = .ok (.aload_n 0, 1) := by decide +kernel
theorem dX6_readText_30 : decode cX6_readText 30 = .ok (.getfield 113, 3) := by decide +kernel
theorem dX6_readText_33 : decode cX6_readText 33 = .ok (.aload_n 0, 1) := by decide +kernel
theorem dX6_readText_34 : decode cX6_readText 34 = .ok (.getfield 110, 3) := by decide +kernel
theorem dX6_readText_37 : decode cX6_readText 37 = .ok (.if_icmp .ge 109, 3) := by decide +kernel
theorem dX6_readText_40 : decode cX6_readText 40 = .ok (.iconst 0, 1) := by decide +kernel
theorem dX6_readText_41 : decode cX6_readText 41 = .ok (.istore_n 2, 1) := by decide +kernel
theorem dX6_readText_42 : decode cX6_readText 42 = .ok (.iload_n 1, 1) := by decide +kernel
theorem dX6_readText_43 : decode cX6_readText 43 = .ok (.ifCond .eq 30, 3) := by decide +kernel
theorem dX6_readText_46 : decode cX6_readText 46 = .ok (.aload_n 0, 1) := by decide +kernel
theorem dX6_readText_47 : decode cX6_readText 47 = .ok (.bipush 40, 2) := by decide +kernel
theorem dX6_readText_49 : decode cX6_readText 49 = .ok (.invokevirtual 119, 3) := by decide +kernel
theorem dX6_readText_52 : decode cX6_readText 52 = .ok (.ifCond .eq 21, 3) := by decide +kernel
theorem dX6_readText_55 : decode cX6_readText 55 = .ok (.aload_n 0, 1) := by decide +kernel
theorem dX6_readText_56 : decode cX6_readText 56 = .ok (.dup, 1) := by decide +kernel
theorem dX6_readText_57 : decode cX6_readText 57 = .ok (.getfield 125, 3) := by decide +kernel
theorem dX6_readText_60 : decode cX6_readText 60 = .ok (.iconst 1, 1) := by decide +kernel
theorem dX6_readText_61 : decode cX6_readText 61 = .ok (.iadd, 1) := by decide +kernel
theorem dX6_readText_62 : decode cX6_readText 62 = .ok (.putfield 125, 3) := by decide +kernel
theorem dX6_readText_65 : decode cX6_readText 65 = .ok (.aload_n 0, 1) := by decide +kernel
theorem dX6_readText_66 : decode cX6_readText 66 = .ok (.invokevirtual 128, 3) := by decide +kernel
theorem dX6_readText_69 : decode cX6_readText 69 = .ok (.istore_n 2, 1) := by decide +kernel
theorem dX6_readText_70 : decode cX6_readText 70 = .ok (.goto 64, 3) := by decide +kernel
theorem dX6_readText_73 : decode cX6_readText 73 = .ok (.aload_n 0, 1) := by decide +kernel
theorem dX6_readText_74 : decode cX6_readText 74 = .ok (.aload_n 0, 1) := by decide +kernel
theorem dX6_readText_75 : decode cX6_readText 75 = .ok (.getfield 125, 3) := by decide +kernel
theorem dX6_readText_78 : decode cX6_readText 78 = .ok (.ifCond .ne 8, 3) := by decide +kernel
theorem dX6_readText_81 : decode cX6_readText 81 = .ok (.bipush 59, 2) := by decide +kernel
theorem dX6_readText_83 : decode cX6_readText 83 = .ok (.goto 5, 3) := by decide +kernel
theorem dX6_readText_86 : decode cX6_readText 86 = .ok (.bipush 44, 2) := by decide +kernel
theorem dX6_readText_88 : decode cX6_readText 88 = .ok (.invokevirtual 119, 3) := by decide +kernel
theorem dX6_readText_91 : decode cX6_readText 91 = .ok (.ifCond .eq 13, 3) := by decide +kernel
theorem dX6_readText_94 : decode cX6_readText 94 = .ok (.iconst 1, 1) := by decide +kernel
theorem dX6_readText_95 : decode cX6_readText 95 = .ok (.istore_n 1, 1) := by decide +kernel
theorem dX6_readText_96 : decode cX6_readText 96 = .ok (.aload_n 0, 1) := by decide +kernel
theorem dX6_readText_97 : decode cX6_readText 97 = .ok (.invokevirtual 128, 3) := by decide +kernel
theorem dX6_readText_100 : decode cX6_readText 100 = .ok (.istore_n 2, 1) := by decide +kernel
theorem dX6_readText_101 : decode cX6_readText 101 = .ok (.goto 33, 3) := by decide +kernel
theorem dX6_readText_104 : decode cX6_readText 104 = .ok (.aload_n 0, 1) := by decide +kernel
theorem dX6_readText_105 : decode cX6_readText 105 = .ok (.getfield 125, 3) := by decide +kernel
theorem dX6_readText_108 : decode cX6_readText 108 = .ok (.ifCond .le 26, 3) := by decide +kernel
theorem dX6_readText_111 : decode cX6_readText 111 = .ok (.aload_n 0, 1) := by decide +kernel
theorem dX6_readText_112 : decode cX6_readText 112 = .ok (.bipush 41, 2) := by decide +kernel
theorem dX6_readText_114 : decode cX6_readText 114 = .ok (.invokevirtual 119, 3) := by decide +kernel
theorem dX6_readText_117 : decode cX6_readText 117 = .ok (.ifCond .eq 17, 3) := by decide +kernel
theorem dX6_readText_120 : decode cX6_readText 120 = .ok (.aload_n 0, 1) := by decide +kernel
theorem dX6_readText_121 : decode cX6_readText 121 = .ok (.dup, 1) := by decide +kernel
theorem dX6_readText_122 : decode cX6_readText 122 = .ok (.getfield 125, 3) := by decide +kernel
theorem dX6_readText_125 : decode cX6_readText 125 = .ok (.iconst 1, 1) := by decide +kernel
theorem dX6_readText_126 : decode cX6_readText 126 = .ok (.isub, 1) := by decide +kernel
theorem dX6_readText_127 : decode cX6_readText 127 = .ok (.putfield 125, 3) := by decide +kernel
theorem dX6_readText_130 : decode cX6_readText 130 = .ok (.iconst 0, 1) := by decide +kernel
theorem dX6_readText_131 : decode cX6_readText 131 = .ok (.istore_n 1, 1) := by decide +kernel
theorem dX6_readText_132 : decode cX6_readText 132 = .ok (.iconst 1, 1) := by decide +kernel
theorem dX6_readText_133 : decode cX6_readText 133 = .ok (.istore_n 2, 1) := by decide +kernel
theorem dX6_readText_134 : decode cX6_readText 134 = .ok (.iload_n 2, 1) := by decide +kernel
theorem dX6_readText_135 : decode cX6_readText 135 = .ok (.ifCond .ne 8, 3) := by decide +kernel
theorem dX6_readText_138 : decode cX6_readText 138 = .ok (.aload_n 0, 1) := by decide +kernel
theorem dX6_readText_139 : decode cX6_readText 139 = .ok (.getfield 113, 3) := by decide +kernel
theorem dX6_readText_142 : decode cX6_readText 142 = .ok (.ireturn, 1) := by decide +kernel
theorem dX6_readText_143 : decode cX6_readText 143 = .ok (.goto (-114), 3) := by decide +kernel
theorem dX6_readText_146 : decode cX6_readText 146 = .ok (.aload_n 0, 1) := by decide +kernel
theorem dX6_readText_147 : decode cX6_readText 147 = .ok (.getfield 125, 3) := by decide +kernel
theorem dX6_readText_150 : decode cX6_readText 150 = .ok (.ifCond .ne 8, 3) := by decide +kernel
theorem dX6_readText_153 : decode cX6_readText 153 = .ok (.bipush (-5), 2) := by decide +kernel
theorem dX6_readText_155 : decode cX6_readText 155 = .ok (.goto 7, 3) := by decide +kernel
theorem dX6_readText_158 : decode cX6_readText 158 = .ok (.aload_n 0, 1) := by decide +kernel
theorem dX6_readText_159 : decode cX6_readText 159 = .ok (.getfield 113, 3) := by decide +kernel
theorem dX6_readText_162 : decode cX6_readText 162 = .ok (.ireturn, 1) := by decide +kernel
theorem dX6_launchAll_0 : decode cX6_launchAll 0 = .ok (.iconst 0, 1) := by decide +kernel
theorem dX6_launchAll_1 : decode cX6_launchAll 1 = .ok (.istore_n 1, 1) := by decide +kernel
theorem dX6_launchAll_2 : decode cX6_launchAll 2 = .ok (.iconst 0, 1) := by decide +kernel
theorem dX6_launchAll_3 : decode cX6_launchAll 3 = .ok (.istore_n 2, 1) := by decide +kernel
theorem dX6_launchAll_4 : decode cX6_launchAll 4 = .ok (.iload_n 2, 1) := by decide +kernel
theorem dX6_launchAll_5 : decode cX6_launchAll 5 = .ok (.aload_n 0, 1) := by decide +kernel
theorem dX6_launchAll_6 : decode cX6_launchAll 6 = .ok (.getfield 122, 3) := by decide +kernel
theorem dX6_launchAll_9 : decode cX6_launchAll 9 = .ok (.if_icmp .ge 100, 3) := by decide +kernel
theorem dX6_launchAll_12 : decode cX6_launchAll 12 = .ok (.aload_n 0, 1) := by decide +kernel
theorem dX6_launchAll_13 : decode cX6_launchAll 13 = .ok (.getfield 25, 3) := by decide +kernel
theorem dX6_launchAll_16 : decode cX6_launchAll 16 = .ok (.iconst 3, 1) := by decide +kernel
theorem dX6_launchAll_17 : decode cX6_launchAll 17 = .ok (.iload_n 2, 1) := by decide +kernel
theorem dX6_launchAll_18 : decode cX6_launchAll 18 = .ok (.imul, 1) := by decide +kernel
theorem dX6_launchAll_19 : decode cX6_launchAll 19 = .ok (.iconst 2, 1) := by decide +kernel
theorem dX6_launchAll_20 : decode cX6_launchAll 20 = .ok (.iadd, 1) := by decide +kernel
theorem dX6_launchAll_21 : decode cX6_launchAll 21 = .ok (.iaload, 1) := by decide +kernel
theorem dX6_launchAll_22 : decode cX6_launchAll 22 = .ok (.istore_n 3, 1) := by decide +kernel
theorem dX6_launchAll_23 : decode cX6_launchAll 23 = .ok (.aload_n 0, 1) := by decide +kernel
theorem dX6_launchAll_24 : decode cX6_launchAll 24 = .ok (.aload_n 0, 1) := by decide +kernel
theorem dX6_launchAll_25 : decode cX6_launchAll 25 = .ok (.getfield 25, 3) := by decide +kernel
theorem dX6_launchAll_28 : decode cX6_launchAll 28 = .ok (.iconst 3, 1) := by decide +kernel
theorem dX6_launchAll_29 : decode cX6_launchAll 29 = .ok (.iload_n 2, 1) := by decide +kernel
theorem dX6_launchAll_30 : decode cX6_launchAll 30 = .ok (.imul, 1) := by decide +kernel
theorem dX6_launchAll_31 : decode cX6_launchAll 31 = .ok (.iaload, 1) := by decide +kernel
theorem dX6_launchAll_32 : decode cX6_launchAll 32 = .ok (.aload_n 0, 1) := by decide +kernel
theorem dX6_launchAll_33 : decode cX6_launchAll 33 = .ok (.getfield 25, 3) := by decide +kernel
theorem dX6_launchAll_36 : decode cX6_launchAll 36 = .ok (.iconst 3, 1) := by decide +kernel
theorem dX6_launchAll_37 : decode cX6_launchAll 37 = .ok (.iload_n 2, 1) := by decide +kernel
theorem dX6_launchAll_38 : decode cX6_launchAll 38 = .ok (.imul, 1) := by decide +kernel
theorem dX6_launchAll_39 : decode cX6_launchAll 39 = .ok (.iconst 1, 1) := by decide +kernel
theorem dX6_launchAll_40 : decode cX6_launchAll 40 = .ok (.iadd, 1) := by decide +kernel
theorem dX6_launchAll_41 : decode cX6_launchAll 41 = .ok (.iaload, 1) := by decide +kernel
theorem dX6_launchAll_42 : decode cX6_launchAll 42 = .ok (.iload_n 3, 1) := by decide +kernel
theorem dX6_launchAll_43 : decode cX6_launchAll 43 = .ok (.ifCond .ne 7, 3) := by decide +kernel
theorem dX6_launchAll_46 : decode cX6_launchAll 46 = .ok (.iconst 0, 1) := by decide +kernel
theorem dX6_launchAll_47 : decode cX6_launchAll 47 = .ok (.goto 13, 3) := by decide +kernel
theorem dX6_launchAll_50 : decode cX6_launchAll 50 = .ok (.aload_n 0, 1) := by decide +kernel
theorem dX6_launchAll_51 : decode cX6_launchAll 51 = .ok (.getfield 28, 3) := by decide +kernel
theorem dX6_launchAll_54 : decode cX6_launchAll 54 = .ok (.iload_n 3, 1) := by decide +kernel
theorem dX6_launchAll_55 : decode cX6_launchAll 55 = .ok (.iconst 1, 1) := by decide +kernel
theorem dX6_launchAll_56 : decode cX6_launchAll 56 = .ok (.isub, 1) := by decide +kernel
theorem dX6_launchAll_57 : decode cX6_launchAll 57 = .ok (.iaload, 1) := by decide +kernel
theorem dX6_launchAll_58 : decode cX6_launchAll 58 = .ok (.iconst 1, 1) := by decide +kernel
theorem dX6_launchAll_59 : decode cX6_launchAll 59 = .ok (.iadd, 1) := by decide +kernel
theorem dX6_launchAll_60 : decode cX6_launchAll 60 = .ok (.invokevirtual 132, 3) := by decide +kernel
theorem dX6_launchAll_63 : decode cX6_launchAll 63 = .ok (.istore 4, 2) := by decide +kernel
theorem dX6_launchAll_65 : decode cX6_launchAll 65 = .ok (.aload_n 0, 1) := by decide +kernel
theorem dX6_launchAll_66 : decode cX6_launchAll 66 = .ok (.getfield 28, 3) := by decide +kernel
theorem dX6_launchAll_69 : decode cX6_launchAll 69 = .ok (.iload_n 3, 1) := by decide +kernel
theorem dX6_launchAll_70 : decode cX6_launchAll 70 = .ok (.iload 4, 2) := by decide +kernel
theorem dX6_launchAll_72 : decode cX6_launchAll 72 = .ok (.iastore, 1) := by decide +kernel
theorem dX6_launchAll_73 : decode cX6_launchAll 73 = .ok (.iload_n 3, 1) := by decide +kernel
theorem dX6_launchAll_74 : decode cX6_launchAll 74 = .ok (.ifCond .ne 29, 3) := by decide +kernel
theorem dX6_launchAll_77 : decode cX6_launchAll 77 = .ok (.iinc 1 1, 3) := by decide +kernel
theorem dX6_launchAll_80 : decode cX6_launchAll 80 = .ok (.aload_n 0, 1) := by decide +kernel
theorem dX6_launchAll_81 : decode cX6_launchAll 81 = .ok (.iconst 0, 1) := by decide +kernel
theorem dX6_launchAll_82 : decode cX6_launchAll 82 = .ok (.bipush 6, 2) := by decide +kernel
theorem dX6_launchAll_84 : decode cX6_launchAll 84 = .ok (.aload_n 0, 1) := by decide +kernel
theorem dX6_launchAll_85 : decode cX6_launchAll 85 = .ok (.getfield 25, 3) := by decide +kernel
theorem dX6_launchAll_88 : decode cX6_launchAll 88 = .ok (.iconst 3, 1) := by decide +kernel
theorem dX6_launchAll_89 : decode cX6_launchAll 89 = .ok (.iload_n 2, 1) := by decide +kernel
theorem dX6_launchAll_90 : decode cX6_launchAll 90 = .ok (.imul, 1) := by decide +kernel
theorem dX6_launchAll_91 : decode cX6_launchAll 91 = .ok (.iaload, 1) := by decide +kernel
theorem dX6_launchAll_92 : decode cX6_launchAll 92 = .ok (.aload_n 0, 1) := by decide +kernel
theorem dX6_launchAll_93 : decode cX6_launchAll 93 = .ok (.invokevirtual 90, 3) := by decide +kernel
theorem dX6_launchAll_96 : decode cX6_launchAll 96 = .ok (.iload 4, 2) := by decide +kernel
theorem dX6_launchAll_98 : decode cX6_launchAll 98 = .ok (.iconst 1, 1) := by decide +kernel
theorem dX6_launchAll_99 : decode cX6_launchAll 99 = .ok (.iadd, 1) := by decide +kernel
theorem dX6_launchAll_100 : decode cX6_launchAll 100 = .ok (.invokevirtual 73, 3) := by decide +kernel
theorem dX6_launchAll_103 : decode cX6_launchAll 103 = .ok (.iinc 2 1, 3) := by decide +kernel
theorem dX6_launchAll_106 : decode cX6_launchAll 106 = .ok (.goto (-102), 3) := by decide +kernel
theorem dX6_launchAll_109 : decode cX6_launchAll 109 = .ok (.aload_n 0, 1) := by decide +kernel
theorem dX6_launchAll_110 : decode cX6_launchAll 110 = .ok (.getfield 7, 3) := by decide +kernel
theorem dX6_launchAll_113 : decode cX6_launchAll 113 = .ok (.iconst 5, 1) := by decide +kernel
theorem dX6_launchAll_114 : decode cX6_launchAll 114 = .ok (.dup2, 1) := by decide +kernel
theorem dX6_launchAll_115 : decode cX6_launchAll 115 = .ok (.iaload, 1) := by decide +kernel
theorem dX6_launchAll_116 : decode cX6_launchAll 116 = .ok (.iload_n 1, 1) := by decide +kernel
theorem dX6_launchAll_117 : decode cX6_launchAll 117 = .ok (.iadd, 1) := by decide +kernel
theorem dX6_launchAll_118 : decode cX6_launchAll 118 = .ok (.iastore, 1) := by decide +kernel
theorem dX6_launchAll_119 : decode cX6_launchAll 119 = .ok (.iload_n 1, 1) := by decide +kernel
theorem dX6_launchAll_120 : decode cX6_launchAll 120 = .ok (.ireturn, 1) := by decide +kernel
theorem dX6_launch_0 : decode cX6_launch 0 = .ok (.aload_n 0, 1) := by decide +kernel
theorem dX6_launch_1 : decode cX6_launch 1 = .ok (.invokevirtual 136, 3) := by decide +kernel
theorem dX6_launch_4 : decode cX6_launch 4 = .ok (.istore_n 1, 1) := by decide +kernel
theorem dX6_launch_5 : decode cX6_launch 5 = .ok (.iload_n 1, 1) := by decide +kernel
theorem dX6_launch_6 : decode cX6_launch 6 = .ok (.bipush (-5), 2) := by decide +kernel
theorem dX6_launch_8 : decode cX6_launch 8 = .ok (.if_icmp .eq 8, 3) := by decide +kernel
theorem dX6_launch_11 : decode cX6_launch 11 = .ok (.bipush (-100), 2) := by decide +kernel
theorem dX6_launch_13 : decode cX6_launch 13 = .ok (.iload_n 1, 1) := by decide +kernel
theorem dX6_launch_14 : decode cX6_launch 14 = .ok (.isub, 1) := by decide +kernel
theorem dX6_launch_15 : decode cX6_launch 15 = .ok (.ireturn, 1) := by decide +kernel
theorem dX6_launch_16 : decode cX6_launch 16 = .ok (.aload_n 0, 1) := by decide +kernel
theorem dX6_launch_17 : decode cX6_launch 17 = .ok (.invokevirtual 139, 3) := by decide +kernel
theorem dX6_launch_20 : decode cX6_launch 20 = .ok (.aload_n 0, 1) := by decide +kernel
theorem dX6_launch_21 : decode cX6_launch 21 = .ok (.getfield 122, 3) := by decide +kernel
theorem dX6_launch_24 : decode cX6_launch 24 = .ok (.iadd, 1) := by decide +kernel
theorem dX6_launch_25 : decode cX6_launch 25 = .ok (.bipush 80, 2) := by decide +kernel
theorem dX6_launch_27 : decode cX6_launch 27 = .ok (.if_icmp .le 6, 3) := by decide +kernel
theorem dX6_launch_30 : decode cX6_launch 30 = .ok (.bipush (-3), 2) := by decide +kernel
theorem dX6_launch_32 : decode cX6_launch 32 = .ok (.ireturn, 1) := by decide +kernel
theorem dX6_launch_33 : decode cX6_launch 33 = .ok (.aload_n 0, 1) := by decide +kernel
theorem dX6_launch_34 : decode cX6_launch 34 = .ok (.invokevirtual 107, 3) := by decide +kernel
theorem dX6_launch_37 : decode cX6_launch 37 = .ok (.aload_n 0, 1) := by decide +kernel
theorem dX6_launch_38 : decode cX6_launch 38 = .ok (.invokevirtual 142, 3) := by decide +kernel
theorem dX6_launch_41 : decode cX6_launch 41 = .ok (.ireturn, 1) := by decide +kernel
theorem dX6_partsOfRead_0 : decode cX6_partsOfRead 0 = .ok (.iconst 0, 1) := by decide +kernel
theorem dX6_partsOfRead_1 : decode cX6_partsOfRead 1 = .ok (.istore_n 2, 1) := by decide +kernel
theorem dX6_partsOfRead_2 : decode cX6_partsOfRead 2 = .ok (.aload_n 0, 1) := by decide +kernel
theorem dX6_partsOfRead_3 : decode cX6_partsOfRead 3 = .ok (.getfield 25, 3) := by decide +kernel
theorem dX6_partsOfRead_6 : decode cX6_partsOfRead 6 = .ok (.iconst 3, 1) := by decide +kernel
theorem dX6_partsOfRead_7 : decode cX6_partsOfRead 7 = .ok (.iload_n 1, 1) := by decide +kernel
theorem dX6_partsOfRead_8 : decode cX6_partsOfRead 8 = .ok (.imul, 1) := by decide +kernel
theorem dX6_partsOfRead_9 : decode cX6_partsOfRead 9 = .ok (.iconst 2, 1) := by decide +kernel
theorem dX6_partsOfRead_10 : decode cX6_partsOfRead 10 = .ok (.iadd, 1) := by decide +kernel
theorem dX6_partsOfRead_11 : decode cX6_partsOfRead 11 = .ok (.iaload, 1) := by decide +kernel
theorem dX6_partsOfRead_12 : decode cX6_partsOfRead 12 = .ok (.istore_n 3, 1) := by decide +kernel
theorem dX6_partsOfRead_13 : decode cX6_partsOfRead 13 = .ok (.iload_n 1, 1) := by decide +kernel
theorem dX6_partsOfRead_14 : decode cX6_partsOfRead 14 = .ok (.iconst 1, 1) := by decide +kernel
theorem dX6_partsOfRead_15 : decode cX6_partsOfRead 15 = .ok (.iadd, 1) := by decide +kernel
theorem dX6_partsOfRead_16 : decode cX6_partsOfRead 16 = .ok (.istore 4, 2) := by decide +kernel
theorem dX6_partsOfRead_18 : decode cX6_partsOfRead 18 = .ok (.iload 4, 2) := by decide +kernel
theorem dX6_partsOfRead_20 : decode cX6_partsOfRead 20 = .ok (.aload_n 0, 1) := by decide +kernel
theorem dX6_partsOfRead_21 : decode cX6_partsOfRead 21 = .ok (.getfield 122, 3) := by decide +kernel
theorem dX6_partsOfRead_24 : decode cX6_partsOfRead 24 = .ok (.if_icmp .ge 49, 3) := by decide +kernel
theorem dX6_partsOfRead_27 : decode cX6_partsOfRead 27 = .ok (.aload_n 0, 1) := by decide +kernel
theorem dX6_partsOfRead_28 : decode cX6_partsOfRead 28 = .ok (.getfield 25, 3) := by decide +kernel
theorem dX6_partsOfRead_31 : decode cX6_partsOfRead 31 = .ok (.iconst 3, 1) := by decide +kernel
theorem dX6_partsOfRead_32 : decode cX6_partsOfRead 32 = .ok (.iload 4, 2) := by decide +kernel
theorem dX6_partsOfRead_34 : decode cX6_partsOfRead 34 = .ok (.imul, 1) := by decide +kernel
theorem dX6_partsOfRead_35 : decode cX6_partsOfRead 35 = .ok (.iconst 2, 1) := by decide +kernel
theorem dX6_partsOfRead_36 : decode cX6_partsOfRead 36 = .ok (.iadd, 1) := by decide +kernel
theorem dX6_partsOfRead_37 : decode cX6_partsOfRead 37 = .ok (.iaload, 1) := by decide +kernel
theorem dX6_partsOfRead_38 : decode cX6_partsOfRead 38 = .ok (.iload_n 3, 1) := by decide +kernel
theorem dX6_partsOfRead_39 : decode cX6_partsOfRead 39 = .ok (.if_icmp .le 34, 3) := by decide +kernel
theorem dX6_partsOfRead_42 : decode cX6_partsOfRead 42 = .ok (.iload_n 2, 1) := by decide +kernel
theorem dX6_partsOfRead_43 : decode cX6_partsOfRead 43 = .ok (.aload_n 0, 1) := by decide +kernel
theorem dX6_partsOfRead_44 : decode cX6_partsOfRead 44 = .ok (.getfield 25, 3) := by decide +kernel
theorem dX6_partsOfRead_47 : decode cX6_partsOfRead 47 = .ok (.iconst 3, 1) := by decide +kernel
theorem dX6_partsOfRead_48 : decode cX6_partsOfRead 48 = .ok (.iload 4, 2) := by decide +kernel
theorem dX6_partsOfRead_50 : decode cX6_partsOfRead 50 = .ok (.imul, 1) := by decide +kernel
theorem dX6_partsOfRead_51 : decode cX6_partsOfRead 51 = .ok (.iconst 2, 1) := by decide +kernel
theorem dX6_partsOfRead_52 : decode cX6_partsOfRead 52 = .ok (.iadd, 1) := by decide +kernel
theorem dX6_partsOfRead_53 : decode cX6_partsOfRead 53 = .ok (.iaload, 1) := by decide +kernel
theorem dX6_partsOfRead_54 : decode cX6_partsOfRead 54 = .ok (.iload_n 3, 1) := by decide +kernel
theorem dX6_partsOfRead_55 : decode cX6_partsOfRead 55 = .ok (.iconst 1, 1) := by decide +kernel
theorem dX6_partsOfRead_56 : decode cX6_partsOfRead 56 = .ok (.iadd, 1) := by decide +kernel
theorem dX6_partsOfRead_57 : decode cX6_partsOfRead 57 = .ok (.if_icmp .ne 7, 3) := by decide +kernel
theorem dX6_partsOfRead_60 : decode cX6_partsOfRead 60 = .ok (.iconst 1, 1) := by decide +kernel
theorem dX6_partsOfRead_61 : decode cX6_partsOfRead 61 = .ok (.goto 4, 3) := by decide +kernel
theorem dX6_partsOfRead_64 : decode cX6_partsOfRead 64 = .ok (.iconst 0, 1) := by decide +kernel
theorem dX6_partsOfRead_65 : decode cX6_partsOfRead 65 = .ok (.iadd, 1) := by decide +kernel
theorem dX6_partsOfRead_66 : decode cX6_partsOfRead 66 = .ok (.istore_n 2, 1) := by decide +kernel
theorem dX6_partsOfRead_67 : decode cX6_partsOfRead 67 = .ok (.iinc 4 1, 3) := by decide +kernel
theorem dX6_partsOfRead_70 : decode cX6_partsOfRead 70 = .ok (.goto (-52), 3) := by decide +kernel
theorem dX6_partsOfRead_73 : decode cX6_partsOfRead 73 = .ok (.iload_n 2, 1) := by decide +kernel
theorem dX6_partsOfRead_74 : decode cX6_partsOfRead 74 = .ok (.ireturn, 1) := by decide +kernel
theorem dX6_planned_0 : decode cX6_planned 0 = .ok (.iload_n 1, 1) := by decide +kernel
theorem dX6_planned_1 : decode cX6_planned 1 = .ok (.iconst 0, 1) := by decide +kernel
theorem dX6_planned_2 : decode cX6_planned 2 = .ok (.iconst 3, 1) := by decide +kernel
theorem dX6_planned_3 : decode cX6_planned 3 = .ok (.invokestatic 31, 3) := by decide +kernel
theorem dX6_planned_6 : decode cX6_planned 6 = .ok (.ifCond .ne 6, 3) := by decide +kernel
theorem dX6_planned_9 : decode cX6_planned 9 = .ok (.bipush (-2), 2) := by decide +kernel
theorem dX6_planned_11 : decode cX6_planned 11 = .ok (.ireturn, 1) := by decide +kernel
theorem dX6_planned_12 : decode cX6_planned 12 = .ok (.aload_n 0, 1) := by decide +kernel
theorem dX6_planned_13 : decode cX6_planned 13 = .ok (.invokevirtual 136, 3) := by decide +kernel
theorem dX6_planned_16 : decode cX6_planned 16 = .ok (.istore_n 2, 1) := by decide +kernel
theorem dX6_planned_17 : decode cX6_planned 17 = .ok (.iload_n 2, 1) := by decide +kernel
theorem dX6_planned_18 : decode cX6_planned 18 = .ok (.bipush (-5), 2) := by decide +kernel
theorem dX6_planned_20 : decode cX6_planned 20 = .ok (.if_icmp .eq 8, 3) := by decide +kernel
theorem dX6_planned_23 : decode cX6_planned 23 = .ok (.bipush (-100), 2) := by decide +kernel
theorem dX6_planned_25 : decode cX6_planned 25 = .ok (.iload_n 2, 1) := by decide +kernel
theorem dX6_planned_26 : decode cX6_planned 26 = .ok (.isub, 1) := by decide +kernel
theorem dX6_planned_27 : decode cX6_planned 27 = .ok (.ireturn, 1) := by decide +kernel
theorem dX6_planned_28 : decode cX6_planned 28 = .ok (.iconst 0, 1) := by decide +kernel
theorem dX6_planned_29 : decode cX6_planned 29 = .ok (.istore_n 3, 1) := by decide +kernel
theorem dX6_planned_30 : decode cX6_planned 30 = .ok (.iconst 0, 1) := by decide +kernel
theorem dX6_planned_31 : decode cX6_planned 31 = .ok (.istore 4, 2) := by decide +kernel
theorem dX6_planned_33 : decode cX6_planned 33 = .ok (.iconst 0, 1) := by decide +kernel
theorem dX6_planned_34 : decode cX6_planned 34 = .ok (.istore 5, 2) := by decide +kernel
theorem dX6_planned_36 : decode cX6_planned 36 = .ok (.iconst 0, 1) := by decide +kernel
theorem dX6_planned_37 : decode cX6_planned 37 = .ok (.istore 6, 2) := by decide +kernel
theorem dX6_planned_39 : decode cX6_planned 39 = .ok (.iload 6, 2) := by decide +kernel
theorem dX6_planned_41 : decode cX6_planned 41 = .ok (.aload_n 0, 1) := by decide +kernel
theorem dX6_planned_42 : decode cX6_planned 42 = .ok (.getfield 122, 3) := by decide +kernel
theorem dX6_planned_45 : decode cX6_planned 45 = .ok (.if_icmp .ge 85, 3) := by decide +kernel
theorem dX6_planned_48 : decode cX6_planned 48 = .ok (.iload_n 3, 1) := by decide +kernel
theorem dX6_planned_49 : decode cX6_planned 49 = .ok (.aload_n 0, 1) := by decide +kernel
theorem dX6_planned_50 : decode cX6_planned 50 = .ok (.getfield 25, 3) := by decide +kernel
theorem dX6_planned_53 : decode cX6_planned 53 = .ok (.iconst 3, 1) := by decide +kernel
theorem dX6_planned_54 : decode cX6_planned 54 = .ok (.iload 6, 2) := by decide +kernel
theorem dX6_planned_56 : decode cX6_planned 56 = .ok (.imul, 1) := by decide +kernel
theorem dX6_planned_57 : decode cX6_planned 57 = .ok (.iconst 1, 1) := by decide +kernel
theorem dX6_planned_58 : decode cX6_planned 58 = .ok (.iadd, 1) := by decide +kernel
theorem dX6_planned_59 : decode cX6_planned 59 = .ok (.iaload, 1) := by decide +kernel
theorem dX6_planned_60 : decode cX6_planned 60 = .ok (.iadd, 1) := by decide +kernel
theorem dX6_planned_61 : decode cX6_planned 61 = .ok (.istore_n 3, 1) := by decide +kernel
theorem dX6_planned_62 : decode cX6_planned 62 = .ok (.aload_n 0, 1) := by decide +kernel
theorem dX6_planned_63 : decode cX6_planned 63 = .ok (.getfield 25, 3) := by decide +kernel
theorem dX6_planned_66 : decode cX6_planned 66 = .ok (.iconst 3, 1) := by decide +kernel
theorem dX6_planned_67 : decode cX6_planned 67 = .ok (.iload 6, 2) := by decide +kernel
theorem dX6_planned_69 : decode cX6_planned 69 = .ok (.imul, 1) := by decide +kernel
theorem dX6_planned_70 : decode cX6_planned 70 = .ok (.iconst 2, 1) := by decide +kernel
theorem dX6_planned_71 : decode cX6_planned 71 = .ok (.iadd, 1) := by decide +kernel
theorem dX6_planned_72 : decode cX6_planned 72 = .ok (.iaload, 1) := by decide +kernel
theorem dX6_planned_73 : decode cX6_planned 73 = .ok (.iconst 1, 1) := by decide +kernel
theorem dX6_planned_74 : decode cX6_planned 74 = .ok (.iadd, 1) := by decide +kernel
theorem dX6_planned_75 : decode cX6_planned 75 = .ok (.iload 4, 2) := by decide +kernel
theorem dX6_planned_77 : decode cX6_planned 77 = .ok (.if_icmp .le 19, 3) := by decide +kernel
theorem dX6_planned_80 : decode cX6_planned 80 = .ok (.aload_n 0, 1) := by decide +kernel
theorem dX6_planned_81 : decode cX6_planned 81 = .ok (.getfield 25, 3) := by decide +kernel
theorem dX6_planned_84 : decode cX6_planned 84 = .ok (.iconst 3, 1) := by decide +kernel
theorem dX6_planned_85 : decode cX6_planned 85 = .ok (.iload 6, 2) := by decide +kernel
theorem dX6_planned_87 : decode cX6_planned 87 = .ok (.imul, 1) := by decide +kernel
theorem dX6_planned_88 : decode cX6_planned 88 = .ok (.iconst 2, 1) := by decide +kernel
theorem dX6_planned_89 : decode cX6_planned 89 = .ok (.iadd, 1) := by decide +kernel
theorem dX6_planned_90 : decode cX6_planned 90 = .ok (.iaload, 1) := by decide +kernel
theorem dX6_planned_91 : decode cX6_planned 91 = .ok (.iconst 1, 1) := by decide +kernel
theorem dX6_planned_92 : decode cX6_planned 92 = .ok (.iadd, 1) := by decide +kernel
theorem dX6_planned_93 : decode cX6_planned 93 = .ok (.goto 5, 3) := by decide +kernel
theorem dX6_planned_96 : decode cX6_planned 96 = .ok (.iload 4, 2) := by decide +kernel
theorem dX6_planned_98 : decode cX6_planned 98 = .ok (.istore 4, 2) := by decide +kernel
theorem dX6_planned_100 : decode cX6_planned 100 = .ok (.aload_n 0, 1) := by decide +kernel
theorem dX6_planned_101 : decode cX6_planned 101 = .ok (.iload 6, 2) := by decide +kernel
theorem dX6_planned_103 : decode cX6_planned 103 = .ok (.invokevirtual 145, 3) := by decide +kernel
theorem dX6_planned_106 : decode cX6_planned 106 = .ok (.iload 5, 2) := by decide +kernel
theorem dX6_planned_108 : decode cX6_planned 108 = .ok (.if_icmp .le 12, 3) := by decide +kernel
theorem dX6_planned_111 : decode cX6_planned 111 = .ok (.aload_n 0, 1) := by decide +kernel
theorem dX6_planned_112 : decode cX6_planned 112 = .ok (.iload 6, 2) := by decide +kernel
theorem dX6_planned_114 : decode cX6_planned 114 = .ok (.invokevirtual 145, 3) := by decide +kernel
theorem dX6_planned_117 : decode cX6_planned 117 = .ok (.goto 5, 3) := by decide +kernel
theorem dX6_planned_120 : decode cX6_planned 120 = .ok (.iload 5, 2) := by decide +kernel
theorem dX6_planned_122 : decode cX6_planned 122 = .ok (.istore 5, 2) := by decide +kernel
theorem dX6_planned_124 : decode cX6_planned 124 = .ok (.iinc 6 1, 3) := by decide +kernel
theorem dX6_planned_127 : decode cX6_planned 127 = .ok (.goto (-88), 3) := by decide +kernel
theorem dX6_planned_130 : decode cX6_planned 130 = .ok (.iload_n 1, 1) := by decide +kernel
theorem dX6_planned_131 : decode cX6_planned 131 = .ok (.ifCond .ne 10, 3) := by decide +kernel
theorem dX6_planned_134 : decode cX6_planned 134 = .ok (.aload_n 0, 1) := by decide +kernel
theorem dX6_planned_135 : decode cX6_planned 135 = .ok (.getfield 122, 3) := by decide +kernel
theorem dX6_planned_138 : decode cX6_planned 138 = .ok (.goto 24, 3) := by decide +kernel
theorem dX6_planned_141 : decode cX6_planned 141 = .ok (.iload_n 1, 1) := by decide +kernel
theorem dX6_planned_142 : decode cX6_planned 142 = .ok (.iconst 1, 1) := by decide +kernel
theorem dX6_planned_143 : decode cX6_planned 143 = .ok (.if_icmp .ne 7, 3) := by decide +kernel
theorem dX6_planned_146 : decode cX6_planned 146 = .ok (.iload_n 3, 1) := by decide +kernel
theorem dX6_planned_147 : decode cX6_planned 147 = .ok (.goto 15, 3) := by decide +kernel
theorem dX6_planned_150 : decode cX6_planned 150 = .ok (.iload_n 1, 1) := by decide +kernel
theorem dX6_planned_151 : decode cX6_planned 151 = .ok (.iconst 2, 1) := by decide +kernel
theorem dX6_planned_152 : decode cX6_planned 152 = .ok (.if_icmp .ne 8, 3) := by decide +kernel
theorem dX6_planned_155 : decode cX6_planned 155 = .ok (.iload 4, 2) := by decide +kernel
theorem dX6_planned_157 : decode cX6_planned 157 = .ok (.goto 5, 3) := by decide +kernel
theorem dX6_planned_160 : decode cX6_planned 160 = .ok (.iload 5, 2) := by decide +kernel
theorem dX6_planned_162 : decode cX6_planned 162 = .ok (.ireturn, 1) := by decide +kernel
theorem dX6_pass_0 : decode cX6_pass 0 = .ok (.iload_n 1, 1) := by decide +kernel
theorem dX6_pass_1 : decode cX6_pass 1 = .ok (.iconst 1, 1) := by decide +kernel
theorem dX6_pass_2 : decode cX6_pass 2 = .ok (.bipush 100, 2) := by decide +kernel
theorem dX6_pass_4 : decode cX6_pass 4 = .ok (.invokestatic 31, 3) := by decide +kernel
theorem dX6_pass_7 : decode cX6_pass 7 = .ok (.ifCond .ne 6, 3) := by decide +kernel
theorem dX6_pass_10 : decode cX6_pass 10 = .ok (.bipush (-2), 2) := by decide +kernel
theorem dX6_pass_12 : decode cX6_pass 12 = .ok (.ireturn, 1) := by decide +kernel
theorem dX6_pass_13 : decode cX6_pass 13 = .ok (.aload_n 0, 1) := by decide +kernel
theorem dX6_pass_14 : decode cX6_pass 14 = .ok (.getfield 7, 3) := by decide +kernel
theorem dX6_pass_17 : decode cX6_pass 17 = .ok (.iconst 0, 1) := by decide +kernel
theorem dX6_pass_18 : decode cX6_pass 18 = .ok (.iaload, 1) := by decide +kernel
theorem dX6_pass_19 : decode cX6_pass 19 = .ok (.iload_n 1, 1) := by decide +kernel
theorem dX6_pass_20 : decode cX6_pass 20 = .ok (.iadd, 1) := by decide +kernel
theorem dX6_pass_21 : decode cX6_pass 21 = .ok (.ldc 148, 2) := by decide +kernel
theorem dX6_pass_23 : decode cX6_pass 23 = .ok (.if_icmp .le 6, 3) := by decide +kernel
theorem dX6_pass_26 : decode cX6_pass 26 = .ok (.bipush (-3), 2) := by decide +kernel
theorem dX6_pass_28 : decode cX6_pass 28 = .ok (.ireturn, 1) := by decide +kernel
theorem dX6_pass_29 : decode cX6_pass 29 = .ok (.aload_n 0, 1) := by decide +kernel
theorem dX6_pass_30 : decode cX6_pass 30 = .ok (.invokevirtual 107, 3) := by decide +kernel
theorem dX6_pass_33 : decode cX6_pass 33 = .ok (.iconst 0, 1) := by decide +kernel
theorem dX6_pass_34 : decode cX6_pass 34 = .ok (.istore_n 2, 1) := by decide +kernel
theorem dX6_pass_35 : decode cX6_pass 35 = .ok (.iload_n 2, 1) := by decide +kernel
theorem dX6_pass_36 : decode cX6_pass 36 = .ok (.iload_n 1, 1) := by decide +kernel
theorem dX6_pass_37 : decode cX6_pass 37 = .ok (.if_icmp .ge 13, 3) := by decide +kernel
theorem dX6_pass_40 : decode cX6_pass 40 = .ok (.aload_n 0, 1) := by decide +kernel
theorem dX6_pass_41 : decode cX6_pass 41 = .ok (.invokevirtual 149, 3) := by decide +kernel
theorem dX6_pass_44 : decode cX6_pass 44 = .ok (.iinc 2 1, 3) := by decide +kernel
theorem dX6_pass_47 : decode cX6_pass 47 = .ok (.goto (-12), 3) := by decide +kernel
theorem dX6_pass_50 : decode cX6_pass 50 = .ok (.aload_n 0, 1) := by decide +kernel
theorem dX6_pass_51 : decode cX6_pass 51 = .ok (.getfield 7, 3) := by decide +kernel
theorem dX6_pass_54 : decode cX6_pass 54 = .ok (.iconst 0, 1) := by decide +kernel
theorem dX6_pass_55 : decode cX6_pass 55 = .ok (.iaload, 1) := by decide +kernel
theorem dX6_pass_56 : decode cX6_pass 56 = .ok (.ireturn, 1) := by decide +kernel
theorem dX6_lose_0 : decode cX6_lose 0 = .ok (.iload_n 1, 1) := by decide +kernel
theorem dX6_lose_1 : decode cX6_lose 1 = .ok (.ifCond .ge 6, 3) := by decide +kernel
theorem dX6_lose_4 : decode cX6_lose 4 = .ok (.bipush (-2), 2) := by decide +kernel
theorem dX6_lose_6 : decode cX6_lose 6 = .ok (.ireturn, 1) := by decide +kernel
theorem dX6_lose_7 : decode cX6_lose 7 = .ok (.aload_n 0, 1) := by decide +kernel
theorem dX6_lose_8 : decode cX6_lose 8 = .ok (.iload_n 1, 1) := by decide +kernel
theorem dX6_lose_9 : decode cX6_lose 9 = .ok (.invokevirtual 152, 3) := by decide +kernel
theorem dX6_lose_12 : decode cX6_lose 12 = .ok (.istore_n 2, 1) := by decide +kernel
theorem dX6_lose_13 : decode cX6_lose 13 = .ok (.iload_n 2, 1) := by decide +kernel
theorem dX6_lose_14 : decode cX6_lose 14 = .ok (.bipush (-5), 2) := by decide +kernel
theorem dX6_lose_16 : decode cX6_lose 16 = .ok (.if_icmp .ne 5, 3) := by decide +kernel
theorem dX6_lose_19 : decode cX6_lose 19 = .ok (.iconst (-1), 1) := by decide +kernel
theorem dX6_lose_20 : decode cX6_lose 20 = .ok (.ireturn, 1) := by decide +kernel
theorem dX6_lose_21 : decode cX6_lose 21 = .ok (.aload_n 0, 1) := by decide +kernel
theorem dX6_lose_22 : decode cX6_lose 22 = .ok (.invokevirtual 107, 3) := by decide +kernel
theorem dX6_lose_25 : decode cX6_lose 25 = .ok (.aload_n 0, 1) := by decide +kernel
theorem dX6_lose_26 : decode cX6_lose 26 = .ok (.iload_n 2, 1) := by decide +kernel
theorem dX6_lose_27 : decode cX6_lose 27 = .ok (.iconst 0, 1) := by decide +kernel
theorem dX6_lose_28 : decode cX6_lose 28 = .ok (.invokevirtual 60, 3) := by decide +kernel
theorem dX6_lose_31 : decode cX6_lose 31 = .ok (.istore_n 3, 1) := by decide +kernel
theorem dX6_lose_32 : decode cX6_lose 32 = .ok (.aload_n 0, 1) := by decide +kernel
theorem dX6_lose_33 : decode cX6_lose 33 = .ok (.iload_n 2, 1) := by decide +kernel
theorem dX6_lose_34 : decode cX6_lose 34 = .ok (.iconst 3, 1) := by decide +kernel
theorem dX6_lose_35 : decode cX6_lose 35 = .ok (.invokevirtual 60, 3) := by decide +kernel
theorem dX6_lose_38 : decode cX6_lose 38 = .ok (.istore 4, 2) := by decide +kernel
theorem dX6_lose_40 : decode cX6_lose 40 = .ok (.aload_n 0, 1) := by decide +kernel
theorem dX6_lose_41 : decode cX6_lose 41 = .ok (.iload_n 2, 1) := by decide +kernel
theorem dX6_lose_42 : decode cX6_lose 42 = .ok (.iconst 5, 1) := by decide +kernel
theorem dX6_lose_43 : decode cX6_lose 43 = .ok (.invokevirtual 60, 3) := by decide +kernel
theorem dX6_lose_46 : decode cX6_lose 46 = .ok (.iconst 1, 1) := by decide +kernel
theorem dX6_lose_47 : decode cX6_lose 47 = .ok (.isub, 1) := by decide +kernel
theorem dX6_lose_48 : decode cX6_lose 48 = .ok (.istore 5, 2) := by decide +kernel
theorem dX6_lose_50 : decode cX6_lose 50 = .ok (.iload_n 3, 1) := by decide +kernel
theorem dX6_lose_51 : decode cX6_lose 51 = .ok (.ifCond .ne 9, 3) := by decide +kernel
theorem dX6_lose_54 : decode cX6_lose 54 = .ok (.aload_n 0, 1) := by decide +kernel
theorem dX6_lose_55 : decode cX6_lose 55 = .ok (.iload 5, 2) := by decide +kernel
theorem dX6_lose_57 : decode cX6_lose 57 = .ok (.invokevirtual 155, 3) := by decide +kernel
theorem dX6_lose_60 : decode cX6_lose 60 = .ok (.iload_n 3, 1) := by decide +kernel
theorem dX6_lose_61 : decode cX6_lose 61 = .ok (.iconst 1, 1) := by decide +kernel
theorem dX6_lose_62 : decode cX6_lose 62 = .ok (.if_icmp .eq 8, 3) := by decide +kernel
theorem dX6_lose_65 : decode cX6_lose 65 = .ok (.iload_n 3, 1) := by decide +kernel
theorem dX6_lose_66 : decode cX6_lose 66 = .ok (.iconst 2, 1) := by decide +kernel
theorem dX6_lose_67 : decode cX6_lose 67 = .ok (.if_icmp .ne 25, 3) := by decide +kernel
theorem dX6_lose_70 : decode cX6_lose 70 = .ok (.aload_n 0, 1) := by decide +kernel
theorem dX6_lose_71 : decode cX6_lose 71 = .ok (.aload_n 0, 1) := by decide +kernel
theorem dX6_lose_72 : decode cX6_lose 72 = .ok (.iload_n 2, 1) := by decide +kernel
theorem dX6_lose_73 : decode cX6_lose 73 = .ok (.iload_n 3, 1) := by decide +kernel
theorem dX6_lose_74 : decode cX6_lose 74 = .ok (.iconst 1, 1) := by decide +kernel
theorem dX6_lose_75 : decode cX6_lose 75 = .ok (.if_icmp .ne 7, 3) := by decide +kernel
theorem dX6_lose_78 : decode cX6_lose 78 = .ok (.iconst 1, 1) := by decide +kernel
theorem dX6_lose_79 : decode cX6_lose 79 = .ok (.goto 4, 3) := by decide +kernel
theorem dX6_lose_82 : decode cX6_lose 82 = .ok (.iconst 2, 1) := by decide +kernel
theorem dX6_lose_83 : decode cX6_lose 83 = .ok (.invokevirtual 60, 3) := by decide +kernel
theorem dX6_lose_86 : decode cX6_lose 86 = .ok (.bipush 8, 2) := by decide +kernel
theorem dX6_lose_88 : decode cX6_lose 88 = .ok (.iconst 1, 1) := by decide +kernel
theorem dX6_lose_89 : decode cX6_lose 89 = .ok (.invokevirtual 77, 3) := by decide +kernel
theorem dX6_lose_92 : decode cX6_lose 92 = .ok (.aload_n 0, 1) := by decide +kernel
theorem dX6_lose_93 : decode cX6_lose 93 = .ok (.iload_n 2, 1) := by decide +kernel
theorem dX6_lose_94 : decode cX6_lose 94 = .ok (.invokevirtual 84, 3) := by decide +kernel
theorem dX6_lose_97 : decode cX6_lose 97 = .ok (.aload_n 0, 1) := by decide +kernel
theorem dX6_lose_98 : decode cX6_lose 98 = .ok (.getfield 7, 3) := by decide +kernel
theorem dX6_lose_101 : decode cX6_lose 101 = .ok (.iconst 3, 1) := by decide +kernel
theorem dX6_lose_102 : decode cX6_lose 102 = .ok (.dup2, 1) := by decide +kernel
theorem dX6_lose_103 : decode cX6_lose 103 = .ok (.iaload, 1) := by decide +kernel
theorem dX6_lose_104 : decode cX6_lose 104 = .ok (.iload 4, 2) := by decide +kernel
theorem dX6_lose_106 : decode cX6_lose 106 = .ok (.iadd, 1) := by decide +kernel
theorem dX6_lose_107 : decode cX6_lose 107 = .ok (.iastore, 1) := by decide +kernel
theorem dX6_lose_108 : decode cX6_lose 108 = .ok (.aload_n 0, 1) := by decide +kernel
theorem dX6_lose_109 : decode cX6_lose 109 = .ok (.getfield 7, 3) := by decide +kernel
theorem dX6_lose_112 : decode cX6_lose 112 = .ok (.bipush 7, 2) := by decide +kernel
theorem dX6_lose_114 : decode cX6_lose 114 = .ok (.dup2, 1) := by decide +kernel
theorem dX6_lose_115 : decode cX6_lose 115 = .ok (.iaload, 1) := by decide +kernel
theorem dX6_lose_116 : decode cX6_lose 116 = .ok (.iconst 1, 1) := by decide +kernel
theorem dX6_lose_117 : decode cX6_lose 117 = .ok (.iadd, 1) := by decide +kernel
theorem dX6_lose_118 : decode cX6_lose 118 = .ok (.iastore, 1) := by decide +kernel
theorem dX6_lose_119 : decode cX6_lose 119 = .ok (.aload_n 0, 1) := by decide +kernel
theorem dX6_lose_120 : decode cX6_lose 120 = .ok (.getfield 7, 3) := by decide +kernel
theorem dX6_lose_123 : decode cX6_lose 123 = .ok (.bipush 11, 2) := by decide +kernel
theorem dX6_lose_125 : decode cX6_lose 125 = .ok (.iconst 1, 1) := by decide +kernel
theorem dX6_lose_126 : decode cX6_lose 126 = .ok (.iastore, 1) := by decide +kernel
theorem dX6_lose_127 : decode cX6_lose 127 = .ok (.iload 4, 2) := by decide +kernel
theorem dX6_lose_129 : decode cX6_lose 129 = .ok (.ireturn, 1) := by decide +kernel
theorem dX6_makeGood_0 : decode cX6_makeGood 0 = .ok (.aload_n 0, 1) := by decide +kernel
theorem dX6_makeGood_1 : decode cX6_makeGood 1 = .ok (.getfield 7, 3) := by decide +kernel
theorem dX6_makeGood_4 : decode cX6_makeGood 4 = .ok (.bipush 11, 2) := by decide +kernel
theorem dX6_makeGood_6 : decode cX6_makeGood 6 = .ok (.iaload, 1) := by decide +kernel
theorem dX6_makeGood_7 : decode cX6_makeGood 7 = .ok (.ifCond .ne 6, 3) := by decide +kernel
theorem dX6_makeGood_10 : decode cX6_makeGood 10 = .ok (.bipush (-5), 2) := by decide +kernel
theorem dX6_makeGood_12 : decode cX6_makeGood 12 = .ok (.ireturn, 1) := by decide +kernel
theorem dX6_makeGood_13 : decode cX6_makeGood 13 = .ok (.aload_n 0, 1) := by decide +kernel
theorem dX6_makeGood_14 : decode cX6_makeGood 14 = .ok (.invokevirtual 107, 3) := by decide +kernel
theorem dX6_makeGood_17 : decode cX6_makeGood 17 = .ok (.aload_n 0, 1) := by decide +kernel
theorem dX6_makeGood_18 : decode cX6_makeGood 18 = .ok (.getfield 7, 3) := by decide +kernel
theorem dX6_makeGood_21 : decode cX6_makeGood 21 = .ok (.iconst 3, 1) := by decide +kernel
theorem dX6_makeGood_22 : decode cX6_makeGood 22 = .ok (.iaload, 1) := by decide +kernel
theorem dX6_makeGood_23 : decode cX6_makeGood 23 = .ok (.istore_n 1, 1) := by decide +kernel
theorem dX6_makeGood_24 : decode cX6_makeGood 24 = .ok (.aload_n 0, 1) := by decide +kernel
theorem dX6_makeGood_25 : decode cX6_makeGood 25 = .ok (.getfield 7, 3) := by decide +kernel
theorem dX6_makeGood_28 : decode cX6_makeGood 28 = .ok (.iconst 2, 1) := by decide +kernel
theorem dX6_makeGood_29 : decode cX6_makeGood 29 = .ok (.dup2, 1) := by decide +kernel
theorem dX6_makeGood_30 : decode cX6_makeGood 30 = .ok (.iaload, 1) := by decide +kernel
theorem dX6_makeGood_31 : decode cX6_makeGood 31 = .ok (.iload_n 1, 1) := by decide +kernel
theorem dX6_makeGood_32 : decode cX6_makeGood 32 = .ok (.iadd, 1) := by decide +kernel
theorem dX6_makeGood_33 : decode cX6_makeGood 33 = .ok (.iastore, 1) := by decide +kernel
theorem dX6_makeGood_34 : decode cX6_makeGood 34 = .ok (.aload_n 0, 1) := by decide +kernel
theorem dX6_makeGood_35 : decode cX6_makeGood 35 = .ok (.getfield 7, 3) := by decide +kernel
theorem dX6_makeGood_38 : decode cX6_makeGood 38 = .ok (.iconst 3, 1) := by decide +kernel
theorem dX6_makeGood_39 : decode cX6_makeGood 39 = .ok (.iconst 0, 1) := by decide +kernel
theorem dX6_makeGood_40 : decode cX6_makeGood 40 = .ok (.iastore, 1) := by decide +kernel
theorem dX6_makeGood_41 : decode cX6_makeGood 41 = .ok (.aload_n 0, 1) := by decide +kernel
theorem dX6_makeGood_42 : decode cX6_makeGood 42 = .ok (.getfield 7, 3) := by decide +kernel
theorem dX6_makeGood_45 : decode cX6_makeGood 45 = .ok (.bipush 11, 2) := by decide +kernel
theorem dX6_makeGood_47 : decode cX6_makeGood 47 = .ok (.iconst 0, 1) := by decide +kernel
theorem dX6_makeGood_48 : decode cX6_makeGood 48 = .ok (.iastore, 1) := by decide +kernel
theorem dX6_makeGood_49 : decode cX6_makeGood 49 = .ok (.iconst 0, 1) := by decide +kernel
theorem dX6_makeGood_50 : decode cX6_makeGood 50 = .ok (.istore_n 2, 1) := by decide +kernel
theorem dX6_makeGood_51 : decode cX6_makeGood 51 = .ok (.iload_n 2, 1) := by decide +kernel
theorem dX6_makeGood_52 : decode cX6_makeGood 52 = .ok (.bipush 6, 2) := by decide +kernel
theorem dX6_makeGood_54 : decode cX6_makeGood 54 = .ok (.if_icmp .ge 40, 3) := by decide +kernel
theorem dX6_makeGood_57 : decode cX6_makeGood 57 = .ok (.aload_n 0, 1) := by decide +kernel
theorem dX6_makeGood_58 : decode cX6_makeGood 58 = .ok (.iload_n 2, 1) := by decide +kernel
theorem dX6_makeGood_59 : decode cX6_makeGood 59 = .ok (.bipush 8, 2) := by decide +kernel
theorem dX6_makeGood_61 : decode cX6_makeGood 61 = .ok (.invokevirtual 67, 3) := by decide +kernel
theorem dX6_makeGood_64 : decode cX6_makeGood 64 = .ok (.iconst 1, 1) := by decide +kernel
theorem dX6_makeGood_65 : decode cX6_makeGood 65 = .ok (.if_icmp .ne 23, 3) := by decide +kernel
theorem dX6_makeGood_68 : decode cX6_makeGood 68 = .ok (.aload_n 0, 1) := by decide +kernel
theorem dX6_makeGood_69 : decode cX6_makeGood 69 = .ok (.iload_n 2, 1) := by decide +kernel
theorem dX6_makeGood_70 : decode cX6_makeGood 70 = .ok (.bipush 8, 2) := by decide +kernel
theorem dX6_makeGood_72 : decode cX6_makeGood 72 = .ok (.iconst 0, 1) := by decide +kernel
theorem dX6_makeGood_73 : decode cX6_makeGood 73 = .ok (.invokevirtual 77, 3) := by decide +kernel
theorem dX6_makeGood_76 : decode cX6_makeGood 76 = .ok (.aload_n 0, 1) := by decide +kernel
theorem dX6_makeGood_77 : decode cX6_makeGood 77 = .ok (.iload_n 2, 1) := by decide +kernel
theorem dX6_makeGood_78 : decode cX6_makeGood 78 = .ok (.iconst 3, 1) := by decide +kernel
theorem dX6_makeGood_79 : decode cX6_makeGood 79 = .ok (.iconst 0, 1) := by decide +kernel
theorem dX6_makeGood_80 : decode cX6_makeGood 80 = .ok (.invokevirtual 77, 3) := by decide +kernel
theorem dX6_makeGood_83 : decode cX6_makeGood 83 = .ok (.aload_n 0, 1) := by decide +kernel
theorem dX6_makeGood_84 : decode cX6_makeGood 84 = .ok (.iload_n 2, 1) := by decide +kernel
theorem dX6_makeGood_85 : decode cX6_makeGood 85 = .ok (.invokevirtual 80, 3) := by decide +kernel
theorem dX6_makeGood_88 : decode cX6_makeGood 88 = .ok (.iinc 2 1, 3) := by decide +kernel
theorem dX6_makeGood_91 : decode cX6_makeGood 91 = .ok (.goto (-40), 3) := by decide +kernel
theorem dX6_makeGood_94 : decode cX6_makeGood 94 = .ok (.iload_n 1, 1) := by decide +kernel
theorem dX6_makeGood_95 : decode cX6_makeGood 95 = .ok (.ireturn, 1) := by decide +kernel
theorem dX6_undo_0 : decode cX6_undo 0 = .ok (.aload_n 0, 1) := by decide +kernel
theorem dX6_undo_1 : decode cX6_undo 1 = .ok (.getfield 35, 3) := by decide +kernel
theorem dX6_undo_4 : decode cX6_undo 4 = .ok (.ifCond .ne 6, 3) := by decide +kernel
theorem dX6_undo_7 : decode cX6_undo 7 = .ok (.bipush (-5), 2) := by decide +kernel
theorem dX6_undo_9 : decode cX6_undo 9 = .ok (.ireturn, 1) := by decide +kernel
theorem dX6_undo_10 : decode cX6_undo 10 = .ok (.aload_n 0, 1) := by decide +kernel
theorem dX6_undo_11 : decode cX6_undo 11 = .ok (.dup, 1) := by decide +kernel
theorem dX6_undo_12 : decode cX6_undo 12 = .ok (.getfield 35, 3) := by decide +kernel
theorem dX6_undo_15 : decode cX6_undo 15 = .ok (.iconst 1, 1) := by decide +kernel
theorem dX6_undo_16 : decode cX6_undo 16 = .ok (.isub, 1) := by decide +kernel
theorem dX6_undo_17 : decode cX6_undo 17 = .ok (.putfield 35, 3) := by decide +kernel
theorem dX6_undo_20 : decode cX6_undo 20 = .ok (.iconst 0, 1) := by decide +kernel
theorem dX6_undo_21 : decode cX6_undo 21 = .ok (.istore_n 1, 1) := by decide +kernel
theorem dX6_undo_22 : decode cX6_undo 22 = .ok (.iload_n 1, 1) := by decide +kernel
theorem dX6_undo_23 : decode cX6_undo 23 = .ok (.sipush 1372, 3) := by decide +kernel
theorem dX6_undo_26 : decode cX6_undo 26 = .ok (.if_icmp .ge 30, 3) := by decide +kernel
theorem dX6_undo_29 : decode cX6_undo 29 = .ok (.aload_n 0, 1) := by decide +kernel
theorem dX6_undo_30 : decode cX6_undo 30 = .ok (.getfield 7, 3) := by decide +kernel
theorem dX6_undo_33 : decode cX6_undo 33 = .ok (.iload_n 1, 1) := by decide +kernel
theorem dX6_undo_34 : decode cX6_undo 34 = .ok (.aload_n 0, 1) := by decide +kernel
theorem dX6_undo_35 : decode cX6_undo 35 = .ok (.getfield 13, 3) := by decide +kernel
theorem dX6_undo_38 : decode cX6_undo 38 = .ok (.sipush 1372, 3) := by decide +kernel
theorem dX6_undo_41 : decode cX6_undo 41 = .ok (.aload_n 0, 1) := by decide +kernel
theorem dX6_undo_42 : decode cX6_undo 42 = .ok (.getfield 35, 3) := by decide +kernel
theorem dX6_undo_45 : decode cX6_undo 45 = .ok (.imul, 1) := by decide +kernel
theorem dX6_undo_46 : decode cX6_undo 46 = .ok (.iload_n 1, 1) := by decide +kernel
theorem dX6_undo_47 : decode cX6_undo 47 = .ok (.iadd, 1) := by decide +kernel
theorem dX6_undo_48 : decode cX6_undo 48 = .ok (.iaload, 1) := by decide +kernel
theorem dX6_undo_49 : decode cX6_undo 49 = .ok (.iastore, 1) := by decide +kernel
theorem dX6_undo_50 : decode cX6_undo 50 = .ok (.iinc 1 1, 3) := by decide +kernel
theorem dX6_undo_53 : decode cX6_undo 53 = .ok (.goto (-31), 3) := by decide +kernel
theorem dX6_undo_56 : decode cX6_undo 56 = .ok (.aload_n 0, 1) := by decide +kernel
theorem dX6_undo_57 : decode cX6_undo 57 = .ok (.getfield 35, 3) := by decide +kernel
theorem dX6_undo_60 : decode cX6_undo 60 = .ok (.ireturn, 1) := by decide +kernel
theorem dX6_keep_0 : decode cX6_keep 0 = .ok (.aload_n 0, 1) := by decide +kernel
theorem dX6_keep_1 : decode cX6_keep 1 = .ok (.getfield 7, 3) := by decide +kernel
theorem dX6_keep_4 : decode cX6_keep 4 = .ok (.aload_n 0, 1) := by decide +kernel
theorem dX6_keep_5 : decode cX6_keep 5 = .ok (.getfield 16, 3) := by decide +kernel
theorem dX6_keep_8 : decode cX6_keep 8 = .ok (.invokestatic 158, 3) := by decide +kernel
theorem dX6_keep_11 : decode cX6_keep 11 = .ok (.aload_n 0, 1) := by decide +kernel
theorem dX6_keep_12 : decode cX6_keep 12 = .ok (.iconst 1, 1) := by decide +kernel
theorem dX6_keep_13 : decode cX6_keep 13 = .ok (.putfield 162, 3) := by decide +kernel
theorem dX6_keep_16 : decode cX6_keep 16 = .ok (.aload_n 0, 1) := by decide +kernel
theorem dX6_keep_17 : decode cX6_keep 17 = .ok (.getfield 7, 3) := by decide +kernel
theorem dX6_keep_20 : decode cX6_keep 20 = .ok (.iconst 0, 1) := by decide +kernel
theorem dX6_keep_21 : decode cX6_keep 21 = .ok (.iaload, 1) := by decide +kernel
theorem dX6_keep_22 : decode cX6_keep 22 = .ok (.ireturn, 1) := by decide +kernel
theorem dX6_restore_0 : decode cX6_restore 0 = .ok (.aload_n 0, 1) := by decide +kernel
theorem dX6_restore_1 : decode cX6_restore 1 = .ok (.getfield 162, 3) := by decide +kernel
theorem dX6_restore_4 : decode cX6_restore 4 = .ok (.ifCond .ne 6, 3) := by decide +kernel
theorem dX6_restore_7 : decode cX6_restore 7 = .ok (.bipush (-5), 2) := by decide +kernel
theorem dX6_restore_9 : decode cX6_restore 9 = .ok (.ireturn, 1) := by decide +kernel
theorem dX6_restore_10 : decode cX6_restore 10 = .ok (.aload_n 0, 1) := by decide +kernel
theorem dX6_restore_11 : decode cX6_restore 11 = .ok (.invokevirtual 107, 3) := by decide +kernel
theorem dX6_restore_14 : decode cX6_restore 14 = .ok (.aload_n 0, 1) := by decide +kernel
theorem dX6_restore_15 : decode cX6_restore 15 = .ok (.getfield 16, 3) := by decide +kernel
theorem dX6_restore_18 : decode cX6_restore 18 = .ok (.aload_n 0, 1) := by decide +kernel
theorem dX6_restore_19 : decode cX6_restore 19 = .ok (.getfield 7, 3) := by decide +kernel
theorem dX6_restore_22 : decode cX6_restore 22 = .ok (.invokestatic 158, 3) := by decide +kernel
theorem dX6_restore_25 : decode cX6_restore 25 = .ok (.aload_n 0, 1) := by decide +kernel
theorem dX6_restore_26 : decode cX6_restore 26 = .ok (.getfield 7, 3) := by decide +kernel
theorem dX6_restore_29 : decode cX6_restore 29 = .ok (.iconst 0, 1) := by decide +kernel
theorem dX6_restore_30 : decode cX6_restore 30 = .ok (.iaload, 1) := by decide +kernel
theorem dX6_restore_31 : decode cX6_restore 31 = .ok (.ireturn, 1) := by decide +kernel
theorem dX6_time_0 : decode cX6_time 0 = .ok (.iload_n 1, 1) := by decide +kernel
theorem dX6_time_1 : decode cX6_time 1 = .ok (.invokestatic 103, 3) := by decide +kernel
theorem dX6_time_4 : decode cX6_time 4 = .ok (.ifCond .eq 27, 3) := by decide +kernel
theorem dX6_time_7 : decode cX6_time 7 = .ok (.iload_n 2, 1) := by decide +kernel
theorem dX6_time_8 : decode cX6_time 8 = .ok (.invokestatic 103, 3) := by decide +kernel
theorem dX6_time_11 : decode cX6_time 11 = .ok (.ifCond .eq 20, 3) := by decide +kernel
theorem dX6_time_14 : decode cX6_time 14 = .ok (.aload_n 0, 1) := by decide +kernel
theorem dX6_time_15 : decode cX6_time 15 = .ok (.getfield 7, 3) := by decide +kernel
theorem dX6_time_18 : decode cX6_time 18 = .ok (.bipush 12, 2) := by decide +kernel
theorem dX6_time_20 : decode cX6_time 20 = .ok (.bipush 6, 2) := by decide +kernel
theorem dX6_time_22 : decode cX6_time 22 = .ok (.iload_n 1, 1) := by decide +kernel
theorem dX6_time_23 : decode cX6_time 23 = .ok (.imul, 1) := by decide +kernel
theorem dX6_time_24 : decode cX6_time 24 = .ok (.iadd, 1) := by decide +kernel
theorem dX6_time_25 : decode cX6_time 25 = .ok (.iload_n 2, 1) := by decide +kernel
theorem dX6_time_26 : decode cX6_time 26 = .ok (.iadd, 1) := by decide +kernel
theorem dX6_time_27 : decode cX6_time 27 = .ok (.iaload, 1) := by decide +kernel
theorem dX6_time_28 : decode cX6_time 28 = .ok (.goto 4, 3) := by decide +kernel
theorem dX6_time_31 : decode cX6_time 31 = .ok (.iconst (-1), 1) := by decide +kernel
theorem dX6_time_32 : decode cX6_time 32 = .ok (.ireturn, 1) := by decide +kernel
theorem dX6_bankTime_0 : decode cX6_bankTime 0 = .ok (.iload_n 1, 1) := by decide +kernel
theorem dX6_bankTime_1 : decode cX6_bankTime 1 = .ok (.invokestatic 103, 3) := by decide +kernel
theorem dX6_bankTime_4 : decode cX6_bankTime 4 = .ok (.ifCond .eq 15, 3) := by decide +kernel
theorem dX6_bankTime_7 : decode cX6_bankTime 7 = .ok (.aload_n 0, 1) := by decide +kernel
theorem dX6_bankTime_8 : decode cX6_bankTime 8 = .ok (.getfield 7, 3) := by decide +kernel
theorem dX6_bankTime_11 : decode cX6_bankTime 11 = .ok (.bipush 48, 2) := by decide +kernel
theorem dX6_bankTime_13 : decode cX6_bankTime 13 = .ok (.iload_n 1, 1) := by decide +kernel
theorem dX6_bankTime_14 : decode cX6_bankTime 14 = .ok (.iadd, 1) := by decide +kernel
theorem dX6_bankTime_15 : decode cX6_bankTime 15 = .ok (.iaload, 1) := by decide +kernel
theorem dX6_bankTime_16 : decode cX6_bankTime 16 = .ok (.goto 4, 3) := by decide +kernel
theorem dX6_bankTime_19 : decode cX6_bankTime 19 = .ok (.iconst (-1), 1) := by decide +kernel
theorem dX6_bankTime_20 : decode cX6_bankTime 20 = .ok (.ireturn, 1) := by decide +kernel
theorem dX6_house_0 : decode cX6_house 0 = .ok (.iload_n 1, 1) := by decide +kernel
theorem dX6_house_1 : decode cX6_house 1 = .ok (.invokestatic 103, 3) := by decide +kernel
theorem dX6_house_4 : decode cX6_house 4 = .ok (.ifCond .ne 5, 3) := by decide +kernel
theorem dX6_house_7 : decode cX6_house 7 = .ok (.iconst (-1), 1) := by decide +kernel
theorem dX6_house_8 : decode cX6_house 8 = .ok (.ireturn, 1) := by decide +kernel
theorem dX6_house_9 : decode cX6_house 9 = .ok (.iload_n 2, 1) := by decide +kernel
theorem dX6_house_10 : decode cX6_house 10 = .ok (.tableswitch 75 0 8 #[50, 50, 50, 57, 66, 66, 66, 66, 66], 50) := by decide +kernel
theorem dX6_house_60 : decode cX6_house 60 = .ok (.aload_n 0, 1) := by decide +kernel
theorem dX6_house_61 : decode cX6_house 61 = .ok (.iload_n 1, 1) := by decide +kernel
theorem dX6_house_62 : decode cX6_house 62 = .ok (.iload_n 2, 1) := by decide +kernel
theorem dX6_house_63 : decode cX6_house 63 = .ok (.invokevirtual 67, 3) := by decide +kernel
theorem dX6_house_66 : decode cX6_house 66 = .ok (.ireturn, 1) := by decide +kernel
theorem dX6_house_67 : decode cX6_house 67 = .ok (.aload_n 0, 1) := by decide +kernel
theorem dX6_house_68 : decode cX6_house 68 = .ok (.iload_n 1, 1) := by decide +kernel
theorem dX6_house_69 : decode cX6_house 69 = .ok (.iconst 1, 1) := by decide +kernel
theorem dX6_house_70 : decode cX6_house 70 = .ok (.iadd, 1) := by decide +kernel
theorem dX6_house_71 : decode cX6_house 71 = .ok (.iconst 0, 1) := by decide +kernel
theorem dX6_house_72 : decode cX6_house 72 = .ok (.invokevirtual 46, 3) := by decide +kernel
theorem dX6_house_75 : decode cX6_house 75 = .ok (.ireturn, 1) := by decide +kernel
theorem dX6_house_76 : decode cX6_house 76 = .ok (.aload_n 0, 1) := by decide +kernel
theorem dX6_house_77 : decode cX6_house 77 = .ok (.iload_n 1, 1) := by decide +kernel
theorem dX6_house_78 : decode cX6_house 78 = .ok (.iload_n 2, 1) := by decide +kernel
theorem dX6_house_79 : decode cX6_house 79 = .ok (.iconst 1, 1) := by decide +kernel
theorem dX6_house_80 : decode cX6_house 80 = .ok (.isub, 1) := by decide +kernel
theorem dX6_house_81 : decode cX6_house 81 = .ok (.invokevirtual 67, 3) := by decide +kernel
theorem dX6_house_84 : decode cX6_house 84 = .ok (.ireturn, 1) := by decide +kernel
theorem dX6_house_85 : decode cX6_house 85 = .ok (.bipush (-2), 2) := by decide +kernel
theorem dX6_house_87 : decode cX6_house 87 = .ok (.ireturn, 1) := by decide +kernel
theorem dX6_waitingAt_0 : decode cX6_waitingAt 0 = .ok (.iconst 0, 1) := by decide +kernel
theorem dX6_waitingAt_1 : decode cX6_waitingAt 1 = .ok (.istore_n 3, 1) := by decide +kernel
theorem dX6_waitingAt_2 : decode cX6_waitingAt 2 = .ok (.iload_n 3, 1) := by decide +kernel
theorem dX6_waitingAt_3 : decode cX6_waitingAt 3 = .ok (.bipush 80, 2) := by decide +kernel
theorem dX6_waitingAt_5 : decode cX6_waitingAt 5 = .ok (.if_icmp .ge 87, 3) := by decide +kernel
theorem dX6_waitingAt_8 : decode cX6_waitingAt 8 = .ok (.aload_n 0, 1) := by decide +kernel
theorem dX6_waitingAt_9 : decode cX6_waitingAt 9 = .ok (.iload_n 3, 1) := by decide +kernel
theorem dX6_waitingAt_10 : decode cX6_waitingAt 10 = .ok (.iconst 4, 1) := by decide +kernel
theorem dX6_waitingAt_11 : decode cX6_waitingAt 11 = .ok (.invokevirtual 39, 3) := by decide +kernel
theorem dX6_waitingAt_14 : decode cX6_waitingAt 14 = .ok (.iload_n 1, 1) := by decide +kernel
theorem dX6_waitingAt_15 : decode cX6_waitingAt 15 = .ok (.iconst 1, 1) := by decide +kernel
theorem dX6_waitingAt_16 : decode cX6_waitingAt 16 = .ok (.iadd, 1) := by decide +kernel
theorem dX6_waitingAt_17 : decode cX6_waitingAt 17 = .ok (.if_icmp .ne 69, 3) := by decide +kernel
theorem dX6_waitingAt_20 : decode cX6_waitingAt 20 = .ok (.iconst 0, 1) := by decide +kernel
theorem dX6_waitingAt_21 : decode cX6_waitingAt 21 = .ok (.istore 4, 2) := by decide +kernel
theorem dX6_waitingAt_23 : decode cX6_waitingAt 23 = .ok (.iconst 0, 1) := by decide +kernel
theorem dX6_waitingAt_24 : decode cX6_waitingAt 24 = .ok (.istore 5, 2) := by decide +kernel
theorem dX6_waitingAt_26 : decode cX6_waitingAt 26 = .ok (.iload 5, 2) := by decide +kernel
theorem dX6_waitingAt_28 : decode cX6_waitingAt 28 = .ok (.bipush 80, 2) := by decide +kernel
theorem dX6_waitingAt_30 : decode cX6_waitingAt 30 = .ok (.if_icmp .ge 48, 3) := by decide +kernel
theorem dX6_waitingAt_33 : decode cX6_waitingAt 33 = .ok (.iload 4, 2) := by decide +kernel
theorem dX6_waitingAt_35 : decode cX6_waitingAt 35 = .ok (.aload_n 0, 1) := by decide +kernel
theorem dX6_waitingAt_36 : decode cX6_waitingAt 36 = .ok (.iload 5, 2) := by decide +kernel
theorem dX6_waitingAt_38 : decode cX6_waitingAt 38 = .ok (.iconst 4, 1) := by decide +kernel
theorem dX6_waitingAt_39 : decode cX6_waitingAt 39 = .ok (.invokevirtual 39, 3) := by decide +kernel
theorem dX6_waitingAt_42 : decode cX6_waitingAt 42 = .ok (.iload_n 1, 1) := by decide +kernel
theorem dX6_waitingAt_43 : decode cX6_waitingAt 43 = .ok (.iconst 1, 1) := by decide +kernel
theorem dX6_waitingAt_44 : decode cX6_waitingAt 44 = .ok (.iadd, 1) := by decide +kernel
theorem dX6_waitingAt_45 : decode cX6_waitingAt 45 = .ok (.if_icmp .ne 23, 3) := by decide +kernel
theorem dX6_waitingAt_48 : decode cX6_waitingAt 48 = .ok (.aload_n 0, 1) := by decide +kernel
theorem dX6_waitingAt_49 : decode cX6_waitingAt 49 = .ok (.iload 5, 2) := by decide +kernel
theorem dX6_waitingAt_51 : decode cX6_waitingAt 51 = .ok (.iconst 3, 1) := by decide +kernel
theorem dX6_waitingAt_52 : decode cX6_waitingAt 52 = .ok (.invokevirtual 39, 3) := by decide +kernel
theorem dX6_waitingAt_55 : decode cX6_waitingAt 55 = .ok (.aload_n 0, 1) := by decide +kernel
theorem dX6_waitingAt_56 : decode cX6_waitingAt 56 = .ok (.iload_n 3, 1) := by decide +kernel
theorem dX6_waitingAt_57 : decode cX6_waitingAt 57 = .ok (.iconst 3, 1) := by decide +kernel
theorem dX6_waitingAt_58 : decode cX6_waitingAt 58 = .ok (.invokevirtual 39, 3) := by decide +kernel
theorem dX6_waitingAt_61 : decode cX6_waitingAt 61 = .ok (.if_icmp .ge 7, 3) := by decide +kernel
theorem dX6_waitingAt_64 : decode cX6_waitingAt 64 = .ok (.iconst 1, 1) := by decide +kernel
theorem dX6_waitingAt_65 : decode cX6_waitingAt 65 = .ok (.goto 4, 3) := by decide +kernel
theorem dX6_waitingAt_68 : decode cX6_waitingAt 68 = .ok (.iconst 0, 1) := by decide +kernel
theorem dX6_waitingAt_69 : decode cX6_waitingAt 69 = .ok (.iadd, 1) := by decide +kernel
theorem dX6_waitingAt_70 : decode cX6_waitingAt 70 = .ok (.istore 4, 2) := by decide +kernel
theorem dX6_waitingAt_72 : decode cX6_waitingAt 72 = .ok (.iinc 5 1, 3) := by decide +kernel
theorem dX6_waitingAt_75 : decode cX6_waitingAt 75 = .ok (.goto (-49), 3) := by decide +kernel
theorem dX6_waitingAt_78 : decode cX6_waitingAt 78 = .ok (.iload 4, 2) := by decide +kernel
theorem dX6_waitingAt_80 : decode cX6_waitingAt 80 = .ok (.iload_n 2, 1) := by decide +kernel
theorem dX6_waitingAt_81 : decode cX6_waitingAt 81 = .ok (.if_icmp .ne 5, 3) := by decide +kernel
theorem dX6_waitingAt_84 : decode cX6_waitingAt 84 = .ok (.iload_n 3, 1) := by decide +kernel
theorem dX6_waitingAt_85 : decode cX6_waitingAt 85 = .ok (.ireturn, 1) := by decide +kernel
theorem dX6_waitingAt_86 : decode cX6_waitingAt 86 = .ok (.iinc 3 1, 3) := by decide +kernel
theorem dX6_waitingAt_89 : decode cX6_waitingAt 89 = .ok (.goto (-87), 3) := by decide +kernel
theorem dX6_waitingAt_92 : decode cX6_waitingAt 92 = .ok (.bipush (-5), 2) := by decide +kernel
theorem dX6_waitingAt_94 : decode cX6_waitingAt 94 = .ok (.ireturn, 1) := by decide +kernel
theorem dX6_waiting_0 : decode cX6_waiting 0 = .ok (.iload_n 1, 1) := by decide +kernel
theorem dX6_waiting_1 : decode cX6_waiting 1 = .ok (.invokestatic 103, 3) := by decide +kernel
theorem dX6_waiting_4 : decode cX6_waiting 4 = .ok (.ifCond .ne 5, 3) := by decide +kernel
theorem dX6_waiting_7 : decode cX6_waiting 7 = .ok (.iconst (-1), 1) := by decide +kernel
theorem dX6_waiting_8 : decode cX6_waiting 8 = .ok (.ireturn, 1) := by decide +kernel
theorem dX6_waiting_9 : decode cX6_waiting 9 = .ok (.iload_n 3, 1) := by decide +kernel
theorem dX6_waiting_10 : decode cX6_waiting 10 = .ok (.iconst 0, 1) := by decide +kernel
theorem dX6_waiting_11 : decode cX6_waiting 11 = .ok (.iconst 3, 1) := by decide +kernel
theorem dX6_waiting_12 : decode cX6_waiting 12 = .ok (.invokestatic 31, 3) := by decide +kernel
theorem dX6_waiting_15 : decode cX6_waiting 15 = .ok (.ifCond .eq 7, 3) := by decide +kernel
theorem dX6_waiting_18 : decode cX6_waiting 18 = .ok (.iload_n 2, 1) := by decide +kernel
theorem dX6_waiting_19 : decode cX6_waiting 19 = .ok (.ifCond .ge 6, 3) := by decide +kernel
theorem dX6_waiting_22 : decode cX6_waiting 22 = .ok (.bipush (-2), 2) := by decide +kernel
theorem dX6_waiting_24 : decode cX6_waiting 24 = .ok (.ireturn, 1) := by decide +kernel
theorem dX6_waiting_25 : decode cX6_waiting 25 = .ok (.aload_n 0, 1) := by decide +kernel
theorem dX6_waiting_26 : decode cX6_waiting 26 = .ok (.iload_n 1, 1) := by decide +kernel
theorem dX6_waiting_27 : decode cX6_waiting 27 = .ok (.iload_n 2, 1) := by decide +kernel
theorem dX6_waiting_28 : decode cX6_waiting 28 = .ok (.invokevirtual 166, 3) := by decide +kernel
theorem dX6_waiting_31 : decode cX6_waiting 31 = .ok (.istore 4, 2) := by decide +kernel
theorem dX6_waiting_33 : decode cX6_waiting 33 = .ok (.iload 4, 2) := by decide +kernel
theorem dX6_waiting_35 : decode cX6_waiting 35 = .ok (.bipush (-5), 2) := by decide +kernel
theorem dX6_waiting_37 : decode cX6_waiting 37 = .ok (.if_icmp .ne 6, 3) := by decide +kernel
theorem dX6_waiting_40 : decode cX6_waiting 40 = .ok (.bipush (-5), 2) := by decide +kernel
theorem dX6_waiting_42 : decode cX6_waiting 42 = .ok (.ireturn, 1) := by decide +kernel
theorem dX6_waiting_43 : decode cX6_waiting 43 = .ok (.iload_n 3, 1) := by decide +kernel
theorem dX6_waiting_44 : decode cX6_waiting 44 = .ok (.iconst 2, 1) := by decide +kernel
theorem dX6_waiting_45 : decode cX6_waiting 45 = .ok (.if_icmp .ge 13, 3) := by decide +kernel
theorem dX6_waiting_48 : decode cX6_waiting 48 = .ok (.aload_n 0, 1) := by decide +kernel
theorem dX6_waiting_49 : decode cX6_waiting 49 = .ok (.iload 4, 2) := by decide +kernel
theorem dX6_waiting_51 : decode cX6_waiting 51 = .ok (.iload_n 3, 1) := by decide +kernel
theorem dX6_waiting_52 : decode cX6_waiting 52 = .ok (.invokevirtual 39, 3) := by decide +kernel
theorem dX6_waiting_55 : decode cX6_waiting 55 = .ok (.goto 23, 3) := by decide +kernel
theorem dX6_waiting_58 : decode cX6_waiting 58 = .ok (.iload_n 3, 1) := by decide +kernel
theorem dX6_waiting_59 : decode cX6_waiting 59 = .ok (.iconst 2, 1) := by decide +kernel
theorem dX6_waiting_60 : decode cX6_waiting 60 = .ok (.if_icmp .ne 12, 3) := by decide +kernel
theorem dX6_waiting_63 : decode cX6_waiting 63 = .ok (.aload_n 0, 1) := by decide +kernel
theorem dX6_waiting_64 : decode cX6_waiting 64 = .ok (.iload 4, 2) := by decide +kernel
theorem dX6_waiting_66 : decode cX6_waiting 66 = .ok (.invokevirtual 169, 3) := by decide +kernel
theorem dX6_waiting_69 : decode cX6_waiting 69 = .ok (.goto 9, 3) := by decide +kernel
theorem dX6_waiting_72 : decode cX6_waiting 72 = .ok (.aload_n 0, 1) := by decide +kernel
theorem dX6_waiting_73 : decode cX6_waiting 73 = .ok (.iload 4, 2) := by decide +kernel
theorem dX6_waiting_75 : decode cX6_waiting 75 = .ok (.invokevirtual 172, 3) := by decide +kernel
theorem dX6_waiting_78 : decode cX6_waiting 78 = .ok (.ireturn, 1) := by decide +kernel
theorem dX6_message_0 : decode cX6_message 0 = .ok (.iload_n 2, 1) := by decide +kernel
theorem dX6_message_1 : decode cX6_message 1 = .ok (.iconst 0, 1) := by decide +kernel
theorem dX6_message_2 : decode cX6_message 2 = .ok (.bipush 6, 2) := by decide +kernel
theorem dX6_message_4 : decode cX6_message 4 = .ok (.invokestatic 31, 3) := by decide +kernel
theorem dX6_message_7 : decode cX6_message 7 = .ok (.ifCond .eq 7, 3) := by decide +kernel
theorem dX6_message_10 : decode cX6_message 10 = .ok (.iload_n 1, 1) := by decide +kernel
theorem dX6_message_11 : decode cX6_message 11 = .ok (.ifCond .ge 6, 3) := by decide +kernel
theorem dX6_message_14 : decode cX6_message 14 = .ok (.bipush (-2), 2) := by decide +kernel
theorem dX6_message_16 : decode cX6_message 16 = .ok (.ireturn, 1) := by decide +kernel
theorem dX6_message_17 : decode cX6_message 17 = .ok (.aload_n 0, 1) := by decide +kernel
theorem dX6_message_18 : decode cX6_message 18 = .ok (.iload_n 1, 1) := by decide +kernel
theorem dX6_message_19 : decode cX6_message 19 = .ok (.invokevirtual 152, 3) := by decide +kernel
theorem dX6_message_22 : decode cX6_message 22 = .ok (.istore_n 3, 1) := by decide +kernel
theorem dX6_message_23 : decode cX6_message 23 = .ok (.iload_n 3, 1) := by decide +kernel
theorem dX6_message_24 : decode cX6_message 24 = .ok (.bipush (-5), 2) := by decide +kernel
theorem dX6_message_26 : decode cX6_message 26 = .ok (.if_icmp .ne 6, 3) := by decide +kernel
theorem dX6_message_29 : decode cX6_message 29 = .ok (.bipush (-5), 2) := by decide +kernel
theorem dX6_message_31 : decode cX6_message 31 = .ok (.ireturn, 1) := by decide +kernel
theorem dX6_message_32 : decode cX6_message 32 = .ok (.iload_n 2, 1) := by decide +kernel
theorem dX6_message_33 : decode cX6_message 33 = .ok (.iconst 4, 1) := by decide +kernel
theorem dX6_message_34 : decode cX6_message 34 = .ok (.if_icmp .ge 10, 3) := by decide +kernel
theorem dX6_message_37 : decode cX6_message 37 = .ok (.aload_n 0, 1) := by decide +kernel
theorem dX6_message_38 : decode cX6_message 38 = .ok (.iload_n 3, 1) := by decide +kernel
theorem dX6_message_39 : decode cX6_message 39 = .ok (.iload_n 2, 1) := by decide +kernel
theorem dX6_message_40 : decode cX6_message 40 = .ok (.invokevirtual 60, 3) := by decide +kernel
theorem dX6_message_43 : decode cX6_message 43 = .ok (.ireturn, 1) := by decide +kernel
theorem dX6_message_44 : decode cX6_message 44 = .ok (.iload_n 2, 1) := by decide +kernel
theorem dX6_message_45 : decode cX6_message 45 = .ok (.iconst 4, 1) := by decide +kernel
theorem dX6_message_46 : decode cX6_message 46 = .ok (.if_icmp .ne 17, 3) := by decide +kernel
theorem dX6_message_49 : decode cX6_message 49 = .ok (.aload_n 0, 1) := by decide +kernel
theorem dX6_message_50 : decode cX6_message 50 = .ok (.iload_n 3, 1) := by decide +kernel
theorem dX6_message_51 : decode cX6_message 51 = .ok (.iconst 4, 1) := by decide +kernel
theorem dX6_message_52 : decode cX6_message 52 = .ok (.invokevirtual 60, 3) := by decide +kernel
theorem dX6_message_55 : decode cX6_message 55 = .ok (.aload_n 0, 1) := by decide +kernel
theorem dX6_message_56 : decode cX6_message 56 = .ok (.getfield 7, 3) := by decide +kernel
theorem dX6_message_59 : decode cX6_message 59 = .ok (.iconst 0, 1) := by decide +kernel
theorem dX6_message_60 : decode cX6_message 60 = .ok (.iaload, 1) := by decide +kernel
theorem dX6_message_61 : decode cX6_message 61 = .ok (.isub, 1) := by decide +kernel
theorem dX6_message_62 : decode cX6_message 62 = .ok (.ireturn, 1) := by decide +kernel
theorem dX6_message_63 : decode cX6_message 63 = .ok (.aload_n 0, 1) := by decide +kernel
theorem dX6_message_64 : decode cX6_message 64 = .ok (.iload_n 3, 1) := by decide +kernel
theorem dX6_message_65 : decode cX6_message 65 = .ok (.iconst 5, 1) := by decide +kernel
theorem dX6_message_66 : decode cX6_message 66 = .ok (.invokevirtual 60, 3) := by decide +kernel
theorem dX6_message_69 : decode cX6_message 69 = .ok (.iconst 1, 1) := by decide +kernel
theorem dX6_message_70 : decode cX6_message 70 = .ok (.isub, 1) := by decide +kernel
theorem dX6_message_71 : decode cX6_message 71 = .ok (.istore 4, 2) := by decide +kernel
theorem dX6_message_73 : decode cX6_message 73 = .ok (.iload 4, 2) := by decide +kernel
theorem dX6_message_75 : decode cX6_message 75 = .ok (.ifCond .ge 7, 3) := by decide +kernel
theorem dX6_message_78 : decode cX6_message 78 = .ok (.iconst 0, 1) := by decide +kernel
theorem dX6_message_79 : decode cX6_message 79 = .ok (.goto 24, 3) := by decide +kernel
theorem dX6_message_82 : decode cX6_message 82 = .ok (.iload_n 2, 1) := by decide +kernel
theorem dX6_message_83 : decode cX6_message 83 = .ok (.iconst 5, 1) := by decide +kernel
theorem dX6_message_84 : decode cX6_message 84 = .ok (.if_icmp .ne 13, 3) := by decide +kernel
theorem dX6_message_87 : decode cX6_message 87 = .ok (.aload_n 0, 1) := by decide +kernel
theorem dX6_message_88 : decode cX6_message 88 = .ok (.iload 4, 2) := by decide +kernel
theorem dX6_message_90 : decode cX6_message 90 = .ok (.iconst 1, 1) := by decide +kernel
theorem dX6_message_91 : decode cX6_message 91 = .ok (.invokevirtual 39, 3) := by decide +kernel
theorem dX6_message_94 : decode cX6_message 94 = .ok (.goto 9, 3) := by decide +kernel
theorem dX6_message_97 : decode cX6_message 97 = .ok (.aload_n 0, 1) := by decide +kernel
theorem dX6_message_98 : decode cX6_message 98 = .ok (.iload 4, 2) := by decide +kernel
theorem dX6_message_100 : decode cX6_message 100 = .ok (.invokevirtual 172, 3) := by decide +kernel
theorem dX6_message_103 : decode cX6_message 103 = .ok (.ireturn, 1) := by decide +kernel
theorem dX6_total_0 : decode cX6_total 0 = .ok (.iload_n 1, 1) := by decide +kernel
theorem dX6_total_1 : decode cX6_total 1 = .ok (.tableswitch 193 0 16 #[83, 83, 83, 90, 96, 101, 108, 115, 121, 128, 136, 144, 157, 170, 170, 183, 188], 83) := by decide +kernel
theorem dX6_total_84 : decode cX6_total 84 = .ok (.aload_n 0, 1) := by decide +kernel
theorem dX6_total_85 : decode cX6_total 85 = .ok (.getfield 7, 3) := by decide +kernel
theorem dX6_total_88 : decode cX6_total 88 = .ok (.iload_n 1, 1) := by decide +kernel
theorem dX6_total_89 : decode cX6_total 89 = .ok (.iaload, 1) := by decide +kernel
theorem dX6_total_90 : decode cX6_total 90 = .ok (.ireturn, 1) := by decide +kernel
theorem dX6_total_91 : decode cX6_total 91 = .ok (.aload_n 0, 1) := by decide +kernel
theorem dX6_total_92 : decode cX6_total 92 = .ok (.iconst 1, 1) := by decide +kernel
theorem dX6_total_93 : decode cX6_total 93 = .ok (.invokevirtual 100, 3) := by decide +kernel
theorem dX6_total_96 : decode cX6_total 96 = .ok (.ireturn, 1) := by decide +kernel
theorem dX6_total_97 : decode cX6_total 97 = .ok (.aload_n 0, 1) := by decide +kernel
theorem dX6_total_98 : decode cX6_total 98 = .ok (.invokevirtual 175, 3) := by decide +kernel
theorem dX6_total_101 : decode cX6_total 101 = .ok (.ireturn, 1) := by decide +kernel
theorem dX6_total_102 : decode cX6_total 102 = .ok (.aload_n 0, 1) := by decide +kernel
theorem dX6_total_103 : decode cX6_total 103 = .ok (.getfield 7, 3) := by decide +kernel
theorem dX6_total_106 : decode cX6_total 106 = .ok (.iconst 3, 1) := by decide +kernel
theorem dX6_total_107 : decode cX6_total 107 = .ok (.iaload, 1) := by decide +kernel
theorem dX6_total_108 : decode cX6_total 108 = .ok (.ireturn, 1) := by decide +kernel
theorem dX6_total_109 : decode cX6_total 109 = .ok (.aload_n 0, 1) := by decide +kernel
theorem dX6_total_110 : decode cX6_total 110 = .ok (.getfield 7, 3) := by decide +kernel
theorem dX6_total_113 : decode cX6_total 113 = .ok (.iconst 4, 1) := by decide +kernel
theorem dX6_total_114 : decode cX6_total 114 = .ok (.iaload, 1) := by decide +kernel
theorem dX6_total_115 : decode cX6_total 115 = .ok (.ireturn, 1) := by decide +kernel
theorem dX6_total_116 : decode cX6_total 116 = .ok (.aload_n 0, 1) := by decide +kernel
theorem dX6_total_117 : decode cX6_total 117 = .ok (.iconst 0, 1) := by decide +kernel
theorem dX6_total_118 : decode cX6_total 118 = .ok (.invokevirtual 100, 3) := by decide +kernel
theorem dX6_total_121 : decode cX6_total 121 = .ok (.ireturn, 1) := by decide +kernel
theorem dX6_total_122 : decode cX6_total 122 = .ok (.aload_n 0, 1) := by decide +kernel
theorem dX6_total_123 : decode cX6_total 123 = .ok (.getfield 7, 3) := by decide +kernel
theorem dX6_total_126 : decode cX6_total 126 = .ok (.iconst 5, 1) := by decide +kernel
theorem dX6_total_127 : decode cX6_total 127 = .ok (.iaload, 1) := by decide +kernel
theorem dX6_total_128 : decode cX6_total 128 = .ok (.ireturn, 1) := by decide +kernel
theorem dX6_total_129 : decode cX6_total 129 = .ok (.aload_n 0, 1) := by decide +kernel
theorem dX6_total_130 : decode cX6_total 130 = .ok (.getfield 7, 3) := by decide +kernel
theorem dX6_total_133 : decode cX6_total 133 = .ok (.bipush 6, 2) := by decide +kernel
theorem dX6_total_135 : decode cX6_total 135 = .ok (.iaload, 1) := by decide +kernel
theorem dX6_total_136 : decode cX6_total 136 = .ok (.ireturn, 1) := by decide +kernel
theorem dX6_total_137 : decode cX6_total 137 = .ok (.aload_n 0, 1) := by decide +kernel
theorem dX6_total_138 : decode cX6_total 138 = .ok (.getfield 7, 3) := by decide +kernel
theorem dX6_total_141 : decode cX6_total 141 = .ok (.bipush 7, 2) := by decide +kernel
theorem dX6_total_143 : decode cX6_total 143 = .ok (.iaload, 1) := by decide +kernel
theorem dX6_total_144 : decode cX6_total 144 = .ok (.ireturn, 1) := by decide +kernel
theorem dX6_total_145 : decode cX6_total 145 = .ok (.aload_n 0, 1) := by decide +kernel
theorem dX6_total_146 : decode cX6_total 146 = .ok (.invokevirtual 178, 3) := by decide +kernel
theorem dX6_total_149 : decode cX6_total 149 = .ok (.ifCond .eq 7, 3) := by decide +kernel
theorem dX6_total_152 : decode cX6_total 152 = .ok (.iconst 1, 1) := by decide +kernel
theorem dX6_total_153 : decode cX6_total 153 = .ok (.goto 4, 3) := by decide +kernel
theorem dX6_total_156 : decode cX6_total 156 = .ok (.iconst 0, 1) := by decide +kernel
theorem dX6_total_157 : decode cX6_total 157 = .ok (.ireturn, 1) := by decide +kernel
theorem dX6_total_158 : decode cX6_total 158 = .ok (.aload_n 0, 1) := by decide +kernel
theorem dX6_total_159 : decode cX6_total 159 = .ok (.invokevirtual 181, 3) := by decide +kernel
theorem dX6_total_162 : decode cX6_total 162 = .ok (.ifCond .eq 7, 3) := by decide +kernel
theorem dX6_total_165 : decode cX6_total 165 = .ok (.iconst 1, 1) := by decide +kernel
theorem dX6_total_166 : decode cX6_total 166 = .ok (.goto 4, 3) := by decide +kernel
theorem dX6_total_169 : decode cX6_total 169 = .ok (.iconst 0, 1) := by decide +kernel
theorem dX6_total_170 : decode cX6_total 170 = .ok (.ireturn, 1) := by decide +kernel
theorem dX6_total_171 : decode cX6_total 171 = .ok (.aload_n 0, 1) := by decide +kernel
theorem dX6_total_172 : decode cX6_total 172 = .ok (.getfield 7, 3) := by decide +kernel
theorem dX6_total_175 : decode cX6_total 175 = .ok (.bipush 8, 2) := by decide +kernel
theorem dX6_total_177 : decode cX6_total 177 = .ok (.iload_n 1, 1) := by decide +kernel
theorem dX6_total_178 : decode cX6_total 178 = .ok (.iadd, 1) := by decide +kernel
theorem dX6_total_179 : decode cX6_total 179 = .ok (.bipush 13, 2) := by decide +kernel
theorem dX6_total_181 : decode cX6_total 181 = .ok (.isub, 1) := by decide +kernel
theorem dX6_total_182 : decode cX6_total 182 = .ok (.iaload, 1) := by decide +kernel
theorem dX6_total_183 : decode cX6_total 183 = .ok (.ireturn, 1) := by decide +kernel
theorem dX6_total_184 : decode cX6_total 184 = .ok (.aload_n 0, 1) := by decide +kernel
theorem dX6_total_185 : decode cX6_total 185 = .ok (.getfield 35, 3) := by decide +kernel
theorem dX6_total_188 : decode cX6_total 188 = .ok (.ireturn, 1) := by decide +kernel
theorem dX6_total_189 : decode cX6_total 189 = .ok (.aload_n 0, 1) := by decide +kernel
theorem dX6_total_190 : decode cX6_total 190 = .ok (.getfield 110, 3) := by decide +kernel
theorem dX6_total_193 : decode cX6_total 193 = .ok (.ireturn, 1) := by decide +kernel
theorem dX6_total_194 : decode cX6_total 194 = .ok (.bipush (-2), 2) := by decide +kernel
theorem dX6_total_196 : decode cX6_total 196 = .ok (.ireturn, 1) := by decide +kernel
theorem dX6_quietIn_0 : decode cX6_quietIn 0 = .ok (.aload_n 0, 1) := by decide +kernel
theorem dX6_quietIn_1 : decode cX6_quietIn 1 = .ok (.getfield 7, 3) := by decide +kernel
theorem dX6_quietIn_4 : decode cX6_quietIn 4 = .ok (.aload_n 0, 1) := by decide +kernel
theorem dX6_quietIn_5 : decode cX6_quietIn 5 = .ok (.getfield 19, 3) := by decide +kernel
theorem dX6_quietIn_8 : decode cX6_quietIn 8 = .ok (.invokestatic 158, 3) := by decide +kernel
theorem dX6_quietIn_11 : decode cX6_quietIn 11 = .ok (.iconst 0, 1) := by decide +kernel
theorem dX6_quietIn_12 : decode cX6_quietIn 12 = .ok (.istore_n 1, 1) := by decide +kernel
theorem dX6_quietIn_13 : decode cX6_quietIn 13 = .ok (.aload_n 0, 1) := by decide +kernel
theorem dX6_quietIn_14 : decode cX6_quietIn 14 = .ok (.invokevirtual 178, 3) := by decide +kernel
theorem dX6_quietIn_17 : decode cX6_quietIn 17 = .ok (.ifCond .ne 20, 3) := by decide +kernel
theorem dX6_quietIn_20 : decode cX6_quietIn 20 = .ok (.iload_n 1, 1) := by decide +kernel
theorem dX6_quietIn_21 : decode cX6_quietIn 21 = .ok (.sipush 500, 3) := by decide +kernel
theorem dX6_quietIn_24 : decode cX6_quietIn 24 = .ok (.if_icmp .gt 13, 3) := by decide +kernel
theorem dX6_quietIn_27 : decode cX6_quietIn 27 = .ok (.aload_n 0, 1) := by decide +kernel
theorem dX6_quietIn_28 : decode cX6_quietIn 28 = .ok (.invokevirtual 149, 3) := by decide +kernel
theorem dX6_quietIn_31 : decode cX6_quietIn 31 = .ok (.iinc 1 1, 3) := by decide +kernel
theorem dX6_quietIn_34 : decode cX6_quietIn 34 = .ok (.goto (-21), 3) := by decide +kernel
theorem dX6_quietIn_37 : decode cX6_quietIn 37 = .ok (.aload_n 0, 1) := by decide +kernel
theorem dX6_quietIn_38 : decode cX6_quietIn 38 = .ok (.getfield 19, 3) := by decide +kernel
theorem dX6_quietIn_41 : decode cX6_quietIn 41 = .ok (.aload_n 0, 1) := by decide +kernel
theorem dX6_quietIn_42 : decode cX6_quietIn 42 = .ok (.getfield 7, 3) := by decide +kernel
theorem dX6_quietIn_45 : decode cX6_quietIn 45 = .ok (.invokestatic 158, 3) := by decide +kernel
theorem dX6_quietIn_48 : decode cX6_quietIn 48 = .ok (.iload_n 1, 1) := by decide +kernel
theorem dX6_quietIn_49 : decode cX6_quietIn 49 = .ok (.sipush 500, 3) := by decide +kernel
theorem dX6_quietIn_52 : decode cX6_quietIn 52 = .ok (.if_icmp .le 8, 3) := by decide +kernel
theorem dX6_quietIn_55 : decode cX6_quietIn 55 = .ok (.bipush (-5), 2) := by decide +kernel
theorem dX6_quietIn_57 : decode cX6_quietIn 57 = .ok (.goto 4, 3) := by decide +kernel
theorem dX6_quietIn_60 : decode cX6_quietIn 60 = .ok (.iload_n 1, 1) := by decide +kernel
theorem dX6_quietIn_61 : decode cX6_quietIn 61 = .ok (.ireturn, 1) := by decide +kernel
theorem dX6_idleIn_0 : decode cX6_idleIn 0 = .ok (.aload_n 0, 1) := by decide +kernel
theorem dX6_idleIn_1 : decode cX6_idleIn 1 = .ok (.getfield 7, 3) := by decide +kernel
theorem dX6_idleIn_4 : decode cX6_idleIn 4 = .ok (.aload_n 0, 1) := by decide +kernel
theorem dX6_idleIn_5 : decode cX6_idleIn 5 = .ok (.getfield 19, 3) := by decide +kernel
theorem dX6_idleIn_8 : decode cX6_idleIn 8 = .ok (.invokestatic 158, 3) := by decide +kernel
theorem dX6_idleIn_11 : decode cX6_idleIn 11 = .ok (.iconst 0, 1) := by decide +kernel
theorem dX6_idleIn_12 : decode cX6_idleIn 12 = .ok (.istore_n 1, 1) := by decide +kernel
theorem dX6_idleIn_13 : decode cX6_idleIn 13 = .ok (.aload_n 0, 1) := by decide +kernel
theorem dX6_idleIn_14 : decode cX6_idleIn 14 = .ok (.invokevirtual 181, 3) := by decide +kernel
theorem dX6_idleIn_17 : decode cX6_idleIn 17 = .ok (.ifCond .ne 20, 3) := by decide +kernel
theorem dX6_idleIn_20 : decode cX6_idleIn 20 = .ok (.iload_n 1, 1) := by decide +kernel
theorem dX6_idleIn_21 : decode cX6_idleIn 21 = .ok (.sipush 500, 3) := by decide +kernel
theorem dX6_idleIn_24 : decode cX6_idleIn 24 = .ok (.if_icmp .gt 13, 3) := by decide +kernel
theorem dX6_idleIn_27 : decode cX6_idleIn 27 = .ok (.aload_n 0, 1) := by decide +kernel
theorem dX6_idleIn_28 : decode cX6_idleIn 28 = .ok (.invokevirtual 149, 3) := by decide +kernel
theorem dX6_idleIn_31 : decode cX6_idleIn 31 = .ok (.iinc 1 1, 3) := by decide +kernel
theorem dX6_idleIn_34 : decode cX6_idleIn 34 = .ok (.goto (-21), 3) := by decide +kernel
theorem dX6_idleIn_37 : decode cX6_idleIn 37 = .ok (.aload_n 0, 1) := by decide +kernel
theorem dX6_idleIn_38 : decode cX6_idleIn 38 = .ok (.getfield 19, 3) := by decide +kernel
theorem dX6_idleIn_41 : decode cX6_idleIn 41 = .ok (.aload_n 0, 1) := by decide +kernel
theorem dX6_idleIn_42 : decode cX6_idleIn 42 = .ok (.getfield 7, 3) := by decide +kernel
theorem dX6_idleIn_45 : decode cX6_idleIn 45 = .ok (.invokestatic 158, 3) := by decide +kernel
theorem dX6_idleIn_48 : decode cX6_idleIn 48 = .ok (.iload_n 1, 1) := by decide +kernel
theorem dX6_idleIn_49 : decode cX6_idleIn 49 = .ok (.sipush 500, 3) := by decide +kernel
theorem dX6_idleIn_52 : decode cX6_idleIn 52 = .ok (.if_icmp .le 8, 3) := by decide +kernel
theorem dX6_idleIn_55 : decode cX6_idleIn 55 = .ok (.bipush (-5), 2) := by decide +kernel
theorem dX6_idleIn_57 : decode cX6_idleIn 57 = .ok (.goto 4, 3) := by decide +kernel
theorem dX6_idleIn_60 : decode cX6_idleIn 60 = .ok (.iload_n 1, 1) := by decide +kernel
theorem dX6_idleIn_61 : decode cX6_idleIn 61 = .ok (.ireturn, 1) := by decide +kernel
theorem dX6_beginAnew_0 : decode cX6_beginAnew 0 = .ok (.aload_n 0, 1) := by decide +kernel
theorem dX6_beginAnew_1 : decode cX6_beginAnew 1 = .ok (.getfield 7, 3) := by decide +kernel
theorem dX6_beginAnew_4 : decode cX6_beginAnew 4 = .ok (.bipush 9, 2) := by decide +kernel
theorem dX6_beginAnew_6 : decode cX6_beginAnew 6 = .ok (.iaload, 1) := by decide +kernel
theorem dX6_beginAnew_7 : decode cX6_beginAnew 7 = .ok (.istore_n 2, 1) := by decide +kernel
theorem dX6_beginAnew_8 : decode cX6_beginAnew 8 = .ok (.iconst 0, 1) := by decide +kernel
theorem dX6_beginAnew_9 : decode cX6_beginAnew 9 = .ok (.istore_n 3, 1) := by decide +kernel
theorem dX6_beginAnew_10 : decode cX6_beginAnew 10 = .ok (.iload_n 3, 1) := by decide +kernel
theorem dX6_beginAnew_11 : decode cX6_beginAnew 11 = .ok (.sipush 1372, 3) := by decide +kernel
theorem dX6_beginAnew_14 : decode cX6_beginAnew 14 = .ok (.if_icmp .ge 36, 3) := by decide +kernel
theorem dX6_beginAnew_17 : decode cX6_beginAnew 17 = .ok (.aload_n 0, 1) := by decide +kernel
theorem dX6_beginAnew_18 : decode cX6_beginAnew 18 = .ok (.getfield 7, 3) := by decide +kernel
theorem dX6_beginAnew_21 : decode cX6_beginAnew 21 = .ok (.iload_n 3, 1) := by decide +kernel
theorem dX6_beginAnew_22 : decode cX6_beginAnew 22 = .ok (.iload_n 3, 1) := by decide +kernel
theorem dX6_beginAnew_23 : decode cX6_beginAnew 23 = .ok (.bipush 12, 2) := by decide +kernel
theorem dX6_beginAnew_25 : decode cX6_beginAnew 25 = .ok (.bipush 53, 2) := by decide +kernel
theorem dX6_beginAnew_27 : decode cX6_beginAnew 27 = .ok (.invokestatic 31, 3) := by decide +kernel
theorem dX6_beginAnew_30 : decode cX6_beginAnew 30 = .ok (.ifCond .eq 12, 3) := by decide +kernel
theorem dX6_beginAnew_33 : decode cX6_beginAnew 33 = .ok (.aload_n 0, 1) := by decide +kernel
theorem dX6_beginAnew_34 : decode cX6_beginAnew 34 = .ok (.getfield 7, 3) := by decide +kernel
theorem dX6_beginAnew_37 : decode cX6_beginAnew 37 = .ok (.iload_n 3, 1) := by decide +kernel
theorem dX6_beginAnew_38 : decode cX6_beginAnew 38 = .ok (.iaload, 1) := by decide +kernel
theorem dX6_beginAnew_39 : decode cX6_beginAnew 39 = .ok (.goto 4, 3) := by decide +kernel
theorem dX6_beginAnew_42 : decode cX6_beginAnew 42 = .ok (.iconst 0, 1) := by decide +kernel
theorem dX6_beginAnew_43 : decode cX6_beginAnew 43 = .ok (.iastore, 1) := by decide +kernel
theorem dX6_beginAnew_44 : decode cX6_beginAnew 44 = .ok (.iinc 3 1, 3) := by decide +kernel
theorem dX6_beginAnew_47 : decode cX6_beginAnew 47 = .ok (.goto (-37), 3) := by decide +kernel
theorem dX6_beginAnew_50 : decode cX6_beginAnew 50 = .ok (.aload_n 0, 1) := by decide +kernel
theorem dX6_beginAnew_51 : decode cX6_beginAnew 51 = .ok (.getfield 7, 3) := by decide +kernel
theorem dX6_beginAnew_54 : decode cX6_beginAnew 54 = .ok (.bipush 9, 2) := by decide +kernel
theorem dX6_beginAnew_56 : decode cX6_beginAnew 56 = .ok (.iload_n 2, 1) := by decide +kernel
theorem dX6_beginAnew_57 : decode cX6_beginAnew 57 = .ok (.iastore, 1) := by decide +kernel
theorem dX6_beginAnew_58 : decode cX6_beginAnew 58 = .ok (.aload_n 0, 1) := by decide +kernel
theorem dX6_beginAnew_59 : decode cX6_beginAnew 59 = .ok (.getfield 7, 3) := by decide +kernel
theorem dX6_beginAnew_62 : decode cX6_beginAnew 62 = .ok (.bipush 8, 2) := by decide +kernel
theorem dX6_beginAnew_64 : decode cX6_beginAnew 64 = .ok (.iload_n 1, 1) := by decide +kernel
theorem dX6_beginAnew_65 : decode cX6_beginAnew 65 = .ok (.iastore, 1) := by decide +kernel
theorem dX6_beginAnew_66 : decode cX6_beginAnew 66 = .ok (.return_, 1) := by decide +kernel
theorem dX6_isEnough_0 : decode cX6_isEnough 0 = .ok (.aload_n 0, 1) := by decide +kernel
theorem dX6_isEnough_1 : decode cX6_isEnough 1 = .ok (.iload_n 1, 1) := by decide +kernel
theorem dX6_isEnough_2 : decode cX6_isEnough 2 = .ok (.invokevirtual 184, 3) := by decide +kernel
theorem dX6_isEnough_5 : decode cX6_isEnough 5 = .ok (.aload_n 0, 1) := by decide +kernel
theorem dX6_isEnough_6 : decode cX6_isEnough 6 = .ok (.invokevirtual 142, 3) := by decide +kernel
theorem dX6_isEnough_9 : decode cX6_isEnough 9 = .ok (.istore_n 2, 1) := by decide +kernel
theorem dX6_isEnough_10 : decode cX6_isEnough 10 = .ok (.iconst 0, 1) := by decide +kernel
theorem dX6_isEnough_11 : decode cX6_isEnough 11 = .ok (.istore_n 3, 1) := by decide +kernel
theorem dX6_isEnough_12 : decode cX6_isEnough 12 = .ok (.iload_n 3, 1) := by decide +kernel
theorem dX6_isEnough_13 : decode cX6_isEnough 13 = .ok (.sipush 500, 3) := by decide +kernel
theorem dX6_isEnough_16 : decode cX6_isEnough 16 = .ok (.if_icmp .ge 29, 3) := by decide +kernel
theorem dX6_isEnough_19 : decode cX6_isEnough 19 = .ok (.aload_n 0, 1) := by decide +kernel
theorem dX6_isEnough_20 : decode cX6_isEnough 20 = .ok (.invokevirtual 181, 3) := by decide +kernel
theorem dX6_isEnough_23 : decode cX6_isEnough 23 = .ok (.ifCond .ne 22, 3) := by decide +kernel
theorem dX6_isEnough_26 : decode cX6_isEnough 26 = .ok (.aload_n 0, 1) := by decide +kernel
theorem dX6_isEnough_27 : decode cX6_isEnough 27 = .ok (.bipush 6, 2) := by decide +kernel
theorem dX6_isEnough_29 : decode cX6_isEnough 29 = .ok (.invokevirtual 100, 3) := by decide +kernel
theorem dX6_isEnough_32 : decode cX6_isEnough 32 = .ok (.ifCond .ne 13, 3) := by decide +kernel
theorem dX6_isEnough_35 : decode cX6_isEnough 35 = .ok (.aload_n 0, 1) := by decide +kernel
theorem dX6_isEnough_36 : decode cX6_isEnough 36 = .ok (.invokevirtual 149, 3) := by decide +kernel
theorem dX6_isEnough_39 : decode cX6_isEnough 39 = .ok (.iinc 3 1, 3) := by decide +kernel
theorem dX6_isEnough_42 : decode cX6_isEnough 42 = .ok (.goto (-30), 3) := by decide +kernel
theorem dX6_isEnough_45 : decode cX6_isEnough 45 = .ok (.iload_n 2, 1) := by decide +kernel
theorem dX6_isEnough_46 : decode cX6_isEnough 46 = .ok (.ifCond .le 16, 3) := by decide +kernel
theorem dX6_isEnough_49 : decode cX6_isEnough 49 = .ok (.aload_n 0, 1) := by decide +kernel
theorem dX6_isEnough_50 : decode cX6_isEnough 50 = .ok (.bipush 6, 2) := by decide +kernel
theorem dX6_isEnough_52 : decode cX6_isEnough 52 = .ok (.invokevirtual 100, 3) := by decide +kernel
theorem dX6_isEnough_55 : decode cX6_isEnough 55 = .ok (.ifCond .ne 7, 3) := by decide +kernel
theorem dX6_isEnough_58 : decode cX6_isEnough 58 = .ok (.iconst 1, 1) := by decide +kernel
theorem dX6_isEnough_59 : decode cX6_isEnough 59 = .ok (.goto 4, 3) := by decide +kernel
theorem dX6_isEnough_62 : decode cX6_isEnough 62 = .ok (.iconst 0, 1) := by decide +kernel
theorem dX6_isEnough_63 : decode cX6_isEnough 63 = .ok (.ireturn, 1) := by decide +kernel
theorem dX6_leastCoin_0 : decode cX6_leastCoin 0 = .ok (.aload_n 0, 1) := by decide +kernel
theorem dX6_leastCoin_1 : decode cX6_leastCoin 1 = .ok (.invokevirtual 136, 3) := by decide +kernel
theorem dX6_leastCoin_4 : decode cX6_leastCoin 4 = .ok (.istore_n 1, 1) := by decide +kernel
theorem dX6_leastCoin_5 : decode cX6_leastCoin 5 = .ok (.iload_n 1, 1) := by decide +kernel
theorem dX6_leastCoin_6 : decode cX6_leastCoin 6 = .ok (.bipush (-5), 2) := by decide +kernel
theorem dX6_leastCoin_8 : decode cX6_leastCoin 8 = .ok (.if_icmp .eq 8, 3) := by decide +kernel
theorem dX6_leastCoin_11 : decode cX6_leastCoin 11 = .ok (.bipush (-100), 2) := by decide +kernel
theorem dX6_leastCoin_13 : decode cX6_leastCoin 13 = .ok (.iload_n 1, 1) := by decide +kernel
theorem dX6_leastCoin_14 : decode cX6_leastCoin 14 = .ok (.isub, 1) := by decide +kernel
theorem dX6_leastCoin_15 : decode cX6_leastCoin 15 = .ok (.ireturn, 1) := by decide +kernel
theorem dX6_leastCoin_16 : decode cX6_leastCoin 16 = .ok (.aload_n 0, 1) := by decide +kernel
theorem dX6_leastCoin_17 : decode cX6_leastCoin 17 = .ok (.getfield 7, 3) := by decide +kernel
theorem dX6_leastCoin_20 : decode cX6_leastCoin 20 = .ok (.aload_n 0, 1) := by decide +kernel
theorem dX6_leastCoin_21 : decode cX6_leastCoin 21 = .ok (.getfield 19, 3) := by decide +kernel
theorem dX6_leastCoin_24 : decode cX6_leastCoin 24 = .ok (.invokestatic 158, 3) := by decide +kernel
theorem dX6_leastCoin_27 : decode cX6_leastCoin 27 = .ok (.iconst 2, 1) := by decide +kernel
theorem dX6_leastCoin_28 : decode cX6_leastCoin 28 = .ok (.istore_n 2, 1) := by decide +kernel
theorem dX6_leastCoin_29 : decode cX6_leastCoin 29 = .ok (.iload_n 2, 1) := by decide +kernel
theorem dX6_leastCoin_30 : decode cX6_leastCoin 30 = .ok (.bipush 16, 2) := by decide +kernel
theorem dX6_leastCoin_32 : decode cX6_leastCoin 32 = .ok (.if_icmp .gt 17, 3) := by decide +kernel
theorem dX6_leastCoin_35 : decode cX6_leastCoin 35 = .ok (.aload_n 0, 1) := by decide +kernel
theorem dX6_leastCoin_36 : decode cX6_leastCoin 36 = .ok (.iload_n 2, 1) := by decide +kernel
theorem dX6_leastCoin_37 : decode cX6_leastCoin 37 = .ok (.invokevirtual 187, 3) := by decide +kernel
theorem dX6_leastCoin_40 : decode cX6_leastCoin 40 = .ok (.ifCond .ne 9, 3) := by decide +kernel
theorem dX6_leastCoin_43 : decode cX6_leastCoin 43 = .ok (.iinc 2 1, 3) := by decide +kernel
theorem dX6_leastCoin_46 : decode cX6_leastCoin 46 = .ok (.goto (-17), 3) := by decide +kernel
theorem dX6_leastCoin_49 : decode cX6_leastCoin 49 = .ok (.aload_n 0, 1) := by decide +kernel
theorem dX6_leastCoin_50 : decode cX6_leastCoin 50 = .ok (.getfield 19, 3) := by decide +kernel
theorem dX6_leastCoin_53 : decode cX6_leastCoin 53 = .ok (.aload_n 0, 1) := by decide +kernel
theorem dX6_leastCoin_54 : decode cX6_leastCoin 54 = .ok (.getfield 7, 3) := by decide +kernel
theorem dX6_leastCoin_57 : decode cX6_leastCoin 57 = .ok (.invokestatic 158, 3) := by decide +kernel
theorem dX6_leastCoin_60 : decode cX6_leastCoin 60 = .ok (.iload_n 2, 1) := by decide +kernel
theorem dX6_leastCoin_61 : decode cX6_leastCoin 61 = .ok (.bipush 16, 2) := by decide +kernel
theorem dX6_leastCoin_63 : decode cX6_leastCoin 63 = .ok (.if_icmp .le 8, 3) := by decide +kernel
theorem dX6_leastCoin_66 : decode cX6_leastCoin 66 = .ok (.bipush (-5), 2) := by decide +kernel
theorem dX6_leastCoin_68 : decode cX6_leastCoin 68 = .ok (.goto 4, 3) := by decide +kernel
theorem dX6_leastCoin_71 : decode cX6_leastCoin 71 = .ok (.iload_n 2, 1) := by decide +kernel
theorem dX6_leastCoin_72 : decode cX6_leastCoin 72 = .ok (.ireturn, 1) := by decide +kernel
theorem dJ9_max_7cf53_0 : decode cJ9_max_7cf53 0 = .ok (.iload_n 0, 1) := by decide +kernel
theorem dJ9_max_7cf53_1 : decode cJ9_max_7cf53 1 = .ok (.iload_n 1, 1) := by decide +kernel
theorem dJ9_max_7cf53_2 : decode cJ9_max_7cf53 2 = .ok (.if_icmp .lt 7, 3) := by decide +kernel
theorem dJ9_max_7cf53_5 : decode cJ9_max_7cf53 5 = .ok (.iload_n 0, 1) := by decide +kernel
theorem dJ9_max_7cf53_6 : decode cJ9_max_7cf53 6 = .ok (.goto 4, 3) := by decide +kernel
theorem dJ9_max_7cf53_9 : decode cJ9_max_7cf53 9 = .ok (.iload_n 1, 1) := by decide +kernel
theorem dJ9_max_7cf53_10 : decode cJ9_max_7cf53 10 = .ok (.ireturn, 1) := by decide +kernel
theorem dL_law_0 : decode cL_law 0 = .ok (.new 7, 3) := by decide +kernel
theorem dL_law_3 : decode cL_law 3 = .ok (.dup, 1) := by decide +kernel
theorem dL_law_4 : decode cL_law 4 = .ok (.invokespecial 9, 3) := by decide +kernel
theorem dL_law_7 : decode cL_law 7 = .ok (.astore_n 1, 1) := by decide +kernel
theorem dL_law_8 : decode cL_law 8 = .ok (.new 10, 3) := by decide +kernel
theorem dL_law_11 : decode cL_law 11 = .ok (.dup, 1) := by decide +kernel
theorem dL_law_12 : decode cL_law 12 = .ok (.invokespecial 12, 3) := by decide +kernel
theorem dL_law_15 : decode cL_law 15 = .ok (.astore_n 2, 1) := by decide +kernel
theorem dL_law_16 : decode cL_law 16 = .ok (.iconst 0, 1) := by decide +kernel
theorem dL_law_17 : decode cL_law 17 = .ok (.istore_n 3, 1) := by decide +kernel
theorem dL_law_18 : decode cL_law 18 = .ok (.iload_n 3, 1) := by decide +kernel
theorem dL_law_19 : decode cL_law 19 = .ok (.aload_n 0, 1) := by decide +kernel
theorem dL_law_20 : decode cL_law 20 = .ok (.arraylength, 1) := by decide +kernel
theorem dL_law_21 : decode cL_law 21 = .ok (.iconst 4, 1) := by decide +kernel
theorem dL_law_22 : decode cL_law 22 = .ok (.isub, 1) := by decide +kernel
theorem dL_law_23 : decode cL_law 23 = .ok (.if_icmp .gt 627, 3) := by decide +kernel
theorem dL_law_26 : decode cL_law 26 = .ok (.aload_n 0, 1) := by decide +kernel
theorem dL_law_27 : decode cL_law 27 = .ok (.iload_n 3, 1) := by decide +kernel
theorem dL_law_28 : decode cL_law 28 = .ok (.iaload, 1) := by decide +kernel
theorem dL_law_29 : decode cL_law 29 = .ok (.bipush 31, 2) := by decide +kernel
theorem dL_law_31 : decode cL_law 31 = .ok (.iand, 1) := by decide +kernel
theorem dL_law_32 : decode cL_law 32 = .ok (.tableswitch 612 0 21 #[104, 147, 180, 213, 226, 249, 272, 285, 310, 323, 336, 349, 362, 395, 418, 451, 494, 527, 550, 563, 576, 599], 104) := by decide +kernel
theorem dL_law_136 : decode cL_law 136 = .ok (.aload_n 1, 1) := by decide +kernel
theorem dL_law_137 : decode cL_law 137 = .ok (.aload_n 0, 1) := by decide +kernel
theorem dL_law_138 : decode cL_law 138 = .ok (.iload_n 3, 1) := by decide +kernel
theorem dL_law_139 : decode cL_law 139 = .ok (.iconst 1, 1) := by decide +kernel
theorem dL_law_140 : decode cL_law 140 = .ok (.iadd, 1) := by decide +kernel
theorem dL_law_141 : decode cL_law 141 = .ok (.iaload, 1) := by decide +kernel
theorem dL_law_142 : decode cL_law 142 = .ok (.aload_n 0, 1) := by decide +kernel
theorem dL_law_143 : decode cL_law 143 = .ok (.iload_n 3, 1) := by decide +kernel
theorem dL_law_144 : decode cL_law 144 = .ok (.iconst 2, 1) := by decide +kernel
theorem dL_law_145 : decode cL_law 145 = .ok (.iadd, 1) := by decide +kernel
theorem dL_law_146 : decode cL_law 146 = .ok (.iaload, 1) := by decide +kernel
theorem dL_law_147 : decode cL_law 147 = .ok (.aload_n 0, 1) := by decide +kernel
theorem dL_law_148 : decode cL_law 148 = .ok (.iload_n 3, 1) := by decide +kernel
theorem dL_law_149 : decode cL_law 149 = .ok (.iconst 3, 1) := by decide +kernel
theorem dL_law_150 : decode cL_law 150 = .ok (.iadd, 1) := by decide +kernel
theorem dL_law_151 : decode cL_law 151 = .ok (.iaload, 1) := by decide +kernel
theorem dL_law_152 : decode cL_law 152 = .ok (.invokevirtual 13, 3) := by decide +kernel
theorem dL_law_155 : decode cL_law 155 = .ok (.aload_n 2, 1) := by decide +kernel
theorem dL_law_156 : decode cL_law 156 = .ok (.aload_n 0, 1) := by decide +kernel
theorem dL_law_157 : decode cL_law 157 = .ok (.iload_n 3, 1) := by decide +kernel
theorem dL_law_158 : decode cL_law 158 = .ok (.iconst 1, 1) := by decide +kernel
theorem dL_law_159 : decode cL_law 159 = .ok (.iadd, 1) := by decide +kernel
theorem dL_law_160 : decode cL_law 160 = .ok (.iaload, 1) := by decide +kernel
theorem dL_law_161 : decode cL_law 161 = .ok (.aload_n 0, 1) := by decide +kernel
theorem dL_law_162 : decode cL_law 162 = .ok (.iload_n 3, 1) := by decide +kernel
theorem dL_law_163 : decode cL_law 163 = .ok (.iconst 2, 1) := by decide +kernel
theorem dL_law_164 : decode cL_law 164 = .ok (.iadd, 1) := by decide +kernel
theorem dL_law_165 : decode cL_law 165 = .ok (.iaload, 1) := by decide +kernel
theorem dL_law_166 : decode cL_law 166 = .ok (.aload_n 0, 1) := by decide +kernel
theorem dL_law_167 : decode cL_law 167 = .ok (.iload_n 3, 1) := by decide +kernel
theorem dL_law_168 : decode cL_law 168 = .ok (.iconst 3, 1) := by decide +kernel
theorem dL_law_169 : decode cL_law 169 = .ok (.iadd, 1) := by decide +kernel
theorem dL_law_170 : decode cL_law 170 = .ok (.iaload, 1) := by decide +kernel
theorem dL_law_171 : decode cL_law 171 = .ok (.invokevirtual 17, 3) := by decide +kernel
theorem dL_law_174 : decode cL_law 174 = .ok (.if_icmp .eq 470, 3) := by decide +kernel
theorem dL_law_177 : decode cL_law 177 = .ok (.iconst 0, 1) := by decide +kernel
theorem dL_law_178 : decode cL_law 178 = .ok (.ireturn, 1) := by decide +kernel
theorem dL_law_179 : decode cL_law 179 = .ok (.aload_n 1, 1) := by decide +kernel
theorem dL_law_180 : decode cL_law 180 = .ok (.aload_n 0, 1) := by decide +kernel
theorem dL_law_181 : decode cL_law 181 = .ok (.iload_n 3, 1) := by decide +kernel
theorem dL_law_182 : decode cL_law 182 = .ok (.iconst 1, 1) := by decide +kernel
theorem dL_law_183 : decode cL_law 183 = .ok (.iadd, 1) := by decide +kernel
theorem dL_law_184 : decode cL_law 184 = .ok (.iaload, 1) := by decide +kernel
theorem dL_law_185 : decode cL_law 185 = .ok (.aload_n 0, 1) := by decide +kernel
theorem dL_law_186 : decode cL_law 186 = .ok (.iload_n 3, 1) := by decide +kernel
theorem dL_law_187 : decode cL_law 187 = .ok (.iconst 2, 1) := by decide +kernel
theorem dL_law_188 : decode cL_law 188 = .ok (.iadd, 1) := by decide +kernel
theorem dL_law_189 : decode cL_law 189 = .ok (.iaload, 1) := by decide +kernel
theorem dL_law_190 : decode cL_law 190 = .ok (.invokevirtual 18, 3) := by decide +kernel
theorem dL_law_193 : decode cL_law 193 = .ok (.aload_n 2, 1) := by decide +kernel
theorem dL_law_194 : decode cL_law 194 = .ok (.aload_n 0, 1) := by decide +kernel
theorem dL_law_195 : decode cL_law 195 = .ok (.iload_n 3, 1) := by decide +kernel
theorem dL_law_196 : decode cL_law 196 = .ok (.iconst 1, 1) := by decide +kernel
theorem dL_law_197 : decode cL_law 197 = .ok (.iadd, 1) := by decide +kernel
theorem dL_law_198 : decode cL_law 198 = .ok (.iaload, 1) := by decide +kernel
theorem dL_law_199 : decode cL_law 199 = .ok (.aload_n 0, 1) := by decide +kernel
theorem dL_law_200 : decode cL_law 200 = .ok (.iload_n 3, 1) := by decide +kernel
theorem dL_law_201 : decode cL_law 201 = .ok (.iconst 2, 1) := by decide +kernel
theorem dL_law_202 : decode cL_law 202 = .ok (.iadd, 1) := by decide +kernel
theorem dL_law_203 : decode cL_law 203 = .ok (.iaload, 1) := by decide +kernel
theorem dL_law_204 : decode cL_law 204 = .ok (.invokevirtual 22, 3) := by decide +kernel
theorem dL_law_207 : decode cL_law 207 = .ok (.if_icmp .eq 437, 3) := by decide +kernel
theorem dL_law_210 : decode cL_law 210 = .ok (.iconst 0, 1) := by decide +kernel
theorem dL_law_211 : decode cL_law 211 = .ok (.ireturn, 1) := by decide +kernel
theorem dL_law_212 : decode cL_law 212 = .ok (.aload_n 1, 1) := by decide +kernel
theorem dL_law_213 : decode cL_law 213 = .ok (.aload_n 0, 1) := by decide +kernel
theorem dL_law_214 : decode cL_law 214 = .ok (.iload_n 3, 1) := by decide +kernel
theorem dL_law_215 : decode cL_law 215 = .ok (.iconst 1, 1) := by decide +kernel
theorem dL_law_216 : decode cL_law 216 = .ok (.iadd, 1) := by decide +kernel
theorem dL_law_217 : decode cL_law 217 = .ok (.iaload, 1) := by decide +kernel
theorem dL_law_218 : decode cL_law 218 = .ok (.aload_n 0, 1) := by decide +kernel
theorem dL_law_219 : decode cL_law 219 = .ok (.iload_n 3, 1) := by decide +kernel
theorem dL_law_220 : decode cL_law 220 = .ok (.iconst 2, 1) := by decide +kernel
theorem dL_law_221 : decode cL_law 221 = .ok (.iadd, 1) := by decide +kernel
theorem dL_law_222 : decode cL_law 222 = .ok (.iaload, 1) := by decide +kernel
theorem dL_law_223 : decode cL_law 223 = .ok (.invokevirtual 23, 3) := by decide +kernel
theorem dL_law_226 : decode cL_law 226 = .ok (.aload_n 2, 1) := by decide +kernel
theorem dL_law_227 : decode cL_law 227 = .ok (.aload_n 0, 1) := by decide +kernel
theorem dL_law_228 : decode cL_law 228 = .ok (.iload_n 3, 1) := by decide +kernel
theorem dL_law_229 : decode cL_law 229 = .ok (.iconst 1, 1) := by decide +kernel
theorem dL_law_230 : decode cL_law 230 = .ok (.iadd, 1) := by decide +kernel
theorem dL_law_231 : decode cL_law 231 = .ok (.iaload, 1) := by decide +kernel
theorem dL_law_232 : decode cL_law 232 = .ok (.aload_n 0, 1) := by decide +kernel
theorem dL_law_233 : decode cL_law 233 = .ok (.iload_n 3, 1) := by decide +kernel
theorem dL_law_234 : decode cL_law 234 = .ok (.iconst 2, 1) := by decide +kernel
theorem dL_law_235 : decode cL_law 235 = .ok (.iadd, 1) := by decide +kernel
theorem dL_law_236 : decode cL_law 236 = .ok (.iaload, 1) := by decide +kernel
theorem dL_law_237 : decode cL_law 237 = .ok (.invokevirtual 26, 3) := by decide +kernel
theorem dL_law_240 : decode cL_law 240 = .ok (.if_icmp .eq 404, 3) := by decide +kernel
theorem dL_law_243 : decode cL_law 243 = .ok (.iconst 0, 1) := by decide +kernel
theorem dL_law_244 : decode cL_law 244 = .ok (.ireturn, 1) := by decide +kernel
theorem dL_law_245 : decode cL_law 245 = .ok (.aload_n 1, 1) := by decide +kernel
theorem dL_law_246 : decode cL_law 246 = .ok (.invokevirtual 27, 3) := by decide +kernel
theorem dL_law_249 : decode cL_law 249 = .ok (.aload_n 2, 1) := by decide +kernel
theorem dL_law_250 : decode cL_law 250 = .ok (.invokevirtual 31, 3) := by decide +kernel
theorem dL_law_253 : decode cL_law 253 = .ok (.if_icmp .eq 391, 3) := by decide +kernel
theorem dL_law_256 : decode cL_law 256 = .ok (.iconst 0, 1) := by decide +kernel
theorem dL_law_257 : decode cL_law 257 = .ok (.ireturn, 1) := by decide +kernel
theorem dL_law_258 : decode cL_law 258 = .ok (.aload_n 1, 1) := by decide +kernel
theorem dL_law_259 : decode cL_law 259 = .ok (.aload_n 0, 1) := by decide +kernel
theorem dL_law_260 : decode cL_law 260 = .ok (.iload_n 3, 1) := by decide +kernel
theorem dL_law_261 : decode cL_law 261 = .ok (.iconst 1, 1) := by decide +kernel
theorem dL_law_262 : decode cL_law 262 = .ok (.iadd, 1) := by decide +kernel
theorem dL_law_263 : decode cL_law 263 = .ok (.iaload, 1) := by decide +kernel
theorem dL_law_264 : decode cL_law 264 = .ok (.invokevirtual 32, 3) := by decide +kernel
theorem dL_law_267 : decode cL_law 267 = .ok (.aload_n 2, 1) := by decide +kernel
theorem dL_law_268 : decode cL_law 268 = .ok (.aload_n 0, 1) := by decide +kernel
theorem dL_law_269 : decode cL_law 269 = .ok (.iload_n 3, 1) := by decide +kernel
theorem dL_law_270 : decode cL_law 270 = .ok (.iconst 1, 1) := by decide +kernel
theorem dL_law_271 : decode cL_law 271 = .ok (.iadd, 1) := by decide +kernel
theorem dL_law_272 : decode cL_law 272 = .ok (.iaload, 1) := by decide +kernel
theorem dL_law_273 : decode cL_law 273 = .ok (.invokevirtual 36, 3) := by decide +kernel
theorem dL_law_276 : decode cL_law 276 = .ok (.if_icmp .eq 368, 3) := by decide +kernel
theorem dL_law_279 : decode cL_law 279 = .ok (.iconst 0, 1) := by decide +kernel
theorem dL_law_280 : decode cL_law 280 = .ok (.ireturn, 1) := by decide +kernel
theorem dL_law_281 : decode cL_law 281 = .ok (.aload_n 1, 1) := by decide +kernel
theorem dL_law_282 : decode cL_law 282 = .ok (.aload_n 0, 1) := by decide +kernel
theorem dL_law_283 : decode cL_law 283 = .ok (.iload_n 3, 1) := by decide +kernel
theorem dL_law_284 : decode cL_law 284 = .ok (.iconst 1, 1) := by decide +kernel
theorem dL_law_285 : decode cL_law 285 = .ok (.iadd, 1) := by decide +kernel
theorem dL_law_286 : decode cL_law 286 = .ok (.iaload, 1) := by decide +kernel
theorem dL_law_287 : decode cL_law 287 = .ok (.invokevirtual 37, 3) := by decide +kernel
theorem dL_law_290 : decode cL_law 290 = .ok (.aload_n 2, 1) := by decide +kernel
theorem dL_law_291 : decode cL_law 291 = .ok (.aload_n 0, 1) := by decide +kernel
theorem dL_law_292 : decode cL_law 292 = .ok (.iload_n 3, 1) := by decide +kernel
theorem dL_law_293 : decode cL_law 293 = .ok (.iconst 1, 1) := by decide +kernel
theorem dL_law_294 : decode cL_law 294 = .ok (.iadd, 1) := by decide +kernel
theorem dL_law_295 : decode cL_law 295 = .ok (.iaload, 1) := by decide +kernel
theorem dL_law_296 : decode cL_law 296 = .ok (.invokevirtual 40, 3) := by decide +kernel
theorem dL_law_299 : decode cL_law 299 = .ok (.if_icmp .eq 345, 3) := by decide +kernel
theorem dL_law_302 : decode cL_law 302 = .ok (.iconst 0, 1) := by decide +kernel
theorem dL_law_303 : decode cL_law 303 = .ok (.ireturn, 1) := by decide +kernel
theorem dL_law_304 : decode cL_law 304 = .ok (.aload_n 1, 1) := by decide +kernel
theorem dL_law_305 : decode cL_law 305 = .ok (.invokevirtual 41, 3) := by decide +kernel
theorem dL_law_308 : decode cL_law 308 = .ok (.aload_n 2, 1) := by decide +kernel
theorem dL_law_309 : decode cL_law 309 = .ok (.invokevirtual 44, 3) := by decide +kernel
theorem dL_law_312 : decode cL_law 312 = .ok (.if_icmp .eq 332, 3) := by decide +kernel
theorem dL_law_315 : decode cL_law 315 = .ok (.iconst 0, 1) := by decide +kernel
theorem dL_law_316 : decode cL_law 316 = .ok (.ireturn, 1) := by decide +kernel
theorem dL_law_317 : decode cL_law 317 = .ok (.aload_n 1, 1) := by decide +kernel
theorem dL_law_318 : decode cL_law 318 = .ok (.aload_n 0, 1) := by decide +kernel
theorem dL_law_319 : decode cL_law 319 = .ok (.iload_n 3, 1) := by decide +kernel
theorem dL_law_320 : decode cL_law 320 = .ok (.iconst 1, 1) := by decide +kernel
theorem dL_law_321 : decode cL_law 321 = .ok (.iadd, 1) := by decide +kernel
theorem dL_law_322 : decode cL_law 322 = .ok (.iaload, 1) := by decide +kernel
theorem dL_law_323 : decode cL_law 323 = .ok (.i2c, 1) := by decide +kernel
theorem dL_law_324 : decode cL_law 324 = .ok (.invokevirtual 45, 3) := by decide +kernel
theorem dL_law_327 : decode cL_law 327 = .ok (.aload_n 2, 1) := by decide +kernel
theorem dL_law_328 : decode cL_law 328 = .ok (.aload_n 0, 1) := by decide +kernel
theorem dL_law_329 : decode cL_law 329 = .ok (.iload_n 3, 1) := by decide +kernel
theorem dL_law_330 : decode cL_law 330 = .ok (.iconst 1, 1) := by decide +kernel
theorem dL_law_331 : decode cL_law 331 = .ok (.iadd, 1) := by decide +kernel
theorem dL_law_332 : decode cL_law 332 = .ok (.iaload, 1) := by decide +kernel
theorem dL_law_333 : decode cL_law 333 = .ok (.i2c, 1) := by decide +kernel
theorem dL_law_334 : decode cL_law 334 = .ok (.invokevirtual 49, 3) := by decide +kernel
theorem dL_law_337 : decode cL_law 337 = .ok (.if_icmp .eq 307, 3) := by decide +kernel
theorem dL_law_340 : decode cL_law 340 = .ok (.iconst 0, 1) := by decide +kernel
theorem dL_law_341 : decode cL_law 341 = .ok (.ireturn, 1) := by decide +kernel
theorem dL_law_342 : decode cL_law 342 = .ok (.aload_n 1, 1) := by decide +kernel
theorem dL_law_343 : decode cL_law 343 = .ok (.invokevirtual 50, 3) := by decide +kernel
theorem dL_law_346 : decode cL_law 346 = .ok (.aload_n 2, 1) := by decide +kernel
theorem dL_law_347 : decode cL_law 347 = .ok (.invokevirtual 53, 3) := by decide +kernel
theorem dL_law_350 : decode cL_law 350 = .ok (.if_icmp .eq 294, 3) := by decide +kernel
theorem dL_law_353 : decode cL_law 353 = .ok (.iconst 0, 1) := by decide +kernel
theorem dL_law_354 : decode cL_law 354 = .ok (.ireturn, 1) := by decide +kernel
theorem dL_law_355 : decode cL_law 355 = .ok (.aload_n 1, 1) := by decide +kernel
theorem dL_law_356 : decode cL_law 356 = .ok (.invokevirtual 54, 3) := by decide +kernel
theorem dL_law_359 : decode cL_law 359 = .ok (.aload_n 2, 1) := by decide +kernel
theorem dL_law_360 : decode cL_law 360 = .ok (.invokevirtual 57, 3) := by decide +kernel
theorem dL_law_363 : decode cL_law 363 = .ok (.if_icmp .eq 281, 3) := by decide +kernel
theorem dL_law_366 : decode cL_law 366 = .ok (.iconst 0, 1) := by decide +kernel
theorem dL_law_367 : decode cL_law 367 = .ok (.ireturn, 1) := by decide +kernel
theorem dL_law_368 : decode cL_law 368 = .ok (.aload_n 1, 1) := by decide +kernel
theorem dL_law_369 : decode cL_law 369 = .ok (.invokevirtual 58, 3) := by decide +kernel
theorem dL_law_372 : decode cL_law 372 = .ok (.aload_n 2, 1) := by decide +kernel
theorem dL_law_373 : decode cL_law 373 = .ok (.invokevirtual 61, 3) := by decide +kernel
theorem dL_law_376 : decode cL_law 376 = .ok (.if_icmp .eq 268, 3) := by decide +kernel
theorem dL_law_379 : decode cL_law 379 = .ok (.iconst 0, 1) := by decide +kernel
theorem dL_law_380 : decode cL_law 380 = .ok (.ireturn, 1) := by decide +kernel
theorem dL_law_381 : decode cL_law 381 = .ok (.aload_n 1, 1) := by decide +kernel
theorem dL_law_382 : decode cL_law 382 = .ok (.invokevirtual 62, 3) := by decide +kernel
theorem dL_law_385 : decode cL_law 385 = .ok (.aload_n 2, 1) := by decide +kernel
theorem dL_law_386 : decode cL_law 386 = .ok (.invokevirtual 65, 3) := by decide +kernel
theorem dL_law_389 : decode cL_law 389 = .ok (.if_icmp .eq 255, 3) := by decide +kernel
theorem dL_law_392 : decode cL_law 392 = .ok (.iconst 0, 1) := by decide +kernel
theorem dL_law_393 : decode cL_law 393 = .ok (.ireturn, 1) := by decide +kernel
theorem dL_law_394 : decode cL_law 394 = .ok (.aload_n 1, 1) := by decide +kernel
theorem dL_law_395 : decode cL_law 395 = .ok (.aload_n 0, 1) := by decide +kernel
theorem dL_law_396 : decode cL_law 396 = .ok (.iload_n 3, 1) := by decide +kernel
theorem dL_law_397 : decode cL_law 397 = .ok (.iconst 1, 1) := by decide +kernel
theorem dL_law_398 : decode cL_law 398 = .ok (.iadd, 1) := by decide +kernel
theorem dL_law_399 : decode cL_law 399 = .ok (.iaload, 1) := by decide +kernel
theorem dL_law_400 : decode cL_law 400 = .ok (.aload_n 0, 1) := by decide +kernel
theorem dL_law_401 : decode cL_law 401 = .ok (.iload_n 3, 1) := by decide +kernel
theorem dL_law_402 : decode cL_law 402 = .ok (.iconst 2, 1) := by decide +kernel
theorem dL_law_403 : decode cL_law 403 = .ok (.iadd, 1) := by decide +kernel
theorem dL_law_404 : decode cL_law 404 = .ok (.iaload, 1) := by decide +kernel
theorem dL_law_405 : decode cL_law 405 = .ok (.invokevirtual 66, 3) := by decide +kernel
theorem dL_law_408 : decode cL_law 408 = .ok (.aload_n 2, 1) := by decide +kernel
theorem dL_law_409 : decode cL_law 409 = .ok (.aload_n 0, 1) := by decide +kernel
theorem dL_law_410 : decode cL_law 410 = .ok (.iload_n 3, 1) := by decide +kernel
theorem dL_law_411 : decode cL_law 411 = .ok (.iconst 1, 1) := by decide +kernel
theorem dL_law_412 : decode cL_law 412 = .ok (.iadd, 1) := by decide +kernel
theorem dL_law_413 : decode cL_law 413 = .ok (.iaload, 1) := by decide +kernel
theorem dL_law_414 : decode cL_law 414 = .ok (.aload_n 0, 1) := by decide +kernel
theorem dL_law_415 : decode cL_law 415 = .ok (.iload_n 3, 1) := by decide +kernel
theorem dL_law_416 : decode cL_law 416 = .ok (.iconst 2, 1) := by decide +kernel
theorem dL_law_417 : decode cL_law 417 = .ok (.iadd, 1) := by decide +kernel
theorem dL_law_418 : decode cL_law 418 = .ok (.iaload, 1) := by decide +kernel
theorem dL_law_419 : decode cL_law 419 = .ok (.invokevirtual 69, 3) := by decide +kernel
theorem dL_law_422 : decode cL_law 422 = .ok (.if_icmp .eq 222, 3) := by decide +kernel
theorem dL_law_425 : decode cL_law 425 = .ok (.iconst 0, 1) := by decide +kernel
theorem dL_law_426 : decode cL_law 426 = .ok (.ireturn, 1) := by decide +kernel
theorem dL_law_427 : decode cL_law 427 = .ok (.aload_n 1, 1) := by decide +kernel
theorem dL_law_428 : decode cL_law 428 = .ok (.aload_n 0, 1) := by decide +kernel
theorem dL_law_429 : decode cL_law 429 = .ok (.iload_n 3, 1) := by decide +kernel
theorem dL_law_430 : decode cL_law 430 = .ok (.iconst 1, 1) := by decide +kernel
theorem dL_law_431 : decode cL_law 431 = .ok (.iadd, 1) := by decide +kernel
theorem dL_law_432 : decode cL_law 432 = .ok (.iaload, 1) := by decide +kernel
theorem dL_law_433 : decode cL_law 433 = .ok (.invokevirtual 70, 3) := by decide +kernel
theorem dL_law_436 : decode cL_law 436 = .ok (.aload_n 2, 1) := by decide +kernel
theorem dL_law_437 : decode cL_law 437 = .ok (.aload_n 0, 1) := by decide +kernel
theorem dL_law_438 : decode cL_law 438 = .ok (.iload_n 3, 1) := by decide +kernel
theorem dL_law_439 : decode cL_law 439 = .ok (.iconst 1, 1) := by decide +kernel
theorem dL_law_440 : decode cL_law 440 = .ok (.iadd, 1) := by decide +kernel
theorem dL_law_441 : decode cL_law 441 = .ok (.iaload, 1) := by decide +kernel
theorem dL_law_442 : decode cL_law 442 = .ok (.invokevirtual 73, 3) := by decide +kernel
theorem dL_law_445 : decode cL_law 445 = .ok (.if_icmp .eq 199, 3) := by decide +kernel
theorem dL_law_448 : decode cL_law 448 = .ok (.iconst 0, 1) := by decide +kernel
theorem dL_law_449 : decode cL_law 449 = .ok (.ireturn, 1) := by decide +kernel
theorem dL_law_450 : decode cL_law 450 = .ok (.aload_n 1, 1) := by decide +kernel
theorem dL_law_451 : decode cL_law 451 = .ok (.aload_n 0, 1) := by decide +kernel
theorem dL_law_452 : decode cL_law 452 = .ok (.iload_n 3, 1) := by decide +kernel
theorem dL_law_453 : decode cL_law 453 = .ok (.iconst 1, 1) := by decide +kernel
theorem dL_law_454 : decode cL_law 454 = .ok (.iadd, 1) := by decide +kernel
theorem dL_law_455 : decode cL_law 455 = .ok (.iaload, 1) := by decide +kernel
theorem dL_law_456 : decode cL_law 456 = .ok (.aload_n 0, 1) := by decide +kernel
theorem dL_law_457 : decode cL_law 457 = .ok (.iload_n 3, 1) := by decide +kernel
theorem dL_law_458 : decode cL_law 458 = .ok (.iconst 2, 1) := by decide +kernel
theorem dL_law_459 : decode cL_law 459 = .ok (.iadd, 1) := by decide +kernel
theorem dL_law_460 : decode cL_law 460 = .ok (.iaload, 1) := by decide +kernel
theorem dL_law_461 : decode cL_law 461 = .ok (.invokevirtual 74, 3) := by decide +kernel
theorem dL_law_464 : decode cL_law 464 = .ok (.aload_n 2, 1) := by decide +kernel
theorem dL_law_465 : decode cL_law 465 = .ok (.aload_n 0, 1) := by decide +kernel
theorem dL_law_466 : decode cL_law 466 = .ok (.iload_n 3, 1) := by decide +kernel
theorem dL_law_467 : decode cL_law 467 = .ok (.iconst 1, 1) := by decide +kernel
theorem dL_law_468 : decode cL_law 468 = .ok (.iadd, 1) := by decide +kernel
theorem dL_law_469 : decode cL_law 469 = .ok (.iaload, 1) := by decide +kernel
theorem dL_law_470 : decode cL_law 470 = .ok (.aload_n 0, 1) := by decide +kernel
theorem dL_law_471 : decode cL_law 471 = .ok (.iload_n 3, 1) := by decide +kernel
theorem dL_law_472 : decode cL_law 472 = .ok (.iconst 2, 1) := by decide +kernel
theorem dL_law_473 : decode cL_law 473 = .ok (.iadd, 1) := by decide +kernel
theorem dL_law_474 : decode cL_law 474 = .ok (.iaload, 1) := by decide +kernel
theorem dL_law_475 : decode cL_law 475 = .ok (.invokevirtual 77, 3) := by decide +kernel
theorem dL_law_478 : decode cL_law 478 = .ok (.if_icmp .eq 166, 3) := by decide +kernel
theorem dL_law_481 : decode cL_law 481 = .ok (.iconst 0, 1) := by decide +kernel
theorem dL_law_482 : decode cL_law 482 = .ok (.ireturn, 1) := by decide +kernel
theorem dL_law_483 : decode cL_law 483 = .ok (.aload_n 1, 1) := by decide +kernel
theorem dL_law_484 : decode cL_law 484 = .ok (.aload_n 0, 1) := by decide +kernel
theorem dL_law_485 : decode cL_law 485 = .ok (.iload_n 3, 1) := by decide +kernel
theorem dL_law_486 : decode cL_law 486 = .ok (.iconst 1, 1) := by decide +kernel
theorem dL_law_487 : decode cL_law 487 = .ok (.iadd, 1) := by decide +kernel
theorem dL_law_488 : decode cL_law 488 = .ok (.iaload, 1) := by decide +kernel
theorem dL_law_489 : decode cL_law 489 = .ok (.aload_n 0, 1) := by decide +kernel
theorem dL_law_490 : decode cL_law 490 = .ok (.iload_n 3, 1) := by decide +kernel
theorem dL_law_491 : decode cL_law 491 = .ok (.iconst 2, 1) := by decide +kernel
theorem dL_law_492 : decode cL_law 492 = .ok (.iadd, 1) := by decide +kernel
theorem dL_law_493 : decode cL_law 493 = .ok (.iaload, 1) := by decide +kernel
theorem dL_law_494 : decode cL_law 494 = .ok (.aload_n 0, 1) := by decide +kernel
theorem dL_law_495 : decode cL_law 495 = .ok (.iload_n 3, 1) := by decide +kernel
theorem dL_law_496 : decode cL_law 496 = .ok (.iconst 3, 1) := by decide +kernel
theorem dL_law_497 : decode cL_law 497 = .ok (.iadd, 1) := by decide +kernel
theorem dL_law_498 : decode cL_law 498 = .ok (.iaload, 1) := by decide +kernel
theorem dL_law_499 : decode cL_law 499 = .ok (.invokevirtual 78, 3) := by decide +kernel
theorem dL_law_502 : decode cL_law 502 = .ok (.aload_n 2, 1) := by decide +kernel
theorem dL_law_503 : decode cL_law 503 = .ok (.aload_n 0, 1) := by decide +kernel
theorem dL_law_504 : decode cL_law 504 = .ok (.iload_n 3, 1) := by decide +kernel
theorem dL_law_505 : decode cL_law 505 = .ok (.iconst 1, 1) := by decide +kernel
theorem dL_law_506 : decode cL_law 506 = .ok (.iadd, 1) := by decide +kernel
theorem dL_law_507 : decode cL_law 507 = .ok (.iaload, 1) := by decide +kernel
theorem dL_law_508 : decode cL_law 508 = .ok (.aload_n 0, 1) := by decide +kernel
theorem dL_law_509 : decode cL_law 509 = .ok (.iload_n 3, 1) := by decide +kernel
theorem dL_law_510 : decode cL_law 510 = .ok (.iconst 2, 1) := by decide +kernel
theorem dL_law_511 : decode cL_law 511 = .ok (.iadd, 1) := by decide +kernel
theorem dL_law_512 : decode cL_law 512 = .ok (.iaload, 1) := by decide +kernel
theorem dL_law_513 : decode cL_law 513 = .ok (.aload_n 0, 1) := by decide +kernel
theorem dL_law_514 : decode cL_law 514 = .ok (.iload_n 3, 1) := by decide +kernel
theorem dL_law_515 : decode cL_law 515 = .ok (.iconst 3, 1) := by decide +kernel
theorem dL_law_516 : decode cL_law 516 = .ok (.iadd, 1) := by decide +kernel
theorem dL_law_517 : decode cL_law 517 = .ok (.iaload, 1) := by decide +kernel
theorem dL_law_518 : decode cL_law 518 = .ok (.invokevirtual 81, 3) := by decide +kernel
theorem dL_law_521 : decode cL_law 521 = .ok (.if_icmp .eq 123, 3) := by decide +kernel
theorem dL_law_524 : decode cL_law 524 = .ok (.iconst 0, 1) := by decide +kernel
theorem dL_law_525 : decode cL_law 525 = .ok (.ireturn, 1) := by decide +kernel
theorem dL_law_526 : decode cL_law 526 = .ok (.aload_n 1, 1) := by decide +kernel
theorem dL_law_527 : decode cL_law 527 = .ok (.aload_n 0, 1) := by decide +kernel
theorem dL_law_528 : decode cL_law 528 = .ok (.iload_n 3, 1) := by decide +kernel
theorem dL_law_529 : decode cL_law 529 = .ok (.iconst 1, 1) := by decide +kernel
theorem dL_law_530 : decode cL_law 530 = .ok (.iadd, 1) := by decide +kernel
theorem dL_law_531 : decode cL_law 531 = .ok (.iaload, 1) := by decide +kernel
theorem dL_law_532 : decode cL_law 532 = .ok (.aload_n 0, 1) := by decide +kernel
theorem dL_law_533 : decode cL_law 533 = .ok (.iload_n 3, 1) := by decide +kernel
theorem dL_law_534 : decode cL_law 534 = .ok (.iconst 2, 1) := by decide +kernel
theorem dL_law_535 : decode cL_law 535 = .ok (.iadd, 1) := by decide +kernel
theorem dL_law_536 : decode cL_law 536 = .ok (.iaload, 1) := by decide +kernel
theorem dL_law_537 : decode cL_law 537 = .ok (.invokevirtual 82, 3) := by decide +kernel
theorem dL_law_540 : decode cL_law 540 = .ok (.aload_n 2, 1) := by decide +kernel
theorem dL_law_541 : decode cL_law 541 = .ok (.aload_n 0, 1) := by decide +kernel
theorem dL_law_542 : decode cL_law 542 = .ok (.iload_n 3, 1) := by decide +kernel
theorem dL_law_543 : decode cL_law 543 = .ok (.iconst 1, 1) := by decide +kernel
theorem dL_law_544 : decode cL_law 544 = .ok (.iadd, 1) := by decide +kernel
theorem dL_law_545 : decode cL_law 545 = .ok (.iaload, 1) := by decide +kernel
theorem dL_law_546 : decode cL_law 546 = .ok (.aload_n 0, 1) := by decide +kernel
theorem dL_law_547 : decode cL_law 547 = .ok (.iload_n 3, 1) := by decide +kernel
theorem dL_law_548 : decode cL_law 548 = .ok (.iconst 2, 1) := by decide +kernel
theorem dL_law_549 : decode cL_law 549 = .ok (.iadd, 1) := by decide +kernel
theorem dL_law_550 : decode cL_law 550 = .ok (.iaload, 1) := by decide +kernel
theorem dL_law_551 : decode cL_law 551 = .ok (.invokevirtual 85, 3) := by decide +kernel
theorem dL_law_554 : decode cL_law 554 = .ok (.if_icmp .eq 90, 3) := by decide +kernel
theorem dL_law_557 : decode cL_law 557 = .ok (.iconst 0, 1) := by decide +kernel
theorem dL_law_558 : decode cL_law 558 = .ok (.ireturn, 1) := by decide +kernel
theorem dL_law_559 : decode cL_law 559 = .ok (.aload_n 1, 1) := by decide +kernel
theorem dL_law_560 : decode cL_law 560 = .ok (.aload_n 0, 1) := by decide +kernel
theorem dL_law_561 : decode cL_law 561 = .ok (.iload_n 3, 1) := by decide +kernel
theorem dL_law_562 : decode cL_law 562 = .ok (.iconst 1, 1) := by decide +kernel
theorem dL_law_563 : decode cL_law 563 = .ok (.iadd, 1) := by decide +kernel
theorem dL_law_564 : decode cL_law 564 = .ok (.iaload, 1) := by decide +kernel
theorem dL_law_565 : decode cL_law 565 = .ok (.invokevirtual 86, 3) := by decide +kernel
theorem dL_law_568 : decode cL_law 568 = .ok (.aload_n 2, 1) := by decide +kernel
theorem dL_law_569 : decode cL_law 569 = .ok (.aload_n 0, 1) := by decide +kernel
theorem dL_law_570 : decode cL_law 570 = .ok (.iload_n 3, 1) := by decide +kernel
theorem dL_law_571 : decode cL_law 571 = .ok (.iconst 1, 1) := by decide +kernel
theorem dL_law_572 : decode cL_law 572 = .ok (.iadd, 1) := by decide +kernel
theorem dL_law_573 : decode cL_law 573 = .ok (.iaload, 1) := by decide +kernel
theorem dL_law_574 : decode cL_law 574 = .ok (.invokevirtual 89, 3) := by decide +kernel
theorem dL_law_577 : decode cL_law 577 = .ok (.if_icmp .eq 67, 3) := by decide +kernel
theorem dL_law_580 : decode cL_law 580 = .ok (.iconst 0, 1) := by decide +kernel
theorem dL_law_581 : decode cL_law 581 = .ok (.ireturn, 1) := by decide +kernel
theorem dL_law_582 : decode cL_law 582 = .ok (.aload_n 1, 1) := by decide +kernel
theorem dL_law_583 : decode cL_law 583 = .ok (.invokevirtual 90, 3) := by decide +kernel
theorem dL_law_586 : decode cL_law 586 = .ok (.aload_n 2, 1) := by decide +kernel
theorem dL_law_587 : decode cL_law 587 = .ok (.invokevirtual 93, 3) := by decide +kernel
theorem dL_law_590 : decode cL_law 590 = .ok (.if_icmp .eq 54, 3) := by decide +kernel
theorem dL_law_593 : decode cL_law 593 = .ok (.iconst 0, 1) := by decide +kernel
theorem dL_law_594 : decode cL_law 594 = .ok (.ireturn, 1) := by decide +kernel
theorem dL_law_595 : decode cL_law 595 = .ok (.aload_n 1, 1) := by decide +kernel
theorem dL_law_596 : decode cL_law 596 = .ok (.invokevirtual 94, 3) := by decide +kernel
theorem dL_law_599 : decode cL_law 599 = .ok (.aload_n 2, 1) := by decide +kernel
theorem dL_law_600 : decode cL_law 600 = .ok (.invokevirtual 97, 3) := by decide +kernel
theorem dL_law_603 : decode cL_law 603 = .ok (.if_icmp .eq 41, 3) := by decide +kernel
theorem dL_law_606 : decode cL_law 606 = .ok (.iconst 0, 1) := by decide +kernel
theorem dL_law_607 : decode cL_law 607 = .ok (.ireturn, 1) := by decide +kernel
theorem dL_law_608 : decode cL_law 608 = .ok (.aload_n 1, 1) := by decide +kernel
theorem dL_law_609 : decode cL_law 609 = .ok (.aload_n 0, 1) := by decide +kernel
theorem dL_law_610 : decode cL_law 610 = .ok (.iload_n 3, 1) := by decide +kernel
theorem dL_law_611 : decode cL_law 611 = .ok (.iconst 1, 1) := by decide +kernel
theorem dL_law_612 : decode cL_law 612 = .ok (.iadd, 1) := by decide +kernel
theorem dL_law_613 : decode cL_law 613 = .ok (.iaload, 1) := by decide +kernel
theorem dL_law_614 : decode cL_law 614 = .ok (.invokevirtual 98, 3) := by decide +kernel
theorem dL_law_617 : decode cL_law 617 = .ok (.aload_n 2, 1) := by decide +kernel
theorem dL_law_618 : decode cL_law 618 = .ok (.aload_n 0, 1) := by decide +kernel
theorem dL_law_619 : decode cL_law 619 = .ok (.iload_n 3, 1) := by decide +kernel
theorem dL_law_620 : decode cL_law 620 = .ok (.iconst 1, 1) := by decide +kernel
theorem dL_law_621 : decode cL_law 621 = .ok (.iadd, 1) := by decide +kernel
theorem dL_law_622 : decode cL_law 622 = .ok (.iaload, 1) := by decide +kernel
theorem dL_law_623 : decode cL_law 623 = .ok (.invokevirtual 101, 3) := by decide +kernel
theorem dL_law_626 : decode cL_law 626 = .ok (.if_icmp .eq 18, 3) := by decide +kernel
theorem dL_law_629 : decode cL_law 629 = .ok (.iconst 0, 1) := by decide +kernel
theorem dL_law_630 : decode cL_law 630 = .ok (.ireturn, 1) := by decide +kernel
theorem dL_law_631 : decode cL_law 631 = .ok (.aload_n 1, 1) := by decide +kernel
theorem dL_law_632 : decode cL_law 632 = .ok (.invokevirtual 102, 3) := by decide +kernel
theorem dL_law_635 : decode cL_law 635 = .ok (.aload_n 2, 1) := by decide +kernel
theorem dL_law_636 : decode cL_law 636 = .ok (.invokevirtual 105, 3) := by decide +kernel
theorem dL_law_639 : decode cL_law 639 = .ok (.if_icmp .eq 5, 3) := by decide +kernel
theorem dL_law_642 : decode cL_law 642 = .ok (.iconst 0, 1) := by decide +kernel
theorem dL_law_643 : decode cL_law 643 = .ok (.ireturn, 1) := by decide +kernel
theorem dL_law_644 : decode cL_law 644 = .ok (.iinc 3 4, 3) := by decide +kernel
theorem dL_law_647 : decode cL_law 647 = .ok (.goto (-629), 3) := by decide +kernel
theorem dL_law_650 : decode cL_law 650 = .ok (.iconst 1, 1) := by decide +kernel
theorem dL_law_651 : decode cL_law 651 = .ok (.ireturn, 1) := by decide +kernel
