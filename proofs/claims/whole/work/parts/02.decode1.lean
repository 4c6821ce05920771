theorem dX4_errandsInAll_25 : decode cX4_errandsInAll 25 = .ok (.iload_n 1, 1) := by decide +kernel
theorem dX4_errandsInAll_26 : decode cX4_errandsInAll 26 = .ok (.aload 5, 2) := by decide +kernel
theorem dX4_errandsInAll_28 : decode cX4_errandsInAll 28 = .ok (.invokevirtual 199, 3) := by decide +kernel
theorem dX4_errandsInAll_31 : decode cX4_errandsInAll 31 = .ok (.iadd, 1) := by decide +kernel
theorem dX4_errandsInAll_32 : decode cX4_errandsInAll 32 = .ok (.istore_n 1, 1) := by decide +kernel
theorem dX4_errandsInAll_33 : decode cX4_errandsInAll 33 = .ok (.iinc 4 1, 3) := by decide +kernel
theorem dX4_errandsInAll_36 : decode cX4_errandsInAll 36 = .ok (.goto (-23), 3) := by decide +kernel
theorem dX4_errandsInAll_39 : decode cX4_errandsInAll 39 = .ok (.iconst 0, 1) := by decide +kernel
theorem dX4_errandsInAll_40 : decode cX4_errandsInAll 40 = .ok (.istore_n 2, 1) := by decide +kernel
theorem dX4_errandsInAll_41 : decode cX4_errandsInAll 41 = .ok (.iload_n 2, 1) := by decide +kernel
theorem dX4_errandsInAll_42 : decode cX4_errandsInAll 42 = .ok (.aload_n 0, 1) := by decide +kernel
theorem dX4_errandsInAll_43 : decode cX4_errandsInAll 43 = .ok (.getfield 51, 3) := by decide +kernel
theorem dX4_errandsInAll_46 : decode cX4_errandsInAll 46 = .ok (.if_icmp .ge 30, 3) := by decide +kernel
theorem dX4_errandsInAll_49 : decode cX4_errandsInAll 49 = .ok (.iload_n 2, 1) := by decide +kernel
theorem dX4_errandsInAll_50 : decode cX4_errandsInAll 50 = .ok (.aload_n 0, 1) := by decide +kernel
theorem dX4_errandsInAll_51 : decode cX4_errandsInAll 51 = .ok (.getfield 30, 3) := by decide +kernel
theorem dX4_errandsInAll_54 : decode cX4_errandsInAll 54 = .ok (.arraylength, 1) := by decide +kernel
theorem dX4_errandsInAll_55 : decode cX4_errandsInAll 55 = .ok (.if_icmp .ge 21, 3) := by decide +kernel
theorem dX4_errandsInAll_58 : decode cX4_errandsInAll 58 = .ok (.iload_n 1, 1) := by decide +kernel
theorem dX4_errandsInAll_59 : decode cX4_errandsInAll 59 = .ok (.aload_n 0, 1) := by decide +kernel
theorem dX4_errandsInAll_60 : decode cX4_errandsInAll 60 = .ok (.getfield 30, 3) := by decide +kernel
theorem dX4_errandsInAll_63 : decode cX4_errandsInAll 63 = .ok (.iload_n 2, 1) := by decide +kernel
theorem dX4_errandsInAll_64 : decode cX4_errandsInAll 64 = .ok (.aaload, 1) := by decide +kernel
theorem dX4_errandsInAll_65 : decode cX4_errandsInAll 65 = .ok (.invokevirtual 202, 3) := by decide +kernel
theorem dX4_errandsInAll_68 : decode cX4_errandsInAll 68 = .ok (.iadd, 1) := by decide +kernel
theorem dX4_errandsInAll_69 : decode cX4_errandsInAll 69 = .ok (.istore_n 1, 1) := by decide +kernel
theorem dX4_errandsInAll_70 : decode cX4_errandsInAll 70 = .ok (.iinc 2 1, 3) := by decide +kernel
theorem dX4_errandsInAll_73 : decode cX4_errandsInAll 73 = .ok (.goto (-32), 3) := by decide +kernel
theorem dX4_errandsInAll_76 : decode cX4_errandsInAll 76 = .ok (.iload_n 1, 1) := by decide +kernel
theorem dX4_errandsInAll_77 : decode cX4_errandsInAll 77 = .ok (.ireturn, 1) := by decide +kernel
theorem dX4_tell_0 : decode cX4_tell 0 = .ok (.iload_n 1, 1) := by decide +kernel
theorem dX4_tell_1 : decode cX4_tell 1 = .ok (.tableswitch 166 0 14 #[75, 80, 85, 90, 95, 100, 105, 110, 115, 120, 125, 130, 143, 156, 161], 75) := by decide +kernel
theorem dX4_tell_76 : decode cX4_tell 76 = .ok (.aload_n 0, 1) := by decide +kernel
theorem dX4_tell_77 : decode cX4_tell 77 = .ok (.getfield 40, 3) := by decide +kernel
theorem dX4_tell_80 : decode cX4_tell 80 = .ok (.ireturn, 1) := by decide +kernel
theorem dX4_tell_81 : decode cX4_tell 81 = .ok (.aload_n 0, 1) := by decide +kernel
theorem dX4_tell_82 : decode cX4_tell 82 = .ok (.getfield 61, 3) := by decide +kernel
theorem dX4_tell_85 : decode cX4_tell 85 = .ok (.ireturn, 1) := by decide +kernel
theorem dX4_tell_86 : decode cX4_tell 86 = .ok (.aload_n 0, 1) := by decide +kernel
theorem dX4_tell_87 : decode cX4_tell 87 = .ok (.getfield 64, 3) := by decide +kernel
theorem dX4_tell_90 : decode cX4_tell 90 = .ok (.ireturn, 1) := by decide +kernel
theorem dX4_tell_91 : decode cX4_tell 91 = .ok (.aload_n 0, 1) := by decide +kernel
theorem dX4_tell_92 : decode cX4_tell 92 = .ok (.invokevirtual 205, 3) := by decide +kernel
theorem dX4_tell_95 : decode cX4_tell 95 = .ok (.ireturn, 1) := by decide +kernel
theorem dX4_tell_96 : decode cX4_tell 96 = .ok (.aload_n 0, 1) := by decide +kernel
theorem dX4_tell_97 : decode cX4_tell 97 = .ok (.invokevirtual 208, 3) := by decide +kernel
theorem dX4_tell_100 : decode cX4_tell 100 = .ok (.ireturn, 1) := by decide +kernel
theorem dX4_tell_101 : decode cX4_tell 101 = .ok (.aload_n 0, 1) := by decide +kernel
theorem dX4_tell_102 : decode cX4_tell 102 = .ok (.getfield 67, 3) := by decide +kernel
theorem dX4_tell_105 : decode cX4_tell 105 = .ok (.ireturn, 1) := by decide +kernel
theorem dX4_tell_106 : decode cX4_tell 106 = .ok (.aload_n 0, 1) := by decide +kernel
theorem dX4_tell_107 : decode cX4_tell 107 = .ok (.getfield 51, 3) := by decide +kernel
theorem dX4_tell_110 : decode cX4_tell 110 = .ok (.ireturn, 1) := by decide +kernel
theorem dX4_tell_111 : decode cX4_tell 111 = .ok (.aload_n 0, 1) := by decide +kernel
theorem dX4_tell_112 : decode cX4_tell 112 = .ok (.invokevirtual 189, 3) := by decide +kernel
theorem dX4_tell_115 : decode cX4_tell 115 = .ok (.ireturn, 1) := by decide +kernel
theorem dX4_tell_116 : decode cX4_tell 116 = .ok (.aload_n 0, 1) := by decide +kernel
theorem dX4_tell_117 : decode cX4_tell 117 = .ok (.getfield 70, 3) := by decide +kernel
theorem dX4_tell_120 : decode cX4_tell 120 = .ok (.ireturn, 1) := by decide +kernel
theorem dX4_tell_121 : decode cX4_tell 121 = .ok (.aload_n 0, 1) := by decide +kernel
theorem dX4_tell_122 : decode cX4_tell 122 = .ok (.getfield 73, 3) := by decide +kernel
theorem dX4_tell_125 : decode cX4_tell 125 = .ok (.ireturn, 1) := by decide +kernel
theorem dX4_tell_126 : decode cX4_tell 126 = .ok (.aload_n 0, 1) := by decide +kernel
theorem dX4_tell_127 : decode cX4_tell 127 = .ok (.getfield 76, 3) := by decide +kernel
theorem dX4_tell_130 : decode cX4_tell 130 = .ok (.ireturn, 1) := by decide +kernel
theorem dX4_tell_131 : decode cX4_tell 131 = .ok (.aload_n 0, 1) := by decide +kernel
theorem dX4_tell_132 : decode cX4_tell 132 = .ok (.invokevirtual 211, 3) := by decide +kernel
theorem dX4_tell_135 : decode cX4_tell 135 = .ok (.ifCond .eq 7, 3) := by decide +kernel
theorem dX4_tell_138 : decode cX4_tell 138 = .ok (.iconst 1, 1) := by decide +kernel
theorem dX4_tell_139 : decode cX4_tell 139 = .ok (.goto 4, 3) := by decide +kernel
theorem dX4_tell_142 : decode cX4_tell 142 = .ok (.iconst 0, 1) := by decide +kernel
theorem dX4_tell_143 : decode cX4_tell 143 = .ok (.ireturn, 1) := by decide +kernel
theorem dX4_tell_144 : decode cX4_tell 144 = .ok (.aload_n 0, 1) := by decide +kernel
theorem dX4_tell_145 : decode cX4_tell 145 = .ok (.invokevirtual 214, 3) := by decide +kernel
theorem dX4_tell_148 : decode cX4_tell 148 = .ok (.ifCond .eq 7, 3) := by decide +kernel
theorem dX4_tell_151 : decode cX4_tell 151 = .ok (.iconst 1, 1) := by decide +kernel
theorem dX4_tell_152 : decode cX4_tell 152 = .ok (.goto 4, 3) := by decide +kernel
theorem dX4_tell_155 : decode cX4_tell 155 = .ok (.iconst 0, 1) := by decide +kernel
theorem dX4_tell_156 : decode cX4_tell 156 = .ok (.ireturn, 1) := by decide +kernel
theorem dX4_tell_157 : decode cX4_tell 157 = .ok (.aload_n 0, 1) := by decide +kernel
theorem dX4_tell_158 : decode cX4_tell 158 = .ok (.getfield 9, 3) := by decide +kernel
theorem dX4_tell_161 : decode cX4_tell 161 = .ok (.ireturn, 1) := by decide +kernel
theorem dX4_tell_162 : decode cX4_tell 162 = .ok (.aload_n 0, 1) := by decide +kernel
theorem dX4_tell_163 : decode cX4_tell 163 = .ok (.getfield 15, 3) := by decide +kernel
theorem dX4_tell_166 : decode cX4_tell 166 = .ok (.ireturn, 1) := by decide +kernel
theorem dX4_tell_167 : decode cX4_tell 167 = .ok (.bipush (-2), 2) := by decide +kernel
theorem dX4_tell_169 : decode cX4_tell 169 = .ok (.ireturn, 1) := by decide +kernel
theorem dX5_init_0 : decode cX5_init 0 = .ok (.aload_n 0, 1) := by decide +kernel
theorem dX5_init_1 : decode cX5_init 1 = .ok (.invokespecial 3, 3) := by decide +kernel
theorem dX5_init_4 : decode cX5_init 4 = .ok (.aload_n 0, 1) := by decide +kernel
theorem dX5_init_5 : decode cX5_init 5 = .ok (.new 9, 3) := by decide +kernel
theorem dX5_init_8 : decode cX5_init 8 = .ok (.dup, 1) := by decide +kernel
theorem dX5_init_9 : decode cX5_init 9 = .ok (.invokespecial 11, 3) := by decide +kernel
theorem dX5_init_12 : decode cX5_init 12 = .ok (.putfield 12, 3) := by decide +kernel
theorem dX5_init_15 : decode cX5_init 15 = .ok (.aload_n 0, 1) := by decide +kernel
theorem dX5_init_16 : decode cX5_init 16 = .ok (.new 9, 3) := by decide +kernel
theorem dX5_init_19 : decode cX5_init 19 = .ok (.dup, 1) := by decide +kernel
theorem dX5_init_20 : decode cX5_init 20 = .ok (.invokespecial 11, 3) := by decide +kernel
theorem dX5_init_23 : decode cX5_init 23 = .ok (.putfield 16, 3) := by decide +kernel
theorem dX5_init_26 : decode cX5_init 26 = .ok (.aload_n 0, 1) := by decide +kernel
theorem dX5_init_27 : decode cX5_init 27 = .ok (.new 9, 3) := by decide +kernel
theorem dX5_init_30 : decode cX5_init 30 = .ok (.dup, 1) := by decide +kernel
theorem dX5_init_31 : decode cX5_init 31 = .ok (.invokespecial 11, 3) := by decide +kernel
theorem dX5_init_34 : decode cX5_init 34 = .ok (.putfield 19, 3) := by decide +kernel
theorem dX5_init_37 : decode cX5_init 37 = .ok (.aload_n 0, 1) := by decide +kernel
theorem dX5_init_38 : decode cX5_init 38 = .ok (.iconst 4, 1) := by decide +kernel
theorem dX5_init_39 : decode cX5_init 39 = .ok (.anewarray 9, 3) := by decide +kernel
theorem dX5_init_42 : decode cX5_init 42 = .ok (.putfield 22, 3) := by decide +kernel
theorem dX5_init_45 : decode cX5_init 45 = .ok (.aload_n 0, 1) := by decide +kernel
theorem dX5_init_46 : decode cX5_init 46 = .ok (.bipush 60, 2) := by decide +kernel
theorem dX5_init_48 : decode cX5_init 48 = .ok (.newarray .char, 2) := by decide +kernel
theorem dX5_init_50 : decode cX5_init 50 = .ok (.putfield 26, 3) := by decide +kernel
theorem dX5_init_53 : decode cX5_init 53 = .ok (.aload_n 0, 1) := by decide +kernel
theorem dX5_init_54 : decode cX5_init 54 = .ok (.new 30, 3) := by decide +kernel
theorem dX5_init_57 : decode cX5_init 57 = .ok (.dup, 1) := by decide +kernel
theorem dX5_init_58 : decode cX5_init 58 = .ok (.invokespecial 32, 3) := by decide +kernel
theorem dX5_init_61 : decode cX5_init 61 = .ok (.putfield 33, 3) := by decide +kernel
theorem dX5_init_64 : decode cX5_init 64 = .ok (.iconst 0, 1) := by decide +kernel
theorem dX5_init_65 : decode cX5_init 65 = .ok (.istore_n 1, 1) := by decide +kernel
theorem dX5_init_66 : decode cX5_init 66 = .ok (.iload_n 1, 1) := by decide +kernel
theorem dX5_init_67 : decode cX5_init 67 = .ok (.aload_n 0, 1) := by decide +kernel
theorem dX5_init_68 : decode cX5_init 68 = .ok (.getfield 22, 3) := by decide +kernel
theorem dX5_init_71 : decode cX5_init 71 = .ok (.arraylength, 1) := by decide +kernel
theorem dX5_init_72 : decode cX5_init 72 = .ok (.if_icmp .ge 22, 3) := by decide +kernel
theorem dX5_init_75 : decode cX5_init 75 = .ok (.aload_n 0, 1) := by decide +kernel
theorem dX5_init_76 : decode cX5_init 76 = .ok (.getfield 22, 3) := by decide +kernel
theorem dX5_init_79 : decode cX5_init 79 = .ok (.iload_n 1, 1) := by decide +kernel
theorem dX5_init_80 : decode cX5_init 80 = .ok (.new 9, 3) := by decide +kernel
theorem dX5_init_83 : decode cX5_init 83 = .ok (.dup, 1) := by decide +kernel
theorem dX5_init_84 : decode cX5_init 84 = .ok (.invokespecial 11, 3) := by decide +kernel
theorem dX5_init_87 : decode cX5_init 87 = .ok (.aastore, 1) := by decide +kernel
theorem dX5_init_88 : decode cX5_init 88 = .ok (.iinc 1 1, 3) := by decide +kernel
theorem dX5_init_91 : decode cX5_init 91 = .ok (.goto (-25), 3) := by decide +kernel
theorem dX5_init_94 : decode cX5_init 94 = .ok (.return_, 1) := by decide +kernel
theorem dX5_setTime_0 : decode cX5_setTime 0 = .ok (.iload_n 1, 1) := by decide +kernel
theorem dX5_setTime_1 : decode cX5_setTime 1 = .ok (.invokestatic 37, 3) := by decide +kernel
theorem dX5_setTime_4 : decode cX5_setTime 4 = .ok (.ifCond .eq 10, 3) := by decide +kernel
theorem dX5_setTime_7 : decode cX5_setTime 7 = .ok (.iload_n 2, 1) := by decide +kernel
theorem dX5_setTime_8 : decode cX5_setTime 8 = .ok (.invokestatic 37, 3) := by decide +kernel
theorem dX5_setTime_11 : decode cX5_setTime 11 = .ok (.ifCond .ne 5, 3) := by decide +kernel
theorem dX5_setTime_14 : decode cX5_setTime 14 = .ok (.iconst (-1), 1) := by decide +kernel
theorem dX5_setTime_15 : decode cX5_setTime 15 = .ok (.ireturn, 1) := by decide +kernel
theorem dX5_setTime_16 : decode cX5_setTime 16 = .ok (.iload_n 3, 1) := by decide +kernel
theorem dX5_setTime_17 : decode cX5_setTime 17 = .ok (.invokestatic 41, 3) := by decide +kernel
theorem dX5_setTime_20 : decode cX5_setTime 20 = .ok (.ifCond .eq 8, 3) := by decide +kernel
theorem dX5_setTime_23 : decode cX5_setTime 23 = .ok (.iload_n 1, 1) := by decide +kernel
theorem dX5_setTime_24 : decode cX5_setTime 24 = .ok (.iload_n 2, 1) := by decide +kernel
theorem dX5_setTime_25 : decode cX5_setTime 25 = .ok (.if_icmp .ne 6, 3) := by decide +kernel
theorem dX5_setTime_28 : decode cX5_setTime 28 = .ok (.bipush (-2), 2) := by decide +kernel
theorem dX5_setTime_30 : decode cX5_setTime 30 = .ok (.ireturn, 1) := by decide +kernel
theorem dX5_setTime_31 : decode cX5_setTime 31 = .ok (.aload_n 0, 1) := by decide +kernel
theorem dX5_setTime_32 : decode cX5_setTime 32 = .ok (.iload_n 1, 1) := by decide +kernel
theorem dX5_setTime_33 : decode cX5_setTime 33 = .ok (.iload_n 2, 1) := by decide +kernel
theorem dX5_setTime_34 : decode cX5_setTime 34 = .ok (.iload_n 3, 1) := by decide +kernel
theorem dX5_setTime_35 : decode cX5_setTime 35 = .ok (.invokevirtual 44, 3) := by decide +kernel
theorem dX5_setTime_38 : decode cX5_setTime 38 = .ok (.ireturn, 1) := by decide +kernel
theorem dX5_setBankTime_0 : decode cX5_setBankTime 0 = .ok (.iload_n 1, 1) := by decide +kernel
theorem dX5_setBankTime_1 : decode cX5_setBankTime 1 = .ok (.invokestatic 37, 3) := by decide +kernel
theorem dX5_setBankTime_4 : decode cX5_setBankTime 4 = .ok (.ifCond .ne 5, 3) := by decide +kernel
theorem dX5_setBankTime_7 : decode cX5_setBankTime 7 = .ok (.iconst (-1), 1) := by decide +kernel
theorem dX5_setBankTime_8 : decode cX5_setBankTime 8 = .ok (.ireturn, 1) := by decide +kernel
theorem dX5_setBankTime_9 : decode cX5_setBankTime 9 = .ok (.iload_n 2, 1) := by decide +kernel
theorem dX5_setBankTime_10 : decode cX5_setBankTime 10 = .ok (.invokestatic 41, 3) := by decide +kernel
theorem dX5_setBankTime_13 : decode cX5_setBankTime 13 = .ok (.ifCond .ne 6, 3) := by decide +kernel
theorem dX5_setBankTime_16 : decode cX5_setBankTime 16 = .ok (.bipush (-2), 2) := by decide +kernel
theorem dX5_setBankTime_18 : decode cX5_setBankTime 18 = .ok (.ireturn, 1) := by decide +kernel
theorem dX5_setBankTime_19 : decode cX5_setBankTime 19 = .ok (.aload_n 0, 1) := by decide +kernel
theorem dX5_setBankTime_20 : decode cX5_setBankTime 20 = .ok (.iload_n 1, 1) := by decide +kernel
theorem dX5_setBankTime_21 : decode cX5_setBankTime 21 = .ok (.bipush 6, 2) := by decide +kernel
theorem dX5_setBankTime_23 : decode cX5_setBankTime 23 = .ok (.iload_n 2, 1) := by decide +kernel
theorem dX5_setBankTime_24 : decode cX5_setBankTime 24 = .ok (.invokevirtual 44, 3) := by decide +kernel
theorem dX5_setBankTime_27 : decode cX5_setBankTime 27 = .ok (.ireturn, 1) := by decide +kernel
theorem dX5_set_0 : decode cX5_set 0 = .ok (.iload_n 1, 1) := by decide +kernel
theorem dX5_set_1 : decode cX5_set 1 = .ok (.ifCond .ne 9, 3) := by decide +kernel
theorem dX5_set_4 : decode cX5_set 4 = .ok (.aload_n 0, 1) := by decide +kernel
theorem dX5_set_5 : decode cX5_set 5 = .ok (.iload_n 2, 1) := by decide +kernel
theorem dX5_set_6 : decode cX5_set 6 = .ok (.invokevirtual 48, 3) := by decide +kernel
theorem dX5_set_9 : decode cX5_set 9 = .ok (.ireturn, 1) := by decide +kernel
theorem dX5_set_10 : decode cX5_set 10 = .ok (.iload_n 1, 1) := by decide +kernel
theorem dX5_set_11 : decode cX5_set 11 = .ok (.iconst 1, 1) := by decide +kernel
theorem dX5_set_12 : decode cX5_set 12 = .ok (.if_icmp .ne 9, 3) := by decide +kernel
theorem dX5_set_15 : decode cX5_set 15 = .ok (.aload_n 0, 1) := by decide +kernel
theorem dX5_set_16 : decode cX5_set 16 = .ok (.iload_n 2, 1) := by decide +kernel
theorem dX5_set_17 : decode cX5_set 17 = .ok (.invokevirtual 52, 3) := by decide +kernel
theorem dX5_set_20 : decode cX5_set 20 = .ok (.ireturn, 1) := by decide +kernel
theorem dX5_set_21 : decode cX5_set 21 = .ok (.iconst (-1), 1) := by decide +kernel
theorem dX5_set_22 : decode cX5_set 22 = .ok (.ireturn, 1) := by decide +kernel
theorem dX5_launch_0 : decode cX5_launch 0 = .ok (.aload_n 0, 1) := by decide +kernel
theorem dX5_launch_1 : decode cX5_launch 1 = .ok (.getfield 33, 3) := by decide +kernel
theorem dX5_launch_4 : decode cX5_launch 4 = .ok (.aload_n 0, 1) := by decide +kernel
theorem dX5_launch_5 : decode cX5_launch 5 = .ok (.getfield 26, 3) := by decide +kernel
theorem dX5_launch_8 : decode cX5_launch 8 = .ok (.aload_n 0, 1) := by decide +kernel
theorem dX5_launch_9 : decode cX5_launch 9 = .ok (.getfield 55, 3) := by decide +kernel
theorem dX5_launch_12 : decode cX5_launch 12 = .ok (.invokevirtual 59, 3) := by decide +kernel
theorem dX5_launch_15 : decode cX5_launch 15 = .ok (.istore_n 1, 1) := by decide +kernel
theorem dX5_launch_16 : decode cX5_launch 16 = .ok (.iload_n 1, 1) := by decide +kernel
theorem dX5_launch_17 : decode cX5_launch 17 = .ok (.iconst (-1), 1) := by decide +kernel
theorem dX5_launch_18 : decode cX5_launch 18 = .ok (.if_icmp .eq 8, 3) := by decide +kernel
theorem dX5_launch_21 : decode cX5_launch 21 = .ok (.bipush (-100), 2) := by decide +kernel
theorem dX5_launch_23 : decode cX5_launch 23 = .ok (.iload_n 1, 1) := by decide +kernel
theorem dX5_launch_24 : decode cX5_launch 24 = .ok (.isub, 1) := by decide +kernel
theorem dX5_launch_25 : decode cX5_launch 25 = .ok (.ireturn, 1) := by decide +kernel
theorem dX5_launch_26 : decode cX5_launch 26 = .ok (.aload_n 0, 1) := by decide +kernel
theorem dX5_launch_27 : decode cX5_launch 27 = .ok (.getfield 12, 3) := by decide +kernel
theorem dX5_launch_30 : decode cX5_launch 30 = .ok (.invokevirtual 63, 3) := by decide +kernel
theorem dX5_launch_33 : decode cX5_launch 33 = .ok (.aload_n 0, 1) := by decide +kernel
theorem dX5_launch_34 : decode cX5_launch 34 = .ok (.getfield 33, 3) := by decide +kernel
theorem dX5_launch_37 : decode cX5_launch 37 = .ok (.getfield 67, 3) := by decide +kernel
theorem dX5_launch_40 : decode cX5_launch 40 = .ok (.iadd, 1) := by decide +kernel
theorem dX5_launch_41 : decode cX5_launch 41 = .ok (.bipush 80, 2) := by decide +kernel
theorem dX5_launch_43 : decode cX5_launch 43 = .ok (.if_icmp .le 6, 3) := by decide +kernel
theorem dX5_launch_46 : decode cX5_launch 46 = .ok (.bipush (-3), 2) := by decide +kernel
theorem dX5_launch_48 : decode cX5_launch 48 = .ok (.ireturn, 1) := by decide +kernel
theorem dX5_launch_49 : decode cX5_launch 49 = .ok (.aload_n 0, 1) := by decide +kernel
theorem dX5_launch_50 : decode cX5_launch 50 = .ok (.invokevirtual 70, 3) := by decide +kernel
theorem dX5_launch_53 : decode cX5_launch 53 = .ok (.aload_n 0, 1) := by decide +kernel
theorem dX5_launch_54 : decode cX5_launch 54 = .ok (.getfield 12, 3) := by decide +kernel
theorem dX5_launch_57 : decode cX5_launch 57 = .ok (.aload_n 0, 1) := by decide +kernel
theorem dX5_launch_58 : decode cX5_launch 58 = .ok (.getfield 33, 3) := by decide +kernel
theorem dX5_launch_61 : decode cX5_launch 61 = .ok (.invokevirtual 73, 3) := by decide +kernel
theorem dX5_launch_64 : decode cX5_launch 64 = .ok (.aload_n 0, 1) := by decide +kernel
theorem dX5_launch_65 : decode cX5_launch 65 = .ok (.getfield 33, 3) := by decide +kernel
theorem dX5_launch_68 : decode cX5_launch 68 = .ok (.getfield 77, 3) := by decide +kernel
theorem dX5_launch_71 : decode cX5_launch 71 = .ok (.ireturn, 1) := by decide +kernel
theorem dX5_pass_0 : decode cX5_pass 0 = .ok (.iload_n 1, 1) := by decide +kernel
theorem dX5_pass_1 : decode cX5_pass 1 = .ok (.iconst 1, 1) := by decide +kernel
theorem dX5_pass_2 : decode cX5_pass 2 = .ok (.if_icmp .lt 9, 3) := by decide +kernel
theorem dX5_pass_5 : decode cX5_pass 5 = .ok (.iload_n 1, 1) := by decide +kernel
theorem dX5_pass_6 : decode cX5_pass 6 = .ok (.bipush 100, 2) := by decide +kernel
theorem dX5_pass_8 : decode cX5_pass 8 = .ok (.if_icmp .le 6, 3) := by decide +kernel
theorem dX5_pass_11 : decode cX5_pass 11 = .ok (.bipush (-2), 2) := by decide +kernel
theorem dX5_pass_13 : decode cX5_pass 13 = .ok (.ireturn, 1) := by decide +kernel
theorem dX5_pass_14 : decode cX5_pass 14 = .ok (.aload_n 0, 1) := by decide +kernel
theorem dX5_pass_15 : decode cX5_pass 15 = .ok (.getfield 12, 3) := by decide +kernel
theorem dX5_pass_18 : decode cX5_pass 18 = .ok (.getfield 80, 3) := by decide +kernel
theorem dX5_pass_21 : decode cX5_pass 21 = .ok (.iload_n 1, 1) := by decide +kernel
theorem dX5_pass_22 : decode cX5_pass 22 = .ok (.iadd, 1) := by decide +kernel
theorem dX5_pass_23 : decode cX5_pass 23 = .ok (.ldc 83, 2) := by decide +kernel
theorem dX5_pass_25 : decode cX5_pass 25 = .ok (.if_icmp .le 6, 3) := by decide +kernel
theorem dX5_pass_28 : decode cX5_pass 28 = .ok (.bipush (-3), 2) := by decide +kernel
theorem dX5_pass_30 : decode cX5_pass 30 = .ok (.ireturn, 1) := by decide +kernel
theorem dX5_pass_31 : decode cX5_pass 31 = .ok (.aload_n 0, 1) := by decide +kernel
theorem dX5_pass_32 : decode cX5_pass 32 = .ok (.invokevirtual 70, 3) := by decide +kernel
theorem dX5_pass_35 : decode cX5_pass 35 = .ok (.iconst 0, 1) := by decide +kernel
theorem dX5_pass_36 : decode cX5_pass 36 = .ok (.istore_n 2, 1) := by decide +kernel
theorem dX5_pass_37 : decode cX5_pass 37 = .ok (.iload_n 2, 1) := by decide +kernel
theorem dX5_pass_38 : decode cX5_pass 38 = .ok (.iload_n 1, 1) := by decide +kernel
theorem dX5_pass_39 : decode cX5_pass 39 = .ok (.if_icmp .ge 16, 3) := by decide +kernel
theorem dX5_pass_42 : decode cX5_pass 42 = .ok (.aload_n 0, 1) := by decide +kernel
theorem dX5_pass_43 : decode cX5_pass 43 = .ok (.getfield 12, 3) := by decide +kernel
theorem dX5_pass_46 : decode cX5_pass 46 = .ok (.invokevirtual 84, 3) := by decide +kernel
theorem dX5_pass_49 : decode cX5_pass 49 = .ok (.iinc 2 1, 3) := by decide +kernel
theorem dX5_pass_52 : decode cX5_pass 52 = .ok (.goto (-15), 3) := by decide +kernel
theorem dX5_pass_55 : decode cX5_pass 55 = .ok (.aload_n 0, 1) := by decide +kernel
theorem dX5_pass_56 : decode cX5_pass 56 = .ok (.getfield 12, 3) := by decide +kernel
theorem dX5_pass_59 : decode cX5_pass 59 = .ok (.getfield 80, 3) := by decide +kernel
theorem dX5_pass_62 : decode cX5_pass 62 = .ok (.ireturn, 1) := by decide +kernel
theorem dX5_lose_0 : decode cX5_lose 0 = .ok (.iload_n 1, 1) := by decide +kernel
theorem dX5_lose_1 : decode cX5_lose 1 = .ok (.ifCond .ge 6, 3) := by decide +kernel
theorem dX5_lose_4 : decode cX5_lose 4 = .ok (.bipush (-2), 2) := by decide +kernel
theorem dX5_lose_6 : decode cX5_lose 6 = .ok (.ireturn, 1) := by decide +kernel
theorem dX5_lose_7 : decode cX5_lose 7 = .ok (.aload_n 0, 1) := by decide +kernel
theorem dX5_lose_8 : decode cX5_lose 8 = .ok (.getfield 12, 3) := by decide +kernel
theorem dX5_lose_11 : decode cX5_lose 11 = .ok (.iload_n 1, 1) := by decide +kernel
theorem dX5_lose_12 : decode cX5_lose 12 = .ok (.invokevirtual 87, 3) := by decide +kernel
theorem dX5_lose_15 : decode cX5_lose 15 = .ok (.ifCond .ne 5, 3) := by decide +kernel
theorem dX5_lose_18 : decode cX5_lose 18 = .ok (.iconst (-1), 1) := by decide +kernel
theorem dX5_lose_19 : decode cX5_lose 19 = .ok (.ireturn, 1) := by decide +kernel
theorem dX5_lose_20 : decode cX5_lose 20 = .ok (.aload_n 0, 1) := by decide +kernel
theorem dX5_lose_21 : decode cX5_lose 21 = .ok (.invokevirtual 70, 3) := by decide +kernel
theorem dX5_lose_24 : decode cX5_lose 24 = .ok (.aload_n 0, 1) := by decide +kernel
theorem dX5_lose_25 : decode cX5_lose 25 = .ok (.getfield 12, 3) := by decide +kernel
theorem dX5_lose_28 : decode cX5_lose 28 = .ok (.iload_n 1, 1) := by decide +kernel
theorem dX5_lose_29 : decode cX5_lose 29 = .ok (.invokevirtual 90, 3) := by decide +kernel
theorem dX5_lose_32 : decode cX5_lose 32 = .ok (.ireturn, 1) := by decide +kernel
theorem dX5_makeGood_0 : decode cX5_makeGood 0 = .ok (.aload_n 0, 1) := by decide +kernel
theorem dX5_makeGood_1 : decode cX5_makeGood 1 = .ok (.getfield 12, 3) := by decide +kernel
theorem dX5_makeGood_4 : decode cX5_makeGood 4 = .ok (.getfield 93, 3) := by decide +kernel
theorem dX5_makeGood_7 : decode cX5_makeGood 7 = .ok (.ifCond .ne 6, 3) := by decide +kernel
theorem dX5_makeGood_10 : decode cX5_makeGood 10 = .ok (.bipush (-5), 2) := by decide +kernel
theorem dX5_makeGood_12 : decode cX5_makeGood 12 = .ok (.ireturn, 1) := by decide +kernel
theorem dX5_makeGood_13 : decode cX5_makeGood 13 = .ok (.aload_n 0, 1) := by decide +kernel
theorem dX5_makeGood_14 : decode cX5_makeGood 14 = .ok (.invokevirtual 70, 3) := by decide +kernel
theorem dX5_makeGood_17 : decode cX5_makeGood 17 = .ok (.aload_n 0, 1) := by decide +kernel
theorem dX5_makeGood_18 : decode cX5_makeGood 18 = .ok (.getfield 12, 3) := by decide +kernel
theorem dX5_makeGood_21 : decode cX5_makeGood 21 = .ok (.invokevirtual 97, 3) := by decide +kernel
theorem dX5_makeGood_24 : decode cX5_makeGood 24 = .ok (.ireturn, 1) := by decide +kernel
theorem dX5_type_0 : decode cX5_type 0 = .ok (.aload_n 0, 1) := by decide +kernel
theorem dX5_type_1 : decode cX5_type 1 = .ok (.getfield 55, 3) := by decide +kernel
theorem dX5_type_4 : decode cX5_type 4 = .ok (.ifCond .lt 15, 3) := by decide +kernel
theorem dX5_type_7 : decode cX5_type 7 = .ok (.aload_n 0, 1) := by decide +kernel
theorem dX5_type_8 : decode cX5_type 8 = .ok (.getfield 55, 3) := by decide +kernel
theorem dX5_type_11 : decode cX5_type 11 = .ok (.aload_n 0, 1) := by decide +kernel
theorem dX5_type_12 : decode cX5_type 12 = .ok (.getfield 26, 3) := by decide +kernel
theorem dX5_type_15 : decode cX5_type 15 = .ok (.arraylength, 1) := by decide +kernel
theorem dX5_type_16 : decode cX5_type 16 = .ok (.if_icmp .lt 6, 3) := by decide +kernel
theorem dX5_type_19 : decode cX5_type 19 = .ok (.bipush (-3), 2) := by decide +kernel
theorem dX5_type_21 : decode cX5_type 21 = .ok (.ireturn, 1) := by decide +kernel
theorem dX5_type_22 : decode cX5_type 22 = .ok (.aload_n 0, 1) := by decide +kernel
theorem dX5_type_23 : decode cX5_type 23 = .ok (.getfield 26, 3) := by decide +kernel
theorem dX5_type_26 : decode cX5_type 26 = .ok (.aload_n 0, 1) := by decide +kernel
theorem dX5_type_27 : decode cX5_type 27 = .ok (.getfield 55, 3) := by decide +kernel
theorem dX5_type_30 : decode cX5_type 30 = .ok (.iload_n 1, 1) := by decide +kernel
theorem dX5_type_31 : decode cX5_type 31 = .ok (.castore, 1) := by decide +kernel
theorem dX5_type_32 : decode cX5_type 32 = .ok (.aload_n 0, 1) := by decide +kernel
theorem dX5_type_33 : decode cX5_type 33 = .ok (.dup, 1) := by decide +kernel
theorem dX5_type_34 : decode cX5_type 34 = .ok (.getfield 55, 3) := by decide +kernel
theorem dX5_type_37 : decode cX5_type 37 = .ok (.iconst 1, 1) := by decide +kernel
theorem dX5_type_38 : decode cX5_type 38 = .ok (.iadd, 1) := by decide +kernel
theorem dX5_type_39 : decode cX5_type 39 = .ok (.putfield 55, 3) := by decide +kernel
theorem dX5_type_42 : decode cX5_type 42 = .ok (.aload_n 0, 1) := by decide +kernel
theorem dX5_type_43 : decode cX5_type 43 = .ok (.getfield 55, 3) := by decide +kernel
theorem dX5_type_46 : decode cX5_type 46 = .ok (.ireturn, 1) := by decide +kernel
theorem dX5_clearText_0 : decode cX5_clearText 0 = .ok (.aload_n 0, 1) := by decide +kernel
theorem dX5_clearText_1 : decode cX5_clearText 1 = .ok (.getfield 55, 3) := by decide +kernel
theorem dX5_clearText_4 : decode cX5_clearText 4 = .ok (.istore_n 1, 1) := by decide +kernel
theorem dX5_clearText_5 : decode cX5_clearText 5 = .ok (.aload_n 0, 1) := by decide +kernel
theorem dX5_clearText_6 : decode cX5_clearText 6 = .ok (.iconst 0, 1) := by decide +kernel
theorem dX5_clearText_7 : decode cX5_clearText 7 = .ok (.putfield 55, 3) := by decide +kernel
theorem dX5_clearText_10 : decode cX5_clearText 10 = .ok (.iload_n 1, 1) := by decide +kernel
theorem dX5_clearText_11 : decode cX5_clearText 11 = .ok (.ireturn, 1) := by decide +kernel
theorem dX5_undo_0 : decode cX5_undo 0 = .ok (.aload_n 0, 1) := by decide +kernel
theorem dX5_undo_1 : decode cX5_undo 1 = .ok (.getfield 100, 3) := by decide +kernel
theorem dX5_undo_4 : decode cX5_undo 4 = .ok (.iconst 1, 1) := by decide +kernel
theorem dX5_undo_5 : decode cX5_undo 5 = .ok (.isub, 1) := by decide +kernel
theorem dX5_undo_6 : decode cX5_undo 6 = .ok (.istore_n 1, 1) := by decide +kernel
theorem dX5_undo_7 : decode cX5_undo 7 = .ok (.iload_n 1, 1) := by decide +kernel
theorem dX5_undo_8 : decode cX5_undo 8 = .ok (.ifCond .lt 12, 3) := by decide +kernel
theorem dX5_undo_11 : decode cX5_undo 11 = .ok (.iload_n 1, 1) := by decide +kernel
theorem dX5_undo_12 : decode cX5_undo 12 = .ok (.aload_n 0, 1) := by decide +kernel
theorem dX5_undo_13 : decode cX5_undo 13 = .ok (.getfield 22, 3) := by decide +kernel
theorem dX5_undo_16 : decode cX5_undo 16 = .ok (.arraylength, 1) := by decide +kernel
theorem dX5_undo_17 : decode cX5_undo 17 = .ok (.if_icmp .lt 6, 3) := by decide +kernel
theorem dX5_undo_20 : decode cX5_undo 20 = .ok (.bipush (-5), 2) := by decide +kernel
theorem dX5_undo_22 : decode cX5_undo 22 = .ok (.ireturn, 1) := by decide +kernel
theorem dX5_undo_23 : decode cX5_undo 23 = .ok (.aload_n 0, 1) := by decide +kernel
theorem dX5_undo_24 : decode cX5_undo 24 = .ok (.getfield 12, 3) := by decide +kernel
theorem dX5_undo_27 : decode cX5_undo 27 = .ok (.aload_n 0, 1) := by decide +kernel
theorem dX5_undo_28 : decode cX5_undo 28 = .ok (.getfield 22, 3) := by decide +kernel
theorem dX5_undo_31 : decode cX5_undo 31 = .ok (.iload_n 1, 1) := by decide +kernel
theorem dX5_undo_32 : decode cX5_undo 32 = .ok (.aaload, 1) := by decide +kernel
theorem dX5_undo_33 : decode cX5_undo 33 = .ok (.invokevirtual 103, 3) := by decide +kernel
theorem dX5_undo_36 : decode cX5_undo 36 = .ok (.aload_n 0, 1) := by decide +kernel
theorem dX5_undo_37 : decode cX5_undo 37 = .ok (.iload_n 1, 1) := by decide +kernel
theorem dX5_undo_38 : decode cX5_undo 38 = .ok (.putfield 100, 3) := by decide +kernel
theorem dX5_undo_41 : decode cX5_undo 41 = .ok (.aload_n 0, 1) := by decide +kernel
theorem dX5_undo_42 : decode cX5_undo 42 = .ok (.getfield 100, 3) := by decide +kernel
theorem dX5_undo_45 : decode cX5_undo 45 = .ok (.ireturn, 1) := by decide +kernel
theorem dX5_keep_0 : decode cX5_keep 0 = .ok (.aload_n 0, 1) := by decide +kernel
theorem dX5_keep_1 : decode cX5_keep 1 = .ok (.getfield 16, 3) := by decide +kernel
theorem dX5_keep_4 : decode cX5_keep 4 = .ok (.aload_n 0, 1) := by decide +kernel
theorem dX5_keep_5 : decode cX5_keep 5 = .ok (.getfield 12, 3) := by decide +kernel
theorem dX5_keep_8 : decode cX5_keep 8 = .ok (.invokevirtual 103, 3) := by decide +kernel
theorem dX5_keep_11 : decode cX5_keep 11 = .ok (.aload_n 0, 1) := by decide +kernel
theorem dX5_keep_12 : decode cX5_keep 12 = .ok (.iconst 1, 1) := by decide +kernel
theorem dX5_keep_13 : decode cX5_keep 13 = .ok (.putfield 107, 3) := by decide +kernel
theorem dX5_keep_16 : decode cX5_keep 16 = .ok (.aload_n 0, 1) := by decide +kernel
theorem dX5_keep_17 : decode cX5_keep 17 = .ok (.getfield 12, 3) := by decide +kernel
theorem dX5_keep_20 : decode cX5_keep 20 = .ok (.getfield 80, 3) := by decide +kernel
theorem dX5_keep_23 : decode cX5_keep 23 = .ok (.ireturn, 1) := by decide +kernel
theorem dX5_restore_0 : decode cX5_restore 0 = .ok (.aload_n 0, 1) := by decide +kernel
theorem dX5_restore_1 : decode cX5_restore 1 = .ok (.getfield 107, 3) := by decide +kernel
theorem dX5_restore_4 : decode cX5_restore 4 = .ok (.ifCond .ne 6, 3) := by decide +kernel
theorem dX5_restore_7 : decode cX5_restore 7 = .ok (.bipush (-5), 2) := by decide +kernel
theorem dX5_restore_9 : decode cX5_restore 9 = .ok (.ireturn, 1) := by decide +kernel
theorem dX5_restore_10 : decode cX5_restore 10 = .ok (.aload_n 0, 1) := by decide +kernel
theorem dX5_restore_11 : decode cX5_restore 11 = .ok (.invokevirtual 70, 3) := by decide +kernel
theorem dX5_restore_14 : decode cX5_restore 14 = .ok (.aload_n 0, 1) := by decide +kernel
theorem dX5_restore_15 : decode cX5_restore 15 = .ok (.getfield 12, 3) := by decide +kernel
theorem dX5_restore_18 : decode cX5_restore 18 = .ok (.aload_n 0, 1) := by decide +kernel
theorem dX5_restore_19 : decode cX5_restore 19 = .ok (.getfield 16, 3) := by decide +kernel
theorem dX5_restore_22 : decode cX5_restore 22 = .ok (.invokevirtual 103, 3) := by decide +kernel
theorem dX5_restore_25 : decode cX5_restore 25 = .ok (.aload_n 0, 1) := by decide +kernel
theorem dX5_restore_26 : decode cX5_restore 26 = .ok (.getfield 12, 3) := by decide +kernel
theorem dX5_restore_29 : decode cX5_restore 29 = .ok (.getfield 80, 3) := by decide +kernel
theorem dX5_restore_32 : decode cX5_restore 32 = .ok (.ireturn, 1) := by decide +kernel
theorem dX5_time_0 : decode cX5_time 0 = .ok (.iload_n 1, 1) := by decide +kernel
theorem dX5_time_1 : decode cX5_time 1 = .ok (.invokestatic 37, 3) := by decide +kernel
theorem dX5_time_4 : decode cX5_time 4 = .ok (.ifCond .eq 10, 3) := by decide +kernel
theorem dX5_time_7 : decode cX5_time 7 = .ok (.iload_n 2, 1) := by decide +kernel
theorem dX5_time_8 : decode cX5_time 8 = .ok (.invokestatic 37, 3) := by decide +kernel
theorem dX5_time_11 : decode cX5_time 11 = .ok (.ifCond .ne 5, 3) := by decide +kernel
theorem dX5_time_14 : decode cX5_time 14 = .ok (.iconst (-1), 1) := by decide +kernel
theorem dX5_time_15 : decode cX5_time 15 = .ok (.ireturn, 1) := by decide +kernel
theorem dX5_time_16 : decode cX5_time 16 = .ok (.aload_n 0, 1) := by decide +kernel
theorem dX5_time_17 : decode cX5_time 17 = .ok (.getfield 12, 3) := by decide +kernel
theorem dX5_time_20 : decode cX5_time 20 = .ok (.iload_n 1, 1) := by decide +kernel
theorem dX5_time_21 : decode cX5_time 21 = .ok (.iload_n 2, 1) := by decide +kernel
theorem dX5_time_22 : decode cX5_time 22 = .ok (.invokevirtual 110, 3) := by decide +kernel
theorem dX5_time_25 : decode cX5_time 25 = .ok (.ireturn, 1) := by decide +kernel
theorem dX5_bankTime_0 : decode cX5_bankTime 0 = .ok (.iload_n 1, 1) := by decide +kernel
theorem dX5_bankTime_1 : decode cX5_bankTime 1 = .ok (.invokestatic 37, 3) := by decide +kernel
theorem dX5_bankTime_4 : decode cX5_bankTime 4 = .ok (.ifCond .eq 16, 3) := by decide +kernel
theorem dX5_bankTime_7 : decode cX5_bankTime 7 = .ok (.aload_n 0, 1) := by decide +kernel
theorem dX5_bankTime_8 : decode cX5_bankTime 8 = .ok (.getfield 12, 3) := by decide +kernel
theorem dX5_bankTime_11 : decode cX5_bankTime 11 = .ok (.iload_n 1, 1) := by decide +kernel
theorem dX5_bankTime_12 : decode cX5_bankTime 12 = .ok (.bipush 6, 2) := by decide +kernel
theorem dX5_bankTime_14 : decode cX5_bankTime 14 = .ok (.invokevirtual 110, 3) := by decide +kernel
theorem dX5_bankTime_17 : decode cX5_bankTime 17 = .ok (.goto 4, 3) := by decide +kernel
theorem dX5_bankTime_20 : decode cX5_bankTime 20 = .ok (.iconst (-1), 1) := by decide +kernel
theorem dX5_bankTime_21 : decode cX5_bankTime 21 = .ok (.ireturn, 1) := by decide +kernel
theorem dX5_house_0 : decode cX5_house 0 = .ok (.iload_n 1, 1) := by decide +kernel
theorem dX5_house_1 : decode cX5_house 1 = .ok (.invokestatic 37, 3) := by decide +kernel
theorem dX5_house_4 : decode cX5_house 4 = .ok (.ifCond .eq 19, 3) := by decide +kernel
theorem dX5_house_7 : decode cX5_house 7 = .ok (.aload_n 0, 1) := by decide +kernel
theorem dX5_house_8 : decode cX5_house 8 = .ok (.getfield 12, 3) := by decide +kernel
theorem dX5_house_11 : decode cX5_house 11 = .ok (.getfield 114, 3) := by decide +kernel
theorem dX5_house_14 : decode cX5_house 14 = .ok (.iload_n 1, 1) := by decide +kernel
theorem dX5_house_15 : decode cX5_house 15 = .ok (.aaload, 1) := by decide +kernel
theorem dX5_house_16 : decode cX5_house 16 = .ok (.iload_n 2, 1) := by decide +kernel
theorem dX5_house_17 : decode cX5_house 17 = .ok (.invokevirtual 118, 3) := by decide +kernel
theorem dX5_house_20 : decode cX5_house 20 = .ok (.goto 4, 3) := by decide +kernel
theorem dX5_house_23 : decode cX5_house 23 = .ok (.iconst (-1), 1) := by decide +kernel
theorem dX5_house_24 : decode cX5_house 24 = .ok (.ireturn, 1) := by decide +kernel
theorem dX5_waiting_0 : decode cX5_waiting 0 = .ok (.iload_n 1, 1) := by decide +kernel
theorem dX5_waiting_1 : decode cX5_waiting 1 = .ok (.invokestatic 37, 3) := by decide +kernel
theorem dX5_waiting_4 : decode cX5_waiting 4 = .ok (.ifCond .ne 5, 3) := by decide +kernel
theorem dX5_waiting_7 : decode cX5_waiting 7 = .ok (.iconst (-1), 1) := by decide +kernel
theorem dX5_waiting_8 : decode cX5_waiting 8 = .ok (.ireturn, 1) := by decide +kernel
theorem dX5_waiting_9 : decode cX5_waiting 9 = .ok (.iload_n 3, 1) := by decide +kernel
theorem dX5_waiting_10 : decode cX5_waiting 10 = .ok (.ifCond .lt 12, 3) := by decide +kernel
theorem dX5_waiting_13 : decode cX5_waiting 13 = .ok (.iload_n 3, 1) := by decide +kernel
theorem dX5_waiting_14 : decode cX5_waiting 14 = .ok (.iconst 3, 1) := by decide +kernel
theorem dX5_waiting_15 : decode cX5_waiting 15 = .ok (.if_icmp .gt 7, 3) := by decide +kernel
theorem dX5_waiting_18 : decode cX5_waiting 18 = .ok (.iload_n 2, 1) := by decide +kernel
theorem dX5_waiting_19 : decode cX5_waiting 19 = .ok (.ifCond .ge 6, 3) := by decide +kernel
theorem dX5_waiting_22 : decode cX5_waiting 22 = .ok (.bipush (-2), 2) := by decide +kernel
theorem dX5_waiting_24 : decode cX5_waiting 24 = .ok (.ireturn, 1) := by decide +kernel
theorem dX5_waiting_25 : decode cX5_waiting 25 = .ok (.aload_n 0, 1) := by decide +kernel
theorem dX5_waiting_26 : decode cX5_waiting 26 = .ok (.getfield 12, 3) := by decide +kernel
theorem dX5_waiting_29 : decode cX5_waiting 29 = .ok (.getfield 114, 3) := by decide +kernel
theorem dX5_waiting_32 : decode cX5_waiting 32 = .ok (.iload_n 1, 1) := by decide +kernel
theorem dX5_waiting_33 : decode cX5_waiting 33 = .ok (.aaload, 1) := by decide +kernel
theorem dX5_waiting_34 : decode cX5_waiting 34 = .ok (.iload_n 2, 1) := by decide +kernel
theorem dX5_waiting_35 : decode cX5_waiting 35 = .ok (.invokevirtual 123, 3) := by decide +kernel
theorem dX5_waiting_38 : decode cX5_waiting 38 = .ok (.astore 4, 2) := by decide +kernel
theorem dX5_waiting_40 : decode cX5_waiting 40 = .ok (.aload 4, 2) := by decide +kernel
theorem dX5_waiting_42 : decode cX5_waiting 42 = .ok (.ifnonnull 8, 3) := by decide +kernel
theorem dX5_waiting_45 : decode cX5_waiting 45 = .ok (.bipush (-5), 2) := by decide +kernel
theorem dX5_waiting_47 : decode cX5_waiting 47 = .ok (.goto 9, 3) := by decide +kernel
theorem dX5_waiting_50 : decode cX5_waiting 50 = .ok (.aload 4, 2) := by decide +kernel
theorem dX5_waiting_52 : decode cX5_waiting 52 = .ok (.iload_n 3, 1) := by decide +kernel
theorem dX5_waiting_53 : decode cX5_waiting 53 = .ok (.invokevirtual 127, 3) := by decide +kernel
theorem dX5_waiting_56 : decode cX5_waiting 56 = .ok (.ireturn, 1) := by decide +kernel
theorem dX5_message_0 : decode cX5_message 0 = .ok (.iload_n 2, 1) := by decide +kernel
theorem dX5_message_1 : decode cX5_message 1 = .ok (.ifCond .lt 13, 3) := by decide +kernel
theorem dX5_message_4 : decode cX5_message 4 = .ok (.iload_n 2, 1) := by decide +kernel
theorem dX5_message_5 : decode cX5_message 5 = .ok (.bipush 6, 2) := by decide +kernel
theorem dX5_message_7 : decode cX5_message 7 = .ok (.if_icmp .gt 7, 3) := by decide +kernel
theorem dX5_message_10 : decode cX5_message 10 = .ok (.iload_n 1, 1) := by decide +kernel
theorem dX5_message_11 : decode cX5_message 11 = .ok (.ifCond .ge 6, 3) := by decide +kernel
theorem dX5_message_14 : decode cX5_message 14 = .ok (.bipush (-2), 2) := by decide +kernel
theorem dX5_message_16 : decode cX5_message 16 = .ok (.ireturn, 1) := by decide +kernel
theorem dX5_message_17 : decode cX5_message 17 = .ok (.aload_n 0, 1) := by decide +kernel
theorem dX5_message_18 : decode cX5_message 18 = .ok (.getfield 12, 3) := by decide +kernel
theorem dX5_message_21 : decode cX5_message 21 = .ok (.iload_n 1, 1) := by decide +kernel
theorem dX5_message_22 : decode cX5_message 22 = .ok (.invokevirtual 87, 3) := by decide +kernel
theorem dX5_message_25 : decode cX5_message 25 = .ok (.ifCond .eq 26, 3) := by decide +kernel
theorem dX5_message_28 : decode cX5_message 28 = .ok (.aload_n 0, 1) := by decide +kernel
theorem dX5_message_29 : decode cX5_message 29 = .ok (.getfield 12, 3) := by decide +kernel
theorem dX5_message_32 : decode cX5_message 32 = .ok (.getfield 130, 3) := by decide +kernel
theorem dX5_message_35 : decode cX5_message 35 = .ok (.iload_n 1, 1) := by decide +kernel
theorem dX5_message_36 : decode cX5_message 36 = .ok (.aaload, 1) := by decide +kernel
theorem dX5_message_37 : decode cX5_message 37 = .ok (.iload_n 2, 1) := by decide +kernel
theorem dX5_message_38 : decode cX5_message 38 = .ok (.aload_n 0, 1) := by decide +kernel
theorem dX5_message_39 : decode cX5_message 39 = .ok (.getfield 12, 3) := by decide +kernel
theorem dX5_message_42 : decode cX5_message 42 = .ok (.getfield 80, 3) := by decide +kernel
theorem dX5_message_45 : decode cX5_message 45 = .ok (.invokevirtual 134, 3) := by decide +kernel
theorem dX5_message_48 : decode cX5_message 48 = .ok (.goto 5, 3) := by decide +kernel
theorem dX5_message_51 : decode cX5_message 51 = .ok (.bipush (-5), 2) := by decide +kernel
theorem dX5_message_53 : decode cX5_message 53 = .ok (.ireturn, 1) := by decide +kernel
theorem dX5_total_0 : decode cX5_total 0 = .ok (.iload_n 1, 1) := by decide +kernel
theorem dX5_total_1 : decode cX5_total 1 = .ok (.bipush 15, 2) := by decide +kernel
theorem dX5_total_3 : decode cX5_total 3 = .ok (.if_icmp .ne 8, 3) := by decide +kernel
theorem dX5_total_6 : decode cX5_total 6 = .ok (.aload_n 0, 1) := by decide +kernel
theorem dX5_total_7 : decode cX5_total 7 = .ok (.getfield 100, 3) := by decide +kernel
theorem dX5_total_10 : decode cX5_total 10 = .ok (.ireturn, 1) := by decide +kernel
theorem dX5_total_11 : decode cX5_total 11 = .ok (.iload_n 1, 1) := by decide +kernel
theorem dX5_total_12 : decode cX5_total 12 = .ok (.bipush 16, 2) := by decide +kernel
theorem dX5_total_14 : decode cX5_total 14 = .ok (.if_icmp .ne 10, 3) := by decide +kernel
theorem dX5_total_17 : decode cX5_total 17 = .ok (.aload_n 0, 1) := by decide +kernel
theorem dX5_total_18 : decode cX5_total 18 = .ok (.getfield 55, 3) := by decide +kernel
theorem dX5_total_21 : decode cX5_total 21 = .ok (.goto 11, 3) := by decide +kernel
theorem dX5_total_24 : decode cX5_total 24 = .ok (.aload_n 0, 1) := by decide +kernel
theorem dX5_total_25 : decode cX5_total 25 = .ok (.getfield 12, 3) := by decide +kernel
theorem dX5_total_28 : decode cX5_total 28 = .ok (.iload_n 1, 1) := by decide +kernel
theorem dX5_total_29 : decode cX5_total 29 = .ok (.invokevirtual 138, 3) := by decide +kernel
theorem dX5_total_32 : decode cX5_total 32 = .ok (.ireturn, 1) := by decide +kernel
theorem dX5_quietIn_0 : decode cX5_quietIn 0 = .ok (.aload_n 0, 1) := by decide +kernel
theorem dX5_quietIn_1 : decode cX5_quietIn 1 = .ok (.iconst 1, 1) := by decide +kernel
theorem dX5_quietIn_2 : decode cX5_quietIn 2 = .ok (.invokevirtual 139, 3) := by decide +kernel
theorem dX5_quietIn_5 : decode cX5_quietIn 5 = .ok (.ireturn, 1) := by decide +kernel
theorem dX5_idleIn_0 : decode cX5_idleIn 0 = .ok (.aload_n 0, 1) := by decide +kernel
theorem dX5_idleIn_1 : decode cX5_idleIn 1 = .ok (.iconst 0, 1) := by decide +kernel
theorem dX5_idleIn_2 : decode cX5_idleIn 2 = .ok (.invokevirtual 139, 3) := by decide +kernel
theorem dX5_idleIn_5 : decode cX5_idleIn 5 = .ok (.ireturn, 1) := by decide +kernel
theorem dX5_planned_0 : decode cX5_planned 0 = .ok (.iload_n 1, 1) := by decide +kernel
theorem dX5_planned_1 : decode cX5_planned 1 = .ok (.ifCond .lt 8, 3) := by decide +kernel
theorem dX5_planned_4 : decode cX5_planned 4 = .ok (.iload_n 1, 1) := by decide +kernel
theorem dX5_planned_5 : decode cX5_planned 5 = .ok (.iconst 3, 1) := by decide +kernel
theorem dX5_planned_6 : decode cX5_planned 6 = .ok (.if_icmp .le 6, 3) := by decide +kernel
theorem dX5_planned_9 : decode cX5_planned 9 = .ok (.bipush (-2), 2) := by decide +kernel
theorem dX5_planned_11 : decode cX5_planned 11 = .ok (.ireturn, 1) := by decide +kernel
theorem dX5_planned_12 : decode cX5_planned 12 = .ok (.aload_n 0, 1) := by decide +kernel
theorem dX5_planned_13 : decode cX5_planned 13 = .ok (.getfield 33, 3) := by decide +kernel
theorem dX5_planned_16 : decode cX5_planned 16 = .ok (.aload_n 0, 1) := by decide +kernel
theorem dX5_planned_17 : decode cX5_planned 17 = .ok (.getfield 26, 3) := by decide +kernel
theorem dX5_planned_20 : decode cX5_planned 20 = .ok (.aload_n 0, 1) := by decide +kernel
theorem dX5_planned_21 : decode cX5_planned 21 = .ok (.getfield 55, 3) := by decide +kernel
theorem dX5_planned_24 : decode cX5_planned 24 = .ok (.invokevirtual 59, 3) := by decide +kernel
theorem dX5_planned_27 : decode cX5_planned 27 = .ok (.istore_n 2, 1) := by decide +kernel
theorem dX5_planned_28 : decode cX5_planned 28 = .ok (.iload_n 2, 1) := by decide +kernel
theorem dX5_planned_29 : decode cX5_planned 29 = .ok (.iconst (-1), 1) := by decide +kernel
theorem dX5_planned_30 : decode cX5_planned 30 = .ok (.if_icmp .ne 14, 3) := by decide +kernel
theorem dX5_planned_33 : decode cX5_planned 33 = .ok (.aload_n 0, 1) := by decide +kernel
theorem dX5_planned_34 : decode cX5_planned 34 = .ok (.getfield 33, 3) := by decide +kernel
theorem dX5_planned_37 : decode cX5_planned 37 = .ok (.iload_n 1, 1) := by decide +kernel
theorem dX5_planned_38 : decode cX5_planned 38 = .ok (.invokevirtual 143, 3) := by decide +kernel
theorem dX5_planned_41 : decode cX5_planned 41 = .ok (.goto 7, 3) := by decide +kernel
theorem dX5_planned_44 : decode cX5_planned 44 = .ok (.bipush (-100), 2) := by decide +kernel
theorem dX5_planned_46 : decode cX5_planned 46 = .ok (.iload_n 2, 1) := by decide +kernel
theorem dX5_planned_47 : decode cX5_planned 47 = .ok (.isub, 1) := by decide +kernel
theorem dX5_planned_48 : decode cX5_planned 48 = .ok (.ireturn, 1) := by decide +kernel
theorem dX5_leastCoin_0 : decode cX5_leastCoin 0 = .ok (.aload_n 0, 1) := by decide +kernel
theorem dX5_leastCoin_1 : decode cX5_leastCoin 1 = .ok (.getfield 33, 3) := by decide +kernel
theorem dX5_leastCoin_4 : decode cX5_leastCoin 4 = .ok (.aload_n 0, 1) := by decide +kernel
theorem dX5_leastCoin_5 : decode cX5_leastCoin 5 = .ok (.getfield 26, 3) := by decide +kernel
theorem dX5_leastCoin_8 : decode cX5_leastCoin 8 = .ok (.aload_n 0, 1) := by decide +kernel
theorem dX5_leastCoin_9 : decode cX5_leastCoin 9 = .ok (.getfield 55, 3) := by decide +kernel
theorem dX5_leastCoin_12 : decode cX5_leastCoin 12 = .ok (.invokevirtual 59, 3) := by decide +kernel
theorem dX5_leastCoin_15 : decode cX5_leastCoin 15 = .ok (.istore_n 1, 1) := by decide +kernel
theorem dX5_leastCoin_16 : decode cX5_leastCoin 16 = .ok (.iload_n 1, 1) := by decide +kernel
theorem dX5_leastCoin_17 : decode cX5_leastCoin 17 = .ok (.iconst (-1), 1) := by decide +kernel
theorem dX5_leastCoin_18 : decode cX5_leastCoin 18 = .ok (.if_icmp .eq 8, 3) := by decide +kernel
theorem dX5_leastCoin_21 : decode cX5_leastCoin 21 = .ok (.bipush (-100), 2) := by decide +kernel
theorem dX5_leastCoin_23 : decode cX5_leastCoin 23 = .ok (.iload_n 1, 1) := by decide +kernel
theorem dX5_leastCoin_24 : decode cX5_leastCoin 24 = .ok (.isub, 1) := by decide +kernel
theorem dX5_leastCoin_25 : decode cX5_leastCoin 25 = .ok (.ireturn, 1) := by decide +kernel
theorem dX5_leastCoin_26 : decode cX5_leastCoin 26 = .ok (.iconst 2, 1) := by decide +kernel
theorem dX5_leastCoin_27 : decode cX5_leastCoin 27 = .ok (.istore_n 2, 1) := by decide +kernel
theorem dX5_leastCoin_28 : decode cX5_leastCoin 28 = .ok (.iload_n 2, 1) := by decide +kernel
theorem dX5_leastCoin_29 : decode cX5_leastCoin 29 = .ok (.bipush 16, 2) := by decide +kernel
theorem dX5_leastCoin_31 : decode cX5_leastCoin 31 = .ok (.if_icmp .gt 19, 3) := by decide +kernel
theorem dX5_leastCoin_34 : decode cX5_leastCoin 34 = .ok (.aload_n 0, 1) := by decide +kernel
theorem dX5_leastCoin_35 : decode cX5_leastCoin 35 = .ok (.iload_n 2, 1) := by decide +kernel
theorem dX5_leastCoin_36 : decode cX5_leastCoin 36 = .ok (.invokevirtual 144, 3) := by decide +kernel
theorem dX5_leastCoin_39 : decode cX5_leastCoin 39 = .ok (.ifCond .ne 5, 3) := by decide +kernel
theorem dX5_leastCoin_42 : decode cX5_leastCoin 42 = .ok (.iload_n 2, 1) := by decide +kernel
theorem dX5_leastCoin_43 : decode cX5_leastCoin 43 = .ok (.ireturn, 1) := by decide +kernel
theorem dX5_leastCoin_44 : decode cX5_leastCoin 44 = .ok (.iinc 2 1, 3) := by decide +kernel
theorem dX5_leastCoin_47 : decode cX5_leastCoin 47 = .ok (.goto (-19), 3) := by decide +kernel
theorem dX5_leastCoin_50 : decode cX5_leastCoin 50 = .ok (.bipush (-5), 2) := by decide +kernel
theorem dX5_leastCoin_52 : decode cX5_leastCoin 52 = .ok (.ireturn, 1) := by decide +kernel
theorem dX5_isHouse_0 : decode cX5_isHouse 0 = .ok (.iload_n 0, 1) := by decide +kernel
theorem dX5_isHouse_1 : decode cX5_isHouse 1 = .ok (.ifCond .lt 13, 3) := by decide +kernel
theorem dX5_isHouse_4 : decode cX5_isHouse 4 = .ok (.iload_n 0, 1) := by decide +kernel
theorem dX5_isHouse_5 : decode cX5_isHouse 5 = .ok (.bipush 6, 2) := by decide +kernel
theorem dX5_isHouse_7 : decode cX5_isHouse 7 = .ok (.if_icmp .ge 7, 3) := by decide +kernel
theorem dX5_isHouse_10 : decode cX5_isHouse 10 = .ok (.iconst 1, 1) := by decide +kernel
theorem dX5_isHouse_11 : decode cX5_isHouse 11 = .ok (.goto 4, 3) := by decide +kernel
theorem dX5_isHouse_14 : decode cX5_isHouse 14 = .ok (.iconst 0, 1) := by decide +kernel
theorem dX5_isHouse_15 : decode cX5_isHouse 15 = .ok (.ireturn, 1) := by decide +kernel
theorem dX5_isWay_0 : decode cX5_isWay 0 = .ok (.iload_n 0, 1) := by decide +kernel
theorem dX5_isWay_1 : decode cX5_isWay 1 = .ok (.iconst 1, 1) := by decide +kernel
theorem dX5_isWay_2 : decode cX5_isWay 2 = .ok (.if_icmp .lt 13, 3) := by decide +kernel
theorem dX5_isWay_5 : decode cX5_isWay 5 = .ok (.iload_n 0, 1) := by decide +kernel
theorem dX5_isWay_6 : decode cX5_isWay 6 = .ok (.bipush 9, 2) := by decide +kernel
theorem dX5_isWay_8 : decode cX5_isWay 8 = .ok (.if_icmp .gt 7, 3) := by decide +kernel
theorem dX5_isWay_11 : decode cX5_isWay 11 = .ok (.iconst 1, 1) := by decide +kernel
theorem dX5_isWay_12 : decode cX5_isWay 12 = .ok (.goto 4, 3) := by decide +kernel
theorem dX5_isWay_15 : decode cX5_isWay 15 = .ok (.iconst 0, 1) := by decide +kernel
theorem dX5_isWay_16 : decode cX5_isWay 16 = .ok (.ireturn, 1) := by decide +kernel
theorem dX5_changeWay_0 : decode cX5_changeWay 0 = .ok (.aload_n 0, 1) := by decide +kernel
theorem dX5_changeWay_1 : decode cX5_changeWay 1 = .ok (.getfield 12, 3) := by decide +kernel
theorem dX5_changeWay_4 : decode cX5_changeWay 4 = .ok (.iload_n 1, 1) := by decide +kernel
theorem dX5_changeWay_5 : decode cX5_changeWay 5 = .ok (.iload_n 2, 1) := by decide +kernel
theorem dX5_changeWay_6 : decode cX5_changeWay 6 = .ok (.invokevirtual 110, 3) := by decide +kernel
theorem dX5_changeWay_9 : decode cX5_changeWay 9 = .ok (.istore 4, 2) := by decide +kernel
theorem dX5_changeWay_11 : decode cX5_changeWay 11 = .ok (.iload 4, 2) := by decide +kernel
theorem dX5_changeWay_13 : decode cX5_changeWay 13 = .ok (.iload_n 3, 1) := by decide +kernel
theorem dX5_changeWay_14 : decode cX5_changeWay 14 = .ok (.if_icmp .ne 6, 3) := by decide +kernel
theorem dX5_changeWay_17 : decode cX5_changeWay 17 = .ok (.bipush (-5), 2) := by decide +kernel
theorem dX5_changeWay_19 : decode cX5_changeWay 19 = .ok (.ireturn, 1) := by decide +kernel
theorem dX5_changeWay_20 : decode cX5_changeWay 20 = .ok (.aload_n 0, 1) := by decide +kernel
theorem dX5_changeWay_21 : decode cX5_changeWay 21 = .ok (.invokevirtual 70, 3) := by decide +kernel
theorem dX5_changeWay_24 : decode cX5_changeWay 24 = .ok (.aload_n 0, 1) := by decide +kernel
theorem dX5_changeWay_25 : decode cX5_changeWay 25 = .ok (.getfield 12, 3) := by decide +kernel
theorem dX5_changeWay_28 : decode cX5_changeWay 28 = .ok (.iload_n 1, 1) := by decide +kernel
theorem dX5_changeWay_29 : decode cX5_changeWay 29 = .ok (.iload_n 2, 1) := by decide +kernel
theorem dX5_changeWay_30 : decode cX5_changeWay 30 = .ok (.iload_n 3, 1) := by decide +kernel
theorem dX5_changeWay_31 : decode cX5_changeWay 31 = .ok (.invokevirtual 147, 3) := by decide +kernel
theorem dX5_changeWay_34 : decode cX5_changeWay 34 = .ok (.iload 4, 2) := by decide +kernel
theorem dX5_changeWay_36 : decode cX5_changeWay 36 = .ok (.ireturn, 1) := by decide +kernel
theorem dX5_changePower_0 : decode cX5_changePower 0 = .ok (.iload_n 1, 1) := by decide +kernel
theorem dX5_changePower_1 : decode cX5_changePower 1 = .ok (.iconst 2, 1) := by decide +kernel
theorem dX5_changePower_2 : decode cX5_changePower 2 = .ok (.if_icmp .lt 9, 3) := by decide +kernel
theorem dX5_changePower_5 : decode cX5_changePower 5 = .ok (.iload_n 1, 1) := by decide +kernel
theorem dX5_changePower_6 : decode cX5_changePower 6 = .ok (.bipush 16, 2) := by decide +kernel
theorem dX5_changePower_8 : decode cX5_changePower 8 = .ok (.if_icmp .le 6, 3) := by decide +kernel
theorem dX5_changePower_11 : decode cX5_changePower 11 = .ok (.bipush (-2), 2) := by decide +kernel
theorem dX5_changePower_13 : decode cX5_changePower 13 = .ok (.ireturn, 1) := by decide +kernel
theorem dX5_changePower_14 : decode cX5_changePower 14 = .ok (.aload_n 0, 1) := by decide +kernel
theorem dX5_changePower_15 : decode cX5_changePower 15 = .ok (.getfield 12, 3) := by decide +kernel
theorem dX5_changePower_18 : decode cX5_changePower 18 = .ok (.getfield 151, 3) := by decide +kernel
theorem dX5_changePower_21 : decode cX5_changePower 21 = .ok (.istore_n 2, 1) := by decide +kernel
theorem dX5_changePower_22 : decode cX5_changePower 22 = .ok (.iload_n 2, 1) := by decide +kernel
theorem dX5_changePower_23 : decode cX5_changePower 23 = .ok (.iload_n 1, 1) := by decide +kernel
theorem dX5_changePower_24 : decode cX5_changePower 24 = .ok (.if_icmp .ne 6, 3) := by decide +kernel
theorem dX5_changePower_27 : decode cX5_changePower 27 = .ok (.bipush (-5), 2) := by decide +kernel
theorem dX5_changePower_29 : decode cX5_changePower 29 = .ok (.ireturn, 1) := by decide +kernel
theorem dX5_changePower_30 : decode cX5_changePower 30 = .ok (.aload_n 0, 1) := by decide +kernel
theorem dX5_changePower_31 : decode cX5_changePower 31 = .ok (.invokevirtual 70, 3) := by decide +kernel
theorem dX5_changePower_34 : decode cX5_changePower 34 = .ok (.aload_n 0, 1) := by decide +kernel
theorem dX5_changePower_35 : decode cX5_changePower 35 = .ok (.getfield 12, 3) := by decide +kernel
theorem dX5_changePower_38 : decode cX5_changePower 38 = .ok (.iload_n 1, 1) := by decide +kernel
theorem dX5_changePower_39 : decode cX5_changePower 39 = .ok (.putfield 151, 3) := by decide +kernel
theorem dX5_changePower_42 : decode cX5_changePower 42 = .ok (.iload_n 2, 1) := by decide +kernel
theorem dX5_changePower_43 : decode cX5_changePower 43 = .ok (.ireturn, 1) := by decide +kernel
theorem dX5_changeLeastPart_0 : decode cX5_changeLeastPart 0 = .ok (.iload_n 1, 1) := by decide +kernel
theorem dX5_changeLeastPart_1 : decode cX5_changeLeastPart 1 = .ok (.iconst 1, 1) := by decide +kernel
theorem dX5_changeLeastPart_2 : decode cX5_changeLeastPart 2 = .ok (.if_icmp .lt 9, 3) := by decide +kernel
theorem dX5_changeLeastPart_5 : decode cX5_changeLeastPart 5 = .ok (.iload_n 1, 1) := by decide +kernel
theorem dX5_changeLeastPart_6 : decode cX5_changeLeastPart 6 = .ok (.bipush 99, 2) := by decide +kernel
theorem dX5_changeLeastPart_8 : decode cX5_changeLeastPart 8 = .ok (.if_icmp .le 6, 3) := by decide +kernel
theorem dX5_changeLeastPart_11 : decode cX5_changeLeastPart 11 = .ok (.bipush (-2), 2) := by decide +kernel
theorem dX5_changeLeastPart_13 : decode cX5_changeLeastPart 13 = .ok (.ireturn, 1) := by decide +kernel
theorem dX5_changeLeastPart_14 : decode cX5_changeLeastPart 14 = .ok (.aload_n 0, 1) := by decide +kernel
theorem dX5_changeLeastPart_15 : decode cX5_changeLeastPart 15 = .ok (.getfield 12, 3) := by decide +kernel
theorem dX5_changeLeastPart_18 : decode cX5_changeLeastPart 18 = .ok (.getfield 154, 3) := by decide +kernel
theorem dX5_changeLeastPart_21 : decode cX5_changeLeastPart 21 = .ok (.istore_n 2, 1) := by decide +kernel
theorem dX5_changeLeastPart_22 : decode cX5_changeLeastPart 22 = .ok (.iload_n 2, 1) := by decide +kernel
theorem dX5_changeLeastPart_23 : decode cX5_changeLeastPart 23 = .ok (.iload_n 1, 1) := by decide +kernel
theorem dX5_changeLeastPart_24 : decode cX5_changeLeastPart 24 = .ok (.if_icmp .ne 6, 3) := by decide +kernel
theorem dX5_changeLeastPart_27 : decode cX5_changeLeastPart 27 = .ok (.bipush (-5), 2) := by decide +kernel
theorem dX5_changeLeastPart_29 : decode cX5_changeLeastPart 29 = .ok (.ireturn, 1) := by decide +kernel
theorem dX5_changeLeastPart_30 : decode cX5_changeLeastPart 30 = .ok (.aload_n 0, 1) := by decide +kernel
theorem dX5_changeLeastPart_31 : decode cX5_changeLeastPart 31 = .ok (.invokevirtual 70, 3) := by decide +kernel
theorem dX5_changeLeastPart_34 : decode cX5_changeLeastPart 34 = .ok (.aload_n 0, 1) := by decide +kernel
theorem dX5_changeLeastPart_35 : decode cX5_changeLeastPart 35 = .ok (.getfield 12, 3) := by decide +kernel
theorem dX5_changeLeastPart_38 : decode cX5_changeLeastPart 38 = .ok (.iload_n 1, 1) := by decide +kernel
theorem dX5_changeLeastPart_39 : decode cX5_changeLeastPart 39 = .ok (.putfield 154, 3) := by decide +kernel
theorem dX5_changeLeastPart_42 : decode cX5_changeLeastPart 42 = .ok (.iload_n 2, 1) := by decide +kernel
theorem dX5_changeLeastPart_43 : decode cX5_changeLeastPart 43 = .ok (.ireturn, 1) := by decide +kernel
theorem dX5_record_0 : decode cX5_record 0 = .ok (.aload_n 0, 1) := by decide +kernel
theorem dX5_record_1 : decode cX5_record 1 = .ok (.getfield 100, 3) := by decide +kernel
theorem dX5_record_4 : decode cX5_record 4 = .ok (.aload_n 0, 1) := by decide +kernel
theorem dX5_record_5 : decode cX5_record 5 = .ok (.getfield 22, 3) := by decide +kernel
theorem dX5_record_8 : decode cX5_record 8 = .ok (.arraylength, 1) := by decide +kernel
theorem dX5_record_9 : decode cX5_record 9 = .ok (.if_icmp .lt 67, 3) := by decide +kernel
theorem dX5_record_12 : decode cX5_record 12 = .ok (.aload_n 0, 1) := by decide +kernel
theorem dX5_record_13 : decode cX5_record 13 = .ok (.getfield 22, 3) := by decide +kernel
theorem dX5_record_16 : decode cX5_record 16 = .ok (.iconst 0, 1) := by decide +kernel
theorem dX5_record_17 : decode cX5_record 17 = .ok (.aaload, 1) := by decide +kernel
theorem dX5_record_18 : decode cX5_record 18 = .ok (.astore_n 1, 1) := by decide +kernel
theorem dX5_record_19 : decode cX5_record 19 = .ok (.iconst 0, 1) := by decide +kernel
theorem dX5_record_20 : decode cX5_record 20 = .ok (.istore_n 2, 1) := by decide +kernel
theorem dX5_record_21 : decode cX5_record 21 = .ok (.iload_n 2, 1) := by decide +kernel
theorem dX5_record_22 : decode cX5_record 22 = .ok (.iconst 1, 1) := by decide +kernel
theorem dX5_record_23 : decode cX5_record 23 = .ok (.iadd, 1) := by decide +kernel
theorem dX5_record_24 : decode cX5_record 24 = .ok (.aload_n 0, 1) := by decide +kernel
theorem dX5_record_25 : decode cX5_record 25 = .ok (.getfield 22, 3) := by decide +kernel
theorem dX5_record_28 : decode cX5_record 28 = .ok (.arraylength, 1) := by decide +kernel
theorem dX5_record_29 : decode cX5_record 29 = .ok (.if_icmp .ge 23, 3) := by decide +kernel
theorem dX5_record_32 : decode cX5_record 32 = .ok (.aload_n 0, 1) := by decide +kernel
theorem dX5_record_33 : decode cX5_record 33 = .ok (.getfield 22, 3) := by decide +kernel
theorem dX5_record_36 : decode cX5_record 36 = .ok (.iload_n 2, 1) := by decide +kernel
theorem dX5_record_37 : decode cX5_record 37 = .ok (.aload_n 0, 1) := by decide +kernel
theorem dX5_record_38 : decode cX5_record 38 = .ok (.getfield 22, 3) := by decide +kernel
theorem dX5_record_41 : decode cX5_record 41 = .ok (.iload_n 2, 1) := by decide +kernel
theorem dX5_record_42 : decode cX5_record 42 = .ok (.iconst 1, 1) := by decide +kernel
theorem dX5_record_43 : decode cX5_record 43 = .ok (.iadd, 1) := by decide +kernel
theorem dX5_record_44 : decode cX5_record 44 = .ok (.aaload, 1) := by decide +kernel
theorem dX5_record_45 : decode cX5_record 45 = .ok (.aastore, 1) := by decide +kernel
theorem dX5_record_46 : decode cX5_record 46 = .ok (.iinc 2 1, 3) := by decide +kernel
theorem dX5_record_49 : decode cX5_record 49 = .ok (.goto (-28), 3) := by decide +kernel
theorem dX5_record_52 : decode cX5_record 52 = .ok (.aload_n 0, 1) := by decide +kernel
theorem dX5_record_53 : decode cX5_record 53 = .ok (.getfield 22, 3) := by decide +kernel
theorem dX5_record_56 : decode cX5_record 56 = .ok (.aload_n 0, 1) := by decide +kernel
theorem dX5_record_57 : decode cX5_record 57 = .ok (.getfield 22, 3) := by decide +kernel
theorem dX5_record_60 : decode cX5_record 60 = .ok (.arraylength, 1) := by decide +kernel
theorem dX5_record_61 : decode cX5_record 61 = .ok (.iconst 1, 1) := by decide +kernel
theorem dX5_record_62 : decode cX5_record 62 = .ok (.isub, 1) := by decide +kernel
theorem dX5_record_63 : decode cX5_record 63 = .ok (.aload_n 1, 1) := by decide +kernel
theorem dX5_record_64 : decode cX5_record 64 = .ok (.aastore, 1) := by decide +kernel
theorem dX5_record_65 : decode cX5_record 65 = .ok (.aload_n 0, 1) := by decide +kernel
theorem dX5_record_66 : decode cX5_record 66 = .ok (.aload_n 0, 1) := by decide +kernel
theorem dX5_record_67 : decode cX5_record 67 = .ok (.getfield 22, 3) := by decide +kernel
theorem dX5_record_70 : decode cX5_record 70 = .ok (.arraylength, 1) := by decide +kernel
theorem dX5_record_71 : decode cX5_record 71 = .ok (.iconst 1, 1) := by decide +kernel
theorem dX5_record_72 : decode cX5_record 72 = .ok (.isub, 1) := by decide +kernel
theorem dX5_record_73 : decode cX5_record 73 = .ok (.putfield 100, 3) := by decide +kernel
theorem dX5_record_76 : decode cX5_record 76 = .ok (.aload_n 0, 1) := by decide +kernel
theorem dX5_record_77 : decode cX5_record 77 = .ok (.getfield 100, 3) := by decide +kernel
theorem dX5_record_80 : decode cX5_record 80 = .ok (.ifCond .lt 41, 3) := by decide +kernel
theorem dX5_record_83 : decode cX5_record 83 = .ok (.aload_n 0, 1) := by decide +kernel
theorem dX5_record_84 : decode cX5_record 84 = .ok (.getfield 100, 3) := by decide +kernel
theorem dX5_record_87 : decode cX5_record 87 = .ok (.aload_n 0, 1) := by decide +kernel
theorem dX5_record_88 : decode cX5_record 88 = .ok (.getfield 22, 3) := by decide +kernel
theorem dX5_record_91 : decode cX5_record 91 = .ok (.arraylength, 1) := by decide +kernel
theorem dX5_record_92 : decode cX5_record 92 = .ok (.if_icmp .ge 29, 3) := by decide +kernel
theorem dX5_record_95 : decode cX5_record 95 = .ok (.aload_n 0, 1) := by decide +kernel
theorem dX5_record_96 : decode cX5_record 96 = .ok (.getfield 22, 3) := by decide +kernel
theorem dX5_record_99 : decode cX5_record 99 = .ok (.aload_n 0, 1) := by decide +kernel
theorem dX5_record_100 : decode cX5_record 100 = .ok (.getfield 100, 3) := by decide +kernel
theorem dX5_record_103 : decode cX5_record 103 = .ok (.aaload, 1) := by decide +kernel
theorem dX5_record_104 : decode cX5_record 104 = .ok (.aload_n 0, 1) := by decide +kernel
theorem dX5_record_105 : decode cX5_record 105 = .ok (.getfield 12, 3) := by decide +kernel
theorem dX5_record_108 : decode cX5_record 108 = .ok (.invokevirtual 103, 3) := by decide +kernel
theorem dX5_record_111 : decode cX5_record 111 = .ok (.aload_n 0, 1) := by decide +kernel
theorem dX5_record_112 : decode cX5_record 112 = .ok (.dup, 1) := by decide +kernel
theorem dX5_record_113 : decode cX5_record 113 = .ok (.getfield 100, 3) := by decide +kernel
theorem dX5_record_116 : decode cX5_record 116 = .ok (.iconst 1, 1) := by decide +kernel
theorem dX5_record_117 : decode cX5_record 117 = .ok (.iadd, 1) := by decide +kernel
theorem dX5_record_118 : decode cX5_record 118 = .ok (.putfield 100, 3) := by decide +kernel
theorem dX5_record_121 : decode cX5_record 121 = .ok (.return_, 1) := by decide +kernel
theorem dX5_ticksUntil_0 : decode cX5_ticksUntil 0 = .ok (.aload_n 0, 1) := by decide +kernel
theorem dX5_ticksUntil_1 : decode cX5_ticksUntil 1 = .ok (.getfield 19, 3) := by decide +kernel
theorem dX5_ticksUntil_4 : decode cX5_ticksUntil 4 = .ok (.aload_n 0, 1) := by decide +kernel
theorem dX5_ticksUntil_5 : decode cX5_ticksUntil 5 = .ok (.getfield 12, 3) := by decide +kernel
theorem dX5_ticksUntil_8 : decode cX5_ticksUntil 8 = .ok (.invokevirtual 103, 3) := by decide +kernel
theorem dX5_ticksUntil_11 : decode cX5_ticksUntil 11 = .ok (.iconst 0, 1) := by decide +kernel
theorem dX5_ticksUntil_12 : decode cX5_ticksUntil 12 = .ok (.istore_n 2, 1) := by decide +kernel
theorem dX5_ticksUntil_13 : decode cX5_ticksUntil 13 = .ok (.iload_n 2, 1) := by decide +kernel
theorem dX5_ticksUntil_14 : decode cX5_ticksUntil 14 = .ok (.sipush 500, 3) := by decide +kernel
theorem dX5_ticksUntil_17 : decode cX5_ticksUntil 17 = .ok (.if_icmp .gt 58, 3) := by decide +kernel
theorem dX5_ticksUntil_20 : decode cX5_ticksUntil 20 = .ok (.iload_n 1, 1) := by decide +kernel
theorem dX5_ticksUntil_21 : decode cX5_ticksUntil 21 = .ok (.ifCond .eq 16, 3) := by decide +kernel
theorem dX5_ticksUntil_24 : decode cX5_ticksUntil 24 = .ok (.aload_n 0, 1) := by decide +kernel
theorem dX5_ticksUntil_25 : decode cX5_ticksUntil 25 = .ok (.getfield 19, 3) := by decide +kernel
theorem dX5_ticksUntil_28 : decode cX5_ticksUntil 28 = .ok (.invokevirtual 157, 3) := by decide +kernel
theorem dX5_ticksUntil_31 : decode cX5_ticksUntil 31 = .ok (.ifCond .eq 18, 3) := by decide +kernel
theorem dX5_ticksUntil_34 : decode cX5_ticksUntil 34 = .ok (.goto 13, 3) := by decide +kernel
theorem dX5_ticksUntil_37 : decode cX5_ticksUntil 37 = .ok (.aload_n 0, 1) := by decide +kernel
theorem dX5_ticksUntil_38 : decode cX5_ticksUntil 38 = .ok (.getfield 19, 3) := by decide +kernel
theorem dX5_ticksUntil_41 : decode cX5_ticksUntil 41 = .ok (.invokevirtual 161, 3) := by decide +kernel
theorem dX5_ticksUntil_44 : decode cX5_ticksUntil 44 = .ok (.ifCond .eq 5, 3) := by decide +kernel
theorem dX5_ticksUntil_47 : decode cX5_ticksUntil 47 = .ok (.iload_n 2, 1) := by decide +kernel
theorem dX5_ticksUntil_48 : decode cX5_ticksUntil 48 = .ok (.ireturn, 1) := by decide +kernel
theorem dX5_ticksUntil_49 : decode cX5_ticksUntil 49 = .ok (.aload_n 0, 1) := by decide +kernel
theorem dX5_ticksUntil_50 : decode cX5_ticksUntil 50 = .ok (.getfield 19, 3) := by decide +kernel
theorem dX5_ticksUntil_53 : decode cX5_ticksUntil 53 = .ok (.invokevirtual 164, 3) := by decide +kernel
theorem dX5_ticksUntil_56 : decode cX5_ticksUntil 56 = .ok (.ifCond .eq 6, 3) := by decide +kernel
theorem dX5_ticksUntil_59 : decode cX5_ticksUntil 59 = .ok (.bipush (-5), 2) := by decide +kernel
theorem dX5_ticksUntil_61 : decode cX5_ticksUntil 61 = .ok (.ireturn, 1) := by decide +kernel
theorem dX5_ticksUntil_62 : decode cX5_ticksUntil 62 = .ok (.aload_n 0, 1) := by decide +kernel
theorem dX5_ticksUntil_63 : decode cX5_ticksUntil 63 = .ok (.getfield 19, 3) := by decide +kernel
theorem dX5_ticksUntil_66 : decode cX5_ticksUntil 66 = .ok (.invokevirtual 84, 3) := by decide +kernel
theorem dX5_ticksUntil_69 : decode cX5_ticksUntil 69 = .ok (.iinc 2 1, 3) := by decide +kernel
theorem dX5_ticksUntil_72 : decode cX5_ticksUntil 72 = .ok (.goto (-59), 3) := by decide +kernel
theorem dX5_ticksUntil_75 : decode cX5_ticksUntil 75 = .ok (.bipush (-5), 2) := by decide +kernel
theorem dX5_ticksUntil_77 : decode cX5_ticksUntil 77 = .ok (.ireturn, 1) := by decide +kernel
theorem dX5_wouldAskWith_0 : decode cX5_wouldAskWith 0 = .ok (.aload_n 0, 1) := by decide +kernel
theorem dX5_wouldAskWith_1 : decode cX5_wouldAskWith 1 = .ok (.getfield 19, 3) := by decide +kernel
theorem dX5_wouldAskWith_4 : decode cX5_wouldAskWith 4 = .ok (.aload_n 0, 1) := by decide +kernel
theorem dX5_wouldAskWith_5 : decode cX5_wouldAskWith 5 = .ok (.getfield 12, 3) := by decide +kernel
theorem dX5_wouldAskWith_8 : decode cX5_wouldAskWith 8 = .ok (.iload_n 1, 1) := by decide +kernel
theorem dX5_wouldAskWith_9 : decode cX5_wouldAskWith 9 = .ok (.invokevirtual 167, 3) := by decide +kernel
theorem dX5_wouldAskWith_12 : decode cX5_wouldAskWith 12 = .ok (.aload_n 0, 1) := by decide +kernel
theorem dX5_wouldAskWith_13 : decode cX5_wouldAskWith 13 = .ok (.getfield 19, 3) := by decide +kernel
theorem dX5_wouldAskWith_16 : decode cX5_wouldAskWith 16 = .ok (.aload_n 0, 1) := by decide +kernel
theorem dX5_wouldAskWith_17 : decode cX5_wouldAskWith 17 = .ok (.getfield 33, 3) := by decide +kernel
theorem dX5_wouldAskWith_20 : decode cX5_wouldAskWith 20 = .ok (.invokevirtual 73, 3) := by decide +kernel
theorem dX5_wouldAskWith_23 : decode cX5_wouldAskWith 23 = .ok (.iconst 0, 1) := by decide +kernel
theorem dX5_wouldAskWith_24 : decode cX5_wouldAskWith 24 = .ok (.istore_n 2, 1) := by decide +kernel
theorem dX5_wouldAskWith_25 : decode cX5_wouldAskWith 25 = .ok (.iload_n 2, 1) := by decide +kernel
theorem dX5_wouldAskWith_26 : decode cX5_wouldAskWith 26 = .ok (.sipush 500, 3) := by decide +kernel
theorem dX5_wouldAskWith_29 : decode cX5_wouldAskWith 29 = .ok (.if_icmp .ge 38, 3) := by decide +kernel
theorem dX5_wouldAskWith_32 : decode cX5_wouldAskWith 32 = .ok (.aload_n 0, 1) := by decide +kernel
theorem dX5_wouldAskWith_33 : decode cX5_wouldAskWith 33 = .ok (.getfield 19, 3) := by decide +kernel
theorem dX5_wouldAskWith_36 : decode cX5_wouldAskWith 36 = .ok (.invokevirtual 161, 3) := by decide +kernel
theorem dX5_wouldAskWith_39 : decode cX5_wouldAskWith 39 = .ok (.ifCond .ne 28, 3) := by decide +kernel
theorem dX5_wouldAskWith_42 : decode cX5_wouldAskWith 42 = .ok (.aload_n 0, 1) := by decide +kernel
theorem dX5_wouldAskWith_43 : decode cX5_wouldAskWith 43 = .ok (.getfield 19, 3) := by decide +kernel
theorem dX5_wouldAskWith_46 : decode cX5_wouldAskWith 46 = .ok (.invokevirtual 84, 3) := by decide +kernel
theorem dX5_wouldAskWith_49 : decode cX5_wouldAskWith 49 = .ok (.aload_n 0, 1) := by decide +kernel
theorem dX5_wouldAskWith_50 : decode cX5_wouldAskWith 50 = .ok (.getfield 19, 3) := by decide +kernel
theorem dX5_wouldAskWith_53 : decode cX5_wouldAskWith 53 = .ok (.invokevirtual 171, 3) := by decide +kernel
theorem dX5_wouldAskWith_56 : decode cX5_wouldAskWith 56 = .ok (.ifCond .eq 5, 3) := by decide +kernel
theorem dX5_wouldAskWith_59 : decode cX5_wouldAskWith 59 = .ok (.iconst 1, 1) := by decide +kernel
theorem dX5_wouldAskWith_60 : decode cX5_wouldAskWith 60 = .ok (.ireturn, 1) := by decide +kernel
theorem dX5_wouldAskWith_61 : decode cX5_wouldAskWith 61 = .ok (.iinc 2 1, 3) := by decide +kernel
theorem dX5_wouldAskWith_64 : decode cX5_wouldAskWith 64 = .ok (.goto (-39), 3) := by decide +kernel
theorem dX5_wouldAskWith_67 : decode cX5_wouldAskWith 67 = .ok (.iconst 0, 1) := by decide +kernel
theorem dX5_wouldAskWith_68 : decode cX5_wouldAskWith 68 = .ok (.ireturn, 1) := by decide +kernel
theorem dX6_init_0 : decode cX6_init 0 = .ok (.aload_n 0, 1) := by decide +kernel
theorem dX6_init_1 : decode cX6_init 1 = .ok (.invokespecial 1, 3) := by decide +kernel
theorem dX6_init_4 : decode cX6_init 4 = .ok (.aload_n 0, 1) := by decide +kernel
theorem dX6_init_5 : decode cX6_init 5 = .ok (.sipush 1372, 3) := by decide +kernel
theorem dX6_init_8 : decode cX6_init 8 = .ok (.newarray .int, 2) := by decide +kernel
theorem dX6_init_10 : decode cX6_init 10 = .ok (.putfield 7, 3) := by decide +kernel
theorem dX6_init_13 : decode cX6_init 13 = .ok (.aload_n 0, 1) := by decide +kernel
theorem dX6_init_14 : decode cX6_init 14 = .ok (.sipush 5488, 3) := by decide +kernel
theorem dX6_init_17 : decode cX6_init 17 = .ok (.newarray .int, 2) := by decide +kernel
theorem dX6_init_19 : decode cX6_init 19 = .ok (.putfield 13, 3) := by decide +kernel
theorem dX6_init_22 : decode cX6_init 22 = .ok (.aload_n 0, 1) := by decide +kernel
theorem dX6_init_23 : decode cX6_init 23 = .ok (.sipush 1372, 3) := by decide +kernel
theorem dX6_init_26 : decode cX6_init 26 = .ok (.newarray .int, 2) := by decide +kernel
theorem dX6_init_28 : decode cX6_init 28 = .ok (.putfield 16, 3) := by decide +kernel
theorem dX6_init_31 : decode cX6_init 31 = .ok (.aload_n 0, 1) := by decide +kernel
theorem dX6_init_32 : decode cX6_init 32 = .ok (.sipush 1372, 3) := by decide +kernel
theorem dX6_init_35 : decode cX6_init 35 = .ok (.newarray .int, 2) := by decide +kernel
theorem dX6_init_37 : decode cX6_init 37 = .ok (.putfield 19, 3) := by decide +kernel
theorem dX6_init_40 : decode cX6_init 40 = .ok (.aload_n 0, 1) := by decide +kernel
theorem dX6_init_41 : decode cX6_init 41 = .ok (.bipush 60, 2) := by decide +kernel
theorem dX6_init_43 : decode cX6_init 43 = .ok (.newarray .int, 2) := by decide +kernel
theorem dX6_init_45 : decode cX6_init 45 = .ok (.putfield 22, 3) := by decide +kernel
theorem dX6_init_48 : decode cX6_init 48 = .ok (.aload_n 0, 1) := by decide +kernel
theorem dX6_init_49 : decode cX6_init 49 = .ok (.bipush 48, 2) := by decide +kernel
theorem dX6_init_51 : decode cX6_init 51 = .ok (.newarray .int, 2) := by decide +kernel
theorem dX6_init_53 : decode cX6_init 53 = .ok (.putfield 25, 3) := by decide +kernel
theorem dX6_init_56 : decode cX6_init 56 = .ok (.aload_n 0, 1) := by decide +kernel
theorem dX6_init_57 : decode cX6_init 57 = .ok (.bipush 16, 2) := by decide +kernel
theorem dX6_init_59 : decode cX6_init 59 = .ok (.newarray .int, 2) := by decide +kernel
theorem dX6_init_61 : decode cX6_init 61 = .ok (.putfield 28, 3) := by decide +kernel
theorem dX6_init_64 : decode cX6_init 64 = .ok (.aload_n 0, 1) := by decide +kernel
theorem dX6_init_65 : decode cX6_init 65 = .ok (.getfield 7, 3) := by decide +kernel
theorem dX6_init_68 : decode cX6_init 68 = .ok (.bipush 8, 2) := by decide +kernel
theorem dX6_init_70 : decode cX6_init 70 = .ok (.bipush 8, 2) := by decide +kernel
theorem dX6_init_72 : decode cX6_init 72 = .ok (.iastore, 1) := by decide +kernel
theorem dX6_init_73 : decode cX6_init 73 = .ok (.aload_n 0, 1) := by decide +kernel
theorem dX6_init_74 : decode cX6_init 74 = .ok (.getfield 7, 3) := by decide +kernel
theorem dX6_init_77 : decode cX6_init 77 = .ok (.bipush 9, 2) := by decide +kernel
theorem dX6_init_79 : decode cX6_init 79 = .ok (.iconst 1, 1) := by decide +kernel
theorem dX6_init_80 : decode cX6_init 80 = .ok (.iastore, 1) := by decide +kernel
theorem dX6_init_81 : decode cX6_init 81 = .ok (.iconst 0, 1) := by decide +kernel
theorem dX6_init_82 : decode cX6_init 82 = .ok (.istore_n 1, 1) := by decide +kernel
theorem dX6_init_83 : decode cX6_init 83 = .ok (.iload_n 1, 1) := by decide +kernel
theorem dX6_init_84 : decode cX6_init 84 = .ok (.bipush 36, 2) := by decide +kernel
theorem dX6_init_86 : decode cX6_init 86 = .ok (.if_icmp .ge 34, 3) := by decide +kernel
theorem dX6_init_89 : decode cX6_init 89 = .ok (.aload_n 0, 1) := by decide +kernel
theorem dX6_init_90 : decode cX6_init 90 = .ok (.getfield 7, 3) := by decide +kernel
theorem dX6_init_93 : decode cX6_init 93 = .ok (.bipush 12, 2) := by decide +kernel
theorem dX6_init_95 : decode cX6_init 95 = .ok (.iload_n 1, 1) := by decide +kernel
theorem dX6_init_96 : decode cX6_init 96 = .ok (.iadd, 1) := by decide +kernel
theorem dX6_init_97 : decode cX6_init 97 = .ok (.iload_n 1, 1) := by decide +kernel
theorem dX6_init_98 : decode cX6_init 98 = .ok (.bipush 6, 2) := by decide +kernel
theorem dX6_init_100 : decode cX6_init 100 = .ok (.idiv, 1) := by decide +kernel
theorem dX6_init_101 : decode cX6_init 101 = .ok (.iload_n 1, 1) := by decide +kernel
theorem dX6_init_102 : decode cX6_init 102 = .ok (.bipush 6, 2) := by decide +kernel
theorem dX6_init_104 : decode cX6_init 104 = .ok (.irem, 1) := by decide +kernel
theorem dX6_init_105 : decode cX6_init 105 = .ok (.if_icmp .ne 7, 3) := by decide +kernel
theorem dX6_init_108 : decode cX6_init 108 = .ok (.iconst 1, 1) := by decide +kernel
theorem dX6_init_109 : decode cX6_init 109 = .ok (.goto 4, 3) := by decide +kernel
theorem dX6_init_112 : decode cX6_init 112 = .ok (.iconst 2, 1) := by decide +kernel
theorem dX6_init_113 : decode cX6_init 113 = .ok (.iastore, 1) := by decide +kernel
theorem dX6_init_114 : decode cX6_init 114 = .ok (.iinc 1 1, 3) := by decide +kernel
theorem dX6_init_117 : decode cX6_init 117 = .ok (.goto (-34), 3) := by decide +kernel
theorem dX6_init_120 : decode cX6_init 120 = .ok (.iconst 0, 1) := by decide +kernel
theorem dX6_init_121 : decode cX6_init 121 = .ok (.istore_n 1, 1) := by decide +kernel
theorem dX6_init_122 : decode cX6_init 122 = .ok (.iload_n 1, 1) := by decide +kernel
theorem dX6_init_123 : decode cX6_init 123 = .ok (.bipush 6, 2) := by decide +kernel
theorem dX6_init_125 : decode cX6_init 125 = .ok (.if_icmp .ge 19, 3) := by decide +kernel
theorem dX6_init_128 : decode cX6_init 128 = .ok (.aload_n 0, 1) := by decide +kernel
theorem dX6_init_129 : decode cX6_init 129 = .ok (.getfield 7, 3) := by decide +kernel
theorem dX6_init_132 : decode cX6_init 132 = .ok (.bipush 48, 2) := by decide +kernel
theorem dX6_init_134 : decode cX6_init 134 = .ok (.iload_n 1, 1) := by decide +kernel
theorem dX6_init_135 : decode cX6_init 135 = .ok (.iadd, 1) := by decide +kernel
theorem dX6_init_136 : decode cX6_init 136 = .ok (.iconst 3, 1) := by decide +kernel
theorem dX6_init_137 : decode cX6_init 137 = .ok (.iastore, 1) := by decide +kernel
theorem dX6_init_138 : decode cX6_init 138 = .ok (.iinc 1 1, 3) := by decide +kernel
theorem dX6_init_141 : decode cX6_init 141 = .ok (.goto (-19), 3) := by decide +kernel
theorem dX6_init_144 : decode cX6_init 144 = .ok (.return_, 1) := by decide +kernel
theorem dX6_in_0 : decode cX6_in 0 = .ok (.iload_n 0, 1) := by decide +kernel
theorem dX6_in_1 : decode cX6_in 1 = .ok (.iload_n 1, 1) := by decide +kernel
theorem dX6_in_2 : decode cX6_in 2 = .ok (.if_icmp .lt 12, 3) := by decide +kernel
theorem dX6_in_5 : decode cX6_in 5 = .ok (.iload_n 0, 1) := by decide +kernel
theorem dX6_in_6 : decode cX6_in 6 = .ok (.iload_n 2, 1) := by decide +kernel
theorem dX6_in_7 : decode cX6_in 7 = .ok (.if_icmp .gt 7, 3) := by decide +kernel
theorem dX6_in_10 : decode cX6_in 10 = .ok (.iconst 1, 1) := by decide +kernel
theorem dX6_in_11 : decode cX6_in 11 = .ok (.goto 4, 3) := by decide +kernel
theorem dX6_in_14 : decode cX6_in 14 = .ok (.iconst 0, 1) := by decide +kernel
theorem dX6_in_15 : decode cX6_in 15 = .ok (.ireturn, 1) := by decide +kernel
theorem dX6_isHouse_0 : decode cX6_isHouse 0 = .ok (.iload_n 0, 1) := by decide +kernel
theorem dX6_isHouse_1 : decode cX6_isHouse 1 = .ok (.iconst 0, 1) := by decide +kernel
theorem dX6_isHouse_2 : decode cX6_isHouse 2 = .ok (.iconst 5, 1) := by decide +kernel
theorem dX6_isHouse_3 : decode cX6_isHouse 3 = .ok (.invokestatic 31, 3) := by decide +kernel
theorem dX6_isHouse_6 : decode cX6_isHouse 6 = .ok (.ireturn, 1) := by decide +kernel
theorem dX6_copy_0 : decode cX6_copy 0 = .ok (.iconst 0, 1) := by decide +kernel
theorem dX6_copy_1 : decode cX6_copy 1 = .ok (.istore_n 2, 1) := by decide +kernel
theorem dX6_copy_2 : decode cX6_copy 2 = .ok (.iload_n 2, 1) := by decide +kernel
theorem dX6_copy_3 : decode cX6_copy 3 = .ok (.sipush 1372, 3) := by decide +kernel
theorem dX6_copy_6 : decode cX6_copy 6 = .ok (.if_icmp .ge 15, 3) := by decide +kernel
theorem dX6_copy_9 : decode cX6_copy 9 = .ok (.aload_n 1, 1) := by decide +kernel
theorem dX6_copy_10 : decode cX6_copy 10 = .ok (.iload_n 2, 1) := by decide +kernel
theorem dX6_copy_11 : decode cX6_copy 11 = .ok (.aload_n 0, 1) := by decide +kernel
theorem dX6_copy_12 : decode cX6_copy 12 = .ok (.iload_n 2, 1) := by decide +kernel
theorem dX6_copy_13 : decode cX6_copy 13 = .ok (.iaload, 1) := by decide +kernel
theorem dX6_copy_14 : decode cX6_copy 14 = .ok (.iastore, 1) := by decide +kernel
theorem dX6_copy_15 : decode cX6_copy 15 = .ok (.iinc 2 1, 3) := by decide +kernel
theorem dX6_copy_18 : decode cX6_copy 18 = .ok (.goto (-16), 3) := by decide +kernel
theorem dX6_copy_21 : decode cX6_copy 21 = .ok (.return_, 1) := by decide +kernel
theorem dX6_record_0 : decode cX6_record 0 = .ok (.aload_n 0, 1) := by decide +kernel
theorem dX6_record_1 : decode cX6_record 1 = .ok (.getfield 35, 3) := by decide +kernel
theorem dX6_record_4 : decode cX6_record 4 = .ok (.iconst 4, 1) := by decide +kernel
theorem dX6_record_5 : decode cX6_record 5 = .ok (.if_icmp .ne 44, 3) := by decide +kernel
theorem dX6_record_8 : decode cX6_record 8 = .ok (.iconst 0, 1) := by decide +kernel
theorem dX6_record_9 : decode cX6_record 9 = .ok (.istore_n 1, 1) := by decide +kernel
theorem dX6_record_10 : decode cX6_record 10 = .ok (.iload_n 1, 1) := by decide +kernel
theorem dX6_record_11 : decode cX6_record 11 = .ok (.sipush 4116, 3) := by decide +kernel
theorem dX6_record_14 : decode cX6_record 14 = .ok (.if_icmp .ge 25, 3) := by decide +kernel
theorem dX6_record_17 : decode cX6_record 17 = .ok (.aload_n 0, 1) := by decide +kernel
theorem dX6_record_18 : decode cX6_record 18 = .ok (.getfield 13, 3) := by decide +kernel
theorem dX6_record_21 : decode cX6_record 21 = .ok (.iload_n 1, 1) := by decide +kernel
theorem dX6_record_22 : decode cX6_record 22 = .ok (.aload_n 0, 1) := by decide +kernel
theorem dX6_record_23 : decode cX6_record 23 = .ok (.getfield 13, 3) := by decide +kernel
theorem dX6_record_26 : decode cX6_record 26 = .ok (.iload_n 1, 1) := by decide +kernel
theorem dX6_record_27 : decode cX6_record 27 = .ok (.sipush 1372, 3) := by decide +kernel
theorem dX6_record_30 : decode cX6_record 30 = .ok (.iadd, 1) := by decide +kernel
theorem dX6_record_31 : decode cX6_record 31 = .ok (.iaload, 1) := by decide +kernel
theorem dX6_record_32 : decode cX6_record 32 = .ok (.iastore, 1) := by decide +kernel
theorem dX6_record_33 : decode cX6_record 33 = .ok (.iinc 1 1, 3) := by decide +kernel
theorem dX6_record_36 : decode cX6_record 36 = .ok (.goto (-26), 3) := by decide +kernel
theorem dX6_record_39 : decode cX6_record 39 = .ok (.aload_n 0, 1) := by decide +kernel
theorem dX6_record_40 : decode cX6_record 40 = .ok (.dup, 1) := by decide +kernel
theorem dX6_record_41 : decode cX6_record 41 = .ok (.getfield 35, 3) := by decide +kernel
theorem dX6_record_44 : decode cX6_record 44 = .ok (.iconst 1, 1) := by decide +kernel
theorem dX6_record_45 : decode cX6_record 45 = .ok (.isub, 1) := by decide +kernel
theorem dX6_record_46 : decode cX6_record 46 = .ok (.putfield 35, 3) := by decide +kernel
theorem dX6_record_49 : decode cX6_record 49 = .ok (.iconst 0, 1) := by decide +kernel
theorem dX6_record_50 : decode cX6_record 50 = .ok (.istore_n 1, 1) := by decide +kernel
theorem dX6_record_51 : decode cX6_record 51 = .ok (.iload_n 1, 1) := by decide +kernel
theorem dX6_record_52 : decode cX6_record 52 = .ok (.sipush 1372, 3) := by decide +kernel
theorem dX6_record_55 : decode cX6_record 55 = .ok (.if_icmp .ge 30, 3) := by decide +kernel
theorem dX6_record_58 : decode cX6_record 58 = .ok (.aload_n 0, 1) := by decide +kernel
theorem dX6_record_59 : decode cX6_record 59 = .ok (.getfield 13, 3) := by decide +kernel
theorem dX6_record_62 : decode cX6_record 62 = .ok (.sipush 1372, 3) := by decide +kernel
theorem dX6_record_65 : decode cX6_record 65 = .ok (.aload_n 0, 1) := by decide +kernel
theorem dX6_record_66 : decode cX6_record 66 = .ok (.getfield 35, 3) := by decide +kernel
theorem dX6_record_69 : decode cX6_record 69 = .ok (.imul, 1) := by decide +kernel
theorem dX6_record_70 : decode cX6_record 70 = .ok (.iload_n 1, 1) := by decide +kernel
theorem dX6_record_71 : decode cX6_record 71 = .ok (.iadd, 1) := by decide +kernel
theorem dX6_record_72 : decode cX6_record 72 = .ok (.aload_n 0, 1) := by decide +kernel
theorem dX6_record_73 : decode cX6_record 73 = .ok (.getfield 7, 3) := by decide +kernel
theorem dX6_record_76 : decode cX6_record 76 = .ok (.iload_n 1, 1) := by decide +kernel
theorem dX6_record_77 : decode cX6_record 77 = .ok (.iaload, 1) := by decide +kernel
theorem dX6_record_78 : decode cX6_record 78 = .ok (.iastore, 1) := by decide +kernel
theorem dX6_record_79 : decode cX6_record 79 = .ok (.iinc 1 1, 3) := by decide +kernel
theorem dX6_record_82 : decode cX6_record 82 = .ok (.goto (-31), 3) := by decide +kernel
theorem dX6_record_85 : decode cX6_record 85 = .ok (.aload_n 0, 1) := by decide +kernel
theorem dX6_record_86 : decode cX6_record 86 = .ok (.dup, 1) := by decide +kernel
theorem dX6_record_87 : decode cX6_record 87 = .ok (.getfield 35, 3) := by decide +kernel
theorem dX6_record_90 : decode cX6_record 90 = .ok (.iconst 1, 1) := by decide +kernel
theorem dX6_record_91 : decode cX6_record 91 = .ok (.iadd, 1) := by decide +kernel
theorem dX6_record_92 : decode cX6_record 92 = .ok (.putfield 35, 3) := by decide +kernel
theorem dX6_record_95 : decode cX6_record 95 = .ok (.return_, 1) := by decide +kernel
theorem dX6_ofHouse_0 : decode cX6_ofHouse 0 = .ok (.aload_n 0, 1) := by decide +kernel
theorem dX6_ofHouse_1 : decode cX6_ofHouse 1 = .ok (.getfield 7, 3) := by decide +kernel
theorem dX6_ofHouse_4 : decode cX6_ofHouse 4 = .ok (.bipush 54, 2) := by decide +kernel
theorem dX6_ofHouse_6 : decode cX6_ofHouse 6 = .ok (.bipush 9, 2) := by decide +kernel
theorem dX6_ofHouse_8 : decode cX6_ofHouse 8 = .ok (.iload_n 1, 1) := by decide +kernel
theorem dX6_ofHouse_9 : decode cX6_ofHouse 9 = .ok (.imul, 1) := by decide +kernel
theorem dX6_ofHouse_10 : decode cX6_ofHouse 10 = .ok (.iadd, 1) := by decide +kernel
theorem dX6_ofHouse_11 : decode cX6_ofHouse 11 = .ok (.iload_n 2, 1) := by decide +kernel
theorem dX6_ofHouse_12 : decode cX6_ofHouse 12 = .ok (.iadd, 1) := by decide +kernel
theorem dX6_ofHouse_13 : decode cX6_ofHouse 13 = .ok (.iaload, 1) := by decide +kernel
theorem dX6_ofHouse_14 : decode cX6_ofHouse 14 = .ok (.ireturn, 1) := by decide +kernel
theorem dX6_setHouse_0 : decode cX6_setHouse 0 = .ok (.aload_n 0, 1) := by decide +kernel
theorem dX6_setHouse_1 : decode cX6_setHouse 1 = .ok (.getfield 7, 3) := by decide +kernel
theorem dX6_setHouse_4 : decode cX6_setHouse 4 = .ok (.bipush 54, 2) := by decide +kernel
theorem dX6_setHouse_6 : decode cX6_setHouse 6 = .ok (.bipush 9, 2) := by decide +kernel
theorem dX6_setHouse_8 : decode cX6_setHouse 8 = .ok (.iload_n 1, 1) := by decide +kernel
theorem dX6_setHouse_9 : decode cX6_setHouse 9 = .ok (.imul, 1) := by decide +kernel
theorem dX6_setHouse_10 : decode cX6_setHouse 10 = .ok (.iadd, 1) := by decide +kernel
theorem dX6_setHouse_11 : decode cX6_setHouse 11 = .ok (.iload_n 2, 1) := by decide +kernel
theorem dX6_setHouse_12 : decode cX6_setHouse 12 = .ok (.iadd, 1) := by decide +kernel
theorem dX6_setHouse_13 : decode cX6_setHouse 13 = .ok (.iload_n 3, 1) := by decide +kernel
theorem dX6_setHouse_14 : decode cX6_setHouse 14 = .ok (.iastore, 1) := by decide +kernel
theorem dX6_setHouse_15 : decode cX6_setHouse 15 = .ok (.return_, 1) := by decide +kernel
theorem dX6_addToHouse_0 : decode cX6_addToHouse 0 = .ok (.aload_n 0, 1) := by decide +kernel
theorem dX6_addToHouse_1 : decode cX6_addToHouse 1 = .ok (.getfield 7, 3) := by decide +kernel
theorem dX6_addToHouse_4 : decode cX6_addToHouse 4 = .ok (.bipush 54, 2) := by decide +kernel
theorem dX6_addToHouse_6 : decode cX6_addToHouse 6 = .ok (.bipush 9, 2) := by decide +kernel
theorem dX6_addToHouse_8 : decode cX6_addToHouse 8 = .ok (.iload_n 1, 1) := by decide +kernel
theorem dX6_addToHouse_9 : decode cX6_addToHouse 9 = .ok (.imul, 1) := by decide +kernel
theorem dX6_addToHouse_10 : decode cX6_addToHouse 10 = .ok (.iadd, 1) := by decide +kernel
theorem dX6_addToHouse_11 : decode cX6_addToHouse 11 = .ok (.iload_n 2, 1) := by decide +kernel
theorem dX6_addToHouse_12 : decode cX6_addToHouse 12 = .ok (.iadd, 1) := by decide +kernel
theorem dX6_addToHouse_13 : decode cX6_addToHouse 13 = .ok (.dup2, 1) := by decide +kernel
theorem dX6_addToHouse_14 : decode cX6_addToHouse 14 = .ok (.iaload, 1) := by decide +kernel
theorem dX6_addToHouse_15 : decode cX6_addToHouse 15 = .ok (.iload_n 3, 1) := by decide +kernel
theorem dX6_addToHouse_16 : decode cX6_addToHouse 16 = .ok (.iadd, 1) := by decide +kernel
theorem dX6_addToHouse_17 : decode cX6_addToHouse 17 = .ok (.iastore, 1) := by decide +kernel
theorem dX6_addToHouse_18 : decode cX6_addToHouse 18 = .ok (.return_, 1) := by decide +kernel
theorem dX6_ofErrand_0 : decode cX6_ofErrand 0 = .ok (.aload_n 0, 1) := by decide +kernel
theorem dX6_ofErrand_1 : decode cX6_ofErrand 1 = .ok (.getfield 7, 3) := by decide +kernel
theorem dX6_ofErrand_4 : decode cX6_ofErrand 4 = .ok (.bipush 108, 2) := by decide +kernel
theorem dX6_ofErrand_6 : decode cX6_ofErrand 6 = .ok (.iconst 5, 1) := by decide +kernel
theorem dX6_ofErrand_7 : decode cX6_ofErrand 7 = .ok (.iload_n 1, 1) := by decide +kernel
theorem dX6_ofErrand_8 : decode cX6_ofErrand 8 = .ok (.imul, 1) := by decide +kernel
theorem dX6_ofErrand_9 : decode cX6_ofErrand 9 = .ok (.iadd, 1) := by decide +kernel
theorem dX6_ofErrand_10 : decode cX6_ofErrand 10 = .ok (.iload_n 2, 1) := by decide +kernel
theorem dX6_ofErrand_11 : decode cX6_ofErrand 11 = .ok (.iadd, 1) := by decide +kernel
theorem dX6_ofErrand_12 : decode cX6_ofErrand 12 = .ok (.iaload, 1) := by decide +kernel
theorem dX6_ofErrand_13 : decode cX6_ofErrand 13 = .ok (.ireturn, 1) := by decide +kernel
theorem dX6_setErrand_0 : decode cX6_setErrand 0 = .ok (.aload_n 0, 1) := by decide +kernel
theorem dX6_setErrand_1 : decode cX6_setErrand 1 = .ok (.getfield 7, 3) := by decide +kernel
theorem dX6_setErrand_4 : decode cX6_setErrand 4 = .ok (.bipush 108, 2) := by decide +kernel
theorem dX6_setErrand_6 : decode cX6_setErrand 6 = .ok (.iconst 5, 1) := by decide +kernel
theorem dX6_setErrand_7 : decode cX6_setErrand 7 = .ok (.iload_n 1, 1) := by decide +kernel
theorem dX6_setErrand_8 : decode cX6_setErrand 8 = .ok (.imul, 1) := by decide +kernel
theorem dX6_setErrand_9 : decode cX6_setErrand 9 = .ok (.iadd, 1) := by decide +kernel
theorem dX6_setErrand_10 : decode cX6_setErrand 10 = .ok (.iload_n 2, 1) := by decide +kernel
theorem dX6_setErrand_11 : decode cX6_setErrand 11 = .ok (.iadd, 1) := by decide +kernel
theorem dX6_setErrand_12 : decode cX6_setErrand 12 = .ok (.iload_n 3, 1) := by decide +kernel
theorem dX6_setErrand_13 : decode cX6_setErrand 13 = .ok (.iastore, 1) := by decide +kernel
theorem dX6_setErrand_14 : decode cX6_setErrand 14 = .ok (.return_, 1) := by decide +kernel
theorem dX6_ofMessage_0 : decode cX6_ofMessage 0 = .ok (.aload_n 0, 1) := by decide +kernel
theorem dX6_ofMessage_1 : decode cX6_ofMessage 1 = .ok (.getfield 7, 3) := by decide +kernel
theorem dX6_ofMessage_4 : decode cX6_ofMessage 4 = .ok (.sipush 508, 3) := by decide +kernel
theorem dX6_ofMessage_7 : decode cX6_ofMessage 7 = .ok (.bipush 6, 2) := by decide +kernel
theorem dX6_ofMessage_9 : decode cX6_ofMessage 9 = .ok (.iload_n 1, 1) := by decide +kernel
theorem dX6_ofMessage_10 : decode cX6_ofMessage 10 = .ok (.imul, 1) := by decide +kernel
theorem dX6_ofMessage_11 : decode cX6_ofMessage 11 = .ok (.iadd, 1) := by decide +kernel
theorem dX6_ofMessage_12 : decode cX6_ofMessage 12 = .ok (.iload_n 2, 1) := by decide +kernel
theorem dX6_ofMessage_13 : decode cX6_ofMessage 13 = .ok (.iadd, 1) := by decide +kernel
theorem dX6_ofMessage_14 : decode cX6_ofMessage 14 = .ok (.iaload, 1) := by decide +kernel
theorem dX6_ofMessage_15 : decode cX6_ofMessage 15 = .ok (.ireturn, 1) := by decide +kernel
theorem dX6_first_0 : decode cX6_first 0 = .ok (.bipush (-5), 2) := by decide +kernel
theorem dX6_first_2 : decode cX6_first 2 = .ok (.istore_n 3, 1) := by decide +kernel
theorem dX6_first_3 : decode cX6_first 3 = .ok (.iconst 0, 1) := by decide +kernel
theorem dX6_first_4 : decode cX6_first 4 = .ok (.istore 4, 2) := by decide +kernel
theorem dX6_first_6 : decode cX6_first 6 = .ok (.iload 4, 2) := by decide +kernel
theorem dX6_first_8 : decode cX6_first 8 = .ok (.bipush 80, 2) := by decide +kernel
theorem dX6_first_10 : decode cX6_first 10 = .ok (.if_icmp .ge 72, 3) := by decide +kernel
theorem dX6_first_13 : decode cX6_first 13 = .ok (.aload_n 0, 1) := by decide +kernel
theorem dX6_first_14 : decode cX6_first 14 = .ok (.iload 4, 2) := by decide +kernel
theorem dX6_first_16 : decode cX6_first 16 = .ok (.iconst 4, 1) := by decide +kernel
theorem dX6_first_17 : decode cX6_first 17 = .ok (.invokevirtual 39, 3) := by decide +kernel
theorem dX6_first_20 : decode cX6_first 20 = .ok (.iload_n 1, 1) := by decide +kernel
theorem dX6_first_21 : decode cX6_first 21 = .ok (.if_icmp .ne 18, 3) := by decide +kernel
theorem dX6_first_24 : decode cX6_first 24 = .ok (.aload_n 0, 1) := by decide +kernel
theorem dX6_first_25 : decode cX6_first 25 = .ok (.iload 4, 2) := by decide +kernel
theorem dX6_first_27 : decode cX6_first 27 = .ok (.iconst 2, 1) := by decide +kernel
theorem dX6_first_28 : decode cX6_first 28 = .ok (.invokevirtual 39, 3) := by decide +kernel
theorem dX6_first_31 : decode cX6_first 31 = .ok (.iload_n 2, 1) := by decide +kernel
theorem dX6_first_32 : decode cX6_first 32 = .ok (.if_icmp .ne 7, 3) := by decide +kernel
theorem dX6_first_35 : decode cX6_first 35 = .ok (.iconst 1, 1) := by decide +kernel
theorem dX6_first_36 : decode cX6_first 36 = .ok (.goto 4, 3) := by decide +kernel
theorem dX6_first_39 : decode cX6_first 39 = .ok (.iconst 0, 1) := by decide +kernel
theorem dX6_first_40 : decode cX6_first 40 = .ok (.istore 5, 2) := by decide +kernel
theorem dX6_first_42 : decode cX6_first 42 = .ok (.iload 5, 2) := by decide +kernel
theorem dX6_first_44 : decode cX6_first 44 = .ok (.ifCond .eq 30, 3) := by decide +kernel
theorem dX6_first_47 : decode cX6_first 47 = .ok (.iload_n 3, 1) := by decide +kernel
theorem dX6_first_48 : decode cX6_first 48 = .ok (.bipush (-5), 2) := by decide +kernel
theorem dX6_first_50 : decode cX6_first 50 = .ok (.if_icmp .eq 19, 3) := by decide +kernel
theorem dX6_first_53 : decode cX6_first 53 = .ok (.aload_n 0, 1) := by decide +kernel
theorem dX6_first_54 : decode cX6_first 54 = .ok (.iload 4, 2) := by decide +kernel
theorem dX6_first_56 : decode cX6_first 56 = .ok (.iconst 3, 1) := by decide +kernel
theorem dX6_first_57 : decode cX6_first 57 = .ok (.invokevirtual 39, 3) := by decide +kernel
theorem dX6_first_60 : decode cX6_first 60 = .ok (.aload_n 0, 1) := by decide +kernel
theorem dX6_first_61 : decode cX6_first 61 = .ok (.iload_n 3, 1) := by decide +kernel
theorem dX6_first_62 : decode cX6_first 62 = .ok (.iconst 3, 1) := by decide +kernel
theorem dX6_first_63 : decode cX6_first 63 = .ok (.invokevirtual 39, 3) := by decide +kernel
theorem dX6_first_66 : decode cX6_first 66 = .ok (.if_icmp .ge 8, 3) := by decide +kernel
theorem dX6_first_69 : decode cX6_first 69 = .ok (.iload 4, 2) := by decide +kernel
theorem dX6_first_71 : decode cX6_first 71 = .ok (.goto 4, 3) := by decide +kernel
theorem dX6_first_74 : decode cX6_first 74 = .ok (.iload_n 3, 1) := by decide +kernel
theorem dX6_first_75 : decode cX6_first 75 = .ok (.istore_n 3, 1) := by decide +kernel
theorem dX6_first_76 : decode cX6_first 76 = .ok (.iinc 4 1, 3) := by decide +kernel
theorem dX6_first_79 : decode cX6_first 79 = .ok (.goto (-73), 3) := by decide +kernel
theorem dX6_first_82 : decode cX6_first 82 = .ok (.iload_n 3, 1) := by decide +kernel
theorem dX6_first_83 : decode cX6_first 83 = .ok (.ireturn, 1) := by decide +kernel
theorem dX6_firstWaiting_0 : decode cX6_firstWaiting 0 = .ok (.aload_n 0, 1) := by decide +kernel
theorem dX6_firstWaiting_1 : decode cX6_firstWaiting 1 = .ok (.iload_n 1, 1) := by decide +kernel
theorem dX6_firstWaiting_2 : decode cX6_firstWaiting 2 = .ok (.iconst 1, 1) := by decide +kernel
theorem dX6_firstWaiting_3 : decode cX6_firstWaiting 3 = .ok (.iadd, 1) := by decide +kernel
theorem dX6_firstWaiting_4 : decode cX6_firstWaiting 4 = .ok (.iconst 0, 1) := by decide +kernel
theorem dX6_firstWaiting_5 : decode cX6_firstWaiting 5 = .ok (.invokevirtual 43, 3) := by decide +kernel
theorem dX6_firstWaiting_8 : decode cX6_firstWaiting 8 = .ok (.ireturn, 1) := by decide +kernel
theorem dX6_count_0 : decode cX6_count 0 = .ok (.iconst 0, 1) := by decide +kernel
theorem dX6_count_1 : decode cX6_count 1 = .ok (.istore_n 3, 1) := by decide +kernel
theorem dX6_count_2 : decode cX6_count 2 = .ok (.iconst 0, 1) := by decide +kernel
theorem dX6_count_3 : decode cX6_count 3 = .ok (.istore 4, 2) := by decide +kernel
theorem dX6_count_5 : decode cX6_count 5 = .ok (.iload 4, 2) := by decide +kernel
theorem dX6_count_7 : decode cX6_count 7 = .ok (.bipush 80, 2) := by decide +kernel
theorem dX6_count_9 : decode cX6_count 9 = .ok (.if_icmp .ge 39, 3) := by decide +kernel
theorem dX6_count_12 : decode cX6_count 12 = .ok (.iload_n 3, 1) := by decide +kernel
theorem dX6_count_13 : decode cX6_count 13 = .ok (.aload_n 0, 1) := by decide +kernel
theorem dX6_count_14 : decode cX6_count 14 = .ok (.iload 4, 2) := by decide +kernel
theorem dX6_count_16 : decode cX6_count 16 = .ok (.iconst 4, 1) := by decide +kernel
theorem dX6_count_17 : decode cX6_count 17 = .ok (.invokevirtual 39, 3) := by decide +kernel
theorem dX6_count_20 : decode cX6_count 20 = .ok (.iload_n 1, 1) := by decide +kernel
theorem dX6_count_21 : decode cX6_count 21 = .ok (.if_icmp .ne 18, 3) := by decide +kernel
theorem dX6_count_24 : decode cX6_count 24 = .ok (.aload_n 0, 1) := by decide +kernel
theorem dX6_count_25 : decode cX6_count 25 = .ok (.iload 4, 2) := by decide +kernel
theorem dX6_count_27 : decode cX6_count 27 = .ok (.iconst 2, 1) := by decide +kernel
theorem dX6_count_28 : decode cX6_count 28 = .ok (.invokevirtual 39, 3) := by decide +kernel
theorem dX6_count_31 : decode cX6_count 31 = .ok (.iload_n 2, 1) := by decide +kernel
theorem dX6_count_32 : decode cX6_count 32 = .ok (.if_icmp .ne 7, 3) := by decide +kernel
theorem dX6_count_35 : decode cX6_count 35 = .ok (.iconst 1, 1) := by decide +kernel
theorem dX6_count_36 : decode cX6_count 36 = .ok (.goto 4, 3) := by decide +kernel
theorem dX6_count_39 : decode cX6_count 39 = .ok (.iconst 0, 1) := by decide +kernel
theorem dX6_count_40 : decode cX6_count 40 = .ok (.iadd, 1) := by decide +kernel
theorem dX6_count_41 : decode cX6_count 41 = .ok (.istore_n 3, 1) := by decide +kernel
theorem dX6_count_42 : decode cX6_count 42 = .ok (.iinc 4 1, 3) := by decide +kernel
theorem dX6_count_45 : decode cX6_count 45 = .ok (.goto (-40), 3) := by decide +kernel
theorem dX6_count_48 : decode cX6_count 48 = .ok (.iload_n 3, 1) := by decide +kernel
theorem dX6_count_49 : decode cX6_count 49 = .ok (.ireturn, 1) := by decide +kernel
theorem dX6_partsOf_0 : decode cX6_partsOf 0 = .ok (.aload_n 0, 1) := by decide +kernel
theorem dX6_partsOf_1 : decode cX6_partsOf 1 = .ok (.bipush 8, 2) := by decide +kernel
theorem dX6_partsOf_3 : decode cX6_partsOf 3 = .ok (.iload_n 1, 1) := by decide +kernel
theorem dX6_partsOf_4 : decode cX6_partsOf 4 = .ok (.iconst 1, 1) := by decide +kernel
theorem dX6_partsOf_5 : decode cX6_partsOf 5 = .ok (.iadd, 1) := by decide +kernel
theorem dX6_partsOf_6 : decode cX6_partsOf 6 = .ok (.invokevirtual 46, 3) := by decide +kernel
theorem dX6_partsOf_9 : decode cX6_partsOf 9 = .ok (.ireturn, 1) := by decide +kernel
theorem dX6_isWithin_0 : decode cX6_isWithin 0 = .ok (.iload_n 1, 1) := by decide +kernel
theorem dX6_isWithin_1 : decode cX6_isWithin 1 = .ok (.istore_n 3, 1) := by decide +kernel
theorem dX6_isWithin_2 : decode cX6_isWithin 2 = .ok (.iload_n 3, 1) := by decide +kernel
theorem dX6_isWithin_3 : decode cX6_isWithin 3 = .ok (.ifCond .lt 20, 3) := by decide +kernel
theorem dX6_isWithin_6 : decode cX6_isWithin 6 = .ok (.iload_n 3, 1) := by decide +kernel
theorem dX6_isWithin_7 : decode cX6_isWithin 7 = .ok (.iload_n 2, 1) := by decide +kernel
theorem dX6_isWithin_8 : decode cX6_isWithin 8 = .ok (.if_icmp .eq 15, 3) := by decide +kernel
theorem dX6_isWithin_11 : decode cX6_isWithin 11 = .ok (.aload_n 0, 1) := by decide +kernel
theorem dX6_isWithin_12 : decode cX6_isWithin 12 = .ok (.iload_n 3, 1) := by decide +kernel
theorem dX6_isWithin_13 : decode cX6_isWithin 13 = .ok (.iconst 2, 1) := by decide +kernel
theorem dX6_isWithin_14 : decode cX6_isWithin 14 = .ok (.invokevirtual 39, 3) := by decide +kernel
theorem dX6_isWithin_17 : decode cX6_isWithin 17 = .ok (.iconst 1, 1) := by decide +kernel
theorem dX6_isWithin_18 : decode cX6_isWithin 18 = .ok (.isub, 1) := by decide +kernel
theorem dX6_isWithin_19 : decode cX6_isWithin 19 = .ok (.istore_n 3, 1) := by decide +kernel
theorem dX6_isWithin_20 : decode cX6_isWithin 20 = .ok (.goto (-18), 3) := by decide +kernel
theorem dX6_isWithin_23 : decode cX6_isWithin 23 = .ok (.iload_n 3, 1) := by decide +kernel
theorem dX6_isWithin_24 : decode cX6_isWithin 24 = .ok (.iload_n 2, 1) := by decide +kernel
theorem dX6_isWithin_25 : decode cX6_isWithin 25 = .ok (.if_icmp .ne 7, 3) := by decide +kernel
theorem dX6_isWithin_28 : decode cX6_isWithin 28 = .ok (.iconst 1, 1) := by decide +kernel
theorem dX6_isWithin_29 : decode cX6_isWithin 29 = .ok (.goto 4, 3) := by decide +kernel
theorem dX6_isWithin_32 : decode cX6_isWithin 32 = .ok (.iconst 0, 1) := by decide +kernel
theorem dX6_isWithin_33 : decode cX6_isWithin 33 = .ok (.ireturn, 1) := by decide +kernel
theorem dX6_sizeOf_0 : decode cX6_sizeOf 0 = .ok (.iconst 0, 1) := by decide +kernel
theorem dX6_sizeOf_1 : decode cX6_sizeOf 1 = .ok (.istore_n 2, 1) := by decide +kernel
theorem dX6_sizeOf_2 : decode cX6_sizeOf 2 = .ok (.iconst 0, 1) := by decide +kernel
theorem dX6_sizeOf_3 : decode cX6_sizeOf 3 = .ok (.istore_n 3, 1) := by decide +kernel
theorem dX6_sizeOf_4 : decode cX6_sizeOf 4 = .ok (.iload_n 3, 1) := by decide +kernel
theorem dX6_sizeOf_5 : decode cX6_sizeOf 5 = .ok (.bipush 80, 2) := by decide +kernel
theorem dX6_sizeOf_7 : decode cX6_sizeOf 7 = .ok (.if_icmp .ge 35, 3) := by decide +kernel
theorem dX6_sizeOf_10 : decode cX6_sizeOf 10 = .ok (.iload_n 2, 1) := by decide +kernel
theorem dX6_sizeOf_11 : decode cX6_sizeOf 11 = .ok (.aload_n 0, 1) := by decide +kernel
theorem dX6_sizeOf_12 : decode cX6_sizeOf 12 = .ok (.iload_n 3, 1) := by decide +kernel
theorem dX6_sizeOf_13 : decode cX6_sizeOf 13 = .ok (.iconst 4, 1) := by decide +kernel
theorem dX6_sizeOf_14 : decode cX6_sizeOf 14 = .ok (.invokevirtual 39, 3) := by decide +kernel
theorem dX6_sizeOf_17 : decode cX6_sizeOf 17 = .ok (.ifCond .le 16, 3) := by decide +kernel
theorem dX6_sizeOf_20 : decode cX6_sizeOf 20 = .ok (.aload_n 0, 1) := by decide +kernel
theorem dX6_sizeOf_21 : decode cX6_sizeOf 21 = .ok (.iload_n 3, 1) := by decide +kernel
theorem dX6_sizeOf_22 : decode cX6_sizeOf 22 = .ok (.iload_n 1, 1) := by decide +kernel
theorem dX6_sizeOf_23 : decode cX6_sizeOf 23 = .ok (.invokevirtual 49, 3) := by decide +kernel
theorem dX6_sizeOf_26 : decode cX6_sizeOf 26 = .ok (.ifCond .eq 7, 3) := by decide +kernel
theorem dX6_sizeOf_29 : decode cX6_sizeOf 29 = .ok (.iconst 1, 1) := by decide +kernel
theorem dX6_sizeOf_30 : decode cX6_sizeOf 30 = .ok (.goto 4, 3) := by decide +kernel
theorem dX6_sizeOf_33 : decode cX6_sizeOf 33 = .ok (.iconst 0, 1) := by decide +kernel
theorem dX6_sizeOf_34 : decode cX6_sizeOf 34 = .ok (.iadd, 1) := by decide +kernel
theorem dX6_sizeOf_35 : decode cX6_sizeOf 35 = .ok (.istore_n 2, 1) := by decide +kernel
theorem dX6_sizeOf_36 : decode cX6_sizeOf 36 = .ok (.iinc 3 1, 3) := by decide +kernel
theorem dX6_sizeOf_39 : decode cX6_sizeOf 39 = .ok (.goto (-35), 3) := by decide +kernel
theorem dX6_sizeOf_42 : decode cX6_sizeOf 42 = .ok (.iload_n 2, 1) := by decide +kernel
theorem dX6_sizeOf_43 : decode cX6_sizeOf 43 = .ok (.ireturn, 1) := by decide +kernel
theorem dX6_underWay_0 : decode cX6_underWay 0 = .ok (.iconst 0, 1) := by decide +kernel
theorem dX6_underWay_1 : decode cX6_underWay 1 = .ok (.istore_n 1, 1) := by decide +kernel
theorem dX6_underWay_2 : decode cX6_underWay 2 = .ok (.iconst 0, 1) := by decide +kernel
theorem dX6_underWay_3 : decode cX6_underWay 3 = .ok (.istore_n 2, 1) := by decide +kernel
theorem dX6_underWay_4 : decode cX6_underWay 4 = .ok (.iload_n 2, 1) := by decide +kernel
theorem dX6_underWay_5 : decode cX6_underWay 5 = .ok (.bipush 80, 2) := by decide +kernel
theorem dX6_underWay_7 : decode cX6_underWay 7 = .ok (.if_icmp .ge 26, 3) := by decide +kernel
theorem dX6_underWay_10 : decode cX6_underWay 10 = .ok (.iload_n 1, 1) := by decide +kernel
theorem dX6_underWay_11 : decode cX6_underWay 11 = .ok (.aload_n 0, 1) := by decide +kernel
theorem dX6_underWay_12 : decode cX6_underWay 12 = .ok (.iload_n 2, 1) := by decide +kernel
theorem dX6_underWay_13 : decode cX6_underWay 13 = .ok (.iconst 4, 1) := by decide +kernel
theorem dX6_underWay_14 : decode cX6_underWay 14 = .ok (.invokevirtual 39, 3) := by decide +kernel
theorem dX6_underWay_17 : decode cX6_underWay 17 = .ok (.ifCond .le 7, 3) := by decide +kernel
theorem dX6_underWay_20 : decode cX6_underWay 20 = .ok (.iconst 1, 1) := by decide +kernel
theorem dX6_underWay_21 : decode cX6_underWay 21 = .ok (.goto 4, 3) := by decide +kernel
theorem dX6_underWay_24 : decode cX6_underWay 24 = .ok (.iconst 0, 1) := by decide +kernel
theorem dX6_underWay_25 : decode cX6_underWay 25 = .ok (.iadd, 1) := by decide +kernel
theorem dX6_underWay_26 : decode cX6_underWay 26 = .ok (.istore_n 1, 1) := by decide +kernel
theorem dX6_underWay_27 : decode cX6_underWay 27 = .ok (.iinc 2 1, 3) := by decide +kernel
theorem dX6_underWay_30 : decode cX6_underWay 30 = .ok (.goto (-26), 3) := by decide +kernel
theorem dX6_underWay_33 : decode cX6_underWay 33 = .ok (.iload_n 1, 1) := by decide +kernel
theorem dX6_underWay_34 : decode cX6_underWay 34 = .ok (.ireturn, 1) := by decide +kernel
theorem dX6_drop_0 : decode cX6_drop 0 = .ok (.iconst 0, 1) := by decide +kernel
theorem dX6_drop_1 : decode cX6_drop 1 = .ok (.istore_n 2, 1) := by decide +kernel
theorem dX6_drop_2 : decode cX6_drop 2 = .ok (.iload_n 2, 1) := by decide +kernel
theorem dX6_drop_3 : decode cX6_drop 3 = .ok (.bipush 80, 2) := by decide +kernel
theorem dX6_drop_5 : decode cX6_drop 5 = .ok (.if_icmp .ge 49, 3) := by decide +kernel
theorem dX6_drop_8 : decode cX6_drop 8 = .ok (.iload_n 2, 1) := by decide +kernel
theorem dX6_drop_9 : decode cX6_drop 9 = .ok (.iload_n 1, 1) := by decide +kernel
theorem dX6_drop_10 : decode cX6_drop 10 = .ok (.if_icmp .eq 25, 3) := by decide +kernel
theorem dX6_drop_13 : decode cX6_drop 13 = .ok (.aload_n 0, 1) := by decide +kernel
theorem dX6_drop_14 : decode cX6_drop 14 = .ok (.iload_n 2, 1) := by decide +kernel
theorem dX6_drop_15 : decode cX6_drop 15 = .ok (.iconst 4, 1) := by decide +kernel
theorem dX6_drop_16 : decode cX6_drop 16 = .ok (.invokevirtual 39, 3) := by decide +kernel
theorem dX6_drop_19 : decode cX6_drop 19 = .ok (.ifCond .le 16, 3) := by decide +kernel
theorem dX6_drop_22 : decode cX6_drop 22 = .ok (.aload_n 0, 1) := by decide +kernel
theorem dX6_drop_23 : decode cX6_drop 23 = .ok (.iload_n 2, 1) := by decide +kernel
theorem dX6_drop_24 : decode cX6_drop 24 = .ok (.iload_n 1, 1) := by decide +kernel
theorem dX6_drop_25 : decode cX6_drop 25 = .ok (.invokevirtual 49, 3) := by decide +kernel
theorem dX6_drop_28 : decode cX6_drop 28 = .ok (.ifCond .eq 7, 3) := by decide +kernel
theorem dX6_drop_31 : decode cX6_drop 31 = .ok (.iconst 1, 1) := by decide +kernel
theorem dX6_drop_32 : decode cX6_drop 32 = .ok (.goto 4, 3) := by decide +kernel
theorem dX6_drop_35 : decode cX6_drop 35 = .ok (.iconst 0, 1) := by decide +kernel
theorem dX6_drop_36 : decode cX6_drop 36 = .ok (.istore_n 3, 1) := by decide +kernel
theorem dX6_drop_37 : decode cX6_drop 37 = .ok (.iload_n 3, 1) := by decide +kernel
theorem dX6_drop_38 : decode cX6_drop 38 = .ok (.ifCond .eq 10, 3) := by decide +kernel
theorem dX6_drop_41 : decode cX6_drop 41 = .ok (.aload_n 0, 1) := by decide +kernel
theorem dX6_drop_42 : decode cX6_drop 42 = .ok (.iload_n 2, 1) := by decide +kernel
theorem dX6_drop_43 : decode cX6_drop 43 = .ok (.iconst 4, 1) := by decide +kernel
theorem dX6_drop_44 : decode cX6_drop 44 = .ok (.iconst 0, 1) := by decide +kernel
theorem dX6_drop_45 : decode cX6_drop 45 = .ok (.invokevirtual 53, 3) := by decide +kernel
theorem dX6_drop_48 : decode cX6_drop 48 = .ok (.iinc 2 1, 3) := by decide +kernel
theorem dX6_drop_51 : decode cX6_drop 51 = .ok (.goto (-49), 3) := by decide +kernel
theorem dX6_drop_54 : decode cX6_drop 54 = .ok (.aload_n 0, 1) := by decide +kernel
theorem dX6_drop_55 : decode cX6_drop 55 = .ok (.iload_n 1, 1) := by decide +kernel
theorem dX6_drop_56 : decode cX6_drop 56 = .ok (.iconst 4, 1) := by decide +kernel
theorem dX6_drop_57 : decode cX6_drop 57 = .ok (.iconst 0, 1) := by decide +kernel
theorem dX6_drop_58 : decode cX6_drop 58 = .ok (.invokevirtual 53, 3) := by decide +kernel
theorem dX6_drop_61 : decode cX6_drop 61 = .ok (.return_, 1) := by decide +kernel
theorem dX6_add_0 : decode cX6_add 0 = .ok (.iconst 0, 1) := by decide +kernel
theorem dX6_add_1 : decode cX6_add 1 = .ok (.istore 4, 2) := by decide +kernel
theorem dX6_add_3 : decode cX6_add 3 = .ok (.aload_n 0, 1) := by decide +kernel
theorem dX6_add_4 : decode cX6_add 4 = .ok (.iload 4, 2) := by decide +kernel
theorem dX6_add_6 : decode cX6_add 6 = .ok (.iconst 4, 1) := by decide +kernel
theorem dX6_add_7 : decode cX6_add 7 = .ok (.invokevirtual 39, 3) := by decide +kernel
theorem dX6_add_10 : decode cX6_add 10 = .ok (.ifCond .le 9, 3) := by decide +kernel
theorem dX6_add_13 : decode cX6_add 13 = .ok (.iinc 4 1, 3) := by decide +kernel
theorem dX6_add_16 : decode cX6_add 16 = .ok (.goto (-13), 3) := by decide +kernel
theorem dX6_add_19 : decode cX6_add 19 = .ok (.aload_n 0, 1) := by decide +kernel
theorem dX6_add_20 : decode cX6_add 20 = .ok (.getfield 7, 3) := by decide +kernel
theorem dX6_add_23 : decode cX6_add 23 = .ok (.bipush 10, 2) := by decide +kernel
theorem dX6_add_25 : decode cX6_add 25 = .ok (.dup2, 1) := by decide +kernel
theorem dX6_add_26 : decode cX6_add 26 = .ok (.iaload, 1) := by decide +kernel
theorem dX6_add_27 : decode cX6_add 27 = .ok (.iconst 1, 1) := by decide +kernel
theorem dX6_add_28 : decode cX6_add 28 = .ok (.iadd, 1) := by decide +kernel
theorem dX6_add_29 : decode cX6_add 29 = .ok (.iastore, 1) := by decide +kernel
theorem dX6_add_30 : decode cX6_add 30 = .ok (.aload_n 0, 1) := by decide +kernel
theorem dX6_add_31 : decode cX6_add 31 = .ok (.iload 4, 2) := by decide +kernel
theorem dX6_add_33 : decode cX6_add 33 = .ok (.iconst 0, 1) := by decide +kernel
theorem dX6_add_34 : decode cX6_add 34 = .ok (.iload_n 1, 1) := by decide +kernel
theorem dX6_add_35 : decode cX6_add 35 = .ok (.invokevirtual 53, 3) := by decide +kernel
theorem dX6_add_38 : decode cX6_add 38 = .ok (.aload_n 0, 1) := by decide +kernel
theorem dX6_add_39 : decode cX6_add 39 = .ok (.iload 4, 2) := by decide +kernel
theorem dX6_add_41 : decode cX6_add 41 = .ok (.iconst 1, 1) := by decide +kernel
theorem dX6_add_42 : decode cX6_add 42 = .ok (.iload_n 2, 1) := by decide +kernel
theorem dX6_add_43 : decode cX6_add 43 = .ok (.invokevirtual 53, 3) := by decide +kernel
theorem dX6_add_46 : decode cX6_add 46 = .ok (.aload_n 0, 1) := by decide +kernel
theorem dX6_add_47 : decode cX6_add 47 = .ok (.iload 4, 2) := by decide +kernel
theorem dX6_add_49 : decode cX6_add 49 = .ok (.iconst 2, 1) := by decide +kernel
theorem dX6_add_50 : decode cX6_add 50 = .ok (.iload_n 3, 1) := by decide +kernel
theorem dX6_add_51 : decode cX6_add 51 = .ok (.invokevirtual 53, 3) := by decide +kernel
theorem dX6_add_54 : decode cX6_add 54 = .ok (.aload_n 0, 1) := by decide +kernel
theorem dX6_add_55 : decode cX6_add 55 = .ok (.iload 4, 2) := by decide +kernel
theorem dX6_add_57 : decode cX6_add 57 = .ok (.iconst 3, 1) := by decide +kernel
theorem dX6_add_58 : decode cX6_add 58 = .ok (.aload_n 0, 1) := by decide +kernel
theorem dX6_add_59 : decode cX6_add 59 = .ok (.getfield 7, 3) := by decide +kernel
theorem dX6_add_62 : decode cX6_add 62 = .ok (.bipush 10, 2) := by decide +kernel
theorem dX6_add_64 : decode cX6_add 64 = .ok (.iaload, 1) := by decide +kernel
theorem dX6_add_65 : decode cX6_add 65 = .ok (.invokevirtual 53, 3) := by decide +kernel
theorem dX6_add_68 : decode cX6_add 68 = .ok (.aload_n 0, 1) := by decide +kernel
theorem dX6_add_69 : decode cX6_add 69 = .ok (.iload 4, 2) := by decide +kernel
theorem dX6_add_71 : decode cX6_add 71 = .ok (.iconst 4, 1) := by decide +kernel
theorem dX6_add_72 : decode cX6_add 72 = .ok (.iload_n 3, 1) := by decide +kernel
theorem dX6_add_73 : decode cX6_add 73 = .ok (.ifCond .ne 8, 3) := by decide +kernel
theorem dX6_add_76 : decode cX6_add 76 = .ok (.bipush 7, 2) := by decide +kernel
theorem dX6_add_78 : decode cX6_add 78 = .ok (.goto 5, 3) := by decide +kernel
theorem dX6_add_81 : decode cX6_add 81 = .ok (.bipush 8, 2) := by decide +kernel
theorem dX6_add_83 : decode cX6_add 83 = .ok (.invokevirtual 53, 3) := by decide +kernel
theorem dX6_add_86 : decode cX6_add 86 = .ok (.iload 4, 2) := by decide +kernel
theorem dX6_add_88 : decode cX6_add 88 = .ok (.ireturn, 1) := by decide +kernel
theorem dX6_timeBetween_0 : decode cX6_timeBetween 0 = .ok (.iload_n 1, 1) := by decide +kernel
theorem dX6_timeBetween_1 : decode cX6_timeBetween 1 = .ok (.bipush 6, 2) := by decide +kernel
theorem dX6_timeBetween_3 : decode cX6_timeBetween 3 = .ok (.if_icmp .ne 15, 3) := by decide +kernel
theorem dX6_timeBetween_6 : decode cX6_timeBetween 6 = .ok (.aload_n 0, 1) := by decide +kernel
theorem dX6_timeBetween_7 : decode cX6_timeBetween 7 = .ok (.getfield 7, 3) := by decide +kernel
theorem dX6_timeBetween_10 : decode cX6_timeBetween 10 = .ok (.bipush 48, 2) := by decide +kernel
theorem dX6_timeBetween_12 : decode cX6_timeBetween 12 = .ok (.iload_n 2, 1) := by decide +kernel
theorem dX6_timeBetween_13 : decode cX6_timeBetween 13 = .ok (.iadd, 1) := by decide +kernel
theorem dX6_timeBetween_14 : decode cX6_timeBetween 14 = .ok (.iaload, 1) := by decide +kernel
theorem dX6_timeBetween_15 : decode cX6_timeBetween 15 = .ok (.goto 35, 3) := by decide +kernel
theorem dX6_timeBetween_18 : decode cX6_timeBetween 18 = .ok (.iload_n 2, 1) := by decide +kernel
theorem dX6_timeBetween_19 : decode cX6_timeBetween 19 = .ok (.bipush 6, 2) := by decide +kernel
theorem dX6_timeBetween_21 : decode cX6_timeBetween 21 = .ok (.if_icmp .ne 15, 3) := by decide +kernel
theorem dX6_timeBetween_24 : decode cX6_timeBetween 24 = .ok (.aload_n 0, 1) := by decide +kernel
theorem dX6_timeBetween_25 : decode cX6_timeBetween 25 = .ok (.getfield 7, 3) := by decide +kernel
theorem dX6_timeBetween_28 : decode cX6_timeBetween 28 = .ok (.bipush 48, 2) := by decide +kernel
theorem dX6_timeBetween_30 : decode cX6_timeBetween 30 = .ok (.iload_n 1, 1) := by decide +kernel
theorem dX6_timeBetween_31 : decode cX6_timeBetween 31 = .ok (.iadd, 1) := by decide +kernel
theorem dX6_timeBetween_32 : decode cX6_timeBetween 32 = .ok (.iaload, 1) := by decide +kernel
theorem dX6_timeBetween_33 : decode cX6_timeBetween 33 = .ok (.goto 17, 3) := by decide +kernel
theorem dX6_timeBetween_36 : decode cX6_timeBetween 36 = .ok (.aload_n 0, 1) := by decide +kernel
theorem dX6_timeBetween_37 : decode cX6_timeBetween 37 = .ok (.getfield 7, 3) := by decide +kernel
theorem dX6_timeBetween_40 : decode cX6_timeBetween 40 = .ok (.bipush 12, 2) := by decide +kernel
theorem dX6_timeBetween_42 : decode cX6_timeBetween 42 = .ok (.bipush 6, 2) := by decide +kernel
theorem dX6_timeBetween_44 : decode cX6_timeBetween 44 = .ok (.iload_n 1, 1) := by decide +kernel
theorem dX6_timeBetween_45 : decode cX6_timeBetween 45 = .ok (.imul, 1) := by decide +kernel
theorem dX6_timeBetween_46 : decode cX6_timeBetween 46 = .ok (.iadd, 1) := by decide +kernel
theorem dX6_timeBetween_47 : decode cX6_timeBetween 47 = .ok (.iload_n 2, 1) := by decide +kernel
theorem dX6_timeBetween_48 : decode cX6_timeBetween 48 = .ok (.iadd, 1) := by decide +kernel
theorem dX6_timeBetween_49 : decode cX6_timeBetween 49 = .ok (.iaload, 1) := by decide +kernel
theorem dX6_timeBetween_50 : decode cX6_timeBetween 50 = .ok (.ireturn, 1) := by decide +kernel
theorem dX6_send_0 : decode cX6_send 0 = .ok (.sipush 508, 3) := by decide +kernel
theorem dX6_send_3 : decode cX6_send 3 = .ok (.bipush 6, 2) := by decide +kernel
theorem dX6_send_5 : decode cX6_send 5 = .ok (.aload_n 0, 1) := by decide +kernel
theorem dX6_send_6 : decode cX6_send 6 = .ok (.getfield 7, 3) := by decide +kernel
theorem dX6_send_9 : decode cX6_send 9 = .ok (.iconst 4, 1) := by decide +kernel
theorem dX6_send_10 : decode cX6_send 10 = .ok (.iaload, 1) := by decide +kernel
theorem dX6_send_11 : decode cX6_send 11 = .ok (.imul, 1) := by decide +kernel
theorem dX6_send_12 : decode cX6_send 12 = .ok (.iadd, 1) := by decide +kernel
theorem dX6_send_13 : decode cX6_send 13 = .ok (.istore 6, 2) := by decide +kernel
theorem dX6_send_15 : decode cX6_send 15 = .ok (.aload_n 0, 1) := by decide +kernel
theorem dX6_send_16 : decode cX6_send 16 = .ok (.getfield 7, 3) := by decide +kernel
theorem dX6_send_19 : decode cX6_send 19 = .ok (.iload 6, 2) := by decide +kernel
theorem dX6_send_21 : decode cX6_send 21 = .ok (.iconst 0, 1) := by decide +kernel
theorem dX6_send_22 : decode cX6_send 22 = .ok (.iadd, 1) := by decide +kernel
theorem dX6_send_23 : decode cX6_send 23 = .ok (.iload_n 1, 1) := by decide +kernel
theorem dX6_send_24 : decode cX6_send 24 = .ok (.iastore, 1) := by decide +kernel
theorem dX6_send_25 : decode cX6_send 25 = .ok (.aload_n 0, 1) := by decide +kernel
theorem dX6_send_26 : decode cX6_send 26 = .ok (.getfield 7, 3) := by decide +kernel
theorem dX6_send_29 : decode cX6_send 29 = .ok (.iload 6, 2) := by decide +kernel
theorem dX6_send_31 : decode cX6_send 31 = .ok (.iconst 1, 1) := by decide +kernel
theorem dX6_send_32 : decode cX6_send 32 = .ok (.iadd, 1) := by decide +kernel
theorem dX6_send_33 : decode cX6_send 33 = .ok (.iload_n 2, 1) := by decide +kernel
theorem dX6_send_34 : decode cX6_send 34 = .ok (.iastore, 1) := by decide +kernel
theorem dX6_send_35 : decode cX6_send 35 = .ok (.aload_n 0, 1) := by decide +kernel
theorem dX6_send_36 : decode cX6_send 36 = .ok (.getfield 7, 3) := by decide +kernel
theorem dX6_send_39 : decode cX6_send 39 = .ok (.iload 6, 2) := by decide +kernel
theorem dX6_send_41 : decode cX6_send 41 = .ok (.iconst 2, 1) := by decide +kernel
theorem dX6_send_42 : decode cX6_send 42 = .ok (.iadd, 1) := by decide +kernel
theorem dX6_send_43 : decode cX6_send 43 = .ok (.iload_n 3, 1) := by decide +kernel
theorem dX6_send_44 : decode cX6_send 44 = .ok (.iastore, 1) := by decide +kernel
theorem dX6_send_45 : decode cX6_send 45 = .ok (.aload_n 0, 1) := by decide +kernel
theorem dX6_send_46 : decode cX6_send 46 = .ok (.getfield 7, 3) := by decide +kernel
theorem dX6_send_49 : decode cX6_send 49 = .ok (.iload 6, 2) := by decide +kernel
theorem dX6_send_51 : decode cX6_send 51 = .ok (.iconst 3, 1) := by decide +kernel
theorem dX6_send_52 : decode cX6_send 52 = .ok (.iadd, 1) := by decide +kernel
theorem dX6_send_53 : decode cX6_send 53 = .ok (.iload 4, 2) := by decide +kernel
theorem dX6_send_55 : decode cX6_send 55 = .ok (.iastore, 1) := by decide +kernel
theorem dX6_send_56 : decode cX6_send 56 = .ok (.aload_n 0, 1) := by decide +kernel
theorem dX6_send_57 : decode cX6_send 57 = .ok (.getfield 7, 3) := by decide +kernel
theorem dX6_send_60 : decode cX6_send 60 = .ok (.iload 6, 2) := by decide +kernel
theorem dX6_send_62 : decode cX6_send 62 = .ok (.iconst 4, 1) := by decide +kernel
theorem dX6_send_63 : decode cX6_send 63 = .ok (.iadd, 1) := by decide +kernel
theorem dX6_send_64 : decode cX6_send 64 = .ok (.aload_n 0, 1) := by decide +kernel
theorem dX6_send_65 : decode cX6_send 65 = .ok (.getfield 7, 3) := by decide +kernel
theorem dX6_send_68 : decode cX6_send 68 = .ok (.iconst 0, 1) := by decide +kernel
theorem dX6_send_69 : decode cX6_send 69 = .ok (.iaload, 1) := by decide +kernel
theorem dX6_send_70 : decode cX6_send 70 = .ok (.aload_n 0, 1) := by decide +kernel
theorem dX6_send_71 : decode cX6_send 71 = .ok (.iload_n 2, 1) := by decide +kernel
theorem dX6_send_72 : decode cX6_send 72 = .ok (.iload_n 3, 1) := by decide +kernel
theorem dX6_send_73 : decode cX6_send 73 = .ok (.invokevirtual 57, 3) := by decide +kernel
theorem dX6_send_76 : decode cX6_send 76 = .ok (.iadd, 1) := by decide +kernel
theorem dX6_send_77 : decode cX6_send 77 = .ok (.iastore, 1) := by decide +kernel
theorem dX6_send_78 : decode cX6_send 78 = .ok (.aload_n 0, 1) := by decide +kernel
theorem dX6_send_79 : decode cX6_send 79 = .ok (.getfield 7, 3) := by decide +kernel
theorem dX6_send_82 : decode cX6_send 82 = .ok (.iload 6, 2) := by decide +kernel
theorem dX6_send_84 : decode cX6_send 84 = .ok (.iconst 5, 1) := by decide +kernel
theorem dX6_send_85 : decode cX6_send 85 = .ok (.iadd, 1) := by decide +kernel
theorem dX6_send_86 : decode cX6_send 86 = .ok (.iload 5, 2) := by decide +kernel
theorem dX6_send_88 : decode cX6_send 88 = .ok (.iastore, 1) := by decide +kernel
theorem dX6_send_89 : decode cX6_send 89 = .ok (.aload_n 0, 1) := by decide +kernel
theorem dX6_send_90 : decode cX6_send 90 = .ok (.getfield 7, 3) := by decide +kernel
theorem dX6_send_93 : decode cX6_send 93 = .ok (.iconst 4, 1) := by decide +kernel
theorem dX6_send_94 : decode cX6_send 94 = .ok (.dup2, 1) := by decide +kernel
theorem dX6_send_95 : decode cX6_send 95 = .ok (.iaload, 1) := by decide +kernel
theorem dX6_send_96 : decode cX6_send 96 = .ok (.iconst 1, 1) := by decide +kernel
theorem dX6_send_97 : decode cX6_send 97 = .ok (.iadd, 1) := by decide +kernel
theorem dX6_send_98 : decode cX6_send 98 = .ok (.iastore, 1) := by decide +kernel
theorem dX6_send_99 : decode cX6_send 99 = .ok (.return_, 1) := by decide +kernel
theorem dX6_takeAway_0 : decode cX6_takeAway 0 = .ok (.aload_n 0, 1) := by decide +kernel
theorem dX6_takeAway_1 : decode cX6_takeAway 1 = .ok (.getfield 7, 3) := by decide +kernel
theorem dX6_takeAway_4 : decode cX6_takeAway 4 = .ok (.iconst 4, 1) := by decide +kernel
theorem dX6_takeAway_5 : decode cX6_takeAway 5 = .ok (.dup2, 1) := by decide +kernel
theorem dX6_takeAway_6 : decode cX6_takeAway 6 = .ok (.iaload, 1) := by decide +kernel
theorem dX6_takeAway_7 : decode cX6_takeAway 7 = .ok (.iconst 1, 1) := by decide +kernel
theorem dX6_takeAway_8 : decode cX6_takeAway 8 = .ok (.isub, 1) := by decide +kernel
theorem dX6_takeAway_9 : decode cX6_takeAway 9 = .ok (.iastore, 1) := by decide +kernel
theorem dX6_takeAway_10 : decode cX6_takeAway 10 = .ok (.sipush 508, 3) := by decide +kernel
theorem dX6_takeAway_13 : decode cX6_takeAway 13 = .ok (.bipush 6, 2) := by decide +kernel
theorem dX6_takeAway_15 : decode cX6_takeAway 15 = .ok (.iload_n 1, 1) := by decide +kernel
theorem dX6_takeAway_16 : decode cX6_takeAway 16 = .ok (.imul, 1) := by decide +kernel
theorem dX6_takeAway_17 : decode cX6_takeAway 17 = .ok (.iadd, 1) := by decide +kernel
theorem dX6_takeAway_18 : decode cX6_takeAway 18 = .ok (.istore_n 2, 1) := by decide +kernel
theorem dX6_takeAway_19 : decode cX6_takeAway 19 = .ok (.iload_n 2, 1) := by decide +kernel
theorem dX6_takeAway_20 : decode cX6_takeAway 20 = .ok (.sipush 508, 3) := by decide +kernel
theorem dX6_takeAway_23 : decode cX6_takeAway 23 = .ok (.bipush 6, 2) := by decide +kernel
theorem dX6_takeAway_25 : decode cX6_takeAway 25 = .ok (.aload_n 0, 1) := by decide +kernel
theorem dX6_takeAway_26 : decode cX6_takeAway 26 = .ok (.getfield 7, 3) := by decide +kernel
theorem dX6_takeAway_29 : decode cX6_takeAway 29 = .ok (.iconst 4, 1) := by decide +kernel
theorem dX6_takeAway_30 : decode cX6_takeAway 30 = .ok (.iaload, 1) := by decide +kernel
theorem dX6_takeAway_31 : decode cX6_takeAway 31 = .ok (.imul, 1) := by decide +kernel
theorem dX6_takeAway_32 : decode cX6_takeAway 32 = .ok (.iadd, 1) := by decide +kernel
theorem dX6_takeAway_33 : decode cX6_takeAway 33 = .ok (.if_icmp .ge 24, 3) := by decide +kernel
theorem dX6_takeAway_36 : decode cX6_takeAway 36 = .ok (.aload_n 0, 1) := by decide +kernel
theorem dX6_takeAway_37 : decode cX6_takeAway 37 = .ok (.getfield 7, 3) := by decide +kernel
theorem dX6_takeAway_40 : decode cX6_takeAway 40 = .ok (.iload_n 2, 1) := by decide +kernel
theorem dX6_takeAway_41 : decode cX6_takeAway 41 = .ok (.aload_n 0, 1) := by decide +kernel
theorem dX6_takeAway_42 : decode cX6_takeAway 42 = .ok (.getfield 7, 3) := by decide +kernel
theorem dX6_takeAway_45 : decode cX6_takeAway 45 = .ok (.iload_n 2, 1) := by decide +kernel
theorem dX6_takeAway_46 : decode cX6_takeAway 46 = .ok (.bipush 6, 2) := by decide +kernel
theorem dX6_takeAway_48 : decode cX6_takeAway 48 = .ok (.iadd, 1) := by decide +kernel
theorem dX6_takeAway_49 : decode cX6_takeAway 49 = .ok (.iaload, 1) := by decide +kernel
theorem dX6_takeAway_50 : decode cX6_takeAway 50 = .ok (.iastore, 1) := by decide +kernel
theorem dX6_takeAway_51 : decode cX6_takeAway 51 = .ok (.iinc 2 1, 3) := by decide +kernel
theorem dX6_takeAway_54 : decode cX6_takeAway 54 = .ok (.goto (-35), 3) := by decide +kernel
theorem dX6_takeAway_57 : decode cX6_takeAway 57 = .ok (.return_, 1) := by decide +kernel
theorem dX6_ranked_0 : decode cX6_ranked 0 = .ok (.iconst 0, 1) := by decide +kernel
theorem dX6_ranked_1 : decode cX6_ranked 1 = .ok (.istore_n 2, 1) := by decide +kernel
theorem dX6_ranked_2 : decode cX6_ranked 2 = .ok (.iload_n 2, 1) := by decide +kernel
theorem dX6_ranked_3 : decode cX6_ranked 3 = .ok (.aload_n 0, 1) := by decide +kernel
theorem dX6_ranked_4 : decode cX6_ranked 4 = .ok (.getfield 7, 3) := by decide +kernel
theorem dX6_ranked_7 : decode cX6_ranked 7 = .ok (.iconst 4, 1) := by decide +kernel
theorem dX6_ranked_8 : decode cX6_ranked 8 = .ok (.iaload, 1) := by decide +kernel
theorem dX6_ranked_9 : decode cX6_ranked 9 = .ok (.if_icmp .ge 78, 3) := by decide +kernel
theorem dX6_ranked_12 : decode cX6_ranked 12 = .ok (.iconst 0, 1) := by decide +kernel
theorem dX6_ranked_13 : decode cX6_ranked 13 = .ok (.istore_n 3, 1) := by decide +kernel
theorem dX6_ranked_14 : decode cX6_ranked 14 = .ok (.iconst 0, 1) := by decide +kernel
theorem dX6_ranked_15 : decode cX6_ranked 15 = .ok (.istore 4, 2) := by decide +kernel
theorem dX6_ranked_17 : decode cX6_ranked 17 = .ok (.iload 4, 2) := by decide +kernel
theorem dX6_ranked_19 : decode cX6_ranked 19 = .ok (.aload_n 0, 1) := by decide +kernel
theorem dX6_ranked_20 : decode cX6_ranked 20 = .ok (.getfield 7, 3) := by decide +kernel
theorem dX6_ranked_23 : decode cX6_ranked 23 = .ok (.iconst 4, 1) := by decide +kernel
theorem dX6_ranked_24 : decode cX6_ranked 24 = .ok (.iaload, 1) := by decide +kernel
theorem dX6_ranked_25 : decode cX6_ranked 25 = .ok (.if_icmp .ge 49, 3) := by decide +kernel
theorem dX6_ranked_28 : decode cX6_ranked 28 = .ok (.aload_n 0, 1) := by decide +kernel
theorem dX6_ranked_29 : decode cX6_ranked 29 = .ok (.iload 4, 2) := by decide +kernel
theorem dX6_ranked_31 : decode cX6_ranked 31 = .ok (.iconst 4, 1) := by decide +kernel
theorem dX6_ranked_32 : decode cX6_ranked 32 = .ok (.invokevirtual 60, 3) := by decide +kernel
theorem dX6_ranked_35 : decode cX6_ranked 35 = .ok (.aload_n 0, 1) := by decide +kernel
theorem dX6_ranked_36 : decode cX6_ranked 36 = .ok (.iload_n 2, 1) := by decide +kernel
theorem dX6_ranked_37 : decode cX6_ranked 37 = .ok (.iconst 4, 1) := by decide +kernel
theorem dX6_ranked_38 : decode cX6_ranked 38 = .ok (.invokevirtual 60, 3) := by decide +kernel
theorem dX6_ranked_41 : decode cX6_ranked 41 = .ok (.isub, 1) := by decide +kernel
theorem dX6_ranked_42 : decode cX6_ranked 42 = .ok (.istore 5, 2) := by decide +kernel
theorem dX6_ranked_44 : decode cX6_ranked 44 = .ok (.iload_n 3, 1) := by decide +kernel
theorem dX6_ranked_45 : decode cX6_ranked 45 = .ok (.iload 5, 2) := by decide +kernel
theorem dX6_ranked_47 : decode cX6_ranked 47 = .ok (.ifCond .lt 14, 3) := by decide +kernel
theorem dX6_ranked_50 : decode cX6_ranked 50 = .ok (.iload 5, 2) := by decide +kernel
theorem dX6_ranked_52 : decode cX6_ranked 52 = .ok (.ifCond .ne 13, 3) := by decide +kernel
theorem dX6_ranked_55 : decode cX6_ranked 55 = .ok (.iload 4, 2) := by decide +kernel
theorem dX6_ranked_57 : decode cX6_ranked 57 = .ok (.iload_n 2, 1) := by decide +kernel
theorem dX6_ranked_58 : decode cX6_ranked 58 = .ok (.if_icmp .ge 7, 3) := by decide +kernel
theorem dX6_ranked_61 : decode cX6_ranked 61 = .ok (.iconst 1, 1) := by decide +kernel
theorem dX6_ranked_62 : decode cX6_ranked 62 = .ok (.goto 4, 3) := by decide +kernel
theorem dX6_ranked_65 : decode cX6_ranked 65 = .ok (.iconst 0, 1) := by decide +kernel
theorem dX6_ranked_66 : decode cX6_ranked 66 = .ok (.iadd, 1) := by decide +kernel
theorem dX6_ranked_67 : decode cX6_ranked 67 = .ok (.istore_n 3, 1) := by decide +kernel
theorem dX6_ranked_68 : decode cX6_ranked 68 = .ok (.iinc 4 1, 3) := by decide +kernel
theorem dX6_ranked_71 : decode cX6_ranked 71 = .ok (.goto (-54), 3) := by decide +kernel
theorem dX6_ranked_74 : decode cX6_ranked 74 = .ok (.iload_n 3, 1) := by decide +kernel
theorem dX6_ranked_75 : decode cX6_ranked 75 = .ok (.iload_n 1, 1) := by decide +kernel
theorem dX6_ranked_76 : decode cX6_ranked 76 = .ok (.if_icmp .ne 5, 3) := by decide +kernel
theorem dX6_ranked_79 : decode cX6_ranked 79 = .ok (.iload_n 2, 1) := by decide +kernel
theorem dX6_ranked_80 : decode cX6_ranked 80 = .ok (.ireturn, 1) := by decide +kernel
theorem dX6_ranked_81 : decode cX6_ranked 81 = .ok (.iinc 2 1, 3) := by decide +kernel
theorem dX6_ranked_84 : decode cX6_ranked 84 = .ok (.goto (-82), 3) := by decide +kernel
theorem dX6_ranked_87 : decode cX6_ranked 87 = .ok (.bipush (-5), 2) := by decide +kernel
theorem dX6_ranked_89 : decode cX6_ranked 89 = .ok (.ireturn, 1) := by decide +kernel
theorem dX6_mint_0 : decode cX6_mint 0 = .ok (.iconst 1, 1) := by decide +kernel
theorem dX6_mint_1 : decode cX6_mint 1 = .ok (.aload_n 0, 1) := by decide +kernel
theorem dX6_mint_2 : decode cX6_mint 2 = .ok (.getfield 7, 3) := by decide +kernel
theorem dX6_mint_5 : decode cX6_mint 5 = .ok (.bipush 8, 2) := by decide +kernel
theorem dX6_mint_7 : decode cX6_mint 7 = .ok (.iaload, 1) := by decide +kernel
theorem dX6_mint_8 : decode cX6_mint 8 = .ok (.ishl, 1) := by decide +kernel
theorem dX6_mint_9 : decode cX6_mint 9 = .ok (.istore_n 1, 1) := by decide +kernel
theorem dX6_mint_10 : decode cX6_mint 10 = .ok (.aload_n 0, 1) := by decide +kernel
theorem dX6_mint_11 : decode cX6_mint 11 = .ok (.getfield 7, 3) := by decide +kernel
theorem dX6_mint_14 : decode cX6_mint 14 = .ok (.iconst 1, 1) := by decide +kernel
theorem dX6_mint_15 : decode cX6_mint 15 = .ok (.dup2, 1) := by decide +kernel
theorem dX6_mint_16 : decode cX6_mint 16 = .ok (.iaload, 1) := by decide +kernel
theorem dX6_mint_17 : decode cX6_mint 17 = .ok (.iload_n 1, 1) := by decide +kernel
theorem dX6_mint_18 : decode cX6_mint 18 = .ok (.iadd, 1) := by decide +kernel
theorem dX6_mint_19 : decode cX6_mint 19 = .ok (.iastore, 1) := by decide +kernel
theorem dX6_mint_20 : decode cX6_mint 20 = .ok (.aload_n 0, 1) := by decide +kernel
theorem dX6_mint_21 : decode cX6_mint 21 = .ok (.getfield 7, 3) := by decide +kernel
theorem dX6_mint_24 : decode cX6_mint 24 = .ok (.bipush 6, 2) := by decide +kernel
theorem dX6_mint_26 : decode cX6_mint 26 = .ok (.dup2, 1) := by decide +kernel
theorem dX6_mint_27 : decode cX6_mint 27 = .ok (.iaload, 1) := by decide +kernel
theorem dX6_mint_28 : decode cX6_mint 28 = .ok (.iconst 1, 1) := by decide +kernel
theorem dX6_mint_29 : decode cX6_mint 29 = .ok (.iadd, 1) := by decide +kernel
theorem dX6_mint_30 : decode cX6_mint 30 = .ok (.iastore, 1) := by decide +kernel
theorem dX6_mint_31 : decode cX6_mint 31 = .ok (.iload_n 1, 1) := by decide +kernel
theorem dX6_mint_32 : decode cX6_mint 32 = .ok (.ireturn, 1) := by decide +kernel
theorem dX6_sendWhatItCan_0 : decode cX6_sendWhatItCan 0 = .ok (.aload_n 0, 1) := by decide +kernel
theorem dX6_sendWhatItCan_1 : decode cX6_sendWhatItCan 1 = .ok (.iload_n 1, 1) := by decide +kernel
theorem dX6_sendWhatItCan_2 : decode cX6_sendWhatItCan 2 = .ok (.invokevirtual 63, 3) := by decide +kernel
theorem dX6_sendWhatItCan_5 : decode cX6_sendWhatItCan 5 = .ok (.istore_n 2, 1) := by decide +kernel
theorem dX6_sendWhatItCan_6 : decode cX6_sendWhatItCan 6 = .ok (.iload_n 2, 1) := by decide +kernel
theorem dX6_sendWhatItCan_7 : decode cX6_sendWhatItCan 7 = .ok (.bipush (-5), 2) := by decide +kernel
theorem dX6_sendWhatItCan_9 : decode cX6_sendWhatItCan 9 = .ok (.if_icmp .eq 78, 3) := by decide +kernel
theorem dX6_sendWhatItCan_12 : decode cX6_sendWhatItCan 12 = .ok (.aload_n 0, 1) := by decide +kernel
theorem dX6_sendWhatItCan_13 : decode cX6_sendWhatItCan 13 = .ok (.iload_n 1, 1) := by decide +kernel
theorem dX6_sendWhatItCan_14 : decode cX6_sendWhatItCan 14 = .ok (.iconst 1, 1) := by decide +kernel
theorem dX6_sendWhatItCan_15 : decode cX6_sendWhatItCan 15 = .ok (.invokevirtual 67, 3) := by decide +kernel
theorem dX6_sendWhatItCan_18 : decode cX6_sendWhatItCan 18 = .ok (.iconst 2, 1) := by decide +kernel
theorem dX6_sendWhatItCan_19 : decode cX6_sendWhatItCan 19 = .ok (.aload_n 0, 1) := by decide +kernel
theorem dX6_sendWhatItCan_20 : decode cX6_sendWhatItCan 20 = .ok (.getfield 7, 3) := by decide +kernel
theorem dX6_sendWhatItCan_23 : decode cX6_sendWhatItCan 23 = .ok (.bipush 9, 2) := by decide +kernel
theorem dX6_sendWhatItCan_25 : decode cX6_sendWhatItCan 25 = .ok (.iaload, 1) := by decide +kernel
theorem dX6_sendWhatItCan_26 : decode cX6_sendWhatItCan 26 = .ok (.imul, 1) := by decide +kernel
theorem dX6_sendWhatItCan_27 : decode cX6_sendWhatItCan 27 = .ok (.if_icmp .lt 60, 3) := by decide +kernel
theorem dX6_sendWhatItCan_30 : decode cX6_sendWhatItCan 30 = .ok (.aload_n 0, 1) := by decide +kernel
theorem dX6_sendWhatItCan_31 : decode cX6_sendWhatItCan 31 = .ok (.iload_n 1, 1) := by decide +kernel
theorem dX6_sendWhatItCan_32 : decode cX6_sendWhatItCan 32 = .ok (.iconst 1, 1) := by decide +kernel
theorem dX6_sendWhatItCan_33 : decode cX6_sendWhatItCan 33 = .ok (.invokevirtual 67, 3) := by decide +kernel
theorem dX6_sendWhatItCan_36 : decode cX6_sendWhatItCan 36 = .ok (.iconst 2, 1) := by decide +kernel
theorem dX6_sendWhatItCan_37 : decode cX6_sendWhatItCan 37 = .ok (.idiv, 1) := by decide +kernel
theorem dX6_sendWhatItCan_38 : decode cX6_sendWhatItCan 38 = .ok (.istore_n 3, 1) := by decide +kernel
theorem dX6_sendWhatItCan_39 : decode cX6_sendWhatItCan 39 = .ok (.aload_n 0, 1) := by decide +kernel
theorem dX6_sendWhatItCan_40 : decode cX6_sendWhatItCan 40 = .ok (.iload_n 1, 1) := by decide +kernel
theorem dX6_sendWhatItCan_41 : decode cX6_sendWhatItCan 41 = .ok (.iconst 1, 1) := by decide +kernel
theorem dX6_sendWhatItCan_42 : decode cX6_sendWhatItCan 42 = .ok (.iload_n 3, 1) := by decide +kernel
theorem dX6_sendWhatItCan_43 : decode cX6_sendWhatItCan 43 = .ok (.ineg, 1) := by decide +kernel
theorem dX6_sendWhatItCan_44 : decode cX6_sendWhatItCan 44 = .ok (.invokevirtual 70, 3) := by decide +kernel
theorem dX6_sendWhatItCan_47 : decode cX6_sendWhatItCan 47 = .ok (.aload_n 0, 1) := by decide +kernel
theorem dX6_sendWhatItCan_48 : decode cX6_sendWhatItCan 48 = .ok (.iload_n 1, 1) := by decide +kernel
theorem dX6_sendWhatItCan_49 : decode cX6_sendWhatItCan 49 = .ok (.iconst 5, 1) := by decide +kernel
theorem dX6_sendWhatItCan_50 : decode cX6_sendWhatItCan 50 = .ok (.iconst 1, 1) := by decide +kernel
theorem dX6_sendWhatItCan_51 : decode cX6_sendWhatItCan 51 = .ok (.invokevirtual 70, 3) := by decide +kernel
theorem dX6_sendWhatItCan_54 : decode cX6_sendWhatItCan 54 = .ok (.aload_n 0, 1) := by decide +kernel
theorem dX6_sendWhatItCan_55 : decode cX6_sendWhatItCan 55 = .ok (.iload_n 2, 1) := by decide +kernel
theorem dX6_sendWhatItCan_56 : decode cX6_sendWhatItCan 56 = .ok (.iconst 4, 1) := by decide +kernel
theorem dX6_sendWhatItCan_57 : decode cX6_sendWhatItCan 57 = .ok (.bipush 7, 2) := by decide +kernel
theorem dX6_sendWhatItCan_59 : decode cX6_sendWhatItCan 59 = .ok (.invokevirtual 53, 3) := by decide +kernel
theorem dX6_sendWhatItCan_62 : decode cX6_sendWhatItCan 62 = .ok (.aload_n 0, 1) := by decide +kernel
theorem dX6_sendWhatItCan_63 : decode cX6_sendWhatItCan 63 = .ok (.iconst 0, 1) := by decide +kernel
theorem dX6_sendWhatItCan_64 : decode cX6_sendWhatItCan 64 = .ok (.iload_n 1, 1) := by decide +kernel
theorem dX6_sendWhatItCan_65 : decode cX6_sendWhatItCan 65 = .ok (.aload_n 0, 1) := by decide +kernel
theorem dX6_sendWhatItCan_66 : decode cX6_sendWhatItCan 66 = .ok (.iload_n 2, 1) := by decide +kernel
theorem dX6_sendWhatItCan_67 : decode cX6_sendWhatItCan 67 = .ok (.iconst 0, 1) := by decide +kernel
theorem dX6_sendWhatItCan_68 : decode cX6_sendWhatItCan 68 = .ok (.invokevirtual 39, 3) := by decide +kernel
theorem dX6_sendWhatItCan_71 : decode cX6_sendWhatItCan 71 = .ok (.iload_n 3, 1) := by decide +kernel
theorem dX6_sendWhatItCan_72 : decode cX6_sendWhatItCan 72 = .ok (.iload_n 2, 1) := by decide +kernel
theorem dX6_sendWhatItCan_73 : decode cX6_sendWhatItCan 73 = .ok (.iconst 1, 1) := by decide +kernel
theorem dX6_sendWhatItCan_74 : decode cX6_sendWhatItCan 74 = .ok (.iadd, 1) := by decide +kernel
theorem dX6_sendWhatItCan_75 : decode cX6_sendWhatItCan 75 = .ok (.invokevirtual 73, 3) := by decide +kernel
theorem dX6_sendWhatItCan_78 : decode cX6_sendWhatItCan 78 = .ok (.aload_n 0, 1) := by decide +kernel
theorem dX6_sendWhatItCan_79 : decode cX6_sendWhatItCan 79 = .ok (.iload_n 1, 1) := by decide +kernel
theorem dX6_sendWhatItCan_80 : decode cX6_sendWhatItCan 80 = .ok (.invokevirtual 63, 3) := by decide +kernel
theorem dX6_sendWhatItCan_83 : decode cX6_sendWhatItCan 83 = .ok (.istore_n 2, 1) := by decide +kernel
theorem dX6_sendWhatItCan_84 : decode cX6_sendWhatItCan 84 = .ok (.goto (-78), 3) := by decide +kernel
theorem dX6_sendWhatItCan_87 : decode cX6_sendWhatItCan 87 = .ok (.iload_n 2, 1) := by decide +kernel
theorem dX6_sendWhatItCan_88 : decode cX6_sendWhatItCan 88 = .ok (.bipush (-5), 2) := by decide +kernel
theorem dX6_sendWhatItCan_90 : decode cX6_sendWhatItCan 90 = .ok (.if_icmp .eq 37, 3) := by decide +kernel
theorem dX6_sendWhatItCan_93 : decode cX6_sendWhatItCan 93 = .ok (.aload_n 0, 1) := by decide +kernel
theorem dX6_sendWhatItCan_94 : decode cX6_sendWhatItCan 94 = .ok (.iload_n 1, 1) := by decide +kernel
theorem dX6_sendWhatItCan_95 : decode cX6_sendWhatItCan 95 = .ok (.iconst 3, 1) := by decide +kernel
theorem dX6_sendWhatItCan_96 : decode cX6_sendWhatItCan 96 = .ok (.invokevirtual 67, 3) := by decide +kernel
theorem dX6_sendWhatItCan_99 : decode cX6_sendWhatItCan 99 = .ok (.ifCond .ne 28, 3) := by decide +kernel
theorem dX6_sendWhatItCan_102 : decode cX6_sendWhatItCan 102 = .ok (.aload_n 0, 1) := by decide +kernel
theorem dX6_sendWhatItCan_103 : decode cX6_sendWhatItCan 103 = .ok (.iload_n 1, 1) := by decide +kernel
theorem dX6_sendWhatItCan_104 : decode cX6_sendWhatItCan 104 = .ok (.iconst 3, 1) := by decide +kernel
theorem dX6_sendWhatItCan_105 : decode cX6_sendWhatItCan 105 = .ok (.iconst 1, 1) := by decide +kernel
theorem dX6_sendWhatItCan_106 : decode cX6_sendWhatItCan 106 = .ok (.invokevirtual 77, 3) := by decide +kernel
theorem dX6_sendWhatItCan_109 : decode cX6_sendWhatItCan 109 = .ok (.aload_n 0, 1) := by decide +kernel
theorem dX6_sendWhatItCan_110 : decode cX6_sendWhatItCan 110 = .ok (.iload_n 1, 1) := by decide +kernel
theorem dX6_sendWhatItCan_111 : decode cX6_sendWhatItCan 111 = .ok (.bipush 6, 2) := by decide +kernel
theorem dX6_sendWhatItCan_113 : decode cX6_sendWhatItCan 113 = .ok (.iconst 1, 1) := by decide +kernel
theorem dX6_sendWhatItCan_114 : decode cX6_sendWhatItCan 114 = .ok (.invokevirtual 70, 3) := by decide +kernel
theorem dX6_sendWhatItCan_117 : decode cX6_sendWhatItCan 117 = .ok (.aload_n 0, 1) := by decide +kernel
theorem dX6_sendWhatItCan_118 : decode cX6_sendWhatItCan 118 = .ok (.iconst 1, 1) := by decide +kernel
theorem dX6_sendWhatItCan_119 : decode cX6_sendWhatItCan 119 = .ok (.iload_n 1, 1) := by decide +kernel
theorem dX6_sendWhatItCan_120 : decode cX6_sendWhatItCan 120 = .ok (.bipush 6, 2) := by decide +kernel
theorem dX6_sendWhatItCan_122 : decode cX6_sendWhatItCan 122 = .ok (.iconst 0, 1) := by decide +kernel
theorem dX6_sendWhatItCan_123 : decode cX6_sendWhatItCan 123 = .ok (.iconst 0, 1) := by decide +kernel
theorem dX6_sendWhatItCan_124 : decode cX6_sendWhatItCan 124 = .ok (.invokevirtual 73, 3) := by decide +kernel
theorem dX6_sendWhatItCan_127 : decode cX6_sendWhatItCan 127 = .ok (.return_, 1) := by decide +kernel
theorem dX6_errandArrives_0 : decode cX6_errandArrives 0 = .ok (.aload_n 0, 1) := by decide +kernel
theorem dX6_errandArrives_1 : decode cX6_errandArrives 1 = .ok (.iload_n 1, 1) := by decide +kernel
theorem dX6_errandArrives_2 : decode cX6_errandArrives 2 = .ok (.iconst 0, 1) := by decide +kernel
theorem dX6_errandArrives_3 : decode cX6_errandArrives 3 = .ok (.iconst 1, 1) := by decide +kernel
theorem dX6_errandArrives_4 : decode cX6_errandArrives 4 = .ok (.invokevirtual 77, 3) := by decide +kernel
theorem dX6_errandArrives_7 : decode cX6_errandArrives 7 = .ok (.aload_n 0, 1) := by decide +kernel
theorem dX6_errandArrives_8 : decode cX6_errandArrives 8 = .ok (.iload_n 1, 1) := by decide +kernel
theorem dX6_errandArrives_9 : decode cX6_errandArrives 9 = .ok (.iconst 1, 1) := by decide +kernel
theorem dX6_errandArrives_10 : decode cX6_errandArrives 10 = .ok (.iload_n 2, 1) := by decide +kernel
theorem dX6_errandArrives_11 : decode cX6_errandArrives 11 = .ok (.invokevirtual 70, 3) := by decide +kernel
theorem dX6_errandArrives_14 : decode cX6_errandArrives 14 = .ok (.aload_n 0, 1) := by decide +kernel
theorem dX6_errandArrives_15 : decode cX6_errandArrives 15 = .ok (.iload_n 1, 1) := by decide +kernel
theorem dX6_errandArrives_16 : decode cX6_errandArrives 16 = .ok (.iconst 2, 1) := by decide +kernel
theorem dX6_errandArrives_17 : decode cX6_errandArrives 17 = .ok (.aload_n 0, 1) := by decide +kernel
theorem dX6_errandArrives_18 : decode cX6_errandArrives 18 = .ok (.iload_n 3, 1) := by decide +kernel
theorem dX6_errandArrives_19 : decode cX6_errandArrives 19 = .ok (.iconst 1, 1) := by decide +kernel
theorem dX6_errandArrives_20 : decode cX6_errandArrives 20 = .ok (.invokevirtual 39, 3) := by decide +kernel
theorem dX6_errandArrives_23 : decode cX6_errandArrives 23 = .ok (.invokevirtual 70, 3) := by decide +kernel
theorem dX6_errandArrives_26 : decode cX6_errandArrives 26 = .ok (.aload_n 0, 1) := by decide +kernel
theorem dX6_errandArrives_27 : decode cX6_errandArrives 27 = .ok (.iload_n 1, 1) := by decide +kernel
theorem dX6_errandArrives_28 : decode cX6_errandArrives 28 = .ok (.iconst 4, 1) := by decide +kernel
theorem dX6_errandArrives_29 : decode cX6_errandArrives 29 = .ok (.iconst 1, 1) := by decide +kernel
theorem dX6_errandArrives_30 : decode cX6_errandArrives 30 = .ok (.invokevirtual 70, 3) := by decide +kernel
theorem dX6_errandArrives_33 : decode cX6_errandArrives 33 = .ok (.aload_n 0, 1) := by decide +kernel
theorem dX6_errandArrives_34 : decode cX6_errandArrives 34 = .ok (.bipush 8, 2) := by decide +kernel
theorem dX6_errandArrives_36 : decode cX6_errandArrives 36 = .ok (.iload_n 3, 1) := by decide +kernel
theorem dX6_errandArrives_37 : decode cX6_errandArrives 37 = .ok (.iconst 1, 1) := by decide +kernel
theorem dX6_errandArrives_38 : decode cX6_errandArrives 38 = .ok (.iadd, 1) := by decide +kernel
theorem dX6_errandArrives_39 : decode cX6_errandArrives 39 = .ok (.invokevirtual 43, 3) := by decide +kernel
theorem dX6_errandArrives_42 : decode cX6_errandArrives 42 = .ok (.istore 4, 2) := by decide +kernel
theorem dX6_errandArrives_44 : decode cX6_errandArrives 44 = .ok (.iload 4, 2) := by decide +kernel
theorem dX6_errandArrives_46 : decode cX6_errandArrives 46 = .ok (.bipush (-5), 2) := by decide +kernel
theorem dX6_errandArrives_48 : decode cX6_errandArrives 48 = .ok (.if_icmp .eq 60, 3) := by decide +kernel
theorem dX6_errandArrives_51 : decode cX6_errandArrives 51 = .ok (.aload_n 0, 1) := by decide +kernel
theorem dX6_errandArrives_52 : decode cX6_errandArrives 52 = .ok (.getfield 7, 3) := by decide +kernel
theorem dX6_errandArrives_55 : decode cX6_errandArrives 55 = .ok (.bipush 10, 2) := by decide +kernel
theorem dX6_errandArrives_57 : decode cX6_errandArrives 57 = .ok (.dup2, 1) := by decide +kernel
theorem dX6_errandArrives_58 : decode cX6_errandArrives 58 = .ok (.iaload, 1) := by decide +kernel
theorem dX6_errandArrives_59 : decode cX6_errandArrives 59 = .ok (.iconst 1, 1) := by decide +kernel
theorem dX6_errandArrives_60 : decode cX6_errandArrives 60 = .ok (.iadd, 1) := by decide +kernel
theorem dX6_errandArrives_61 : decode cX6_errandArrives 61 = .ok (.iastore, 1) := by decide +kernel
theorem dX6_errandArrives_62 : decode cX6_errandArrives 62 = .ok (.aload_n 0, 1) := by decide +kernel
theorem dX6_errandArrives_63 : decode cX6_errandArrives 63 = .ok (.iload 4, 2) := by decide +kernel
theorem dX6_errandArrives_65 : decode cX6_errandArrives 65 = .ok (.iconst 3, 1) := by decide +kernel
theorem dX6_errandArrives_66 : decode cX6_errandArrives 66 = .ok (.aload_n 0, 1) := by decide +kernel
theorem dX6_errandArrives_67 : decode cX6_errandArrives 67 = .ok (.getfield 7, 3) := by decide +kernel
theorem dX6_errandArrives_70 : decode cX6_errandArrives 70 = .ok (.bipush 10, 2) := by decide +kernel
theorem dX6_errandArrives_72 : decode cX6_errandArrives 72 = .ok (.iaload, 1) := by decide +kernel
theorem dX6_errandArrives_73 : decode cX6_errandArrives 73 = .ok (.invokevirtual 53, 3) := by decide +kernel
theorem dX6_errandArrives_76 : decode cX6_errandArrives 76 = .ok (.aload_n 0, 1) := by decide +kernel
theorem dX6_errandArrives_77 : decode cX6_errandArrives 77 = .ok (.iload 4, 2) := by decide +kernel
theorem dX6_errandArrives_79 : decode cX6_errandArrives 79 = .ok (.iconst 2, 1) := by decide +kernel
theorem dX6_errandArrives_80 : decode cX6_errandArrives 80 = .ok (.iconst 0, 1) := by decide +kernel
theorem dX6_errandArrives_81 : decode cX6_errandArrives 81 = .ok (.invokevirtual 53, 3) := by decide +kernel
theorem dX6_errandArrives_84 : decode cX6_errandArrives 84 = .ok (.aload_n 0, 1) := by decide +kernel
theorem dX6_errandArrives_85 : decode cX6_errandArrives 85 = .ok (.iload 4, 2) := by decide +kernel
theorem dX6_errandArrives_87 : decode cX6_errandArrives 87 = .ok (.iconst 4, 1) := by decide +kernel
theorem dX6_errandArrives_88 : decode cX6_errandArrives 88 = .ok (.iload_n 1, 1) := by decide +kernel
theorem dX6_errandArrives_89 : decode cX6_errandArrives 89 = .ok (.iconst 1, 1) := by decide +kernel
theorem dX6_errandArrives_90 : decode cX6_errandArrives 90 = .ok (.iadd, 1) := by decide +kernel
theorem dX6_errandArrives_91 : decode cX6_errandArrives 91 = .ok (.invokevirtual 53, 3) := by decide +kernel
theorem dX6_errandArrives_94 : decode cX6_errandArrives 94 = .ok (.aload_n 0, 1) := by decide +kernel
theorem dX6_errandArrives_95 : decode cX6_errandArrives 95 = .ok (.bipush 8, 2) := by decide +kernel
theorem dX6_errandArrives_97 : decode cX6_errandArrives 97 = .ok (.iload_n 3, 1) := by decide +kernel
theorem dX6_errandArrives_98 : decode cX6_errandArrives 98 = .ok (.iconst 1, 1) := by decide +kernel
theorem dX6_errandArrives_99 : decode cX6_errandArrives 99 = .ok (.iadd, 1) := by decide +kernel
theorem dX6_errandArrives_100 : decode cX6_errandArrives 100 = .ok (.invokevirtual 43, 3) := by decide +kernel
theorem dX6_errandArrives_103 : decode cX6_errandArrives 103 = .ok (.istore 4, 2) := by decide +kernel
theorem dX6_errandArrives_105 : decode cX6_errandArrives 105 = .ok (.goto (-61), 3) := by decide +kernel
theorem dX6_errandArrives_108 : decode cX6_errandArrives 108 = .ok (.aload_n 0, 1) := by decide +kernel
theorem dX6_errandArrives_109 : decode cX6_errandArrives 109 = .ok (.iload_n 3, 1) := by decide +kernel
theorem dX6_errandArrives_110 : decode cX6_errandArrives 110 = .ok (.iconst 4, 1) := by decide +kernel
theorem dX6_errandArrives_111 : decode cX6_errandArrives 111 = .ok (.iconst 0, 1) := by decide +kernel
theorem dX6_errandArrives_112 : decode cX6_errandArrives 112 = .ok (.invokevirtual 53, 3) := by decide +kernel
theorem dX6_errandArrives_115 : decode cX6_errandArrives 115 = .ok (.aload_n 0, 1) := by decide +kernel
theorem dX6_errandArrives_116 : decode cX6_errandArrives 116 = .ok (.iload_n 1, 1) := by decide +kernel
theorem dX6_errandArrives_117 : decode cX6_errandArrives 117 = .ok (.invokevirtual 80, 3) := by decide +kernel
theorem dX6_errandArrives_120 : decode cX6_errandArrives 120 = .ok (.return_, 1) := by decide +kernel
theorem dX6_arrive_0 : decode cX6_arrive 0 = .ok (.aload_n 0, 1) := by decide +kernel
theorem dX6_arrive_1 : decode cX6_arrive 1 = .ok (.iload_n 1, 1) := by decide +kernel
theorem dX6_arrive_2 : decode cX6_arrive 2 = .ok (.iconst 0, 1) := by decide +kernel
theorem dX6_arrive_3 : decode cX6_arrive 3 = .ok (.invokevirtual 60, 3) := by decide +kernel
theorem dX6_arrive_6 : decode cX6_arrive 6 = .ok (.istore_n 2, 1) := by decide +kernel
theorem dX6_arrive_7 : decode cX6_arrive 7 = .ok (.aload_n 0, 1) := by decide +kernel
theorem dX6_arrive_8 : decode cX6_arrive 8 = .ok (.iload_n 1, 1) := by decide +kernel
theorem dX6_arrive_9 : decode cX6_arrive 9 = .ok (.iconst 1, 1) := by decide +kernel
theorem dX6_arrive_10 : decode cX6_arrive 10 = .ok (.invokevirtual 60, 3) := by decide +kernel
theorem dX6_arrive_13 : decode cX6_arrive 13 = .ok (.istore_n 3, 1) := by decide +kernel
theorem dX6_arrive_14 : decode cX6_arrive 14 = .ok (.aload_n 0, 1) := by decide +kernel
theorem dX6_arrive_15 : decode cX6_arrive 15 = .ok (.iload_n 1, 1) := by decide +kernel
theorem dX6_arrive_16 : decode cX6_arrive 16 = .ok (.iconst 2, 1) := by decide +kernel
theorem dX6_arrive_17 : decode cX6_arrive 17 = .ok (.invokevirtual 60, 3) := by decide +kernel
theorem dX6_arrive_20 : decode cX6_arrive 20 = .ok (.istore 4, 2) := by decide +kernel
theorem dX6_arrive_22 : decode cX6_arrive 22 = .ok (.aload_n 0, 1) := by decide +kernel
theorem dX6_arrive_23 : decode cX6_arrive 23 = .ok (.iload_n 1, 1) := by decide +kernel
theorem dX6_arrive_24 : decode cX6_arrive 24 = .ok (.iconst 3, 1) := by decide +kernel
theorem dX6_arrive_25 : decode cX6_arrive 25 = .ok (.invokevirtual 60, 3) := by decide +kernel
theorem dX6_arrive_28 : decode cX6_arrive 28 = .ok (.istore 5, 2) := by decide +kernel
theorem dX6_arrive_30 : decode cX6_arrive 30 = .ok (.aload_n 0, 1) := by decide +kernel
theorem dX6_arrive_31 : decode cX6_arrive 31 = .ok (.iload_n 1, 1) := by decide +kernel
theorem dX6_arrive_32 : decode cX6_arrive 32 = .ok (.iconst 5, 1) := by decide +kernel
theorem dX6_arrive_33 : decode cX6_arrive 33 = .ok (.invokevirtual 60, 3) := by decide +kernel
theorem dX6_arrive_36 : decode cX6_arrive 36 = .ok (.iconst 1, 1) := by decide +kernel
theorem dX6_arrive_37 : decode cX6_arrive 37 = .ok (.isub, 1) := by decide +kernel
theorem dX6_arrive_38 : decode cX6_arrive 38 = .ok (.istore 6, 2) := by decide +kernel
theorem dX6_arrive_40 : decode cX6_arrive 40 = .ok (.aload_n 0, 1) := by decide +kernel
theorem dX6_arrive_41 : decode cX6_arrive 41 = .ok (.iload_n 1, 1) := by decide +kernel
theorem dX6_arrive_42 : decode cX6_arrive 42 = .ok (.invokevirtual 84, 3) := by decide +kernel
theorem dX6_arrive_45 : decode cX6_arrive 45 = .ok (.iload_n 2, 1) := by decide +kernel
theorem dX6_arrive_46 : decode cX6_arrive 46 = .ok (.tableswitch 81 0 2 #[26, 39, 55], 26) := by decide +kernel
theorem dX6_arrive_72 : decode cX6_arrive 72 = .ok (.aload_n 0, 1) := by decide +kernel
theorem dX6_arrive_73 : decode cX6_arrive 73 = .ok (.iload 4, 2) := by decide +kernel
theorem dX6_arrive_75 : decode cX6_arrive 75 = .ok (.iload 5, 2) := by decide +kernel
theorem dX6_arrive_77 : decode cX6_arrive 77 = .ok (.iload 6, 2) := by decide +kernel
theorem dX6_arrive_79 : decode cX6_arrive 79 = .ok (.invokevirtual 87, 3) := by decide +kernel
theorem dX6_arrive_82 : decode cX6_arrive 82 = .ok (.goto 56, 3) := by decide +kernel
theorem dX6_arrive_85 : decode cX6_arrive 85 = .ok (.aload_n 0, 1) := by decide +kernel
theorem dX6_arrive_86 : decode cX6_arrive 86 = .ok (.iconst 2, 1) := by decide +kernel
theorem dX6_arrive_87 : decode cX6_arrive 87 = .ok (.bipush 6, 2) := by decide +kernel
theorem dX6_arrive_89 : decode cX6_arrive 89 = .ok (.iload_n 3, 1) := by decide +kernel
theorem dX6_arrive_90 : decode cX6_arrive 90 = .ok (.aload_n 0, 1) := by decide +kernel
theorem dX6_arrive_91 : decode cX6_arrive 91 = .ok (.invokevirtual 90, 3) := by decide +kernel
theorem dX6_arrive_94 : decode cX6_arrive 94 = .ok (.iconst 0, 1) := by decide +kernel
theorem dX6_arrive_95 : decode cX6_arrive 95 = .ok (.invokevirtual 73, 3) := by decide +kernel
theorem dX6_arrive_98 : decode cX6_arrive 98 = .ok (.goto 40, 3) := by decide +kernel
theorem dX6_arrive_101 : decode cX6_arrive 101 = .ok (.aload_n 0, 1) := by decide +kernel
theorem dX6_arrive_102 : decode cX6_arrive 102 = .ok (.iload 4, 2) := by decide +kernel
theorem dX6_arrive_104 : decode cX6_arrive 104 = .ok (.iconst 1, 1) := by decide +kernel
theorem dX6_arrive_105 : decode cX6_arrive 105 = .ok (.iload 5, 2) := by decide +kernel
theorem dX6_arrive_107 : decode cX6_arrive 107 = .ok (.invokevirtual 70, 3) := by decide +kernel
theorem dX6_arrive_110 : decode cX6_arrive 110 = .ok (.aload_n 0, 1) := by decide +kernel
theorem dX6_arrive_111 : decode cX6_arrive 111 = .ok (.iload 4, 2) := by decide +kernel
theorem dX6_arrive_113 : decode cX6_arrive 113 = .ok (.iconst 3, 1) := by decide +kernel
theorem dX6_arrive_114 : decode cX6_arrive 114 = .ok (.iconst 0, 1) := by decide +kernel
theorem dX6_arrive_115 : decode cX6_arrive 115 = .ok (.invokevirtual 77, 3) := by decide +kernel
theorem dX6_arrive_118 : decode cX6_arrive 118 = .ok (.aload_n 0, 1) := by decide +kernel
theorem dX6_arrive_119 : decode cX6_arrive 119 = .ok (.iload 4, 2) := by decide +kernel
theorem dX6_arrive_121 : decode cX6_arrive 121 = .ok (.invokevirtual 80, 3) := by decide +kernel
theorem dX6_arrive_124 : decode cX6_arrive 124 = .ok (.goto 14, 3) := by decide +kernel
theorem dX6_arrive_127 : decode cX6_arrive 127 = .ok (.aload_n 0, 1) := by decide +kernel
theorem dX6_arrive_128 : decode cX6_arrive 128 = .ok (.getfield 7, 3) := by decide +kernel
theorem dX6_arrive_131 : decode cX6_arrive 131 = .ok (.iconst 2, 1) := by decide +kernel
theorem dX6_arrive_132 : decode cX6_arrive 132 = .ok (.dup2, 1) := by decide +kernel
theorem dX6_arrive_133 : decode cX6_arrive 133 = .ok (.iaload, 1) := by decide +kernel
theorem dX6_arrive_134 : decode cX6_arrive 134 = .ok (.iload 5, 2) := by decide +kernel
theorem dX6_arrive_136 : decode cX6_arrive 136 = .ok (.iadd, 1) := by decide +kernel
theorem dX6_arrive_137 : decode cX6_arrive 137 = .ok (.iastore, 1) := by decide +kernel
theorem dX6_arrive_138 : decode cX6_arrive 138 = .ok (.return_, 1) := by decide +kernel
theorem dX6_work_0 : decode cX6_work 0 = .ok (.aload_n 0, 1) := by decide +kernel
theorem dX6_work_1 : decode cX6_work 1 = .ok (.iload_n 1, 1) := by decide +kernel
theorem dX6_work_2 : decode cX6_work 2 = .ok (.iconst 2, 1) := by decide +kernel
theorem dX6_work_3 : decode cX6_work 3 = .ok (.invokevirtual 67, 3) := by decide +kernel
theorem dX6_work_6 : decode cX6_work 6 = .ok (.ifCond .le 10, 3) := by decide +kernel
theorem dX6_work_9 : decode cX6_work 9 = .ok (.aload_n 0, 1) := by decide +kernel
theorem dX6_work_10 : decode cX6_work 10 = .ok (.iload_n 1, 1) := by decide +kernel
theorem dX6_work_11 : decode cX6_work 11 = .ok (.iconst 2, 1) := by decide +kernel
theorem dX6_work_12 : decode cX6_work 12 = .ok (.iconst (-1), 1) := by decide +kernel
theorem dX6_work_13 : decode cX6_work 13 = .ok (.invokevirtual 70, 3) := by decide +kernel
theorem dX6_work_16 : decode cX6_work 16 = .ok (.aload_n 0, 1) := by decide +kernel
theorem dX6_work_17 : decode cX6_work 17 = .ok (.iload_n 1, 1) := by decide +kernel
theorem dX6_work_18 : decode cX6_work 18 = .ok (.iconst 2, 1) := by decide +kernel
theorem dX6_work_19 : decode cX6_work 19 = .ok (.invokevirtual 67, 3) := by decide +kernel
theorem dX6_work_22 : decode cX6_work 22 = .ok (.ifCond .ne 65, 3) := by decide +kernel
theorem dX6_work_25 : decode cX6_work 25 = .ok (.aload_n 0, 1) := by decide +kernel
theorem dX6_work_26 : decode cX6_work 26 = .ok (.iload_n 1, 1) := by decide +kernel
theorem dX6_work_27 : decode cX6_work 27 = .ok (.invokevirtual 63, 3) := by decide +kernel
theorem dX6_work_30 : decode cX6_work 30 = .ok (.bipush (-5), 2) := by decide +kernel
theorem dX6_work_32 : decode cX6_work 32 = .ok (.if_icmp .ne 55, 3) := by decide +kernel
theorem dX6_work_35 : decode cX6_work 35 = .ok (.aload_n 0, 1) := by decide +kernel
theorem dX6_work_36 : decode cX6_work 36 = .ok (.iload_n 1, 1) := by decide +kernel
theorem dX6_work_37 : decode cX6_work 37 = .ok (.iconst 3, 1) := by decide +kernel
theorem dX6_work_38 : decode cX6_work 38 = .ok (.invokevirtual 67, 3) := by decide +kernel
theorem dX6_work_41 : decode cX6_work 41 = .ok (.ifCond .ne 46, 3) := by decide +kernel
theorem dX6_work_44 : decode cX6_work 44 = .ok (.aload_n 0, 1) := by decide +kernel
theorem dX6_work_45 : decode cX6_work 45 = .ok (.iload_n 1, 1) := by decide +kernel
theorem dX6_work_46 : decode cX6_work 46 = .ok (.iconst 1, 1) := by decide +kernel
theorem dX6_work_47 : decode cX6_work 47 = .ok (.invokevirtual 67, 3) := by decide +kernel
theorem dX6_work_50 : decode cX6_work 50 = .ok (.istore_n 2, 1) := by decide +kernel
theorem dX6_work_51 : decode cX6_work 51 = .ok (.aload_n 0, 1) := by decide +kernel
theorem dX6_work_52 : decode cX6_work 52 = .ok (.iload_n 1, 1) := by decide +kernel
theorem dX6_work_53 : decode cX6_work 53 = .ok (.iconst 0, 1) := by decide +kernel
theorem dX6_work_54 : decode cX6_work 54 = .ok (.iconst 0, 1) := by decide +kernel
theorem dX6_work_55 : decode cX6_work 55 = .ok (.invokevirtual 77, 3) := by decide +kernel
theorem dX6_work_58 : decode cX6_work 58 = .ok (.aload_n 0, 1) := by decide +kernel
theorem dX6_work_59 : decode cX6_work 59 = .ok (.iload_n 1, 1) := by decide +kernel
theorem dX6_work_60 : decode cX6_work 60 = .ok (.iconst 1, 1) := by decide +kernel
theorem dX6_work_61 : decode cX6_work 61 = .ok (.iconst 0, 1) := by decide +kernel
theorem dX6_work_62 : decode cX6_work 62 = .ok (.invokevirtual 77, 3) := by decide +kernel
theorem dX6_work_65 : decode cX6_work 65 = .ok (.aload_n 0, 1) := by decide +kernel
theorem dX6_work_66 : decode cX6_work 66 = .ok (.iload_n 1, 1) := by decide +kernel
theorem dX6_work_67 : decode cX6_work 67 = .ok (.bipush 7, 2) := by decide +kernel
theorem dX6_work_69 : decode cX6_work 69 = .ok (.iconst 1, 1) := by decide +kernel
theorem dX6_work_70 : decode cX6_work 70 = .ok (.invokevirtual 70, 3) := by decide +kernel
theorem dX6_work_73 : decode cX6_work 73 = .ok (.iload_n 2, 1) := by decide +kernel
theorem dX6_work_74 : decode cX6_work 74 = .ok (.ifCond .le 13, 3) := by decide +kernel
theorem dX6_work_77 : decode cX6_work 77 = .ok (.aload_n 0, 1) := by decide +kernel
theorem dX6_work_78 : decode cX6_work 78 = .ok (.iconst 3, 1) := by decide +kernel
theorem dX6_work_79 : decode cX6_work 79 = .ok (.iload_n 1, 1) := by decide +kernel
theorem dX6_work_80 : decode cX6_work 80 = .ok (.bipush 6, 2) := by decide +kernel
theorem dX6_work_82 : decode cX6_work 82 = .ok (.iload_n 2, 1) := by decide +kernel
theorem dX6_work_83 : decode cX6_work 83 = .ok (.iconst 0, 1) := by decide +kernel
theorem dX6_work_84 : decode cX6_work 84 = .ok (.invokevirtual 73, 3) := by decide +kernel
theorem dX6_work_87 : decode cX6_work 87 = .ok (.return_, 1) := by decide +kernel
theorem dX6_tick_0 : decode cX6_tick 0 = .ok (.aload_n 0, 1) := by decide +kernel
theorem dX6_tick_1 : decode cX6_tick 1 = .ok (.getfield 7, 3) := by decide +kernel
theorem dX6_tick_4 : decode cX6_tick 4 = .ok (.iconst 0, 1) := by decide +kernel
theorem dX6_tick_5 : decode cX6_tick 5 = .ok (.dup2, 1) := by decide +kernel
theorem dX6_tick_6 : decode cX6_tick 6 = .ok (.iaload, 1) := by decide +kernel
theorem dX6_tick_7 : decode cX6_tick 7 = .ok (.iconst 1, 1) := by decide +kernel
theorem dX6_tick_8 : decode cX6_tick 8 = .ok (.iadd, 1) := by decide +kernel
theorem dX6_tick_9 : decode cX6_tick 9 = .ok (.iastore, 1) := by decide +kernel
theorem dX6_tick_10 : decode cX6_tick 10 = .ok (.iconst 0, 1) := by decide +kernel
theorem dX6_tick_11 : decode cX6_tick 11 = .ok (.istore_n 1, 1) := by decide +kernel
theorem dX6_tick_12 : decode cX6_tick 12 = .ok (.iload_n 1, 1) := by decide +kernel
theorem dX6_tick_13 : decode cX6_tick 13 = .ok (.aload_n 0, 1) := by decide +kernel
theorem dX6_tick_14 : decode cX6_tick 14 = .ok (.getfield 7, 3) := by decide +kernel
theorem dX6_tick_17 : decode cX6_tick 17 = .ok (.iconst 4, 1) := by decide +kernel
theorem dX6_tick_18 : decode cX6_tick 18 = .ok (.iaload, 1) := by decide +kernel
theorem dX6_tick_19 : decode cX6_tick 19 = .ok (.if_icmp .ge 32, 3) := by decide +kernel
theorem dX6_tick_22 : decode cX6_tick 22 = .ok (.aload_n 0, 1) := by decide +kernel
theorem dX6_tick_23 : decode cX6_tick 23 = .ok (.iload_n 1, 1) := by decide +kernel
theorem dX6_tick_24 : decode cX6_tick 24 = .ok (.iconst 4, 1) := by decide +kernel
theorem dX6_tick_25 : decode cX6_tick 25 = .ok (.invokevirtual 60, 3) := by decide +kernel
theorem dX6_tick_28 : decode cX6_tick 28 = .ok (.aload_n 0, 1) := by decide +kernel
theorem dX6_tick_29 : decode cX6_tick 29 = .ok (.getfield 7, 3) := by decide +kernel
theorem dX6_tick_32 : decode cX6_tick 32 = .ok (.iconst 0, 1) := by decide +kernel
theorem dX6_tick_33 : decode cX6_tick 33 = .ok (.iaload, 1) := by decide +kernel
theorem dX6_tick_34 : decode cX6_tick 34 = .ok (.if_icmp .ne 11, 3) := by decide +kernel
theorem dX6_tick_37 : decode cX6_tick 37 = .ok (.aload_n 0, 1) := by decide +kernel
theorem dX6_tick_38 : decode cX6_tick 38 = .ok (.iload_n 1, 1) := by decide +kernel
theorem dX6_tick_39 : decode cX6_tick 39 = .ok (.invokevirtual 94, 3) := by decide +kernel
theorem dX6_tick_42 : decode cX6_tick 42 = .ok (.goto (-30), 3) := by decide +kernel
theorem dX6_tick_45 : decode cX6_tick 45 = .ok (.iinc 1 1, 3) := by decide +kernel
theorem dX6_tick_48 : decode cX6_tick 48 = .ok (.goto (-36), 3) := by decide +kernel
theorem dX6_tick_51 : decode cX6_tick 51 = .ok (.iconst 0, 1) := by decide +kernel
theorem dX6_tick_52 : decode cX6_tick 52 = .ok (.istore_n 2, 1) := by decide +kernel
theorem dX6_tick_53 : decode cX6_tick 53 = .ok (.iload_n 2, 1) := by decide +kernel
theorem dX6_tick_54 : decode cX6_tick 54 = .ok (.bipush 6, 2) := by decide +kernel
theorem dX6_tick_56 : decode cX6_tick 56 = .ok (.if_icmp .ge 24, 3) := by decide +kernel
theorem dX6_tick_59 : decode cX6_tick 59 = .ok (.aload_n 0, 1) := by decide +kernel
theorem dX6_tick_60 : decode cX6_tick 60 = .ok (.iload_n 2, 1) := by decide +kernel
theorem dX6_tick_61 : decode cX6_tick 61 = .ok (.iconst 0, 1) := by decide +kernel
theorem dX6_tick_62 : decode cX6_tick 62 = .ok (.invokevirtual 67, 3) := by decide +kernel
theorem dX6_tick_65 : decode cX6_tick 65 = .ok (.iconst 1, 1) := by decide +kernel
theorem dX6_tick_66 : decode cX6_tick 66 = .ok (.if_icmp .ne 8, 3) := by decide +kernel
theorem dX6_tick_69 : decode cX6_tick 69 = .ok (.aload_n 0, 1) := by decide +kernel
theorem dX6_tick_70 : decode cX6_tick 70 = .ok (.iload_n 2, 1) := by decide +kernel
theorem dX6_tick_71 : decode cX6_tick 71 = .ok (.invokevirtual 97, 3) := by decide +kernel
theorem dX6_tick_74 : decode cX6_tick 74 = .ok (.iinc 2 1, 3) := by decide +kernel
theorem dX6_tick_77 : decode cX6_tick 77 = .ok (.goto (-24), 3) := by decide +kernel
theorem dX6_tick_80 : decode cX6_tick 80 = .ok (.return_, 1) := by decide +kernel
theorem dX6_sumOfHouses_0 : decode cX6_sumOfHouses 0 = .ok (.iconst 0, 1) := by decide +kernel
theorem dX6_sumOfHouses_1 : decode cX6_sumOfHouses 1 = .ok (.istore_n 2, 1) := by decide +kernel
theorem dX6_sumOfHouses_2 : decode cX6_sumOfHouses 2 = .ok (.iconst 0, 1) := by decide +kernel
theorem dX6_sumOfHouses_3 : decode cX6_sumOfHouses 3 = .ok (.istore_n 3, 1) := by decide +kernel
theorem dX6_sumOfHouses_4 : decode cX6_sumOfHouses 4 = .ok (.iload_n 3, 1) := by decide +kernel
theorem dX6_sumOfHouses_5 : decode cX6_sumOfHouses 5 = .ok (.bipush 6, 2) := by decide +kernel
theorem dX6_sumOfHouses_7 : decode cX6_sumOfHouses 7 = .ok (.if_icmp .ge 18, 3) := by decide +kernel
theorem dX6_sumOfHouses_10 : decode cX6_sumOfHouses 10 = .ok (.iload_n 2, 1) := by decide +kernel
theorem dX6_sumOfHouses_11 : decode cX6_sumOfHouses 11 = .ok (.aload_n 0, 1) := by decide +kernel
theorem dX6_sumOfHouses_12 : decode cX6_sumOfHouses 12 = .ok (.iload_n 3, 1) := by decide +kernel
theorem dX6_sumOfHouses_13 : decode cX6_sumOfHouses 13 = .ok (.iload_n 1, 1) := by decide +kernel
theorem dX6_sumOfHouses_14 : decode cX6_sumOfHouses 14 = .ok (.invokevirtual 67, 3) := by decide +kernel
theorem dX6_sumOfHouses_17 : decode cX6_sumOfHouses 17 = .ok (.iadd, 1) := by decide +kernel
theorem dX6_sumOfHouses_18 : decode cX6_sumOfHouses 18 = .ok (.istore_n 2, 1) := by decide +kernel
theorem dX6_sumOfHouses_19 : decode cX6_sumOfHouses 19 = .ok (.iinc 3 1, 3) := by decide +kernel
theorem dX6_sumOfHouses_22 : decode cX6_sumOfHouses 22 = .ok (.goto (-18), 3) := by decide +kernel
theorem dX6_sumOfHouses_25 : decode cX6_sumOfHouses 25 = .ok (.iload_n 2, 1) := by decide +kernel
theorem dX6_sumOfHouses_26 : decode cX6_sumOfHouses 26 = .ok (.ireturn, 1) := by decide +kernel
theorem dX6_grainsOnWay_0 : decode cX6_grainsOnWay 0 = .ok (.iconst 0, 1) := by decide +kernel
theorem dX6_grainsOnWay_1 : decode cX6_grainsOnWay 1 = .ok (.istore_n 1, 1) := by decide +kernel
theorem dX6_grainsOnWay_2 : decode cX6_grainsOnWay 2 = .ok (.iconst 0, 1) := by decide +kernel
theorem dX6_grainsOnWay_3 : decode cX6_grainsOnWay 3 = .ok (.istore_n 2, 1) := by decide +kernel
theorem dX6_grainsOnWay_4 : decode cX6_grainsOnWay 4 = .ok (.iload_n 2, 1) := by decide +kernel
theorem dX6_grainsOnWay_5 : decode cX6_grainsOnWay 5 = .ok (.aload_n 0, 1) := by decide +kernel
theorem dX6_grainsOnWay_6 : decode cX6_grainsOnWay 6 = .ok (.getfield 7, 3) := by decide +kernel
theorem dX6_grainsOnWay_9 : decode cX6_grainsOnWay 9 = .ok (.iconst 4, 1) := by decide +kernel
theorem dX6_grainsOnWay_10 : decode cX6_grainsOnWay 10 = .ok (.iaload, 1) := by decide +kernel
theorem dX6_grainsOnWay_11 : decode cX6_grainsOnWay 11 = .ok (.if_icmp .ge 18, 3) := by decide +kernel
theorem dX6_grainsOnWay_14 : decode cX6_grainsOnWay 14 = .ok (.iload_n 1, 1) := by decide +kernel
theorem dX6_grainsOnWay_15 : decode cX6_grainsOnWay 15 = .ok (.aload_n 0, 1) := by decide +kernel
theorem dX6_grainsOnWay_16 : decode cX6_grainsOnWay 16 = .ok (.iload_n 2, 1) := by decide +kernel
theorem dX6_grainsOnWay_17 : decode cX6_grainsOnWay 17 = .ok (.iconst 3, 1) := by decide +kernel
theorem dX6_grainsOnWay_18 : decode cX6_grainsOnWay 18 = .ok (.invokevirtual 60, 3) := by decide +kernel
theorem dX6_grainsOnWay_21 : decode cX6_grainsOnWay 21 = .ok (.iadd, 1) := by decide +kernel
theorem dX6_grainsOnWay_22 : decode cX6_grainsOnWay 22 = .ok (.istore_n 1, 1) := by decide +kernel
theorem dX6_grainsOnWay_23 : decode cX6_grainsOnWay 23 = .ok (.iinc 2 1, 3) := by decide +kernel
theorem dX6_grainsOnWay_26 : decode cX6_grainsOnWay 26 = .ok (.goto (-22), 3) := by decide +kernel
theorem dX6_grainsOnWay_29 : decode cX6_grainsOnWay 29 = .ok (.iload_n 1, 1) := by decide +kernel
theorem dX6_grainsOnWay_30 : decode cX6_grainsOnWay 30 = .ok (.ireturn, 1) := by decide +kernel
theorem dX6_isQuiet_0 : decode cX6_isQuiet 0 = .ok (.aload_n 0, 1) := by decide +kernel
theorem dX6_isQuiet_1 : decode cX6_isQuiet 1 = .ok (.getfield 7, 3) := by decide +kernel
theorem dX6_isQuiet_4 : decode cX6_isQuiet 4 = .ok (.iconst 1, 1) := by decide +kernel
theorem dX6_isQuiet_5 : decode cX6_isQuiet 5 = .ok (.iaload, 1) := by decide +kernel
theorem dX6_isQuiet_6 : decode cX6_isQuiet 6 = .ok (.aload_n 0, 1) := by decide +kernel
theorem dX6_isQuiet_7 : decode cX6_isQuiet 7 = .ok (.getfield 7, 3) := by decide +kernel
theorem dX6_isQuiet_10 : decode cX6_isQuiet 10 = .ok (.iconst 2, 1) := by decide +kernel
theorem dX6_isQuiet_11 : decode cX6_isQuiet 11 = .ok (.iaload, 1) := by decide +kernel
theorem dX6_isQuiet_12 : decode cX6_isQuiet 12 = .ok (.if_icmp .ne 7, 3) := by decide +kernel
theorem dX6_isQuiet_15 : decode cX6_isQuiet 15 = .ok (.iconst 1, 1) := by decide +kernel
theorem dX6_isQuiet_16 : decode cX6_isQuiet 16 = .ok (.goto 4, 3) := by decide +kernel
theorem dX6_isQuiet_19 : decode cX6_isQuiet 19 = .ok (.iconst 0, 1) := by decide +kernel
theorem dX6_isQuiet_20 : decode cX6_isQuiet 20 = .ok (.ireturn, 1) := by decide +kernel
theorem dX6_isIdle_0 : decode cX6_isIdle 0 = .ok (.aload_n 0, 1) := by decide +kernel
theorem dX6_isIdle_1 : decode cX6_isIdle 1 = .ok (.iconst 0, 1) := by decide +kernel
theorem dX6_isIdle_2 : decode cX6_isIdle 2 = .ok (.invokevirtual 100, 3) := by decide +kernel
theorem dX6_isIdle_5 : decode cX6_isIdle 5 = .ok (.ifCond .ne 7, 3) := by decide +kernel
theorem dX6_isIdle_8 : decode cX6_isIdle 8 = .ok (.iconst 1, 1) := by decide +kernel
theorem dX6_isIdle_9 : decode cX6_isIdle 9 = .ok (.goto 4, 3) := by decide +kernel
theorem dX6_isIdle_12 : decode cX6_isIdle 12 = .ok (.iconst 0, 1) := by decide +kernel
theorem dX6_isIdle_13 : decode cX6_isIdle 13 = .ok (.istore_n 1, 1) := by decide +kernel
theorem dX6_isIdle_14 : decode cX6_isIdle 14 = .ok (.iconst 0, 1) := by decide +kernel
theorem dX6_isIdle_15 : decode cX6_isIdle 15 = .ok (.istore_n 2, 1) := by decide +kernel
theorem dX6_isIdle_16 : decode cX6_isIdle 16 = .ok (.iload_n 2, 1) := by decide +kernel
theorem dX6_isIdle_17 : decode cX6_isIdle 17 = .ok (.aload_n 0, 1) := by decide +kernel
theorem dX6_isIdle_18 : decode cX6_isIdle 18 = .ok (.getfield 7, 3) := by decide +kernel
theorem dX6_isIdle_21 : decode cX6_isIdle 21 = .ok (.iconst 4, 1) := by decide +kernel
theorem dX6_isIdle_22 : decode cX6_isIdle 22 = .ok (.iaload, 1) := by decide +kernel
theorem dX6_isIdle_23 : decode cX6_isIdle 23 = .ok (.if_icmp .ge 29, 3) := by decide +kernel
theorem dX6_isIdle_26 : decode cX6_isIdle 26 = .ok (.iload_n 1, 1) := by decide +kernel
theorem dX6_isIdle_27 : decode cX6_isIdle 27 = .ok (.ifCond .eq 17, 3) := by decide +kernel
theorem dX6_isIdle_30 : decode cX6_isIdle 30 = .ok (.aload_n 0, 1) := by decide +kernel
theorem dX6_isIdle_31 : decode cX6_isIdle 31 = .ok (.iload_n 2, 1) := by decide +kernel
theorem dX6_isIdle_32 : decode cX6_isIdle 32 = .ok (.iconst 0, 1) := by decide +kernel
theorem dX6_isIdle_33 : decode cX6_isIdle 33 = .ok (.invokevirtual 60, 3) := by decide +kernel
theorem dX6_isIdle_36 : decode cX6_isIdle 36 = .ok (.iconst 3, 1) := by decide +kernel
theorem dX6_isIdle_37 : decode cX6_isIdle 37 = .ok (.if_icmp .ne 7, 3) := by decide +kernel
theorem dX6_isIdle_40 : decode cX6_isIdle 40 = .ok (.iconst 1, 1) := by decide +kernel
theorem dX6_isIdle_41 : decode cX6_isIdle 41 = .ok (.goto 4, 3) := by decide +kernel
theorem dX6_isIdle_44 : decode cX6_isIdle 44 = .ok (.iconst 0, 1) := by decide +kernel
theorem dX6_isIdle_45 : decode cX6_isIdle 45 = .ok (.istore_n 1, 1) := by decide +kernel
theorem dX6_isIdle_46 : decode cX6_isIdle 46 = .ok (.iinc 2 1, 3) := by decide +kernel
theorem dX6_isIdle_49 : decode cX6_isIdle 49 = .ok (.goto (-33), 3) := by decide +kernel
theorem dX6_isIdle_52 : decode cX6_isIdle 52 = .ok (.iload_n 1, 1) := by decide +kernel
theorem dX6_isIdle_53 : decode cX6_isIdle 53 = .ok (.ireturn, 1) := by decide +kernel
theorem dX6_setTime_0 : decode cX6_setTime 0 = .ok (.iload_n 1, 1) := by decide +kernel
theorem dX6_setTime_1 : decode cX6_setTime 1 = .ok (.invokestatic 103, 3) := by decide +kernel
theorem dX6_setTime_4 : decode cX6_setTime 4 = .ok (.ifCond .eq 10, 3) := by decide +kernel
theorem dX6_setTime_7 : decode cX6_setTime 7 = .ok (.iload_n 2, 1) := by decide +kernel
