theorem dL_law_58 : decode cL_law 58 = .ok (.iconst 3, 1) := by decide +kernel
theorem dL_law_59 : decode cL_law 59 = .ok (.goto 10, 3) := by decide +kernel
theorem dL_law_62 : decode cL_law 62 = .ok (.aload_n 0, 1) := by decide +kernel
theorem dL_law_63 : decode cL_law 63 = .ok (.iconst 2, 1) := by decide +kernel
theorem dL_law_64 : decode cL_law 64 = .ok (.iload_n 3, 1) := by decide +kernel
theorem dL_law_65 : decode cL_law 65 = .ok (.imul, 1) := by decide +kernel
theorem dL_law_66 : decode cL_law 66 = .ok (.invokestatic 110, 3) := by decide +kernel
theorem dL_law_69 : decode cL_law 69 = .ok (.aload_n 0, 1) := by decide +kernel
theorem dL_law_70 : decode cL_law 70 = .ok (.iconst 2, 1) := by decide +kernel
theorem dL_law_71 : decode cL_law 71 = .ok (.iload_n 3, 1) := by decide +kernel
theorem dL_law_72 : decode cL_law 72 = .ok (.imul, 1) := by decide +kernel
theorem dL_law_73 : decode cL_law 73 = .ok (.iconst 1, 1) := by decide +kernel
theorem dL_law_74 : decode cL_law 74 = .ok (.iadd, 1) := by decide +kernel
theorem dL_law_75 : decode cL_law 75 = .ok (.invokestatic 110, 3) := by decide +kernel
theorem dL_law_78 : decode cL_law 78 = .ok (.aload_n 2, 1) := by decide +kernel
theorem dL_law_79 : decode cL_law 79 = .ok (.invokestatic 114, 3) := by decide +kernel
theorem dL_law_82 : decode cL_law 82 = .ok (.ifCond .eq 26, 3) := by decide +kernel
theorem dL_law_85 : decode cL_law 85 = .ok (.aload_n 1, 1) := by decide +kernel
theorem dL_law_86 : decode cL_law 86 = .ok (.aload_n 2, 1) := by decide +kernel
theorem dL_law_87 : decode cL_law 87 = .ok (.invokestatic 75, 3) := by decide +kernel
theorem dL_law_90 : decode cL_law 90 = .ok (.ifCond .eq 18, 3) := by decide +kernel
theorem dL_law_93 : decode cL_law 93 = .ok (.iload_n 3, 1) := by decide +kernel
theorem dL_law_94 : decode cL_law 94 = .ok (.iconst 4, 1) := by decide +kernel
theorem dL_law_95 : decode cL_law 95 = .ok (.irem, 1) := by decide +kernel
theorem dL_law_96 : decode cL_law 96 = .ok (.iconst 2, 1) := by decide +kernel
theorem dL_law_97 : decode cL_law 97 = .ok (.if_icmp .ne 13, 3) := by decide +kernel
theorem dL_law_100 : decode cL_law 100 = .ok (.aload_n 1, 1) := by decide +kernel
theorem dL_law_101 : decode cL_law 101 = .ok (.aload_n 2, 1) := by decide +kernel
theorem dL_law_102 : decode cL_law 102 = .ok (.invokestatic 118, 3) := by decide +kernel
theorem dL_law_105 : decode cL_law 105 = .ok (.ifCond .ne 5, 3) := by decide +kernel
theorem dL_law_108 : decode cL_law 108 = .ok (.iconst 0, 1) := by decide +kernel
theorem dL_law_109 : decode cL_law 109 = .ok (.ireturn, 1) := by decide +kernel
theorem dL_law_110 : decode cL_law 110 = .ok (.iinc 3 1, 3) := by decide +kernel
theorem dL_law_113 : decode cL_law 113 = .ok (.goto (-66), 3) := by decide +kernel
theorem dL_law_116 : decode cL_law 116 = .ok (.iconst 1, 1) := by decide +kernel
theorem dL_law_117 : decode cL_law 117 = .ok (.ireturn, 1) := by decide +kernel
