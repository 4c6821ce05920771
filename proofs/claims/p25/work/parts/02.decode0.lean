theorem dX0_init_0 : decode cX0_init 0 = .ok (.aload_n 0, 1) := by decide +kernel
theorem dX0_init_1 : decode cX0_init 1 = .ok (.invokespecial 3, 3) := by decide +kernel
theorem dX0_init_4 : decode cX0_init 4 = .ok (.aload_n 0, 1) := by decide +kernel
theorem dX0_init_5 : decode cX0_init 5 = .ok (.iconst 1, 1) := by decide +kernel
theorem dX0_init_6 : decode cX0_init 6 = .ok (.putfield 9, 3) := by decide +kernel
theorem dX0_init_9 : decode cX0_init 9 = .ok (.aload_n 0, 1) := by decide +kernel
theorem dX0_init_10 : decode cX0_init 10 = .ok (.iload_n 1, 1) := by decide +kernel
theorem dX0_init_11 : decode cX0_init 11 = .ok (.putfield 15, 3) := by decide +kernel
theorem dX0_init_14 : decode cX0_init 14 = .ok (.return_, 1) := by decide +kernel
theorem dX0_addPart_0 : decode cX0_addPart 0 = .ok (.aload_n 0, 1) := by decide +kernel
theorem dX0_addPart_1 : decode cX0_addPart 1 = .ok (.getfield 18, 3) := by decide +kernel
theorem dX0_addPart_4 : decode cX0_addPart 4 = .ok (.ifnonnull 11, 3) := by decide +kernel
theorem dX0_addPart_7 : decode cX0_addPart 7 = .ok (.aload_n 0, 1) := by decide +kernel
theorem dX0_addPart_8 : decode cX0_addPart 8 = .ok (.aload_n 1, 1) := by decide +kernel
theorem dX0_addPart_9 : decode cX0_addPart 9 = .ok (.putfield 22, 3) := by decide +kernel
theorem dX0_addPart_12 : decode cX0_addPart 12 = .ok (.goto 11, 3) := by decide +kernel
theorem dX0_addPart_15 : decode cX0_addPart 15 = .ok (.aload_n 0, 1) := by decide +kernel
theorem dX0_addPart_16 : decode cX0_addPart 16 = .ok (.getfield 18, 3) := by decide +kernel
theorem dX0_addPart_19 : decode cX0_addPart 19 = .ok (.aload_n 1, 1) := by decide +kernel
theorem dX0_addPart_20 : decode cX0_addPart 20 = .ok (.putfield 25, 3) := by decide +kernel
theorem dX0_addPart_23 : decode cX0_addPart 23 = .ok (.aload_n 0, 1) := by decide +kernel
theorem dX0_addPart_24 : decode cX0_addPart 24 = .ok (.aload_n 1, 1) := by decide +kernel
theorem dX0_addPart_25 : decode cX0_addPart 25 = .ok (.putfield 18, 3) := by decide +kernel
theorem dX0_addPart_28 : decode cX0_addPart 28 = .ok (.aload_n 0, 1) := by decide +kernel
theorem dX0_addPart_29 : decode cX0_addPart 29 = .ok (.dup, 1) := by decide +kernel
theorem dX0_addPart_30 : decode cX0_addPart 30 = .ok (.getfield 28, 3) := by decide +kernel
theorem dX0_addPart_33 : decode cX0_addPart 33 = .ok (.iconst 1, 1) := by decide +kernel
theorem dX0_addPart_34 : decode cX0_addPart 34 = .ok (.iadd, 1) := by decide +kernel
theorem dX0_addPart_35 : decode cX0_addPart 35 = .ok (.putfield 28, 3) := by decide +kernel
theorem dX0_addPart_38 : decode cX0_addPart 38 = .ok (.return_, 1) := by decide +kernel
theorem dX0_tell_0 : decode cX0_tell 0 = .ok (.iload_n 1, 1) := by decide +kernel
theorem dX0_tell_1 : decode cX0_tell 1 = .ok (.tableswitch 51 0 3 #[31, 36, 41, 46], 31) := by decide +kernel
theorem dX0_tell_32 : decode cX0_tell 32 = .ok (.aload_n 0, 1) := by decide +kernel
theorem dX0_tell_33 : decode cX0_tell 33 = .ok (.getfield 15, 3) := by decide +kernel
theorem dX0_tell_36 : decode cX0_tell 36 = .ok (.ireturn, 1) := by decide +kernel
theorem dX0_tell_37 : decode cX0_tell 37 = .ok (.aload_n 0, 1) := by decide +kernel
theorem dX0_tell_38 : decode cX0_tell 38 = .ok (.getfield 31, 3) := by decide +kernel
theorem dX0_tell_41 : decode cX0_tell 41 = .ok (.ireturn, 1) := by decide +kernel
theorem dX0_tell_42 : decode cX0_tell 42 = .ok (.aload_n 0, 1) := by decide +kernel
theorem dX0_tell_43 : decode cX0_tell 43 = .ok (.getfield 28, 3) := by decide +kernel
theorem dX0_tell_46 : decode cX0_tell 46 = .ok (.ireturn, 1) := by decide +kernel
theorem dX0_tell_47 : decode cX0_tell 47 = .ok (.aload_n 0, 1) := by decide +kernel
theorem dX0_tell_48 : decode cX0_tell 48 = .ok (.getfield 9, 3) := by decide +kernel
theorem dX0_tell_51 : decode cX0_tell 51 = .ok (.ireturn, 1) := by decide +kernel
theorem dX0_tell_52 : decode cX0_tell 52 = .ok (.bipush (-2), 2) := by decide +kernel
theorem dX0_tell_54 : decode cX0_tell 54 = .ok (.ireturn, 1) := by decide +kernel
theorem dX1_init_0 : decode cX1_init 0 = .ok (.aload_n 0, 1) := by decide +kernel
theorem dX1_init_1 : decode cX1_init 1 = .ok (.invokespecial 3, 3) := by decide +kernel
theorem dX1_init_4 : decode cX1_init 4 = .ok (.aload_n 0, 1) := by decide +kernel
theorem dX1_init_5 : decode cX1_init 5 = .ok (.bipush 80, 2) := by decide +kernel
theorem dX1_init_7 : decode cX1_init 7 = .ok (.anewarray 9, 3) := by decide +kernel
theorem dX1_init_10 : decode cX1_init 10 = .ok (.putfield 11, 3) := by decide +kernel
theorem dX1_init_13 : decode cX1_init 13 = .ok (.return_, 1) := by decide +kernel
theorem dX1_copyFrom_0 : decode cX1_copyFrom 0 = .ok (.aload_n 0, 1) := by decide +kernel
theorem dX1_copyFrom_1 : decode cX1_copyFrom 1 = .ok (.aload_n 1, 1) := by decide +kernel
theorem dX1_copyFrom_2 : decode cX1_copyFrom 2 = .ok (.getfield 17, 3) := by decide +kernel
theorem dX1_copyFrom_5 : decode cX1_copyFrom 5 = .ok (.putfield 17, 3) := by decide +kernel
theorem dX1_copyFrom_8 : decode cX1_copyFrom 8 = .ok (.aload_n 0, 1) := by decide +kernel
theorem dX1_copyFrom_9 : decode cX1_copyFrom 9 = .ok (.aload_n 1, 1) := by decide +kernel
theorem dX1_copyFrom_10 : decode cX1_copyFrom 10 = .ok (.getfield 21, 3) := by decide +kernel
theorem dX1_copyFrom_13 : decode cX1_copyFrom 13 = .ok (.putfield 21, 3) := by decide +kernel
theorem dX1_copyFrom_16 : decode cX1_copyFrom 16 = .ok (.aload_n 0, 1) := by decide +kernel
theorem dX1_copyFrom_17 : decode cX1_copyFrom 17 = .ok (.aload_n 1, 1) := by decide +kernel
theorem dX1_copyFrom_18 : decode cX1_copyFrom 18 = .ok (.getfield 25, 3) := by decide +kernel
theorem dX1_copyFrom_21 : decode cX1_copyFrom 21 = .ok (.putfield 25, 3) := by decide +kernel
theorem dX1_copyFrom_24 : decode cX1_copyFrom 24 = .ok (.aload_n 0, 1) := by decide +kernel
theorem dX1_copyFrom_25 : decode cX1_copyFrom 25 = .ok (.aload_n 1, 1) := by decide +kernel
theorem dX1_copyFrom_26 : decode cX1_copyFrom 26 = .ok (.getfield 28, 3) := by decide +kernel
theorem dX1_copyFrom_29 : decode cX1_copyFrom 29 = .ok (.putfield 28, 3) := by decide +kernel
theorem dX1_copyFrom_32 : decode cX1_copyFrom 32 = .ok (.aload_n 0, 1) := by decide +kernel
theorem dX1_copyFrom_33 : decode cX1_copyFrom 33 = .ok (.aload_n 1, 1) := by decide +kernel
theorem dX1_copyFrom_34 : decode cX1_copyFrom 34 = .ok (.getfield 31, 3) := by decide +kernel
theorem dX1_copyFrom_37 : decode cX1_copyFrom 37 = .ok (.putfield 31, 3) := by decide +kernel
theorem dX1_copyFrom_40 : decode cX1_copyFrom 40 = .ok (.aload_n 0, 1) := by decide +kernel
theorem dX1_copyFrom_41 : decode cX1_copyFrom 41 = .ok (.aload_n 1, 1) := by decide +kernel
theorem dX1_copyFrom_42 : decode cX1_copyFrom 42 = .ok (.getfield 34, 3) := by decide +kernel
theorem dX1_copyFrom_45 : decode cX1_copyFrom 45 = .ok (.putfield 34, 3) := by decide +kernel
theorem dX1_copyFrom_48 : decode cX1_copyFrom 48 = .ok (.aload_n 0, 1) := by decide +kernel
theorem dX1_copyFrom_49 : decode cX1_copyFrom 49 = .ok (.aload_n 1, 1) := by decide +kernel
theorem dX1_copyFrom_50 : decode cX1_copyFrom 50 = .ok (.getfield 37, 3) := by decide +kernel
theorem dX1_copyFrom_53 : decode cX1_copyFrom 53 = .ok (.putfield 37, 3) := by decide +kernel
theorem dX1_copyFrom_56 : decode cX1_copyFrom 56 = .ok (.aload_n 0, 1) := by decide +kernel
theorem dX1_copyFrom_57 : decode cX1_copyFrom 57 = .ok (.aload_n 1, 1) := by decide +kernel
theorem dX1_copyFrom_58 : decode cX1_copyFrom 58 = .ok (.getfield 40, 3) := by decide +kernel
theorem dX1_copyFrom_61 : decode cX1_copyFrom 61 = .ok (.putfield 40, 3) := by decide +kernel
theorem dX1_copyFrom_64 : decode cX1_copyFrom 64 = .ok (.aload_n 0, 1) := by decide +kernel
theorem dX1_copyFrom_65 : decode cX1_copyFrom 65 = .ok (.aload_n 1, 1) := by decide +kernel
theorem dX1_copyFrom_66 : decode cX1_copyFrom 66 = .ok (.getfield 43, 3) := by decide +kernel
theorem dX1_copyFrom_69 : decode cX1_copyFrom 69 = .ok (.putfield 43, 3) := by decide +kernel
theorem dX1_copyFrom_72 : decode cX1_copyFrom 72 = .ok (.aload_n 0, 1) := by decide +kernel
theorem dX1_copyFrom_73 : decode cX1_copyFrom 73 = .ok (.aload_n 1, 1) := by decide +kernel
theorem dX1_copyFrom_74 : decode cX1_copyFrom 74 = .ok (.getfield 46, 3) := by decide +kernel
theorem dX1_copyFrom_77 : decode cX1_copyFrom 77 = .ok (.putfield 46, 3) := by decide +kernel
theorem dX1_copyFrom_80 : decode cX1_copyFrom 80 = .ok (.iconst 0, 1) := by decide +kernel
theorem dX1_copyFrom_81 : decode cX1_copyFrom 81 = .ok (.istore_n 2, 1) := by decide +kernel
theorem dX1_copyFrom_82 : decode cX1_copyFrom 82 = .ok (.iload_n 2, 1) := by decide +kernel
theorem dX1_copyFrom_83 : decode cX1_copyFrom 83 = .ok (.aload_n 0, 1) := by decide +kernel
theorem dX1_copyFrom_84 : decode cX1_copyFrom 84 = .ok (.getfield 28, 3) := by decide +kernel
theorem dX1_copyFrom_87 : decode cX1_copyFrom 87 = .ok (.if_icmp .ge 39, 3) := by decide +kernel
theorem dX1_copyFrom_90 : decode cX1_copyFrom 90 = .ok (.iload_n 2, 1) := by decide +kernel
theorem dX1_copyFrom_91 : decode cX1_copyFrom 91 = .ok (.aload_n 0, 1) := by decide +kernel
theorem dX1_copyFrom_92 : decode cX1_copyFrom 92 = .ok (.getfield 11, 3) := by decide +kernel
theorem dX1_copyFrom_95 : decode cX1_copyFrom 95 = .ok (.arraylength, 1) := by decide +kernel
theorem dX1_copyFrom_96 : decode cX1_copyFrom 96 = .ok (.if_icmp .ge 30, 3) := by decide +kernel
theorem dX1_copyFrom_99 : decode cX1_copyFrom 99 = .ok (.iload_n 2, 1) := by decide +kernel
theorem dX1_copyFrom_100 : decode cX1_copyFrom 100 = .ok (.aload_n 1, 1) := by decide +kernel
theorem dX1_copyFrom_101 : decode cX1_copyFrom 101 = .ok (.getfield 11, 3) := by decide +kernel
theorem dX1_copyFrom_104 : decode cX1_copyFrom 104 = .ok (.arraylength, 1) := by decide +kernel
theorem dX1_copyFrom_105 : decode cX1_copyFrom 105 = .ok (.if_icmp .ge 21, 3) := by decide +kernel
theorem dX1_copyFrom_108 : decode cX1_copyFrom 108 = .ok (.aload_n 0, 1) := by decide +kernel
theorem dX1_copyFrom_109 : decode cX1_copyFrom 109 = .ok (.getfield 11, 3) := by decide +kernel
theorem dX1_copyFrom_112 : decode cX1_copyFrom 112 = .ok (.iload_n 2, 1) := by decide +kernel
theorem dX1_copyFrom_113 : decode cX1_copyFrom 113 = .ok (.aload_n 1, 1) := by decide +kernel
theorem dX1_copyFrom_114 : decode cX1_copyFrom 114 = .ok (.getfield 11, 3) := by decide +kernel
theorem dX1_copyFrom_117 : decode cX1_copyFrom 117 = .ok (.iload_n 2, 1) := by decide +kernel
theorem dX1_copyFrom_118 : decode cX1_copyFrom 118 = .ok (.aaload, 1) := by decide +kernel
theorem dX1_copyFrom_119 : decode cX1_copyFrom 119 = .ok (.aastore, 1) := by decide +kernel
theorem dX1_copyFrom_120 : decode cX1_copyFrom 120 = .ok (.iinc 2 1, 3) := by decide +kernel
theorem dX1_copyFrom_123 : decode cX1_copyFrom 123 = .ok (.goto (-41), 3) := by decide +kernel
theorem dX1_copyFrom_126 : decode cX1_copyFrom 126 = .ok (.return_, 1) := by decide +kernel
theorem dX1_takeIn_0 : decode cX1_takeIn 0 = .ok (.aload_n 0, 1) := by decide +kernel
theorem dX1_takeIn_1 : decode cX1_takeIn 1 = .ok (.iconst 1, 1) := by decide +kernel
theorem dX1_takeIn_2 : decode cX1_takeIn 2 = .ok (.putfield 17, 3) := by decide +kernel
theorem dX1_takeIn_5 : decode cX1_takeIn 5 = .ok (.aload_n 0, 1) := by decide +kernel
theorem dX1_takeIn_6 : decode cX1_takeIn 6 = .ok (.dup, 1) := by decide +kernel
theorem dX1_takeIn_7 : decode cX1_takeIn 7 = .ok (.getfield 37, 3) := by decide +kernel
theorem dX1_takeIn_10 : decode cX1_takeIn 10 = .ok (.iconst 1, 1) := by decide +kernel
theorem dX1_takeIn_11 : decode cX1_takeIn 11 = .ok (.iadd, 1) := by decide +kernel
theorem dX1_takeIn_12 : decode cX1_takeIn 12 = .ok (.putfield 37, 3) := by decide +kernel
theorem dX1_takeIn_15 : decode cX1_takeIn 15 = .ok (.aload_n 0, 1) := by decide +kernel
theorem dX1_takeIn_16 : decode cX1_takeIn 16 = .ok (.dup, 1) := by decide +kernel
theorem dX1_takeIn_17 : decode cX1_takeIn 17 = .ok (.getfield 25, 3) := by decide +kernel
theorem dX1_takeIn_20 : decode cX1_takeIn 20 = .ok (.aload_n 1, 1) := by decide +kernel
theorem dX1_takeIn_21 : decode cX1_takeIn 21 = .ok (.getfield 49, 3) := by decide +kernel
theorem dX1_takeIn_24 : decode cX1_takeIn 24 = .ok (.iadd, 1) := by decide +kernel
theorem dX1_takeIn_25 : decode cX1_takeIn 25 = .ok (.putfield 25, 3) := by decide +kernel
theorem dX1_takeIn_28 : decode cX1_takeIn 28 = .ok (.aload_n 1, 1) := by decide +kernel
theorem dX1_takeIn_29 : decode cX1_takeIn 29 = .ok (.getfield 50, 3) := by decide +kernel
theorem dX1_takeIn_32 : decode cX1_takeIn 32 = .ok (.astore_n 2, 1) := by decide +kernel
theorem dX1_takeIn_33 : decode cX1_takeIn 33 = .ok (.aload_n 2, 1) := by decide +kernel
theorem dX1_takeIn_34 : decode cX1_takeIn 34 = .ok (.ifnull 16, 3) := by decide +kernel
theorem dX1_takeIn_37 : decode cX1_takeIn 37 = .ok (.aload_n 0, 1) := by decide +kernel
theorem dX1_takeIn_38 : decode cX1_takeIn 38 = .ok (.aload_n 2, 1) := by decide +kernel
theorem dX1_takeIn_39 : decode cX1_takeIn 39 = .ok (.invokevirtual 54, 3) := by decide +kernel
theorem dX1_takeIn_42 : decode cX1_takeIn 42 = .ok (.aload_n 2, 1) := by decide +kernel
theorem dX1_takeIn_43 : decode cX1_takeIn 43 = .ok (.getfield 58, 3) := by decide +kernel
theorem dX1_takeIn_46 : decode cX1_takeIn 46 = .ok (.astore_n 2, 1) := by decide +kernel
theorem dX1_takeIn_47 : decode cX1_takeIn 47 = .ok (.goto (-14), 3) := by decide +kernel
theorem dX1_takeIn_50 : decode cX1_takeIn 50 = .ok (.return_, 1) := by decide +kernel
theorem dX1_lineUp_0 : decode cX1_lineUp 0 = .ok (.aload_n 0, 1) := by decide +kernel
theorem dX1_lineUp_1 : decode cX1_lineUp 1 = .ok (.getfield 28, 3) := by decide +kernel
theorem dX1_lineUp_4 : decode cX1_lineUp 4 = .ok (.aload_n 0, 1) := by decide +kernel
theorem dX1_lineUp_5 : decode cX1_lineUp 5 = .ok (.getfield 11, 3) := by decide +kernel
theorem dX1_lineUp_8 : decode cX1_lineUp 8 = .ok (.arraylength, 1) := by decide +kernel
theorem dX1_lineUp_9 : decode cX1_lineUp 9 = .ok (.if_icmp .ge 23, 3) := by decide +kernel
theorem dX1_lineUp_12 : decode cX1_lineUp 12 = .ok (.aload_n 0, 1) := by decide +kernel
theorem dX1_lineUp_13 : decode cX1_lineUp 13 = .ok (.getfield 11, 3) := by decide +kernel
theorem dX1_lineUp_16 : decode cX1_lineUp 16 = .ok (.aload_n 0, 1) := by decide +kernel
theorem dX1_lineUp_17 : decode cX1_lineUp 17 = .ok (.getfield 28, 3) := by decide +kernel
theorem dX1_lineUp_20 : decode cX1_lineUp 20 = .ok (.aload_n 1, 1) := by decide +kernel
theorem dX1_lineUp_21 : decode cX1_lineUp 21 = .ok (.aastore, 1) := by decide +kernel
theorem dX1_lineUp_22 : decode cX1_lineUp 22 = .ok (.aload_n 0, 1) := by decide +kernel
theorem dX1_lineUp_23 : decode cX1_lineUp 23 = .ok (.dup, 1) := by decide +kernel
theorem dX1_lineUp_24 : decode cX1_lineUp 24 = .ok (.getfield 28, 3) := by decide +kernel
theorem dX1_lineUp_27 : decode cX1_lineUp 27 = .ok (.iconst 1, 1) := by decide +kernel
theorem dX1_lineUp_28 : decode cX1_lineUp 28 = .ok (.iadd, 1) := by decide +kernel
theorem dX1_lineUp_29 : decode cX1_lineUp 29 = .ok (.putfield 28, 3) := by decide +kernel
theorem dX1_lineUp_32 : decode cX1_lineUp 32 = .ok (.return_, 1) := by decide +kernel
theorem dX1_waitingAt_0 : decode cX1_waitingAt 0 = .ok (.iload_n 1, 1) := by decide +kernel
theorem dX1_waitingAt_1 : decode cX1_waitingAt 1 = .ok (.ifCond .lt 29, 3) := by decide +kernel
theorem dX1_waitingAt_4 : decode cX1_waitingAt 4 = .ok (.iload_n 1, 1) := by decide +kernel
theorem dX1_waitingAt_5 : decode cX1_waitingAt 5 = .ok (.aload_n 0, 1) := by decide +kernel
theorem dX1_waitingAt_6 : decode cX1_waitingAt 6 = .ok (.getfield 28, 3) := by decide +kernel
theorem dX1_waitingAt_9 : decode cX1_waitingAt 9 = .ok (.if_icmp .ge 21, 3) := by decide +kernel
theorem dX1_waitingAt_12 : decode cX1_waitingAt 12 = .ok (.iload_n 1, 1) := by decide +kernel
theorem dX1_waitingAt_13 : decode cX1_waitingAt 13 = .ok (.aload_n 0, 1) := by decide +kernel
theorem dX1_waitingAt_14 : decode cX1_waitingAt 14 = .ok (.getfield 11, 3) := by decide +kernel
theorem dX1_waitingAt_17 : decode cX1_waitingAt 17 = .ok (.arraylength, 1) := by decide +kernel
theorem dX1_waitingAt_18 : decode cX1_waitingAt 18 = .ok (.if_icmp .ge 12, 3) := by decide +kernel
theorem dX1_waitingAt_21 : decode cX1_waitingAt 21 = .ok (.aload_n 0, 1) := by decide +kernel
theorem dX1_waitingAt_22 : decode cX1_waitingAt 22 = .ok (.getfield 11, 3) := by decide +kernel
theorem dX1_waitingAt_25 : decode cX1_waitingAt 25 = .ok (.iload_n 1, 1) := by decide +kernel
theorem dX1_waitingAt_26 : decode cX1_waitingAt 26 = .ok (.aaload, 1) := by decide +kernel
theorem dX1_waitingAt_27 : decode cX1_waitingAt 27 = .ok (.goto 4, 3) := by decide +kernel
theorem dX1_waitingAt_30 : decode cX1_waitingAt 30 = .ok (.aconst_null, 1) := by decide +kernel
theorem dX1_waitingAt_31 : decode cX1_waitingAt 31 = .ok (.areturn, 1) := by decide +kernel
theorem dX1_removeFirst_0 : decode cX1_removeFirst 0 = .ok (.iconst 0, 1) := by decide +kernel
theorem dX1_removeFirst_1 : decode cX1_removeFirst 1 = .ok (.istore_n 1, 1) := by decide +kernel
theorem dX1_removeFirst_2 : decode cX1_removeFirst 2 = .ok (.iload_n 1, 1) := by decide +kernel
theorem dX1_removeFirst_3 : decode cX1_removeFirst 3 = .ok (.iconst 1, 1) := by decide +kernel
theorem dX1_removeFirst_4 : decode cX1_removeFirst 4 = .ok (.iadd, 1) := by decide +kernel
theorem dX1_removeFirst_5 : decode cX1_removeFirst 5 = .ok (.aload_n 0, 1) := by decide +kernel
theorem dX1_removeFirst_6 : decode cX1_removeFirst 6 = .ok (.getfield 28, 3) := by decide +kernel
theorem dX1_removeFirst_9 : decode cX1_removeFirst 9 = .ok (.if_icmp .ge 34, 3) := by decide +kernel
theorem dX1_removeFirst_12 : decode cX1_removeFirst 12 = .ok (.iload_n 1, 1) := by decide +kernel
theorem dX1_removeFirst_13 : decode cX1_removeFirst 13 = .ok (.iconst 1, 1) := by decide +kernel
theorem dX1_removeFirst_14 : decode cX1_removeFirst 14 = .ok (.iadd, 1) := by decide +kernel
theorem dX1_removeFirst_15 : decode cX1_removeFirst 15 = .ok (.aload_n 0, 1) := by decide +kernel
theorem dX1_removeFirst_16 : decode cX1_removeFirst 16 = .ok (.getfield 11, 3) := by decide +kernel
theorem dX1_removeFirst_19 : decode cX1_removeFirst 19 = .ok (.arraylength, 1) := by decide +kernel
theorem dX1_removeFirst_20 : decode cX1_removeFirst 20 = .ok (.if_icmp .ge 23, 3) := by decide +kernel
theorem dX1_removeFirst_23 : decode cX1_removeFirst 23 = .ok (.aload_n 0, 1) := by decide +kernel
theorem dX1_removeFirst_24 : decode cX1_removeFirst 24 = .ok (.getfield 11, 3) := by decide +kernel
theorem dX1_removeFirst_27 : decode cX1_removeFirst 27 = .ok (.iload_n 1, 1) := by decide +kernel
theorem dX1_removeFirst_28 : decode cX1_removeFirst 28 = .ok (.aload_n 0, 1) := by decide +kernel
theorem dX1_removeFirst_29 : decode cX1_removeFirst 29 = .ok (.getfield 11, 3) := by decide +kernel
theorem dX1_removeFirst_32 : decode cX1_removeFirst 32 = .ok (.iload_n 1, 1) := by decide +kernel
theorem dX1_removeFirst_33 : decode cX1_removeFirst 33 = .ok (.iconst 1, 1) := by decide +kernel
theorem dX1_removeFirst_34 : decode cX1_removeFirst 34 = .ok (.iadd, 1) := by decide +kernel
theorem dX1_removeFirst_35 : decode cX1_removeFirst 35 = .ok (.aaload, 1) := by decide +kernel
theorem dX1_removeFirst_36 : decode cX1_removeFirst 36 = .ok (.aastore, 1) := by decide +kernel
theorem dX1_removeFirst_37 : decode cX1_removeFirst 37 = .ok (.iinc 1 1, 3) := by decide +kernel
theorem dX1_removeFirst_40 : decode cX1_removeFirst 40 = .ok (.goto (-38), 3) := by decide +kernel
theorem dX1_removeFirst_43 : decode cX1_removeFirst 43 = .ok (.aload_n 0, 1) := by decide +kernel
theorem dX1_removeFirst_44 : decode cX1_removeFirst 44 = .ok (.dup, 1) := by decide +kernel
theorem dX1_removeFirst_45 : decode cX1_removeFirst 45 = .ok (.getfield 28, 3) := by decide +kernel
theorem dX1_removeFirst_48 : decode cX1_removeFirst 48 = .ok (.iconst 1, 1) := by decide +kernel
theorem dX1_removeFirst_49 : decode cX1_removeFirst 49 = .ok (.isub, 1) := by decide +kernel
theorem dX1_removeFirst_50 : decode cX1_removeFirst 50 = .ok (.putfield 28, 3) := by decide +kernel
theorem dX1_removeFirst_53 : decode cX1_removeFirst 53 = .ok (.return_, 1) := by decide +kernel
theorem dX1_errandsWithin_0 : decode cX1_errandsWithin 0 = .ok (.iconst 0, 1) := by decide +kernel
theorem dX1_errandsWithin_1 : decode cX1_errandsWithin 1 = .ok (.istore_n 1, 1) := by decide +kernel
theorem dX1_errandsWithin_2 : decode cX1_errandsWithin 2 = .ok (.iconst 0, 1) := by decide +kernel
theorem dX1_errandsWithin_3 : decode cX1_errandsWithin 3 = .ok (.istore_n 2, 1) := by decide +kernel
theorem dX1_errandsWithin_4 : decode cX1_errandsWithin 4 = .ok (.iload_n 2, 1) := by decide +kernel
theorem dX1_errandsWithin_5 : decode cX1_errandsWithin 5 = .ok (.aload_n 0, 1) := by decide +kernel
theorem dX1_errandsWithin_6 : decode cX1_errandsWithin 6 = .ok (.getfield 28, 3) := by decide +kernel
theorem dX1_errandsWithin_9 : decode cX1_errandsWithin 9 = .ok (.if_icmp .ge 43, 3) := by decide +kernel
theorem dX1_errandsWithin_12 : decode cX1_errandsWithin 12 = .ok (.iload_n 2, 1) := by decide +kernel
theorem dX1_errandsWithin_13 : decode cX1_errandsWithin 13 = .ok (.aload_n 0, 1) := by decide +kernel
theorem dX1_errandsWithin_14 : decode cX1_errandsWithin 14 = .ok (.getfield 11, 3) := by decide +kernel
theorem dX1_errandsWithin_17 : decode cX1_errandsWithin 17 = .ok (.arraylength, 1) := by decide +kernel
theorem dX1_errandsWithin_18 : decode cX1_errandsWithin 18 = .ok (.if_icmp .ge 34, 3) := by decide +kernel
theorem dX1_errandsWithin_21 : decode cX1_errandsWithin 21 = .ok (.iload_n 1, 1) := by decide +kernel
theorem dX1_errandsWithin_22 : decode cX1_errandsWithin 22 = .ok (.aload_n 0, 1) := by decide +kernel
theorem dX1_errandsWithin_23 : decode cX1_errandsWithin 23 = .ok (.getfield 11, 3) := by decide +kernel
theorem dX1_errandsWithin_26 : decode cX1_errandsWithin 26 = .ok (.iload_n 2, 1) := by decide +kernel
theorem dX1_errandsWithin_27 : decode cX1_errandsWithin 27 = .ok (.aaload, 1) := by decide +kernel
theorem dX1_errandsWithin_28 : decode cX1_errandsWithin 28 = .ok (.ifnonnull 7, 3) := by decide +kernel
theorem dX1_errandsWithin_31 : decode cX1_errandsWithin 31 = .ok (.iconst 0, 1) := by decide +kernel
theorem dX1_errandsWithin_32 : decode cX1_errandsWithin 32 = .ok (.goto 12, 3) := by decide +kernel
theorem dX1_errandsWithin_35 : decode cX1_errandsWithin 35 = .ok (.aload_n 0, 1) := by decide +kernel
theorem dX1_errandsWithin_36 : decode cX1_errandsWithin 36 = .ok (.getfield 11, 3) := by decide +kernel
theorem dX1_errandsWithin_39 : decode cX1_errandsWithin 39 = .ok (.iload_n 2, 1) := by decide +kernel
theorem dX1_errandsWithin_40 : decode cX1_errandsWithin 40 = .ok (.aaload, 1) := by decide +kernel
theorem dX1_errandsWithin_41 : decode cX1_errandsWithin 41 = .ok (.getfield 61, 3) := by decide +kernel
theorem dX1_errandsWithin_44 : decode cX1_errandsWithin 44 = .ok (.iadd, 1) := by decide +kernel
theorem dX1_errandsWithin_45 : decode cX1_errandsWithin 45 = .ok (.istore_n 1, 1) := by decide +kernel
theorem dX1_errandsWithin_46 : decode cX1_errandsWithin 46 = .ok (.iinc 2 1, 3) := by decide +kernel
theorem dX1_errandsWithin_49 : decode cX1_errandsWithin 49 = .ok (.goto (-45), 3) := by decide +kernel
theorem dX1_errandsWithin_52 : decode cX1_errandsWithin 52 = .ok (.iload_n 1, 1) := by decide +kernel
theorem dX1_errandsWithin_53 : decode cX1_errandsWithin 53 = .ok (.ireturn, 1) := by decide +kernel
theorem dX1_isStuck_0 : decode cX1_isStuck 0 = .ok (.aload_n 0, 1) := by decide +kernel
theorem dX1_isStuck_1 : decode cX1_isStuck 1 = .ok (.getfield 17, 3) := by decide +kernel
theorem dX1_isStuck_4 : decode cX1_isStuck 4 = .ok (.ifCond .eq 17, 3) := by decide +kernel
theorem dX1_isStuck_7 : decode cX1_isStuck 7 = .ok (.aload_n 0, 1) := by decide +kernel
theorem dX1_isStuck_8 : decode cX1_isStuck 8 = .ok (.getfield 25, 3) := by decide +kernel
theorem dX1_isStuck_11 : decode cX1_isStuck 11 = .ok (.ifCond .ne 14, 3) := by decide +kernel
theorem dX1_isStuck_14 : decode cX1_isStuck 14 = .ok (.aload_n 0, 1) := by decide +kernel
theorem dX1_isStuck_15 : decode cX1_isStuck 15 = .ok (.getfield 31, 3) := by decide +kernel
theorem dX1_isStuck_18 : decode cX1_isStuck 18 = .ok (.ifCond .eq 7, 3) := by decide +kernel
theorem dX1_isStuck_21 : decode cX1_isStuck 21 = .ok (.iconst 1, 1) := by decide +kernel
theorem dX1_isStuck_22 : decode cX1_isStuck 22 = .ok (.goto 4, 3) := by decide +kernel
theorem dX1_isStuck_25 : decode cX1_isStuck 25 = .ok (.iconst 0, 1) := by decide +kernel
theorem dX1_isStuck_26 : decode cX1_isStuck 26 = .ok (.ireturn, 1) := by decide +kernel
theorem dX1_tell_0 : decode cX1_tell 0 = .ok (.iload_n 1, 1) := by decide +kernel
theorem dX1_tell_1 : decode cX1_tell 1 = .ok (.tableswitch 112 0 8 #[51, 64, 69, 74, 79, 92, 97, 102, 107], 51) := by decide +kernel
theorem dX1_tell_52 : decode cX1_tell 52 = .ok (.aload_n 0, 1) := by decide +kernel
theorem dX1_tell_53 : decode cX1_tell 53 = .ok (.getfield 17, 3) := by decide +kernel
theorem dX1_tell_56 : decode cX1_tell 56 = .ok (.ifCond .eq 7, 3) := by decide +kernel
theorem dX1_tell_59 : decode cX1_tell 59 = .ok (.iconst 1, 1) := by decide +kernel
theorem dX1_tell_60 : decode cX1_tell 60 = .ok (.goto 4, 3) := by decide +kernel
theorem dX1_tell_63 : decode cX1_tell 63 = .ok (.iconst 0, 1) := by decide +kernel
theorem dX1_tell_64 : decode cX1_tell 64 = .ok (.ireturn, 1) := by decide +kernel
theorem dX1_tell_65 : decode cX1_tell 65 = .ok (.aload_n 0, 1) := by decide +kernel
theorem dX1_tell_66 : decode cX1_tell 66 = .ok (.getfield 21, 3) := by decide +kernel
theorem dX1_tell_69 : decode cX1_tell 69 = .ok (.ireturn, 1) := by decide +kernel
theorem dX1_tell_70 : decode cX1_tell 70 = .ok (.aload_n 0, 1) := by decide +kernel
theorem dX1_tell_71 : decode cX1_tell 71 = .ok (.getfield 25, 3) := by decide +kernel
theorem dX1_tell_74 : decode cX1_tell 74 = .ok (.ireturn, 1) := by decide +kernel
theorem dX1_tell_75 : decode cX1_tell 75 = .ok (.aload_n 0, 1) := by decide +kernel
theorem dX1_tell_76 : decode cX1_tell 76 = .ok (.getfield 28, 3) := by decide +kernel
theorem dX1_tell_79 : decode cX1_tell 79 = .ok (.ireturn, 1) := by decide +kernel
theorem dX1_tell_80 : decode cX1_tell 80 = .ok (.aload_n 0, 1) := by decide +kernel
theorem dX1_tell_81 : decode cX1_tell 81 = .ok (.getfield 31, 3) := by decide +kernel
theorem dX1_tell_84 : decode cX1_tell 84 = .ok (.ifCond .eq 7, 3) := by decide +kernel
theorem dX1_tell_87 : decode cX1_tell 87 = .ok (.iconst 1, 1) := by decide +kernel
theorem dX1_tell_88 : decode cX1_tell 88 = .ok (.goto 4, 3) := by decide +kernel
theorem dX1_tell_91 : decode cX1_tell 91 = .ok (.iconst 0, 1) := by decide +kernel
theorem dX1_tell_92 : decode cX1_tell 92 = .ok (.ireturn, 1) := by decide +kernel
theorem dX1_tell_93 : decode cX1_tell 93 = .ok (.aload_n 0, 1) := by decide +kernel
theorem dX1_tell_94 : decode cX1_tell 94 = .ok (.getfield 37, 3) := by decide +kernel
theorem dX1_tell_97 : decode cX1_tell 97 = .ok (.ireturn, 1) := by decide +kernel
theorem dX1_tell_98 : decode cX1_tell 98 = .ok (.aload_n 0, 1) := by decide +kernel
theorem dX1_tell_99 : decode cX1_tell 99 = .ok (.getfield 40, 3) := by decide +kernel
theorem dX1_tell_102 : decode cX1_tell 102 = .ok (.ireturn, 1) := by decide +kernel
theorem dX1_tell_103 : decode cX1_tell 103 = .ok (.aload_n 0, 1) := by decide +kernel
theorem dX1_tell_104 : decode cX1_tell 104 = .ok (.getfield 43, 3) := by decide +kernel
theorem dX1_tell_107 : decode cX1_tell 107 = .ok (.ireturn, 1) := by decide +kernel
theorem dX1_tell_108 : decode cX1_tell 108 = .ok (.aload_n 0, 1) := by decide +kernel
theorem dX1_tell_109 : decode cX1_tell 109 = .ok (.getfield 46, 3) := by decide +kernel
theorem dX1_tell_112 : decode cX1_tell 112 = .ok (.ireturn, 1) := by decide +kernel
theorem dX1_tell_113 : decode cX1_tell 113 = .ok (.bipush (-2), 2) := by decide +kernel
theorem dX1_tell_115 : decode cX1_tell 115 = .ok (.ireturn, 1) := by decide +kernel
theorem dX2_init_0 : decode cX2_init 0 = .ok (.aload_n 0, 1) := by decide +kernel
theorem dX2_init_1 : decode cX2_init 1 = .ok (.invokespecial 3, 3) := by decide +kernel
theorem dX2_init_4 : decode cX2_init 4 = .ok (.return_, 1) := by decide +kernel
theorem dX2_copyFrom_0 : decode cX2_copyFrom 0 = .ok (.aload_n 0, 1) := by decide +kernel
theorem dX2_copyFrom_1 : decode cX2_copyFrom 1 = .ok (.aload_n 1, 1) := by decide +kernel
theorem dX2_copyFrom_2 : decode cX2_copyFrom 2 = .ok (.getfield 9, 3) := by decide +kernel
theorem dX2_copyFrom_5 : decode cX2_copyFrom 5 = .ok (.putfield 9, 3) := by decide +kernel
theorem dX2_copyFrom_8 : decode cX2_copyFrom 8 = .ok (.aload_n 0, 1) := by decide +kernel
theorem dX2_copyFrom_9 : decode cX2_copyFrom 9 = .ok (.aload_n 1, 1) := by decide +kernel
theorem dX2_copyFrom_10 : decode cX2_copyFrom 10 = .ok (.getfield 15, 3) := by decide +kernel
theorem dX2_copyFrom_13 : decode cX2_copyFrom 13 = .ok (.putfield 15, 3) := by decide +kernel
theorem dX2_copyFrom_16 : decode cX2_copyFrom 16 = .ok (.aload_n 0, 1) := by decide +kernel
theorem dX2_copyFrom_17 : decode cX2_copyFrom 17 = .ok (.aload_n 1, 1) := by decide +kernel
theorem dX2_copyFrom_18 : decode cX2_copyFrom 18 = .ok (.getfield 18, 3) := by decide +kernel
theorem dX2_copyFrom_21 : decode cX2_copyFrom 21 = .ok (.putfield 18, 3) := by decide +kernel
theorem dX2_copyFrom_24 : decode cX2_copyFrom 24 = .ok (.aload_n 0, 1) := by decide +kernel
theorem dX2_copyFrom_25 : decode cX2_copyFrom 25 = .ok (.aload_n 1, 1) := by decide +kernel
theorem dX2_copyFrom_26 : decode cX2_copyFrom 26 = .ok (.getfield 21, 3) := by decide +kernel
theorem dX2_copyFrom_29 : decode cX2_copyFrom 29 = .ok (.putfield 21, 3) := by decide +kernel
theorem dX2_copyFrom_32 : decode cX2_copyFrom 32 = .ok (.aload_n 0, 1) := by decide +kernel
theorem dX2_copyFrom_33 : decode cX2_copyFrom 33 = .ok (.aload_n 1, 1) := by decide +kernel
theorem dX2_copyFrom_34 : decode cX2_copyFrom 34 = .ok (.getfield 24, 3) := by decide +kernel
theorem dX2_copyFrom_37 : decode cX2_copyFrom 37 = .ok (.putfield 24, 3) := by decide +kernel
theorem dX2_copyFrom_40 : decode cX2_copyFrom 40 = .ok (.aload_n 0, 1) := by decide +kernel
theorem dX2_copyFrom_41 : decode cX2_copyFrom 41 = .ok (.aload_n 1, 1) := by decide +kernel
theorem dX2_copyFrom_42 : decode cX2_copyFrom 42 = .ok (.getfield 27, 3) := by decide +kernel
theorem dX2_copyFrom_45 : decode cX2_copyFrom 45 = .ok (.putfield 27, 3) := by decide +kernel
theorem dX2_copyFrom_48 : decode cX2_copyFrom 48 = .ok (.return_, 1) := by decide +kernel
theorem dX2_errands_0 : decode cX2_errands 0 = .ok (.aload_n 0, 1) := by decide +kernel
theorem dX2_errands_1 : decode cX2_errands 1 = .ok (.getfield 27, 3) := by decide +kernel
theorem dX2_errands_4 : decode cX2_errands 4 = .ok (.ifnonnull 7, 3) := by decide +kernel
theorem dX2_errands_7 : decode cX2_errands 7 = .ok (.iconst 0, 1) := by decide +kernel
theorem dX2_errands_8 : decode cX2_errands 8 = .ok (.goto 10, 3) := by decide +kernel
theorem dX2_errands_11 : decode cX2_errands 11 = .ok (.aload_n 0, 1) := by decide +kernel
theorem dX2_errands_12 : decode cX2_errands 12 = .ok (.getfield 27, 3) := by decide +kernel
theorem dX2_errands_15 : decode cX2_errands 15 = .ok (.getfield 31, 3) := by decide +kernel
theorem dX2_errands_18 : decode cX2_errands 18 = .ok (.ireturn, 1) := by decide +kernel
theorem dX2_tell_0 : decode cX2_tell 0 = .ok (.iload_n 1, 1) := by decide +kernel
theorem dX2_tell_1 : decode cX2_tell 1 = .ok (.tableswitch 94 0 6 #[43, 48, 53, 58, 63, 70, 89], 43) := by decide +kernel
theorem dX2_tell_44 : decode cX2_tell 44 = .ok (.aload_n 0, 1) := by decide +kernel
theorem dX2_tell_45 : decode cX2_tell 45 = .ok (.getfield 9, 3) := by decide +kernel
theorem dX2_tell_48 : decode cX2_tell 48 = .ok (.ireturn, 1) := by decide +kernel
theorem dX2_tell_49 : decode cX2_tell 49 = .ok (.aload_n 0, 1) := by decide +kernel
theorem dX2_tell_50 : decode cX2_tell 50 = .ok (.getfield 15, 3) := by decide +kernel
theorem dX2_tell_53 : decode cX2_tell 53 = .ok (.ireturn, 1) := by decide +kernel
theorem dX2_tell_54 : decode cX2_tell 54 = .ok (.aload_n 0, 1) := by decide +kernel
theorem dX2_tell_55 : decode cX2_tell 55 = .ok (.getfield 18, 3) := by decide +kernel
theorem dX2_tell_58 : decode cX2_tell 58 = .ok (.ireturn, 1) := by decide +kernel
theorem dX2_tell_59 : decode cX2_tell 59 = .ok (.aload_n 0, 1) := by decide +kernel
theorem dX2_tell_60 : decode cX2_tell 60 = .ok (.getfield 21, 3) := by decide +kernel
theorem dX2_tell_63 : decode cX2_tell 63 = .ok (.ireturn, 1) := by decide +kernel
theorem dX2_tell_64 : decode cX2_tell 64 = .ok (.aload_n 0, 1) := by decide +kernel
theorem dX2_tell_65 : decode cX2_tell 65 = .ok (.getfield 24, 3) := by decide +kernel
theorem dX2_tell_68 : decode cX2_tell 68 = .ok (.iload_n 2, 1) := by decide +kernel
theorem dX2_tell_69 : decode cX2_tell 69 = .ok (.isub, 1) := by decide +kernel
theorem dX2_tell_70 : decode cX2_tell 70 = .ok (.ireturn, 1) := by decide +kernel
theorem dX2_tell_71 : decode cX2_tell 71 = .ok (.aload_n 0, 1) := by decide +kernel
theorem dX2_tell_72 : decode cX2_tell 72 = .ok (.getfield 27, 3) := by decide +kernel
theorem dX2_tell_75 : decode cX2_tell 75 = .ok (.ifnonnull 7, 3) := by decide +kernel
theorem dX2_tell_78 : decode cX2_tell 78 = .ok (.iconst 0, 1) := by decide +kernel
theorem dX2_tell_79 : decode cX2_tell 79 = .ok (.goto 10, 3) := by decide +kernel
theorem dX2_tell_82 : decode cX2_tell 82 = .ok (.aload_n 0, 1) := by decide +kernel
theorem dX2_tell_83 : decode cX2_tell 83 = .ok (.getfield 27, 3) := by decide +kernel
theorem dX2_tell_86 : decode cX2_tell 86 = .ok (.getfield 36, 3) := by decide +kernel
theorem dX2_tell_89 : decode cX2_tell 89 = .ok (.ireturn, 1) := by decide +kernel
theorem dX2_tell_90 : decode cX2_tell 90 = .ok (.aload_n 0, 1) := by decide +kernel
theorem dX2_tell_91 : decode cX2_tell 91 = .ok (.invokevirtual 39, 3) := by decide +kernel
theorem dX2_tell_94 : decode cX2_tell 94 = .ok (.ireturn, 1) := by decide +kernel
theorem dX2_tell_95 : decode cX2_tell 95 = .ok (.bipush (-2), 2) := by decide +kernel
theorem dX2_tell_97 : decode cX2_tell 97 = .ok (.ireturn, 1) := by decide +kernel
theorem dX3_init_0 : decode cX3_init 0 = .ok (.aload_n 0, 1) := by decide +kernel
theorem dX3_init_1 : decode cX3_init 1 = .ok (.invokespecial 3, 3) := by decide +kernel
theorem dX3_init_4 : decode cX3_init 4 = .ok (.aload_n 0, 1) := by decide +kernel
theorem dX3_init_5 : decode cX3_init 5 = .ok (.bipush 15, 2) := by decide +kernel
theorem dX3_init_7 : decode cX3_init 7 = .ok (.anewarray 9, 3) := by decide +kernel
theorem dX3_init_10 : decode cX3_init 10 = .ok (.putfield 11, 3) := by decide +kernel
theorem dX3_init_13 : decode cX3_init 13 = .ok (.aload_n 0, 1) := by decide +kernel
theorem dX3_init_14 : decode cX3_init 14 = .ok (.bipush 15, 2) := by decide +kernel
theorem dX3_init_16 : decode cX3_init 16 = .ok (.anewarray 9, 3) := by decide +kernel
theorem dX3_init_19 : decode cX3_init 19 = .ok (.putfield 17, 3) := by decide +kernel
theorem dX3_init_22 : decode cX3_init 22 = .ok (.return_, 1) := by decide +kernel
theorem dX3_read_0 : decode cX3_read 0 = .ok (.aload_n 0, 1) := by decide +kernel
theorem dX3_read_1 : decode cX3_read 1 = .ok (.iconst 0, 1) := by decide +kernel
theorem dX3_read_2 : decode cX3_read 2 = .ok (.putfield 20, 3) := by decide +kernel
theorem dX3_read_5 : decode cX3_read 5 = .ok (.aload_n 0, 1) := by decide +kernel
theorem dX3_read_6 : decode cX3_read 6 = .ok (.iconst 0, 1) := by decide +kernel
theorem dX3_read_7 : decode cX3_read 7 = .ok (.putfield 24, 3) := by decide +kernel
theorem dX3_read_10 : decode cX3_read 10 = .ok (.aload_n 0, 1) := by decide +kernel
theorem dX3_read_11 : decode cX3_read 11 = .ok (.iconst 0, 1) := by decide +kernel
theorem dX3_read_12 : decode cX3_read 12 = .ok (.putfield 27, 3) := by decide +kernel
theorem dX3_read_15 : decode cX3_read 15 = .ok (.aload_n 0, 1) := by decide +kernel
theorem dX3_read_16 : decode cX3_read 16 = .ok (.iconst 0, 1) := by decide +kernel
theorem dX3_read_17 : decode cX3_read 17 = .ok (.putfield 30, 3) := by decide +kernel
theorem dX3_read_20 : decode cX3_read 20 = .ok (.aload_n 0, 1) := by decide +kernel
theorem dX3_read_21 : decode cX3_read 21 = .ok (.iconst 0, 1) := by decide +kernel
theorem dX3_read_22 : decode cX3_read 22 = .ok (.putfield 33, 3) := by decide +kernel
theorem dX3_read_25 : decode cX3_read 25 = .ok (.aload_n 0, 1) := by decide +kernel
theorem dX3_read_26 : decode cX3_read 26 = .ok (.iconst 0, 1) := by decide +kernel
theorem dX3_read_27 : decode cX3_read 27 = .ok (.putfield 36, 3) := by decide +kernel
theorem dX3_read_30 : decode cX3_read 30 = .ok (.aload_n 0, 1) := by decide +kernel
theorem dX3_read_31 : decode cX3_read 31 = .ok (.iconst 0, 1) := by decide +kernel
theorem dX3_read_32 : decode cX3_read 32 = .ok (.putfield 39, 3) := by decide +kernel
theorem dX3_read_35 : decode cX3_read 35 = .ok (.iconst 0, 1) := by decide +kernel
theorem dX3_read_36 : decode cX3_read 36 = .ok (.istore_n 3, 1) := by decide +kernel
theorem dX3_read_37 : decode cX3_read 37 = .ok (.iload_n 3, 1) := by decide +kernel
theorem dX3_read_38 : decode cX3_read 38 = .ok (.iload_n 2, 1) := by decide +kernel
theorem dX3_read_39 : decode cX3_read 39 = .ok (.if_icmp .ge 27, 3) := by decide +kernel
theorem dX3_read_42 : decode cX3_read 42 = .ok (.iload_n 3, 1) := by decide +kernel
theorem dX3_read_43 : decode cX3_read 43 = .ok (.aload_n 1, 1) := by decide +kernel
theorem dX3_read_44 : decode cX3_read 44 = .ok (.arraylength, 1) := by decide +kernel
theorem dX3_read_45 : decode cX3_read 45 = .ok (.if_icmp .ge 21, 3) := by decide +kernel
theorem dX3_read_48 : decode cX3_read 48 = .ok (.aload_n 0, 1) := by decide +kernel
theorem dX3_read_49 : decode cX3_read 49 = .ok (.aload_n 1, 1) := by decide +kernel
theorem dX3_read_50 : decode cX3_read 50 = .ok (.iload_n 3, 1) := by decide +kernel
theorem dX3_read_51 : decode cX3_read 51 = .ok (.caload, 1) := by decide +kernel
theorem dX3_read_52 : decode cX3_read 52 = .ok (.invokevirtual 42, 3) := by decide +kernel
theorem dX3_read_55 : decode cX3_read 55 = .ok (.ifCond .ne 5, 3) := by decide +kernel
theorem dX3_read_58 : decode cX3_read 58 = .ok (.iload_n 3, 1) := by decide +kernel
theorem dX3_read_59 : decode cX3_read 59 = .ok (.ireturn, 1) := by decide +kernel
theorem dX3_read_60 : decode cX3_read 60 = .ok (.iinc 3 1, 3) := by decide +kernel
theorem dX3_read_63 : decode cX3_read 63 = .ok (.goto (-26), 3) := by decide +kernel
theorem dX3_read_66 : decode cX3_read 66 = .ok (.aload_n 0, 1) := by decide +kernel
theorem dX3_read_67 : decode cX3_read 67 = .ok (.getfield 24, 3) := by decide +kernel
theorem dX3_read_70 : decode cX3_read 70 = .ok (.ifCond .ne 23, 3) := by decide +kernel
theorem dX3_read_73 : decode cX3_read 73 = .ok (.aload_n 0, 1) := by decide +kernel
theorem dX3_read_74 : decode cX3_read 74 = .ok (.getfield 27, 3) := by decide +kernel
theorem dX3_read_77 : decode cX3_read 77 = .ok (.iconst 3, 1) := by decide +kernel
theorem dX3_read_78 : decode cX3_read 78 = .ok (.if_icmp .eq 11, 3) := by decide +kernel
theorem dX3_read_81 : decode cX3_read 81 = .ok (.aload_n 0, 1) := by decide +kernel
theorem dX3_read_82 : decode cX3_read 82 = .ok (.getfield 27, 3) := by decide +kernel
theorem dX3_read_85 : decode cX3_read 85 = .ok (.iconst 4, 1) := by decide +kernel
theorem dX3_read_86 : decode cX3_read 86 = .ok (.if_icmp .ne 7, 3) := by decide +kernel
theorem dX3_read_89 : decode cX3_read 89 = .ok (.iconst (-1), 1) := by decide +kernel
theorem dX3_read_90 : decode cX3_read 90 = .ok (.goto 4, 3) := by decide +kernel
theorem dX3_read_93 : decode cX3_read 93 = .ok (.iload_n 2, 1) := by decide +kernel
theorem dX3_read_94 : decode cX3_read 94 = .ok (.ireturn, 1) := by decide +kernel
theorem dX3_take_0 : decode cX3_take 0 = .ok (.aload_n 0, 1) := by decide +kernel
theorem dX3_take_1 : decode cX3_take 1 = .ok (.getfield 27, 3) := by decide +kernel
theorem dX3_take_4 : decode cX3_take 4 = .ok (.tableswitch 72 0 3 #[32, 38, 55, 66], 32) := by decide +kernel
theorem dX3_take_36 : decode cX3_take 36 = .ok (.aload_n 0, 1) := by decide +kernel
theorem dX3_take_37 : decode cX3_take 37 = .ok (.iload_n 1, 1) := by decide +kernel
theorem dX3_take_38 : decode cX3_take 38 = .ok (.invokevirtual 46, 3) := by decide +kernel
theorem dX3_take_41 : decode cX3_take 41 = .ok (.ireturn, 1) := by decide +kernel
theorem dX3_take_42 : decode cX3_take 42 = .ok (.aload_n 0, 1) := by decide +kernel
theorem dX3_take_43 : decode cX3_take 43 = .ok (.iconst 2, 1) := by decide +kernel
theorem dX3_take_44 : decode cX3_take 44 = .ok (.putfield 27, 3) := by decide +kernel
theorem dX3_take_47 : decode cX3_take 47 = .ok (.iload_n 1, 1) := by decide +kernel
theorem dX3_take_48 : decode cX3_take 48 = .ok (.bipush 58, 2) := by decide +kernel
theorem dX3_take_50 : decode cX3_take 50 = .ok (.if_icmp .ne 7, 3) := by decide +kernel
theorem dX3_take_53 : decode cX3_take 53 = .ok (.iconst 1, 1) := by decide +kernel
theorem dX3_take_54 : decode cX3_take 54 = .ok (.goto 4, 3) := by decide +kernel
theorem dX3_take_57 : decode cX3_take 57 = .ok (.iconst 0, 1) := by decide +kernel
theorem dX3_take_58 : decode cX3_take 58 = .ok (.ireturn, 1) := by decide +kernel
theorem dX3_take_59 : decode cX3_take 59 = .ok (.aload_n 0, 1) := by decide +kernel
theorem dX3_take_60 : decode cX3_take 60 = .ok (.iconst 3, 1) := by decide +kernel
theorem dX3_take_61 : decode cX3_take 61 = .ok (.putfield 27, 3) := by decide +kernel
theorem dX3_take_64 : decode cX3_take 64 = .ok (.aload_n 0, 1) := by decide +kernel
theorem dX3_take_65 : decode cX3_take 65 = .ok (.iload_n 1, 1) := by decide +kernel
theorem dX3_take_66 : decode cX3_take 66 = .ok (.invokevirtual 49, 3) := by decide +kernel
theorem dX3_take_69 : decode cX3_take 69 = .ok (.ireturn, 1) := by decide +kernel
theorem dX3_take_70 : decode cX3_take 70 = .ok (.aload_n 0, 1) := by decide +kernel
theorem dX3_take_71 : decode cX3_take 71 = .ok (.iload_n 1, 1) := by decide +kernel
theorem dX3_take_72 : decode cX3_take 72 = .ok (.invokevirtual 52, 3) := by decide +kernel
theorem dX3_take_75 : decode cX3_take 75 = .ok (.ireturn, 1) := by decide +kernel
theorem dX3_take_76 : decode cX3_take 76 = .ok (.aload_n 0, 1) := by decide +kernel
theorem dX3_take_77 : decode cX3_take 77 = .ok (.iload_n 1, 1) := by decide +kernel
theorem dX3_take_78 : decode cX3_take 78 = .ok (.invokevirtual 55, 3) := by decide +kernel
theorem dX3_take_81 : decode cX3_take 81 = .ok (.ireturn, 1) := by decide +kernel
theorem dX3_takeHouse_0 : decode cX3_takeHouse 0 = .ok (.iload_n 1, 1) := by decide +kernel
theorem dX3_takeHouse_1 : decode cX3_takeHouse 1 = .ok (.bipush 48, 2) := by decide +kernel
theorem dX3_takeHouse_3 : decode cX3_takeHouse 3 = .ok (.if_icmp .lt 21, 3) := by decide +kernel
theorem dX3_takeHouse_6 : decode cX3_takeHouse 6 = .ok (.iload_n 1, 1) := by decide +kernel
theorem dX3_takeHouse_7 : decode cX3_takeHouse 7 = .ok (.bipush 54, 2) := by decide +kernel
theorem dX3_takeHouse_9 : decode cX3_takeHouse 9 = .ok (.if_icmp .ge 15, 3) := by decide +kernel
theorem dX3_takeHouse_12 : decode cX3_takeHouse 12 = .ok (.aload_n 0, 1) := by decide +kernel
theorem dX3_takeHouse_13 : decode cX3_takeHouse 13 = .ok (.getfield 24, 3) := by decide +kernel
theorem dX3_takeHouse_16 : decode cX3_takeHouse 16 = .ok (.aload_n 0, 1) := by decide +kernel
theorem dX3_takeHouse_17 : decode cX3_takeHouse 17 = .ok (.getfield 17, 3) := by decide +kernel
theorem dX3_takeHouse_20 : decode cX3_takeHouse 20 = .ok (.arraylength, 1) := by decide +kernel
theorem dX3_takeHouse_21 : decode cX3_takeHouse 21 = .ok (.if_icmp .lt 5, 3) := by decide +kernel
theorem dX3_takeHouse_24 : decode cX3_takeHouse 24 = .ok (.iconst 0, 1) := by decide +kernel
theorem dX3_takeHouse_25 : decode cX3_takeHouse 25 = .ok (.ireturn, 1) := by decide +kernel
theorem dX3_takeHouse_26 : decode cX3_takeHouse 26 = .ok (.new 9, 3) := by decide +kernel
theorem dX3_takeHouse_29 : decode cX3_takeHouse 29 = .ok (.dup, 1) := by decide +kernel
theorem dX3_takeHouse_30 : decode cX3_takeHouse 30 = .ok (.iload_n 1, 1) := by decide +kernel
theorem dX3_takeHouse_31 : decode cX3_takeHouse 31 = .ok (.bipush 48, 2) := by decide +kernel
theorem dX3_takeHouse_33 : decode cX3_takeHouse 33 = .ok (.isub, 1) := by decide +kernel
theorem dX3_takeHouse_34 : decode cX3_takeHouse 34 = .ok (.invokespecial 58, 3) := by decide +kernel
theorem dX3_takeHouse_37 : decode cX3_takeHouse 37 = .ok (.astore_n 2, 1) := by decide +kernel
theorem dX3_takeHouse_38 : decode cX3_takeHouse 38 = .ok (.aload_n 0, 1) := by decide +kernel
theorem dX3_takeHouse_39 : decode cX3_takeHouse 39 = .ok (.aload_n 2, 1) := by decide +kernel
theorem dX3_takeHouse_40 : decode cX3_takeHouse 40 = .ok (.invokevirtual 61, 3) := by decide +kernel
theorem dX3_takeHouse_43 : decode cX3_takeHouse 43 = .ok (.ifCond .ne 5, 3) := by decide +kernel
theorem dX3_takeHouse_46 : decode cX3_takeHouse 46 = .ok (.iconst 0, 1) := by decide +kernel
theorem dX3_takeHouse_47 : decode cX3_takeHouse 47 = .ok (.ireturn, 1) := by decide +kernel
theorem dX3_takeHouse_48 : decode cX3_takeHouse 48 = .ok (.aload_n 0, 1) := by decide +kernel
theorem dX3_takeHouse_49 : decode cX3_takeHouse 49 = .ok (.getfield 17, 3) := by decide +kernel
theorem dX3_takeHouse_52 : decode cX3_takeHouse 52 = .ok (.aload_n 0, 1) := by decide +kernel
theorem dX3_takeHouse_53 : decode cX3_takeHouse 53 = .ok (.getfield 24, 3) := by decide +kernel
theorem dX3_takeHouse_56 : decode cX3_takeHouse 56 = .ok (.aload_n 2, 1) := by decide +kernel
theorem dX3_takeHouse_57 : decode cX3_takeHouse 57 = .ok (.aastore, 1) := by decide +kernel
theorem dX3_takeHouse_58 : decode cX3_takeHouse 58 = .ok (.aload_n 0, 1) := by decide +kernel
theorem dX3_takeHouse_59 : decode cX3_takeHouse 59 = .ok (.dup, 1) := by decide +kernel
theorem dX3_takeHouse_60 : decode cX3_takeHouse 60 = .ok (.getfield 30, 3) := by decide +kernel
theorem dX3_takeHouse_63 : decode cX3_takeHouse 63 = .ok (.iconst 1, 1) := by decide +kernel
theorem dX3_takeHouse_64 : decode cX3_takeHouse 64 = .ok (.iadd, 1) := by decide +kernel
theorem dX3_takeHouse_65 : decode cX3_takeHouse 65 = .ok (.putfield 30, 3) := by decide +kernel
theorem dX3_takeHouse_68 : decode cX3_takeHouse 68 = .ok (.aload_n 0, 1) := by decide +kernel
theorem dX3_takeHouse_69 : decode cX3_takeHouse 69 = .ok (.aload_n 0, 1) := by decide +kernel
theorem dX3_takeHouse_70 : decode cX3_takeHouse 70 = .ok (.getfield 36, 3) := by decide +kernel
theorem dX3_takeHouse_73 : decode cX3_takeHouse 73 = .ok (.aload_n 0, 1) := by decide +kernel
theorem dX3_takeHouse_74 : decode cX3_takeHouse 74 = .ok (.getfield 24, 3) := by decide +kernel
theorem dX3_takeHouse_77 : decode cX3_takeHouse 77 = .ok (.iconst 1, 1) := by decide +kernel
theorem dX3_takeHouse_78 : decode cX3_takeHouse 78 = .ok (.iadd, 1) := by decide +kernel
theorem dX3_takeHouse_79 : decode cX3_takeHouse 79 = .ok (.invokestatic 65, 3) := by decide +kernel
theorem dX3_takeHouse_82 : decode cX3_takeHouse 82 = .ok (.putfield 36, 3) := by decide +kernel
theorem dX3_takeHouse_85 : decode cX3_takeHouse 85 = .ok (.aload_n 0, 1) := by decide +kernel
theorem dX3_takeHouse_86 : decode cX3_takeHouse 86 = .ok (.iconst 1, 1) := by decide +kernel
theorem dX3_takeHouse_87 : decode cX3_takeHouse 87 = .ok (.putfield 27, 3) := by decide +kernel
theorem dX3_takeHouse_90 : decode cX3_takeHouse 90 = .ok (.iconst 1, 1) := by decide +kernel
theorem dX3_takeHouse_91 : decode cX3_takeHouse 91 = .ok (.ireturn, 1) := by decide +kernel
theorem dX3_putInPlace_0 : decode cX3_putInPlace 0 = .ok (.aload_n 0, 1) := by decide +kernel
theorem dX3_putInPlace_1 : decode cX3_putInPlace 1 = .ok (.getfield 24, 3) := by decide +kernel
theorem dX3_putInPlace_4 : decode cX3_putInPlace 4 = .ok (.ifCond .ne 39, 3) := by decide +kernel
theorem dX3_putInPlace_7 : decode cX3_putInPlace 7 = .ok (.aload_n 0, 1) := by decide +kernel
theorem dX3_putInPlace_8 : decode cX3_putInPlace 8 = .ok (.getfield 20, 3) := by decide +kernel
theorem dX3_putInPlace_11 : decode cX3_putInPlace 11 = .ok (.aload_n 0, 1) := by decide +kernel
theorem dX3_putInPlace_12 : decode cX3_putInPlace 12 = .ok (.getfield 11, 3) := by decide +kernel
theorem dX3_putInPlace_15 : decode cX3_putInPlace 15 = .ok (.arraylength, 1) := by decide +kernel
theorem dX3_putInPlace_16 : decode cX3_putInPlace 16 = .ok (.if_icmp .lt 5, 3) := by decide +kernel
theorem dX3_putInPlace_19 : decode cX3_putInPlace 19 = .ok (.iconst 0, 1) := by decide +kernel
theorem dX3_putInPlace_20 : decode cX3_putInPlace 20 = .ok (.ireturn, 1) := by decide +kernel
theorem dX3_putInPlace_21 : decode cX3_putInPlace 21 = .ok (.aload_n 0, 1) := by decide +kernel
theorem dX3_putInPlace_22 : decode cX3_putInPlace 22 = .ok (.getfield 11, 3) := by decide +kernel
theorem dX3_putInPlace_25 : decode cX3_putInPlace 25 = .ok (.aload_n 0, 1) := by decide +kernel
theorem dX3_putInPlace_26 : decode cX3_putInPlace 26 = .ok (.getfield 20, 3) := by decide +kernel
theorem dX3_putInPlace_29 : decode cX3_putInPlace 29 = .ok (.aload_n 1, 1) := by decide +kernel
theorem dX3_putInPlace_30 : decode cX3_putInPlace 30 = .ok (.aastore, 1) := by decide +kernel
theorem dX3_putInPlace_31 : decode cX3_putInPlace 31 = .ok (.aload_n 0, 1) := by decide +kernel
theorem dX3_putInPlace_32 : decode cX3_putInPlace 32 = .ok (.dup, 1) := by decide +kernel
theorem dX3_putInPlace_33 : decode cX3_putInPlace 33 = .ok (.getfield 20, 3) := by decide +kernel
theorem dX3_putInPlace_36 : decode cX3_putInPlace 36 = .ok (.iconst 1, 1) := by decide +kernel
theorem dX3_putInPlace_37 : decode cX3_putInPlace 37 = .ok (.iadd, 1) := by decide +kernel
theorem dX3_putInPlace_38 : decode cX3_putInPlace 38 = .ok (.putfield 20, 3) := by decide +kernel
theorem dX3_putInPlace_41 : decode cX3_putInPlace 41 = .ok (.iconst 1, 1) := by decide +kernel
theorem dX3_putInPlace_42 : decode cX3_putInPlace 42 = .ok (.ireturn, 1) := by decide +kernel
theorem dX3_putInPlace_43 : decode cX3_putInPlace 43 = .ok (.aload_n 0, 1) := by decide +kernel
theorem dX3_putInPlace_44 : decode cX3_putInPlace 44 = .ok (.getfield 17, 3) := by decide +kernel
theorem dX3_putInPlace_47 : decode cX3_putInPlace 47 = .ok (.aload_n 0, 1) := by decide +kernel
theorem dX3_putInPlace_48 : decode cX3_putInPlace 48 = .ok (.getfield 24, 3) := by decide +kernel
theorem dX3_putInPlace_51 : decode cX3_putInPlace 51 = .ok (.iconst 1, 1) := by decide +kernel
theorem dX3_putInPlace_52 : decode cX3_putInPlace 52 = .ok (.isub, 1) := by decide +kernel
theorem dX3_putInPlace_53 : decode cX3_putInPlace 53 = .ok (.aaload, 1) := by decide +kernel
theorem dX3_putInPlace_54 : decode cX3_putInPlace 54 = .ok (.astore_n 2, 1) := by decide +kernel
theorem dX3_putInPlace_55 : decode cX3_putInPlace 55 = .ok (.aload_n 2, 1) := by decide +kernel
theorem dX3_putInPlace_56 : decode cX3_putInPlace 56 = .ok (.ifnonnull 5, 3) := by decide +kernel
theorem dX3_putInPlace_59 : decode cX3_putInPlace 59 = .ok (.iconst 0, 1) := by decide +kernel
theorem dX3_putInPlace_60 : decode cX3_putInPlace 60 = .ok (.ireturn, 1) := by decide +kernel
theorem dX3_putInPlace_61 : decode cX3_putInPlace 61 = .ok (.aload_n 2, 1) := by decide +kernel
theorem dX3_putInPlace_62 : decode cX3_putInPlace 62 = .ok (.aload_n 1, 1) := by decide +kernel
theorem dX3_putInPlace_63 : decode cX3_putInPlace 63 = .ok (.invokevirtual 71, 3) := by decide +kernel
theorem dX3_putInPlace_66 : decode cX3_putInPlace 66 = .ok (.aload_n 0, 1) := by decide +kernel
theorem dX3_putInPlace_67 : decode cX3_putInPlace 67 = .ok (.aload_n 0, 1) := by decide +kernel
theorem dX3_putInPlace_68 : decode cX3_putInPlace 68 = .ok (.getfield 39, 3) := by decide +kernel
theorem dX3_putInPlace_71 : decode cX3_putInPlace 71 = .ok (.aload_n 2, 1) := by decide +kernel
theorem dX3_putInPlace_72 : decode cX3_putInPlace 72 = .ok (.getfield 75, 3) := by decide +kernel
theorem dX3_putInPlace_75 : decode cX3_putInPlace 75 = .ok (.invokestatic 65, 3) := by decide +kernel
theorem dX3_putInPlace_78 : decode cX3_putInPlace 78 = .ok (.putfield 39, 3) := by decide +kernel
theorem dX3_putInPlace_81 : decode cX3_putInPlace 81 = .ok (.aload_n 0, 1) := by decide +kernel
theorem dX3_putInPlace_82 : decode cX3_putInPlace 82 = .ok (.invokevirtual 78, 3) := by decide +kernel
theorem dX3_putInPlace_85 : decode cX3_putInPlace 85 = .ok (.iconst 1, 1) := by decide +kernel
theorem dX3_putInPlace_86 : decode cX3_putInPlace 86 = .ok (.ireturn, 1) := by decide +kernel
theorem dX3_countWithin_0 : decode cX3_countWithin 0 = .ok (.iconst 0, 1) := by decide +kernel
theorem dX3_countWithin_1 : decode cX3_countWithin 1 = .ok (.istore_n 1, 1) := by decide +kernel
theorem dX3_countWithin_2 : decode cX3_countWithin 2 = .ok (.iload_n 1, 1) := by decide +kernel
theorem dX3_countWithin_3 : decode cX3_countWithin 3 = .ok (.aload_n 0, 1) := by decide +kernel
theorem dX3_countWithin_4 : decode cX3_countWithin 4 = .ok (.getfield 24, 3) := by decide +kernel
theorem dX3_countWithin_7 : decode cX3_countWithin 7 = .ok (.if_icmp .ge 42, 3) := by decide +kernel
theorem dX3_countWithin_10 : decode cX3_countWithin 10 = .ok (.iload_n 1, 1) := by decide +kernel
theorem dX3_countWithin_11 : decode cX3_countWithin 11 = .ok (.aload_n 0, 1) := by decide +kernel
theorem dX3_countWithin_12 : decode cX3_countWithin 12 = .ok (.getfield 17, 3) := by decide +kernel
theorem dX3_countWithin_15 : decode cX3_countWithin 15 = .ok (.arraylength, 1) := by decide +kernel
theorem dX3_countWithin_16 : decode cX3_countWithin 16 = .ok (.if_icmp .ge 33, 3) := by decide +kernel
theorem dX3_countWithin_19 : decode cX3_countWithin 19 = .ok (.aload_n 0, 1) := by decide +kernel
theorem dX3_countWithin_20 : decode cX3_countWithin 20 = .ok (.getfield 17, 3) := by decide +kernel
theorem dX3_countWithin_23 : decode cX3_countWithin 23 = .ok (.iload_n 1, 1) := by decide +kernel
theorem dX3_countWithin_24 : decode cX3_countWithin 24 = .ok (.aaload, 1) := by decide +kernel
theorem dX3_countWithin_25 : decode cX3_countWithin 25 = .ok (.ifnull 18, 3) := by decide +kernel
theorem dX3_countWithin_28 : decode cX3_countWithin 28 = .ok (.aload_n 0, 1) := by decide +kernel
theorem dX3_countWithin_29 : decode cX3_countWithin 29 = .ok (.getfield 17, 3) := by decide +kernel
theorem dX3_countWithin_32 : decode cX3_countWithin 32 = .ok (.iload_n 1, 1) := by decide +kernel
theorem dX3_countWithin_33 : decode cX3_countWithin 33 = .ok (.aaload, 1) := by decide +kernel
theorem dX3_countWithin_34 : decode cX3_countWithin 34 = .ok (.dup, 1) := by decide +kernel
theorem dX3_countWithin_35 : decode cX3_countWithin 35 = .ok (.getfield 81, 3) := by decide +kernel
theorem dX3_countWithin_38 : decode cX3_countWithin 38 = .ok (.iconst 1, 1) := by decide +kernel
theorem dX3_countWithin_39 : decode cX3_countWithin 39 = .ok (.iadd, 1) := by decide +kernel
theorem dX3_countWithin_40 : decode cX3_countWithin 40 = .ok (.putfield 81, 3) := by decide +kernel
theorem dX3_countWithin_43 : decode cX3_countWithin 43 = .ok (.iinc 1 1, 3) := by decide +kernel
theorem dX3_countWithin_46 : decode cX3_countWithin 46 = .ok (.goto (-44), 3) := by decide +kernel
theorem dX3_countWithin_49 : decode cX3_countWithin 49 = .ok (.return_, 1) := by decide +kernel
theorem dX3_takeDigit_0 : decode cX3_takeDigit 0 = .ok (.aload_n 0, 1) := by decide +kernel
theorem dX3_takeDigit_1 : decode cX3_takeDigit 1 = .ok (.getfield 24, 3) := by decide +kernel
theorem dX3_takeDigit_4 : decode cX3_takeDigit 4 = .ok (.aload_n 0, 1) := by decide +kernel
theorem dX3_takeDigit_5 : decode cX3_takeDigit 5 = .ok (.getfield 17, 3) := by decide +kernel
theorem dX3_takeDigit_8 : decode cX3_takeDigit 8 = .ok (.arraylength, 1) := by decide +kernel
theorem dX3_takeDigit_9 : decode cX3_takeDigit 9 = .ok (.if_icmp .ge 15, 3) := by decide +kernel
theorem dX3_takeDigit_12 : decode cX3_takeDigit 12 = .ok (.aload_n 0, 1) := by decide +kernel
theorem dX3_takeDigit_13 : decode cX3_takeDigit 13 = .ok (.getfield 17, 3) := by decide +kernel
theorem dX3_takeDigit_16 : decode cX3_takeDigit 16 = .ok (.aload_n 0, 1) := by decide +kernel
theorem dX3_takeDigit_17 : decode cX3_takeDigit 17 = .ok (.getfield 24, 3) := by decide +kernel
theorem dX3_takeDigit_20 : decode cX3_takeDigit 20 = .ok (.aaload, 1) := by decide +kernel
theorem dX3_takeDigit_21 : decode cX3_takeDigit 21 = .ok (.goto 4, 3) := by decide +kernel
theorem dX3_takeDigit_24 : decode cX3_takeDigit 24 = .ok (.aconst_null, 1) := by decide +kernel
theorem dX3_takeDigit_25 : decode cX3_takeDigit 25 = .ok (.astore_n 2, 1) := by decide +kernel
theorem dX3_takeDigit_26 : decode cX3_takeDigit 26 = .ok (.aload_n 2, 1) := by decide +kernel
theorem dX3_takeDigit_27 : decode cX3_takeDigit 27 = .ok (.ifnull 15, 3) := by decide +kernel
theorem dX3_takeDigit_30 : decode cX3_takeDigit 30 = .ok (.iload_n 1, 1) := by decide +kernel
theorem dX3_takeDigit_31 : decode cX3_takeDigit 31 = .ok (.bipush 48, 2) := by decide +kernel
theorem dX3_takeDigit_33 : decode cX3_takeDigit 33 = .ok (.if_icmp .lt 9, 3) := by decide +kernel
theorem dX3_takeDigit_36 : decode cX3_takeDigit 36 = .ok (.iload_n 1, 1) := by decide +kernel
theorem dX3_takeDigit_37 : decode cX3_takeDigit 37 = .ok (.bipush 57, 2) := by decide +kernel
theorem dX3_takeDigit_39 : decode cX3_takeDigit 39 = .ok (.if_icmp .le 5, 3) := by decide +kernel
theorem dX3_takeDigit_42 : decode cX3_takeDigit 42 = .ok (.iconst 0, 1) := by decide +kernel
theorem dX3_takeDigit_43 : decode cX3_takeDigit 43 = .ok (.ireturn, 1) := by decide +kernel
theorem dX3_takeDigit_44 : decode cX3_takeDigit 44 = .ok (.aload_n 2, 1) := by decide +kernel
theorem dX3_takeDigit_45 : decode cX3_takeDigit 45 = .ok (.getfield 82, 3) := by decide +kernel
theorem dX3_takeDigit_48 : decode cX3_takeDigit 48 = .ok (.bipush 10, 2) := by decide +kernel
theorem dX3_takeDigit_50 : decode cX3_takeDigit 50 = .ok (.imul, 1) := by decide +kernel
theorem dX3_takeDigit_51 : decode cX3_takeDigit 51 = .ok (.iload_n 1, 1) := by decide +kernel
theorem dX3_takeDigit_52 : decode cX3_takeDigit 52 = .ok (.bipush 48, 2) := by decide +kernel
theorem dX3_takeDigit_54 : decode cX3_takeDigit 54 = .ok (.isub, 1) := by decide +kernel
theorem dX3_takeDigit_55 : decode cX3_takeDigit 55 = .ok (.iadd, 1) := by decide +kernel
theorem dX3_takeDigit_56 : decode cX3_takeDigit 56 = .ok (.istore_n 3, 1) := by decide +kernel
theorem dX3_takeDigit_57 : decode cX3_takeDigit 57 = .ok (.iload_n 3, 1) := by decide +kernel
theorem dX3_takeDigit_58 : decode cX3_takeDigit 58 = .ok (.bipush 20, 2) := by decide +kernel
theorem dX3_takeDigit_60 : decode cX3_takeDigit 60 = .ok (.if_icmp .le 5, 3) := by decide +kernel
theorem dX3_takeDigit_63 : decode cX3_takeDigit 63 = .ok (.iconst 0, 1) := by decide +kernel
theorem dX3_takeDigit_64 : decode cX3_takeDigit 64 = .ok (.ireturn, 1) := by decide +kernel
theorem dX3_takeDigit_65 : decode cX3_takeDigit 65 = .ok (.aload_n 0, 1) := by decide +kernel
theorem dX3_takeDigit_66 : decode cX3_takeDigit 66 = .ok (.dup, 1) := by decide +kernel
theorem dX3_takeDigit_67 : decode cX3_takeDigit 67 = .ok (.getfield 33, 3) := by decide +kernel
theorem dX3_takeDigit_70 : decode cX3_takeDigit 70 = .ok (.iload_n 3, 1) := by decide +kernel
theorem dX3_takeDigit_71 : decode cX3_takeDigit 71 = .ok (.aload_n 2, 1) := by decide +kernel
theorem dX3_takeDigit_72 : decode cX3_takeDigit 72 = .ok (.getfield 82, 3) := by decide +kernel
theorem dX3_takeDigit_75 : decode cX3_takeDigit 75 = .ok (.isub, 1) := by decide +kernel
theorem dX3_takeDigit_76 : decode cX3_takeDigit 76 = .ok (.iadd, 1) := by decide +kernel
theorem dX3_takeDigit_77 : decode cX3_takeDigit 77 = .ok (.putfield 33, 3) := by decide +kernel
theorem dX3_takeDigit_80 : decode cX3_takeDigit 80 = .ok (.aload_n 2, 1) := by decide +kernel
theorem dX3_takeDigit_81 : decode cX3_takeDigit 81 = .ok (.iload_n 3, 1) := by decide +kernel
theorem dX3_takeDigit_82 : decode cX3_takeDigit 82 = .ok (.putfield 82, 3) := by decide +kernel
theorem dX3_takeDigit_85 : decode cX3_takeDigit 85 = .ok (.iconst 1, 1) := by decide +kernel
theorem dX3_takeDigit_86 : decode cX3_takeDigit 86 = .ok (.ireturn, 1) := by decide +kernel
theorem dX3_takeInWork_0 : decode cX3_takeInWork 0 = .ok (.iload_n 1, 1) := by decide +kernel
theorem dX3_takeInWork_1 : decode cX3_takeInWork 1 = .ok (.bipush 40, 2) := by decide +kernel
theorem dX3_takeInWork_3 : decode cX3_takeInWork 3 = .ok (.if_icmp .ne 20, 3) := by decide +kernel
theorem dX3_takeInWork_6 : decode cX3_takeInWork 6 = .ok (.aload_n 0, 1) := by decide +kernel
theorem dX3_takeInWork_7 : decode cX3_takeInWork 7 = .ok (.dup, 1) := by decide +kernel
theorem dX3_takeInWork_8 : decode cX3_takeInWork 8 = .ok (.getfield 24, 3) := by decide +kernel
theorem dX3_takeInWork_11 : decode cX3_takeInWork 11 = .ok (.iconst 1, 1) := by decide +kernel
theorem dX3_takeInWork_12 : decode cX3_takeInWork 12 = .ok (.iadd, 1) := by decide +kernel
theorem dX3_takeInWork_13 : decode cX3_takeInWork 13 = .ok (.putfield 24, 3) := by decide +kernel
theorem dX3_takeInWork_16 : decode cX3_takeInWork 16 = .ok (.aload_n 0, 1) := by decide +kernel
theorem dX3_takeInWork_17 : decode cX3_takeInWork 17 = .ok (.iconst 0, 1) := by decide +kernel
theorem dX3_takeInWork_18 : decode cX3_takeInWork 18 = .ok (.putfield 27, 3) := by decide +kernel
theorem dX3_takeInWork_21 : decode cX3_takeInWork 21 = .ok (.iconst 1, 1) := by decide +kernel
theorem dX3_takeInWork_22 : decode cX3_takeInWork 22 = .ok (.ireturn, 1) := by decide +kernel
theorem dX3_takeInWork_23 : decode cX3_takeInWork 23 = .ok (.iload_n 1, 1) := by decide +kernel
theorem dX3_takeInWork_24 : decode cX3_takeInWork 24 = .ok (.bipush 48, 2) := by decide +kernel
theorem dX3_takeInWork_26 : decode cX3_takeInWork 26 = .ok (.if_icmp .lt 30, 3) := by decide +kernel
theorem dX3_takeInWork_29 : decode cX3_takeInWork 29 = .ok (.iload_n 1, 1) := by decide +kernel
theorem dX3_takeInWork_30 : decode cX3_takeInWork 30 = .ok (.bipush 57, 2) := by decide +kernel
theorem dX3_takeInWork_32 : decode cX3_takeInWork 32 = .ok (.if_icmp .gt 24, 3) := by decide +kernel
theorem dX3_takeInWork_35 : decode cX3_takeInWork 35 = .ok (.aload_n 0, 1) := by decide +kernel
theorem dX3_takeInWork_36 : decode cX3_takeInWork 36 = .ok (.invokevirtual 85, 3) := by decide +kernel
theorem dX3_takeInWork_39 : decode cX3_takeInWork 39 = .ok (.ifCond .ne 15, 3) := by decide +kernel
theorem dX3_takeInWork_42 : decode cX3_takeInWork 42 = .ok (.aload_n 0, 1) := by decide +kernel
theorem dX3_takeInWork_43 : decode cX3_takeInWork 43 = .ok (.iload_n 1, 1) := by decide +kernel
theorem dX3_takeInWork_44 : decode cX3_takeInWork 44 = .ok (.invokevirtual 49, 3) := by decide +kernel
theorem dX3_takeInWork_47 : decode cX3_takeInWork 47 = .ok (.ifCond .eq 7, 3) := by decide +kernel
theorem dX3_takeInWork_50 : decode cX3_takeInWork 50 = .ok (.iconst 1, 1) := by decide +kernel
theorem dX3_takeInWork_51 : decode cX3_takeInWork 51 = .ok (.goto 4, 3) := by decide +kernel
theorem dX3_takeInWork_54 : decode cX3_takeInWork 54 = .ok (.iconst 0, 1) := by decide +kernel
theorem dX3_takeInWork_55 : decode cX3_takeInWork 55 = .ok (.ireturn, 1) := by decide +kernel
theorem dX3_takeInWork_56 : decode cX3_takeInWork 56 = .ok (.aload_n 0, 1) := by decide +kernel
theorem dX3_takeInWork_57 : decode cX3_takeInWork 57 = .ok (.iload_n 1, 1) := by decide +kernel
theorem dX3_takeInWork_58 : decode cX3_takeInWork 58 = .ok (.invokevirtual 55, 3) := by decide +kernel
theorem dX3_takeInWork_61 : decode cX3_takeInWork 61 = .ok (.ireturn, 1) := by decide +kernel
theorem dX3_isWorkZero_0 : decode cX3_isWorkZero 0 = .ok (.aload_n 0, 1) := by decide +kernel
theorem dX3_isWorkZero_1 : decode cX3_isWorkZero 1 = .ok (.getfield 24, 3) := by decide +kernel
theorem dX3_isWorkZero_4 : decode cX3_isWorkZero 4 = .ok (.aload_n 0, 1) := by decide +kernel
theorem dX3_isWorkZero_5 : decode cX3_isWorkZero 5 = .ok (.getfield 17, 3) := by decide +kernel
theorem dX3_isWorkZero_8 : decode cX3_isWorkZero 8 = .ok (.arraylength, 1) := by decide +kernel
theorem dX3_isWorkZero_9 : decode cX3_isWorkZero 9 = .ok (.if_icmp .ge 34, 3) := by decide +kernel
theorem dX3_isWorkZero_12 : decode cX3_isWorkZero 12 = .ok (.aload_n 0, 1) := by decide +kernel
theorem dX3_isWorkZero_13 : decode cX3_isWorkZero 13 = .ok (.getfield 17, 3) := by decide +kernel
theorem dX3_isWorkZero_16 : decode cX3_isWorkZero 16 = .ok (.aload_n 0, 1) := by decide +kernel
theorem dX3_isWorkZero_17 : decode cX3_isWorkZero 17 = .ok (.getfield 24, 3) := by decide +kernel
theorem dX3_isWorkZero_20 : decode cX3_isWorkZero 20 = .ok (.aaload, 1) := by decide +kernel
theorem dX3_isWorkZero_21 : decode cX3_isWorkZero 21 = .ok (.ifnull 22, 3) := by decide +kernel
theorem dX3_isWorkZero_24 : decode cX3_isWorkZero 24 = .ok (.aload_n 0, 1) := by decide +kernel
theorem dX3_isWorkZero_25 : decode cX3_isWorkZero 25 = .ok (.getfield 17, 3) := by decide +kernel
theorem dX3_isWorkZero_28 : decode cX3_isWorkZero 28 = .ok (.aload_n 0, 1) := by decide +kernel
theorem dX3_isWorkZero_29 : decode cX3_isWorkZero 29 = .ok (.getfield 24, 3) := by decide +kernel
theorem dX3_isWorkZero_32 : decode cX3_isWorkZero 32 = .ok (.aaload, 1) := by decide +kernel
theorem dX3_isWorkZero_33 : decode cX3_isWorkZero 33 = .ok (.getfield 82, 3) := by decide +kernel
theorem dX3_isWorkZero_36 : decode cX3_isWorkZero 36 = .ok (.ifCond .ne 7, 3) := by decide +kernel
theorem dX3_isWorkZero_39 : decode cX3_isWorkZero 39 = .ok (.iconst 1, 1) := by decide +kernel
theorem dX3_isWorkZero_40 : decode cX3_isWorkZero 40 = .ok (.goto 4, 3) := by decide +kernel
theorem dX3_isWorkZero_43 : decode cX3_isWorkZero 43 = .ok (.iconst 0, 1) := by decide +kernel
theorem dX3_isWorkZero_44 : decode cX3_isWorkZero 44 = .ok (.ireturn, 1) := by decide +kernel
theorem dX3_takeAfter_0 : decode cX3_takeAfter 0 = .ok (.iload_n 1, 1) := by decide +kernel
theorem dX3_takeAfter_1 : decode cX3_takeAfter 1 = .ok (.bipush 41, 2) := by decide +kernel
theorem dX3_takeAfter_3 : decode cX3_takeAfter 3 = .ok (.if_icmp .ne 27, 3) := by decide +kernel
theorem dX3_takeAfter_6 : decode cX3_takeAfter 6 = .ok (.aload_n 0, 1) := by decide +kernel
theorem dX3_takeAfter_7 : decode cX3_takeAfter 7 = .ok (.getfield 24, 3) := by decide +kernel
theorem dX3_takeAfter_10 : decode cX3_takeAfter 10 = .ok (.ifCond .le 20, 3) := by decide +kernel
theorem dX3_takeAfter_13 : decode cX3_takeAfter 13 = .ok (.aload_n 0, 1) := by decide +kernel
theorem dX3_takeAfter_14 : decode cX3_takeAfter 14 = .ok (.dup, 1) := by decide +kernel
theorem dX3_takeAfter_15 : decode cX3_takeAfter 15 = .ok (.getfield 24, 3) := by decide +kernel
theorem dX3_takeAfter_18 : decode cX3_takeAfter 18 = .ok (.iconst 1, 1) := by decide +kernel
theorem dX3_takeAfter_19 : decode cX3_takeAfter 19 = .ok (.isub, 1) := by decide +kernel
theorem dX3_takeAfter_20 : decode cX3_takeAfter 20 = .ok (.putfield 24, 3) := by decide +kernel
theorem dX3_takeAfter_23 : decode cX3_takeAfter 23 = .ok (.aload_n 0, 1) := by decide +kernel
theorem dX3_takeAfter_24 : decode cX3_takeAfter 24 = .ok (.iconst 4, 1) := by decide +kernel
theorem dX3_takeAfter_25 : decode cX3_takeAfter 25 = .ok (.putfield 27, 3) := by decide +kernel
theorem dX3_takeAfter_28 : decode cX3_takeAfter 28 = .ok (.iconst 1, 1) := by decide +kernel
theorem dX3_takeAfter_29 : decode cX3_takeAfter 29 = .ok (.ireturn, 1) := by decide +kernel
theorem dX3_takeAfter_30 : decode cX3_takeAfter 30 = .ok (.aload_n 0, 1) := by decide +kernel
theorem dX3_takeAfter_31 : decode cX3_takeAfter 31 = .ok (.iconst 0, 1) := by decide +kernel
theorem dX3_takeAfter_32 : decode cX3_takeAfter 32 = .ok (.putfield 27, 3) := by decide +kernel
theorem dX3_takeAfter_35 : decode cX3_takeAfter 35 = .ok (.aload_n 0, 1) := by decide +kernel
theorem dX3_takeAfter_36 : decode cX3_takeAfter 36 = .ok (.getfield 24, 3) := by decide +kernel
theorem dX3_takeAfter_39 : decode cX3_takeAfter 39 = .ok (.ifCond .ne 17, 3) := by decide +kernel
theorem dX3_takeAfter_42 : decode cX3_takeAfter 42 = .ok (.iload_n 1, 1) := by decide +kernel
theorem dX3_takeAfter_43 : decode cX3_takeAfter 43 = .ok (.bipush 59, 2) := by decide +kernel
theorem dX3_takeAfter_45 : decode cX3_takeAfter 45 = .ok (.if_icmp .ne 7, 3) := by decide +kernel
theorem dX3_takeAfter_48 : decode cX3_takeAfter 48 = .ok (.iconst 1, 1) := by decide +kernel
theorem dX3_takeAfter_49 : decode cX3_takeAfter 49 = .ok (.goto 18, 3) := by decide +kernel
theorem dX3_takeAfter_52 : decode cX3_takeAfter 52 = .ok (.iconst 0, 1) := by decide +kernel
theorem dX3_takeAfter_53 : decode cX3_takeAfter 53 = .ok (.goto 14, 3) := by decide +kernel
theorem dX3_takeAfter_56 : decode cX3_takeAfter 56 = .ok (.iload_n 1, 1) := by decide +kernel
theorem dX3_takeAfter_57 : decode cX3_takeAfter 57 = .ok (.bipush 44, 2) := by decide +kernel
theorem dX3_takeAfter_59 : decode cX3_takeAfter 59 = .ok (.if_icmp .ne 7, 3) := by decide +kernel
theorem dX3_takeAfter_62 : decode cX3_takeAfter 62 = .ok (.iconst 1, 1) := by decide +kernel
theorem dX3_takeAfter_63 : decode cX3_takeAfter 63 = .ok (.goto 4, 3) := by decide +kernel
theorem dX3_takeAfter_66 : decode cX3_takeAfter 66 = .ok (.iconst 0, 1) := by decide +kernel
theorem dX3_takeAfter_67 : decode cX3_takeAfter 67 = .ok (.ireturn, 1) := by decide +kernel
theorem dX3_tell_0 : decode cX3_tell 0 = .ok (.iload_n 1, 1) := by decide +kernel
theorem dX3_tell_1 : decode cX3_tell 1 = .ok (.tableswitch 51 0 3 #[31, 36, 41, 46], 31) := by decide +kernel
theorem dX3_tell_32 : decode cX3_tell 32 = .ok (.aload_n 0, 1) := by decide +kernel
theorem dX3_tell_33 : decode cX3_tell 33 = .ok (.getfield 30, 3) := by decide +kernel
theorem dX3_tell_36 : decode cX3_tell 36 = .ok (.ireturn, 1) := by decide +kernel
theorem dX3_tell_37 : decode cX3_tell 37 = .ok (.aload_n 0, 1) := by decide +kernel
theorem dX3_tell_38 : decode cX3_tell 38 = .ok (.getfield 33, 3) := by decide +kernel
theorem dX3_tell_41 : decode cX3_tell 41 = .ok (.ireturn, 1) := by decide +kernel
theorem dX3_tell_42 : decode cX3_tell 42 = .ok (.aload_n 0, 1) := by decide +kernel
theorem dX3_tell_43 : decode cX3_tell 43 = .ok (.getfield 36, 3) := by decide +kernel
theorem dX3_tell_46 : decode cX3_tell 46 = .ok (.ireturn, 1) := by decide +kernel
theorem dX3_tell_47 : decode cX3_tell 47 = .ok (.aload_n 0, 1) := by decide +kernel
theorem dX3_tell_48 : decode cX3_tell 48 = .ok (.getfield 39, 3) := by decide +kernel
theorem dX3_tell_51 : decode cX3_tell 51 = .ok (.ireturn, 1) := by decide +kernel
theorem dX3_tell_52 : decode cX3_tell 52 = .ok (.bipush (-2), 2) := by decide +kernel
theorem dX3_tell_54 : decode cX3_tell 54 = .ok (.ireturn, 1) := by decide +kernel
theorem dX4_init_0 : decode cX4_init 0 = .ok (.aload_n 0, 1) := by decide +kernel
theorem dX4_init_1 : decode cX4_init 1 = .ok (.invokespecial 3, 3) := by decide +kernel
theorem dX4_init_4 : decode cX4_init 4 = .ok (.aload_n 0, 1) := by decide +kernel
theorem dX4_init_5 : decode cX4_init 5 = .ok (.bipush 8, 2) := by decide +kernel
theorem dX4_init_7 : decode cX4_init 7 = .ok (.putfield 9, 3) := by decide +kernel
theorem dX4_init_10 : decode cX4_init 10 = .ok (.aload_n 0, 1) := by decide +kernel
theorem dX4_init_11 : decode cX4_init 11 = .ok (.iconst 1, 1) := by decide +kernel
theorem dX4_init_12 : decode cX4_init 12 = .ok (.putfield 15, 3) := by decide +kernel
theorem dX4_init_15 : decode cX4_init 15 = .ok (.aload_n 0, 1) := by decide +kernel
theorem dX4_init_16 : decode cX4_init 16 = .ok (.bipush 49, 2) := by decide +kernel
theorem dX4_init_18 : decode cX4_init 18 = .ok (.newarray .int, 2) := by decide +kernel
theorem dX4_init_20 : decode cX4_init 20 = .ok (.putfield 18, 3) := by decide +kernel
theorem dX4_init_23 : decode cX4_init 23 = .ok (.aload_n 0, 1) := by decide +kernel
theorem dX4_init_24 : decode cX4_init 24 = .ok (.bipush 6, 2) := by decide +kernel
theorem dX4_init_26 : decode cX4_init 26 = .ok (.anewarray 22, 3) := by decide +kernel
theorem dX4_init_29 : decode cX4_init 29 = .ok (.putfield 24, 3) := by decide +kernel
theorem dX4_init_32 : decode cX4_init 32 = .ok (.aload_n 0, 1) := by decide +kernel
theorem dX4_init_33 : decode cX4_init 33 = .ok (.sipush 141, 3) := by decide +kernel
theorem dX4_init_36 : decode cX4_init 36 = .ok (.anewarray 28, 3) := by decide +kernel
theorem dX4_init_39 : decode cX4_init 39 = .ok (.putfield 30, 3) := by decide +kernel
theorem dX4_init_42 : decode cX4_init 42 = .ok (.iconst 0, 1) := by decide +kernel
theorem dX4_init_43 : decode cX4_init 43 = .ok (.istore_n 1, 1) := by decide +kernel
theorem dX4_init_44 : decode cX4_init 44 = .ok (.iload_n 1, 1) := by decide +kernel
theorem dX4_init_45 : decode cX4_init 45 = .ok (.bipush 7, 2) := by decide +kernel
theorem dX4_init_47 : decode cX4_init 47 = .ok (.if_icmp .ge 39, 3) := by decide +kernel
theorem dX4_init_50 : decode cX4_init 50 = .ok (.iconst 0, 1) := by decide +kernel
theorem dX4_init_51 : decode cX4_init 51 = .ok (.istore_n 2, 1) := by decide +kernel
theorem dX4_init_52 : decode cX4_init 52 = .ok (.iload_n 2, 1) := by decide +kernel
theorem dX4_init_53 : decode cX4_init 53 = .ok (.bipush 7, 2) := by decide +kernel
theorem dX4_init_55 : decode cX4_init 55 = .ok (.if_icmp .ge 25, 3) := by decide +kernel
theorem dX4_init_58 : decode cX4_init 58 = .ok (.aload_n 0, 1) := by decide +kernel
theorem dX4_init_59 : decode cX4_init 59 = .ok (.getfield 18, 3) := by decide +kernel
theorem dX4_init_62 : decode cX4_init 62 = .ok (.iload_n 1, 1) := by decide +kernel
theorem dX4_init_63 : decode cX4_init 63 = .ok (.bipush 7, 2) := by decide +kernel
theorem dX4_init_65 : decode cX4_init 65 = .ok (.imul, 1) := by decide +kernel
theorem dX4_init_66 : decode cX4_init 66 = .ok (.iload_n 2, 1) := by decide +kernel
theorem dX4_init_67 : decode cX4_init 67 = .ok (.iadd, 1) := by decide +kernel
theorem dX4_init_68 : decode cX4_init 68 = .ok (.iload_n 1, 1) := by decide +kernel
theorem dX4_init_69 : decode cX4_init 69 = .ok (.iload_n 2, 1) := by decide +kernel
theorem dX4_init_70 : decode cX4_init 70 = .ok (.invokestatic 34, 3) := by decide +kernel
theorem dX4_init_73 : decode cX4_init 73 = .ok (.iastore, 1) := by decide +kernel
theorem dX4_init_74 : decode cX4_init 74 = .ok (.iinc 2 1, 3) := by decide +kernel
theorem dX4_init_77 : decode cX4_init 77 = .ok (.goto (-25), 3) := by decide +kernel
theorem dX4_init_80 : decode cX4_init 80 = .ok (.iinc 1 1, 3) := by decide +kernel
theorem dX4_init_83 : decode cX4_init 83 = .ok (.goto (-39), 3) := by decide +kernel
theorem dX4_init_86 : decode cX4_init 86 = .ok (.iconst 0, 1) := by decide +kernel
theorem dX4_init_87 : decode cX4_init 87 = .ok (.istore_n 1, 1) := by decide +kernel
theorem dX4_init_88 : decode cX4_init 88 = .ok (.iload_n 1, 1) := by decide +kernel
theorem dX4_init_89 : decode cX4_init 89 = .ok (.aload_n 0, 1) := by decide +kernel
theorem dX4_init_90 : decode cX4_init 90 = .ok (.getfield 24, 3) := by decide +kernel
theorem dX4_init_93 : decode cX4_init 93 = .ok (.arraylength, 1) := by decide +kernel
theorem dX4_init_94 : decode cX4_init 94 = .ok (.if_icmp .ge 22, 3) := by decide +kernel
theorem dX4_init_97 : decode cX4_init 97 = .ok (.aload_n 0, 1) := by decide +kernel
theorem dX4_init_98 : decode cX4_init 98 = .ok (.getfield 24, 3) := by decide +kernel
theorem dX4_init_101 : decode cX4_init 101 = .ok (.iload_n 1, 1) := by decide +kernel
theorem dX4_init_102 : decode cX4_init 102 = .ok (.new 22, 3) := by decide +kernel
theorem dX4_init_105 : decode cX4_init 105 = .ok (.dup, 1) := by decide +kernel
theorem dX4_init_106 : decode cX4_init 106 = .ok (.invokespecial 38, 3) := by decide +kernel
theorem dX4_init_109 : decode cX4_init 109 = .ok (.aastore, 1) := by decide +kernel
theorem dX4_init_110 : decode cX4_init 110 = .ok (.iinc 1 1, 3) := by decide +kernel
theorem dX4_init_113 : decode cX4_init 113 = .ok (.goto (-25), 3) := by decide +kernel
theorem dX4_init_116 : decode cX4_init 116 = .ok (.iconst 0, 1) := by decide +kernel
theorem dX4_init_117 : decode cX4_init 117 = .ok (.istore_n 1, 1) := by decide +kernel
theorem dX4_init_118 : decode cX4_init 118 = .ok (.iload_n 1, 1) := by decide +kernel
theorem dX4_init_119 : decode cX4_init 119 = .ok (.aload_n 0, 1) := by decide +kernel
theorem dX4_init_120 : decode cX4_init 120 = .ok (.getfield 30, 3) := by decide +kernel
theorem dX4_init_123 : decode cX4_init 123 = .ok (.arraylength, 1) := by decide +kernel
theorem dX4_init_124 : decode cX4_init 124 = .ok (.if_icmp .ge 22, 3) := by decide +kernel
theorem dX4_init_127 : decode cX4_init 127 = .ok (.aload_n 0, 1) := by decide +kernel
theorem dX4_init_128 : decode cX4_init 128 = .ok (.getfield 30, 3) := by decide +kernel
theorem dX4_init_131 : decode cX4_init 131 = .ok (.iload_n 1, 1) := by decide +kernel
theorem dX4_init_132 : decode cX4_init 132 = .ok (.new 28, 3) := by decide +kernel
theorem dX4_init_135 : decode cX4_init 135 = .ok (.dup, 1) := by decide +kernel
theorem dX4_init_136 : decode cX4_init 136 = .ok (.invokespecial 39, 3) := by decide +kernel
theorem dX4_init_139 : decode cX4_init 139 = .ok (.aastore, 1) := by decide +kernel
theorem dX4_init_140 : decode cX4_init 140 = .ok (.iinc 1 1, 3) := by decide +kernel
theorem dX4_init_143 : decode cX4_init 143 = .ok (.goto (-25), 3) := by decide +kernel
theorem dX4_init_146 : decode cX4_init 146 = .ok (.return_, 1) := by decide +kernel
theorem dX4_firstWay_0 : decode cX4_firstWay 0 = .ok (.iload_n 0, 1) := by decide +kernel
theorem dX4_firstWay_1 : decode cX4_firstWay 1 = .ok (.iload_n 1, 1) := by decide +kernel
theorem dX4_firstWay_2 : decode cX4_firstWay 2 = .ok (.if_icmp .ne 5, 3) := by decide +kernel
theorem dX4_firstWay_5 : decode cX4_firstWay 5 = .ok (.iconst 1, 1) := by decide +kernel
theorem dX4_firstWay_6 : decode cX4_firstWay 6 = .ok (.ireturn, 1) := by decide +kernel
theorem dX4_firstWay_7 : decode cX4_firstWay 7 = .ok (.iload_n 0, 1) := by decide +kernel
theorem dX4_firstWay_8 : decode cX4_firstWay 8 = .ok (.bipush 6, 2) := by decide +kernel
theorem dX4_firstWay_10 : decode cX4_firstWay 10 = .ok (.if_icmp .eq 9, 3) := by decide +kernel
theorem dX4_firstWay_13 : decode cX4_firstWay 13 = .ok (.iload_n 1, 1) := by decide +kernel
theorem dX4_firstWay_14 : decode cX4_firstWay 14 = .ok (.bipush 6, 2) := by decide +kernel
theorem dX4_firstWay_16 : decode cX4_firstWay 16 = .ok (.if_icmp .ne 7, 3) := by decide +kernel
theorem dX4_firstWay_19 : decode cX4_firstWay 19 = .ok (.iconst 3, 1) := by decide +kernel
theorem dX4_firstWay_20 : decode cX4_firstWay 20 = .ok (.goto 4, 3) := by decide +kernel
theorem dX4_firstWay_23 : decode cX4_firstWay 23 = .ok (.iconst 2, 1) := by decide +kernel
theorem dX4_firstWay_24 : decode cX4_firstWay 24 = .ok (.ireturn, 1) := by decide +kernel
theorem dX4_copyFrom_0 : decode cX4_copyFrom 0 = .ok (.aload_n 0, 1) := by decide +kernel
theorem dX4_copyFrom_1 : decode cX4_copyFrom 1 = .ok (.aload_n 1, 1) := by decide +kernel
theorem dX4_copyFrom_2 : decode cX4_copyFrom 2 = .ok (.getfield 40, 3) := by decide +kernel
theorem dX4_copyFrom_5 : decode cX4_copyFrom 5 = .ok (.putfield 40, 3) := by decide +kernel
theorem dX4_copyFrom_8 : decode cX4_copyFrom 8 = .ok (.aload_n 0, 1) := by decide +kernel
theorem dX4_copyFrom_9 : decode cX4_copyFrom 9 = .ok (.aload_n 1, 1) := by decide +kernel
theorem dX4_copyFrom_10 : decode cX4_copyFrom 10 = .ok (.getfield 9, 3) := by decide +kernel
theorem dX4_copyFrom_13 : decode cX4_copyFrom 13 = .ok (.putfield 9, 3) := by decide +kernel
theorem dX4_copyFrom_16 : decode cX4_copyFrom 16 = .ok (.aload_n 0, 1) := by decide +kernel
theorem dX4_copyFrom_17 : decode cX4_copyFrom 17 = .ok (.aload_n 1, 1) := by decide +kernel
theorem dX4_copyFrom_18 : decode cX4_copyFrom 18 = .ok (.getfield 15, 3) := by decide +kernel
theorem dX4_copyFrom_21 : decode cX4_copyFrom 21 = .ok (.putfield 15, 3) := by decide +kernel
theorem dX4_copyFrom_24 : decode cX4_copyFrom 24 = .ok (.aload_n 0, 1) := by decide +kernel
theorem dX4_copyFrom_25 : decode cX4_copyFrom 25 = .ok (.aload_n 1, 1) := by decide +kernel
theorem dX4_copyFrom_26 : decode cX4_copyFrom 26 = .ok (.invokevirtual 43, 3) := by decide +kernel
theorem dX4_copyFrom_29 : decode cX4_copyFrom 29 = .ok (.iconst 0, 1) := by decide +kernel
theorem dX4_copyFrom_30 : decode cX4_copyFrom 30 = .ok (.istore_n 2, 1) := by decide +kernel
theorem dX4_copyFrom_31 : decode cX4_copyFrom 31 = .ok (.iload_n 2, 1) := by decide +kernel
theorem dX4_copyFrom_32 : decode cX4_copyFrom 32 = .ok (.aload_n 0, 1) := by decide +kernel
theorem dX4_copyFrom_33 : decode cX4_copyFrom 33 = .ok (.getfield 24, 3) := by decide +kernel
theorem dX4_copyFrom_36 : decode cX4_copyFrom 36 = .ok (.arraylength, 1) := by decide +kernel
theorem dX4_copyFrom_37 : decode cX4_copyFrom 37 = .ok (.if_icmp .ge 33, 3) := by decide +kernel
theorem dX4_copyFrom_40 : decode cX4_copyFrom 40 = .ok (.iload_n 2, 1) := by decide +kernel
theorem dX4_copyFrom_41 : decode cX4_copyFrom 41 = .ok (.aload_n 1, 1) := by decide +kernel
theorem dX4_copyFrom_42 : decode cX4_copyFrom 42 = .ok (.getfield 24, 3) := by decide +kernel
theorem dX4_copyFrom_45 : decode cX4_copyFrom 45 = .ok (.arraylength, 1) := by decide +kernel
theorem dX4_copyFrom_46 : decode cX4_copyFrom 46 = .ok (.if_icmp .ge 24, 3) := by decide +kernel
theorem dX4_copyFrom_49 : decode cX4_copyFrom 49 = .ok (.aload_n 0, 1) := by decide +kernel
theorem dX4_copyFrom_50 : decode cX4_copyFrom 50 = .ok (.getfield 24, 3) := by decide +kernel
theorem dX4_copyFrom_53 : decode cX4_copyFrom 53 = .ok (.iload_n 2, 1) := by decide +kernel
theorem dX4_copyFrom_54 : decode cX4_copyFrom 54 = .ok (.aaload, 1) := by decide +kernel
theorem dX4_copyFrom_55 : decode cX4_copyFrom 55 = .ok (.aload_n 1, 1) := by decide +kernel
theorem dX4_copyFrom_56 : decode cX4_copyFrom 56 = .ok (.getfield 24, 3) := by decide +kernel
theorem dX4_copyFrom_59 : decode cX4_copyFrom 59 = .ok (.iload_n 2, 1) := by decide +kernel
theorem dX4_copyFrom_60 : decode cX4_copyFrom 60 = .ok (.aaload, 1) := by decide +kernel
theorem dX4_copyFrom_61 : decode cX4_copyFrom 61 = .ok (.invokevirtual 47, 3) := by decide +kernel
theorem dX4_copyFrom_64 : decode cX4_copyFrom 64 = .ok (.iinc 2 1, 3) := by decide +kernel
theorem dX4_copyFrom_67 : decode cX4_copyFrom 67 = .ok (.goto (-36), 3) := by decide +kernel
theorem dX4_copyFrom_70 : decode cX4_copyFrom 70 = .ok (.aload_n 0, 1) := by decide +kernel
theorem dX4_copyFrom_71 : decode cX4_copyFrom 71 = .ok (.aload_n 1, 1) := by decide +kernel
theorem dX4_copyFrom_72 : decode cX4_copyFrom 72 = .ok (.getfield 51, 3) := by decide +kernel
theorem dX4_copyFrom_75 : decode cX4_copyFrom 75 = .ok (.putfield 51, 3) := by decide +kernel
theorem dX4_copyFrom_78 : decode cX4_copyFrom 78 = .ok (.iconst 0, 1) := by decide +kernel
theorem dX4_copyFrom_79 : decode cX4_copyFrom 79 = .ok (.istore_n 2, 1) := by decide +kernel
theorem dX4_copyFrom_80 : decode cX4_copyFrom 80 = .ok (.aload_n 0, 1) := by decide +kernel
theorem dX4_copyFrom_81 : decode cX4_copyFrom 81 = .ok (.iload_n 2, 1) := by decide +kernel
theorem dX4_copyFrom_82 : decode cX4_copyFrom 82 = .ok (.invokevirtual 54, 3) := by decide +kernel
theorem dX4_copyFrom_85 : decode cX4_copyFrom 85 = .ok (.ifCond .eq 33, 3) := by decide +kernel
theorem dX4_copyFrom_88 : decode cX4_copyFrom 88 = .ok (.iload_n 2, 1) := by decide +kernel
theorem dX4_copyFrom_89 : decode cX4_copyFrom 89 = .ok (.aload_n 1, 1) := by decide +kernel
theorem dX4_copyFrom_90 : decode cX4_copyFrom 90 = .ok (.getfield 30, 3) := by decide +kernel
theorem dX4_copyFrom_93 : decode cX4_copyFrom 93 = .ok (.arraylength, 1) := by decide +kernel
theorem dX4_copyFrom_94 : decode cX4_copyFrom 94 = .ok (.if_icmp .ge 24, 3) := by decide +kernel
theorem dX4_copyFrom_97 : decode cX4_copyFrom 97 = .ok (.aload_n 0, 1) := by decide +kernel
theorem dX4_copyFrom_98 : decode cX4_copyFrom 98 = .ok (.getfield 30, 3) := by decide +kernel
theorem dX4_copyFrom_101 : decode cX4_copyFrom 101 = .ok (.iload_n 2, 1) := by decide +kernel
theorem dX4_copyFrom_102 : decode cX4_copyFrom 102 = .ok (.aaload, 1) := by decide +kernel
theorem dX4_copyFrom_103 : decode cX4_copyFrom 103 = .ok (.aload_n 1, 1) := by decide +kernel
theorem dX4_copyFrom_104 : decode cX4_copyFrom 104 = .ok (.getfield 30, 3) := by decide +kernel
theorem dX4_copyFrom_107 : decode cX4_copyFrom 107 = .ok (.iload_n 2, 1) := by decide +kernel
theorem dX4_copyFrom_108 : decode cX4_copyFrom 108 = .ok (.aaload, 1) := by decide +kernel
theorem dX4_copyFrom_109 : decode cX4_copyFrom 109 = .ok (.invokevirtual 58, 3) := by decide +kernel
theorem dX4_copyFrom_112 : decode cX4_copyFrom 112 = .ok (.iinc 2 1, 3) := by decide +kernel
theorem dX4_copyFrom_115 : decode cX4_copyFrom 115 = .ok (.goto (-35), 3) := by decide +kernel
theorem dX4_copyFrom_118 : decode cX4_copyFrom 118 = .ok (.aload_n 0, 1) := by decide +kernel
theorem dX4_copyFrom_119 : decode cX4_copyFrom 119 = .ok (.aload_n 1, 1) := by decide +kernel
theorem dX4_copyFrom_120 : decode cX4_copyFrom 120 = .ok (.getfield 61, 3) := by decide +kernel
theorem dX4_copyFrom_123 : decode cX4_copyFrom 123 = .ok (.putfield 61, 3) := by decide +kernel
theorem dX4_copyFrom_126 : decode cX4_copyFrom 126 = .ok (.aload_n 0, 1) := by decide +kernel
theorem dX4_copyFrom_127 : decode cX4_copyFrom 127 = .ok (.aload_n 1, 1) := by decide +kernel
theorem dX4_copyFrom_128 : decode cX4_copyFrom 128 = .ok (.getfield 64, 3) := by decide +kernel
theorem dX4_copyFrom_131 : decode cX4_copyFrom 131 = .ok (.putfield 64, 3) := by decide +kernel
theorem dX4_copyFrom_134 : decode cX4_copyFrom 134 = .ok (.aload_n 0, 1) := by decide +kernel
theorem dX4_copyFrom_135 : decode cX4_copyFrom 135 = .ok (.aload_n 1, 1) := by decide +kernel
theorem dX4_copyFrom_136 : decode cX4_copyFrom 136 = .ok (.getfield 67, 3) := by decide +kernel
theorem dX4_copyFrom_139 : decode cX4_copyFrom 139 = .ok (.putfield 67, 3) := by decide +kernel
theorem dX4_copyFrom_142 : decode cX4_copyFrom 142 = .ok (.aload_n 0, 1) := by decide +kernel
theorem dX4_copyFrom_143 : decode cX4_copyFrom 143 = .ok (.aload_n 1, 1) := by decide +kernel
theorem dX4_copyFrom_144 : decode cX4_copyFrom 144 = .ok (.getfield 70, 3) := by decide +kernel
theorem dX4_copyFrom_147 : decode cX4_copyFrom 147 = .ok (.putfield 70, 3) := by decide +kernel
theorem dX4_copyFrom_150 : decode cX4_copyFrom 150 = .ok (.aload_n 0, 1) := by decide +kernel
theorem dX4_copyFrom_151 : decode cX4_copyFrom 151 = .ok (.aload_n 1, 1) := by decide +kernel
theorem dX4_copyFrom_152 : decode cX4_copyFrom 152 = .ok (.getfield 73, 3) := by decide +kernel
theorem dX4_copyFrom_155 : decode cX4_copyFrom 155 = .ok (.putfield 73, 3) := by decide +kernel
theorem dX4_copyFrom_158 : decode cX4_copyFrom 158 = .ok (.aload_n 0, 1) := by decide +kernel
theorem dX4_copyFrom_159 : decode cX4_copyFrom 159 = .ok (.aload_n 1, 1) := by decide +kernel
theorem dX4_copyFrom_160 : decode cX4_copyFrom 160 = .ok (.getfield 76, 3) := by decide +kernel
theorem dX4_copyFrom_163 : decode cX4_copyFrom 163 = .ok (.putfield 76, 3) := by decide +kernel
theorem dX4_copyFrom_166 : decode cX4_copyFrom 166 = .ok (.aload_n 0, 1) := by decide +kernel
theorem dX4_copyFrom_167 : decode cX4_copyFrom 167 = .ok (.aload_n 1, 1) := by decide +kernel
theorem dX4_copyFrom_168 : decode cX4_copyFrom 168 = .ok (.getfield 79, 3) := by decide +kernel
theorem dX4_copyFrom_171 : decode cX4_copyFrom 171 = .ok (.putfield 79, 3) := by decide +kernel
theorem dX4_copyFrom_174 : decode cX4_copyFrom 174 = .ok (.return_, 1) := by decide +kernel
theorem dX4_copyWays_0 : decode cX4_copyWays 0 = .ok (.iconst 0, 1) := by decide +kernel
theorem dX4_copyWays_1 : decode cX4_copyWays 1 = .ok (.istore_n 2, 1) := by decide +kernel
theorem dX4_copyWays_2 : decode cX4_copyWays 2 = .ok (.iload_n 2, 1) := by decide +kernel
theorem dX4_copyWays_3 : decode cX4_copyWays 3 = .ok (.aload_n 0, 1) := by decide +kernel
theorem dX4_copyWays_4 : decode cX4_copyWays 4 = .ok (.getfield 18, 3) := by decide +kernel
theorem dX4_copyWays_7 : decode cX4_copyWays 7 = .ok (.arraylength, 1) := by decide +kernel
theorem dX4_copyWays_8 : decode cX4_copyWays 8 = .ok (.if_icmp .ge 30, 3) := by decide +kernel
theorem dX4_copyWays_11 : decode cX4_copyWays 11 = .ok (.iload_n 2, 1) := by decide +kernel
theorem dX4_copyWays_12 : decode cX4_copyWays 12 = .ok (.aload_n 1, 1) := by decide +kernel
theorem dX4_copyWays_13 : decode cX4_copyWays 13 = .ok (.getfield 18, 3) := by decide +kernel
theorem dX4_copyWays_16 : decode cX4_copyWays 16 = .ok (.arraylength, 1) := by decide +kernel
theorem dX4_copyWays_17 : decode cX4_copyWays 17 = .ok (.if_icmp .ge 21, 3) := by decide +kernel
theorem dX4_copyWays_20 : decode cX4_copyWays 20 = .ok (.aload_n 0, 1) := by decide +kernel
theorem dX4_copyWays_21 : decode cX4_copyWays 21 = .ok (.getfield 18, 3) := by decide +kernel
theorem dX4_copyWays_24 : decode cX4_copyWays 24 = .ok (.iload_n 2, 1) := by decide +kernel
theorem dX4_copyWays_25 : decode cX4_copyWays 25 = .ok (.aload_n 1, 1) := by decide +kernel
theorem dX4_copyWays_26 : decode cX4_copyWays 26 = .ok (.getfield 18, 3) := by decide +kernel
theorem dX4_copyWays_29 : decode cX4_copyWays 29 = .ok (.iload_n 2, 1) := by decide +kernel
theorem dX4_copyWays_30 : decode cX4_copyWays 30 = .ok (.iaload, 1) := by decide +kernel
theorem dX4_copyWays_31 : decode cX4_copyWays 31 = .ok (.iastore, 1) := by decide +kernel
theorem dX4_copyWays_32 : decode cX4_copyWays 32 = .ok (.iinc 2 1, 3) := by decide +kernel
theorem dX4_copyWays_35 : decode cX4_copyWays 35 = .ok (.goto (-33), 3) := by decide +kernel
theorem dX4_copyWays_38 : decode cX4_copyWays 38 = .ok (.return_, 1) := by decide +kernel
theorem dX4_way_0 : decode cX4_way 0 = .ok (.iload_n 1, 1) := by decide +kernel
theorem dX4_way_1 : decode cX4_way 1 = .ok (.bipush 7, 2) := by decide +kernel
theorem dX4_way_3 : decode cX4_way 3 = .ok (.imul, 1) := by decide +kernel
theorem dX4_way_4 : decode cX4_way 4 = .ok (.iload_n 2, 1) := by decide +kernel
theorem dX4_way_5 : decode cX4_way 5 = .ok (.iadd, 1) := by decide +kernel
theorem dX4_way_6 : decode cX4_way 6 = .ok (.istore_n 3, 1) := by decide +kernel
theorem dX4_way_7 : decode cX4_way 7 = .ok (.iload_n 3, 1) := by decide +kernel
theorem dX4_way_8 : decode cX4_way 8 = .ok (.ifCond .lt 21, 3) := by decide +kernel
theorem dX4_way_11 : decode cX4_way 11 = .ok (.iload_n 3, 1) := by decide +kernel
theorem dX4_way_12 : decode cX4_way 12 = .ok (.aload_n 0, 1) := by decide +kernel
theorem dX4_way_13 : decode cX4_way 13 = .ok (.getfield 18, 3) := by decide +kernel
theorem dX4_way_16 : decode cX4_way 16 = .ok (.arraylength, 1) := by decide +kernel
theorem dX4_way_17 : decode cX4_way 17 = .ok (.if_icmp .ge 12, 3) := by decide +kernel
theorem dX4_way_20 : decode cX4_way 20 = .ok (.aload_n 0, 1) := by decide +kernel
theorem dX4_way_21 : decode cX4_way 21 = .ok (.getfield 18, 3) := by decide +kernel
theorem dX4_way_24 : decode cX4_way 24 = .ok (.iload_n 3, 1) := by decide +kernel
theorem dX4_way_25 : decode cX4_way 25 = .ok (.iaload, 1) := by decide +kernel
theorem dX4_way_26 : decode cX4_way 26 = .ok (.goto 4, 3) := by decide +kernel
theorem dX4_way_29 : decode cX4_way 29 = .ok (.iconst (-1), 1) := by decide +kernel
theorem dX4_way_30 : decode cX4_way 30 = .ok (.ireturn, 1) := by decide +kernel
theorem dX4_putWay_0 : decode cX4_putWay 0 = .ok (.iload_n 1, 1) := by decide +kernel
theorem dX4_putWay_1 : decode cX4_putWay 1 = .ok (.bipush 7, 2) := by decide +kernel
theorem dX4_putWay_3 : decode cX4_putWay 3 = .ok (.imul, 1) := by decide +kernel
theorem dX4_putWay_4 : decode cX4_putWay 4 = .ok (.iload_n 2, 1) := by decide +kernel
theorem dX4_putWay_5 : decode cX4_putWay 5 = .ok (.iadd, 1) := by decide +kernel
theorem dX4_putWay_6 : decode cX4_putWay 6 = .ok (.istore 4, 2) := by decide +kernel
theorem dX4_putWay_8 : decode cX4_putWay 8 = .ok (.iload_n 2, 1) := by decide +kernel
theorem dX4_putWay_9 : decode cX4_putWay 9 = .ok (.bipush 7, 2) := by decide +kernel
theorem dX4_putWay_11 : decode cX4_putWay 11 = .ok (.imul, 1) := by decide +kernel
theorem dX4_putWay_12 : decode cX4_putWay 12 = .ok (.iload_n 1, 1) := by decide +kernel
theorem dX4_putWay_13 : decode cX4_putWay 13 = .ok (.iadd, 1) := by decide +kernel
theorem dX4_putWay_14 : decode cX4_putWay 14 = .ok (.istore 5, 2) := by decide +kernel
theorem dX4_putWay_16 : decode cX4_putWay 16 = .ok (.iload 4, 2) := by decide +kernel
theorem dX4_putWay_18 : decode cX4_putWay 18 = .ok (.ifCond .lt 44, 3) := by decide +kernel
theorem dX4_putWay_21 : decode cX4_putWay 21 = .ok (.iload 4, 2) := by decide +kernel
theorem dX4_putWay_23 : decode cX4_putWay 23 = .ok (.aload_n 0, 1) := by decide +kernel
theorem dX4_putWay_24 : decode cX4_putWay 24 = .ok (.getfield 18, 3) := by decide +kernel
theorem dX4_putWay_27 : decode cX4_putWay 27 = .ok (.arraylength, 1) := by decide +kernel
theorem dX4_putWay_28 : decode cX4_putWay 28 = .ok (.if_icmp .ge 34, 3) := by decide +kernel
theorem dX4_putWay_31 : decode cX4_putWay 31 = .ok (.iload 5, 2) := by decide +kernel
theorem dX4_putWay_33 : decode cX4_putWay 33 = .ok (.ifCond .lt 29, 3) := by decide +kernel
theorem dX4_putWay_36 : decode cX4_putWay 36 = .ok (.iload 5, 2) := by decide +kernel
theorem dX4_putWay_38 : decode cX4_putWay 38 = .ok (.aload_n 0, 1) := by decide +kernel
theorem dX4_putWay_39 : decode cX4_putWay 39 = .ok (.getfield 18, 3) := by decide +kernel
theorem dX4_putWay_42 : decode cX4_putWay 42 = .ok (.arraylength, 1) := by decide +kernel
theorem dX4_putWay_43 : decode cX4_putWay 43 = .ok (.if_icmp .ge 19, 3) := by decide +kernel
theorem dX4_putWay_46 : decode cX4_putWay 46 = .ok (.aload_n 0, 1) := by decide +kernel
theorem dX4_putWay_47 : decode cX4_putWay 47 = .ok (.getfield 18, 3) := by decide +kernel
theorem dX4_putWay_50 : decode cX4_putWay 50 = .ok (.iload 4, 2) := by decide +kernel
theorem dX4_putWay_52 : decode cX4_putWay 52 = .ok (.iload_n 3, 1) := by decide +kernel
theorem dX4_putWay_53 : decode cX4_putWay 53 = .ok (.iastore, 1) := by decide +kernel
theorem dX4_putWay_54 : decode cX4_putWay 54 = .ok (.aload_n 0, 1) := by decide +kernel
theorem dX4_putWay_55 : decode cX4_putWay 55 = .ok (.getfield 18, 3) := by decide +kernel
theorem dX4_putWay_58 : decode cX4_putWay 58 = .ok (.iload 5, 2) := by decide +kernel
theorem dX4_putWay_60 : decode cX4_putWay 60 = .ok (.iload_n 3, 1) := by decide +kernel
theorem dX4_putWay_61 : decode cX4_putWay 61 = .ok (.iastore, 1) := by decide +kernel
theorem dX4_putWay_62 : decode cX4_putWay 62 = .ok (.return_, 1) := by decide +kernel
theorem dX4_mint_0 : decode cX4_mint 0 = .ok (.iconst 1, 1) := by decide +kernel
theorem dX4_mint_1 : decode cX4_mint 1 = .ok (.aload_n 0, 1) := by decide +kernel
theorem dX4_mint_2 : decode cX4_mint 2 = .ok (.getfield 9, 3) := by decide +kernel
theorem dX4_mint_5 : decode cX4_mint 5 = .ok (.ishl, 1) := by decide +kernel
theorem dX4_mint_6 : decode cX4_mint 6 = .ok (.istore_n 1, 1) := by decide +kernel
theorem dX4_mint_7 : decode cX4_mint 7 = .ok (.aload_n 0, 1) := by decide +kernel
theorem dX4_mint_8 : decode cX4_mint 8 = .ok (.dup, 1) := by decide +kernel
theorem dX4_mint_9 : decode cX4_mint 9 = .ok (.getfield 61, 3) := by decide +kernel
theorem dX4_mint_12 : decode cX4_mint 12 = .ok (.iload_n 1, 1) := by decide +kernel
theorem dX4_mint_13 : decode cX4_mint 13 = .ok (.iadd, 1) := by decide +kernel
theorem dX4_mint_14 : decode cX4_mint 14 = .ok (.putfield 61, 3) := by decide +kernel
theorem dX4_mint_17 : decode cX4_mint 17 = .ok (.aload_n 0, 1) := by decide +kernel
theorem dX4_mint_18 : decode cX4_mint 18 = .ok (.dup, 1) := by decide +kernel
theorem dX4_mint_19 : decode cX4_mint 19 = .ok (.getfield 73, 3) := by decide +kernel
theorem dX4_mint_22 : decode cX4_mint 22 = .ok (.iconst 1, 1) := by decide +kernel
theorem dX4_mint_23 : decode cX4_mint 23 = .ok (.iadd, 1) := by decide +kernel
theorem dX4_mint_24 : decode cX4_mint 24 = .ok (.putfield 73, 3) := by decide +kernel
theorem dX4_mint_27 : decode cX4_mint 27 = .ok (.iload_n 1, 1) := by decide +kernel
theorem dX4_mint_28 : decode cX4_mint 28 = .ok (.ireturn, 1) := by decide +kernel
theorem dX4_startErrands_0 : decode cX4_startErrands 0 = .ok (.iconst 0, 1) := by decide +kernel
theorem dX4_startErrands_1 : decode cX4_startErrands 1 = .ok (.istore_n 2, 1) := by decide +kernel
theorem dX4_startErrands_2 : decode cX4_startErrands 2 = .ok (.iload_n 2, 1) := by decide +kernel
theorem dX4_startErrands_3 : decode cX4_startErrands 3 = .ok (.aload_n 1, 1) := by decide +kernel
theorem dX4_startErrands_4 : decode cX4_startErrands 4 = .ok (.getfield 86, 3) := by decide +kernel
theorem dX4_startErrands_7 : decode cX4_startErrands 7 = .ok (.if_icmp .ge 55, 3) := by decide +kernel
theorem dX4_startErrands_10 : decode cX4_startErrands 10 = .ok (.iload_n 2, 1) := by decide +kernel
theorem dX4_startErrands_11 : decode cX4_startErrands 11 = .ok (.aload_n 1, 1) := by decide +kernel
theorem dX4_startErrands_12 : decode cX4_startErrands 12 = .ok (.getfield 91, 3) := by decide +kernel
theorem dX4_startErrands_15 : decode cX4_startErrands 15 = .ok (.arraylength, 1) := by decide +kernel
theorem dX4_startErrands_16 : decode cX4_startErrands 16 = .ok (.if_icmp .ge 46, 3) := by decide +kernel
theorem dX4_startErrands_19 : decode cX4_startErrands 19 = .ok (.aload_n 1, 1) := by decide +kernel
theorem dX4_startErrands_20 : decode cX4_startErrands 20 = .ok (.getfield 91, 3) := by decide +kernel
theorem dX4_startErrands_23 : decode cX4_startErrands 23 = .ok (.iload_n 2, 1) := by decide +kernel
theorem dX4_startErrands_24 : decode cX4_startErrands 24 = .ok (.aaload, 1) := by decide +kernel
theorem dX4_startErrands_25 : decode cX4_startErrands 25 = .ok (.astore_n 3, 1) := by decide +kernel
theorem dX4_startErrands_26 : decode cX4_startErrands 26 = .ok (.aload_n 3, 1) := by decide +kernel
theorem dX4_startErrands_27 : decode cX4_startErrands 27 = .ok (.ifnull 29, 3) := by decide +kernel
theorem dX4_startErrands_30 : decode cX4_startErrands 30 = .ok (.aload_n 0, 1) := by decide +kernel
theorem dX4_startErrands_31 : decode cX4_startErrands 31 = .ok (.dup, 1) := by decide +kernel
theorem dX4_startErrands_32 : decode cX4_startErrands 32 = .ok (.getfield 70, 3) := by decide +kernel
theorem dX4_startErrands_35 : decode cX4_startErrands 35 = .ok (.iconst 1, 1) := by decide +kernel
theorem dX4_startErrands_36 : decode cX4_startErrands 36 = .ok (.iadd, 1) := by decide +kernel
theorem dX4_startErrands_37 : decode cX4_startErrands 37 = .ok (.putfield 70, 3) := by decide +kernel
theorem dX4_startErrands_40 : decode cX4_startErrands 40 = .ok (.aload_n 0, 1) := by decide +kernel
theorem dX4_startErrands_41 : decode cX4_startErrands 41 = .ok (.iconst 0, 1) := by decide +kernel
theorem dX4_startErrands_42 : decode cX4_startErrands 42 = .ok (.bipush 6, 2) := by decide +kernel
theorem dX4_startErrands_44 : decode cX4_startErrands 44 = .ok (.aload_n 3, 1) := by decide +kernel
theorem dX4_startErrands_45 : decode cX4_startErrands 45 = .ok (.getfield 95, 3) := by decide +kernel
theorem dX4_startErrands_48 : decode cX4_startErrands 48 = .ok (.aload_n 0, 1) := by decide +kernel
theorem dX4_startErrands_49 : decode cX4_startErrands 49 = .ok (.invokevirtual 100, 3) := by decide +kernel
theorem dX4_startErrands_52 : decode cX4_startErrands 52 = .ok (.aload_n 3, 1) := by decide +kernel
theorem dX4_startErrands_53 : decode cX4_startErrands 53 = .ok (.invokevirtual 104, 3) := by decide +kernel
theorem dX4_startErrands_56 : decode cX4_startErrands 56 = .ok (.iinc 2 1, 3) := by decide +kernel
theorem dX4_startErrands_59 : decode cX4_startErrands 59 = .ok (.goto (-57), 3) := by decide +kernel
theorem dX4_startErrands_62 : decode cX4_startErrands 62 = .ok (.return_, 1) := by decide +kernel
theorem dX4_post_0 : decode cX4_post 0 = .ok (.iload_n 2, 1) := by decide +kernel
theorem dX4_post_1 : decode cX4_post 1 = .ok (.bipush 7, 2) := by decide +kernel
theorem dX4_post_3 : decode cX4_post 3 = .ok (.imul, 1) := by decide +kernel
theorem dX4_post_4 : decode cX4_post 4 = .ok (.iload_n 3, 1) := by decide +kernel
theorem dX4_post_5 : decode cX4_post 5 = .ok (.iadd, 1) := by decide +kernel
theorem dX4_post_6 : decode cX4_post 6 = .ok (.istore 6, 2) := by decide +kernel
theorem dX4_post_8 : decode cX4_post 8 = .ok (.iload 6, 2) := by decide +kernel
theorem dX4_post_10 : decode cX4_post 10 = .ok (.ifCond .lt 32, 3) := by decide +kernel
theorem dX4_post_13 : decode cX4_post 13 = .ok (.iload 6, 2) := by decide +kernel
theorem dX4_post_15 : decode cX4_post 15 = .ok (.aload_n 0, 1) := by decide +kernel
theorem dX4_post_16 : decode cX4_post 16 = .ok (.getfield 18, 3) := by decide +kernel
theorem dX4_post_19 : decode cX4_post 19 = .ok (.arraylength, 1) := by decide +kernel
theorem dX4_post_20 : decode cX4_post 20 = .ok (.if_icmp .ge 22, 3) := by decide +kernel
theorem dX4_post_23 : decode cX4_post 23 = .ok (.aload_n 0, 1) := by decide +kernel
theorem dX4_post_24 : decode cX4_post 24 = .ok (.getfield 51, 3) := by decide +kernel
theorem dX4_post_27 : decode cX4_post 27 = .ok (.ifCond .lt 15, 3) := by decide +kernel
theorem dX4_post_30 : decode cX4_post 30 = .ok (.aload_n 0, 1) := by decide +kernel
theorem dX4_post_31 : decode cX4_post 31 = .ok (.getfield 51, 3) := by decide +kernel
theorem dX4_post_34 : decode cX4_post 34 = .ok (.aload_n 0, 1) := by decide +kernel
theorem dX4_post_35 : decode cX4_post 35 = .ok (.getfield 30, 3) := by decide +kernel
theorem dX4_post_38 : decode cX4_post 38 = .ok (.arraylength, 1) := by decide +kernel
theorem dX4_post_39 : decode cX4_post 39 = .ok (.if_icmp .lt 4, 3) := by decide +kernel
theorem dX4_post_42 : decode cX4_post 42 = .ok (.return_, 1) := by decide +kernel
theorem dX4_post_43 : decode cX4_post 43 = .ok (.aload_n 0, 1) := by decide +kernel
theorem dX4_post_44 : decode cX4_post 44 = .ok (.getfield 30, 3) := by decide +kernel
theorem dX4_post_47 : decode cX4_post 47 = .ok (.aload_n 0, 1) := by decide +kernel
theorem dX4_post_48 : decode cX4_post 48 = .ok (.getfield 51, 3) := by decide +kernel
theorem dX4_post_51 : decode cX4_post 51 = .ok (.aaload, 1) := by decide +kernel
theorem dX4_post_52 : decode cX4_post 52 = .ok (.astore 7, 2) := by decide +kernel
theorem dX4_post_54 : decode cX4_post 54 = .ok (.aload 7, 2) := by decide +kernel
theorem dX4_post_56 : decode cX4_post 56 = .ok (.iload_n 1, 1) := by decide +kernel
theorem dX4_post_57 : decode cX4_post 57 = .ok (.putfield 108, 3) := by decide +kernel
theorem dX4_post_60 : decode cX4_post 60 = .ok (.aload 7, 2) := by decide +kernel
theorem dX4_post_62 : decode cX4_post 62 = .ok (.iload_n 2, 1) := by decide +kernel
theorem dX4_post_63 : decode cX4_post 63 = .ok (.putfield 111, 3) := by decide +kernel
theorem dX4_post_66 : decode cX4_post 66 = .ok (.aload 7, 2) := by decide +kernel
theorem dX4_post_68 : decode cX4_post 68 = .ok (.iload_n 3, 1) := by decide +kernel
theorem dX4_post_69 : decode cX4_post 69 = .ok (.putfield 114, 3) := by decide +kernel
theorem dX4_post_72 : decode cX4_post 72 = .ok (.aload 7, 2) := by decide +kernel
theorem dX4_post_74 : decode cX4_post 74 = .ok (.iload 4, 2) := by decide +kernel
theorem dX4_post_76 : decode cX4_post 76 = .ok (.putfield 117, 3) := by decide +kernel
theorem dX4_post_79 : decode cX4_post 79 = .ok (.aload 7, 2) := by decide +kernel
theorem dX4_post_81 : decode cX4_post 81 = .ok (.aload_n 0, 1) := by decide +kernel
theorem dX4_post_82 : decode cX4_post 82 = .ok (.getfield 40, 3) := by decide +kernel
theorem dX4_post_85 : decode cX4_post 85 = .ok (.aload_n 0, 1) := by decide +kernel
theorem dX4_post_86 : decode cX4_post 86 = .ok (.getfield 18, 3) := by decide +kernel
theorem dX4_post_89 : decode cX4_post 89 = .ok (.iload 6, 2) := by decide +kernel
theorem dX4_post_91 : decode cX4_post 91 = .ok (.iaload, 1) := by decide +kernel
theorem dX4_post_92 : decode cX4_post 92 = .ok (.iadd, 1) := by decide +kernel
theorem dX4_post_93 : decode cX4_post 93 = .ok (.putfield 120, 3) := by decide +kernel
theorem dX4_post_96 : decode cX4_post 96 = .ok (.aload 7, 2) := by decide +kernel
theorem dX4_post_98 : decode cX4_post 98 = .ok (.aload 5, 2) := by decide +kernel
theorem dX4_post_100 : decode cX4_post 100 = .ok (.putfield 123, 3) := by decide +kernel
theorem dX4_post_103 : decode cX4_post 103 = .ok (.aload_n 0, 1) := by decide +kernel
theorem dX4_post_104 : decode cX4_post 104 = .ok (.getfield 51, 3) := by decide +kernel
theorem dX4_post_107 : decode cX4_post 107 = .ok (.istore 8, 2) := by decide +kernel
theorem dX4_post_109 : decode cX4_post 109 = .ok (.iload 8, 2) := by decide +kernel
theorem dX4_post_111 : decode cX4_post 111 = .ok (.ifCond .le 45, 3) := by decide +kernel
theorem dX4_post_114 : decode cX4_post 114 = .ok (.aload_n 0, 1) := by decide +kernel
theorem dX4_post_115 : decode cX4_post 115 = .ok (.getfield 30, 3) := by decide +kernel
theorem dX4_post_118 : decode cX4_post 118 = .ok (.iload 8, 2) := by decide +kernel
theorem dX4_post_120 : decode cX4_post 120 = .ok (.iconst 1, 1) := by decide +kernel
theorem dX4_post_121 : decode cX4_post 121 = .ok (.isub, 1) := by decide +kernel
theorem dX4_post_122 : decode cX4_post 122 = .ok (.aaload, 1) := by decide +kernel
theorem dX4_post_123 : decode cX4_post 123 = .ok (.getfield 120, 3) := by decide +kernel
theorem dX4_post_126 : decode cX4_post 126 = .ok (.aload 7, 2) := by decide +kernel
theorem dX4_post_128 : decode cX4_post 128 = .ok (.getfield 120, 3) := by decide +kernel
theorem dX4_post_131 : decode cX4_post 131 = .ok (.if_icmp .le 25, 3) := by decide +kernel
theorem dX4_post_134 : decode cX4_post 134 = .ok (.aload_n 0, 1) := by decide +kernel
theorem dX4_post_135 : decode cX4_post 135 = .ok (.getfield 30, 3) := by decide +kernel
theorem dX4_post_138 : decode cX4_post 138 = .ok (.iload 8, 2) := by decide +kernel
theorem dX4_post_140 : decode cX4_post 140 = .ok (.aload_n 0, 1) := by decide +kernel
theorem dX4_post_141 : decode cX4_post 141 = .ok (.getfield 30, 3) := by decide +kernel
theorem dX4_post_144 : decode cX4_post 144 = .ok (.iload 8, 2) := by decide +kernel
theorem dX4_post_146 : decode cX4_post 146 = .ok (.iconst 1, 1) := by decide +kernel
theorem dX4_post_147 : decode cX4_post 147 = .ok (.isub, 1) := by decide +kernel
theorem dX4_post_148 : decode cX4_post 148 = .ok (.aaload, 1) := by decide +kernel
theorem dX4_post_149 : decode cX4_post 149 = .ok (.aastore, 1) := by decide +kernel
theorem dX4_post_150 : decode cX4_post 150 = .ok (.iinc 8 (-1), 3) := by decide +kernel
theorem dX4_post_153 : decode cX4_post 153 = .ok (.goto (-44), 3) := by decide +kernel
theorem dX4_post_156 : decode cX4_post 156 = .ok (.aload_n 0, 1) := by decide +kernel
theorem dX4_post_157 : decode cX4_post 157 = .ok (.getfield 30, 3) := by decide +kernel
theorem dX4_post_160 : decode cX4_post 160 = .ok (.iload 8, 2) := by decide +kernel
theorem dX4_post_162 : decode cX4_post 162 = .ok (.aload 7, 2) := by decide +kernel
theorem dX4_post_164 : decode cX4_post 164 = .ok (.aastore, 1) := by decide +kernel
theorem dX4_post_165 : decode cX4_post 165 = .ok (.aload_n 0, 1) := by decide +kernel
theorem dX4_post_166 : decode cX4_post 166 = .ok (.dup, 1) := by decide +kernel
theorem dX4_post_167 : decode cX4_post 167 = .ok (.getfield 51, 3) := by decide +kernel
theorem dX4_post_170 : decode cX4_post 170 = .ok (.iconst 1, 1) := by decide +kernel
theorem dX4_post_171 : decode cX4_post 171 = .ok (.iadd, 1) := by decide +kernel
theorem dX4_post_172 : decode cX4_post 172 = .ok (.putfield 51, 3) := by decide +kernel
theorem dX4_post_175 : decode cX4_post 175 = .ok (.return_, 1) := by decide +kernel
theorem dX4_isOnItsWay_0 : decode cX4_isOnItsWay 0 = .ok (.iload_n 1, 1) := by decide +kernel
theorem dX4_isOnItsWay_1 : decode cX4_isOnItsWay 1 = .ok (.ifCond .lt 24, 3) := by decide +kernel
theorem dX4_isOnItsWay_4 : decode cX4_isOnItsWay 4 = .ok (.iload_n 1, 1) := by decide +kernel
theorem dX4_isOnItsWay_5 : decode cX4_isOnItsWay 5 = .ok (.aload_n 0, 1) := by decide +kernel
theorem dX4_isOnItsWay_6 : decode cX4_isOnItsWay 6 = .ok (.getfield 51, 3) := by decide +kernel
theorem dX4_isOnItsWay_9 : decode cX4_isOnItsWay 9 = .ok (.if_icmp .ge 16, 3) := by decide +kernel
theorem dX4_isOnItsWay_12 : decode cX4_isOnItsWay 12 = .ok (.iload_n 1, 1) := by decide +kernel
theorem dX4_isOnItsWay_13 : decode cX4_isOnItsWay 13 = .ok (.aload_n 0, 1) := by decide +kernel
theorem dX4_isOnItsWay_14 : decode cX4_isOnItsWay 14 = .ok (.getfield 30, 3) := by decide +kernel
theorem dX4_isOnItsWay_17 : decode cX4_isOnItsWay 17 = .ok (.arraylength, 1) := by decide +kernel
theorem dX4_isOnItsWay_18 : decode cX4_isOnItsWay 18 = .ok (.if_icmp .ge 7, 3) := by decide +kernel
theorem dX4_isOnItsWay_21 : decode cX4_isOnItsWay 21 = .ok (.iconst 1, 1) := by decide +kernel
theorem dX4_isOnItsWay_22 : decode cX4_isOnItsWay 22 = .ok (.goto 4, 3) := by decide +kernel
theorem dX4_isOnItsWay_25 : decode cX4_isOnItsWay 25 = .ok (.iconst 0, 1) := by decide +kernel
theorem dX4_isOnItsWay_26 : decode cX4_isOnItsWay 26 = .ok (.ireturn, 1) := by decide +kernel
theorem dX4_takeOut_0 : decode cX4_takeOut 0 = .ok (.aload_n 0, 1) := by decide +kernel
theorem dX4_takeOut_1 : decode cX4_takeOut 1 = .ok (.iload_n 1, 1) := by decide +kernel
theorem dX4_takeOut_2 : decode cX4_takeOut 2 = .ok (.invokevirtual 54, 3) := by decide +kernel
theorem dX4_takeOut_5 : decode cX4_takeOut 5 = .ok (.ifCond .ne 4, 3) := by decide +kernel
theorem dX4_takeOut_8 : decode cX4_takeOut 8 = .ok (.return_, 1) := by decide +kernel
theorem dX4_takeOut_9 : decode cX4_takeOut 9 = .ok (.aload_n 0, 1) := by decide +kernel
theorem dX4_takeOut_10 : decode cX4_takeOut 10 = .ok (.getfield 30, 3) := by decide +kernel
theorem dX4_takeOut_13 : decode cX4_takeOut 13 = .ok (.iload_n 1, 1) := by decide +kernel
theorem dX4_takeOut_14 : decode cX4_takeOut 14 = .ok (.aaload, 1) := by decide +kernel
theorem dX4_takeOut_15 : decode cX4_takeOut 15 = .ok (.astore_n 2, 1) := by decide +kernel
theorem dX4_takeOut_16 : decode cX4_takeOut 16 = .ok (.iload_n 1, 1) := by decide +kernel
theorem dX4_takeOut_17 : decode cX4_takeOut 17 = .ok (.istore_n 3, 1) := by decide +kernel
theorem dX4_takeOut_18 : decode cX4_takeOut 18 = .ok (.iload_n 3, 1) := by decide +kernel
theorem dX4_takeOut_19 : decode cX4_takeOut 19 = .ok (.iconst 1, 1) := by decide +kernel
theorem dX4_takeOut_20 : decode cX4_takeOut 20 = .ok (.iadd, 1) := by decide +kernel
theorem dX4_takeOut_21 : decode cX4_takeOut 21 = .ok (.aload_n 0, 1) := by decide +kernel
theorem dX4_takeOut_22 : decode cX4_takeOut 22 = .ok (.getfield 51, 3) := by decide +kernel
theorem dX4_takeOut_25 : decode cX4_takeOut 25 = .ok (.if_icmp .ge 34, 3) := by decide +kernel
theorem dX4_takeOut_28 : decode cX4_takeOut 28 = .ok (.iload_n 3, 1) := by decide +kernel
theorem dX4_takeOut_29 : decode cX4_takeOut 29 = .ok (.iconst 1, 1) := by decide +kernel
theorem dX4_takeOut_30 : decode cX4_takeOut 30 = .ok (.iadd, 1) := by decide +kernel
theorem dX4_takeOut_31 : decode cX4_takeOut 31 = .ok (.aload_n 0, 1) := by decide +kernel
theorem dX4_takeOut_32 : decode cX4_takeOut 32 = .ok (.getfield 30, 3) := by decide +kernel
theorem dX4_takeOut_35 : decode cX4_takeOut 35 = .ok (.arraylength, 1) := by decide +kernel
theorem dX4_takeOut_36 : decode cX4_takeOut 36 = .ok (.if_icmp .ge 23, 3) := by decide +kernel
theorem dX4_takeOut_39 : decode cX4_takeOut 39 = .ok (.aload_n 0, 1) := by decide +kernel
theorem dX4_takeOut_40 : decode cX4_takeOut 40 = .ok (.getfield 30, 3) := by decide +kernel
theorem dX4_takeOut_43 : decode cX4_takeOut 43 = .ok (.iload_n 3, 1) := by decide +kernel
theorem dX4_takeOut_44 : decode cX4_takeOut 44 = .ok (.aload_n 0, 1) := by decide +kernel
theorem dX4_takeOut_45 : decode cX4_takeOut 45 = .ok (.getfield 30, 3) := by decide +kernel
theorem dX4_takeOut_48 : decode cX4_takeOut 48 = .ok (.iload_n 3, 1) := by decide +kernel
theorem dX4_takeOut_49 : decode cX4_takeOut 49 = .ok (.iconst 1, 1) := by decide +kernel
theorem dX4_takeOut_50 : decode cX4_takeOut 50 = .ok (.iadd, 1) := by decide +kernel
theorem dX4_takeOut_51 : decode cX4_takeOut 51 = .ok (.aaload, 1) := by decide +kernel
theorem dX4_takeOut_52 : decode cX4_takeOut 52 = .ok (.aastore, 1) := by decide +kernel
theorem dX4_takeOut_53 : decode cX4_takeOut 53 = .ok (.iinc 3 1, 3) := by decide +kernel
theorem dX4_takeOut_56 : decode cX4_takeOut 56 = .ok (.goto (-38), 3) := by decide +kernel
theorem dX4_takeOut_59 : decode cX4_takeOut 59 = .ok (.aload_n 0, 1) := by decide +kernel
theorem dX4_takeOut_60 : decode cX4_takeOut 60 = .ok (.getfield 30, 3) := by decide +kernel
theorem dX4_takeOut_63 : decode cX4_takeOut 63 = .ok (.iload_n 3, 1) := by decide +kernel
theorem dX4_takeOut_64 : decode cX4_takeOut 64 = .ok (.aload_n 2, 1) := by decide +kernel
theorem dX4_takeOut_65 : decode cX4_takeOut 65 = .ok (.aastore, 1) := by decide +kernel
theorem dX4_takeOut_66 : decode cX4_takeOut 66 = .ok (.aload_n 0, 1) := by decide +kernel
theorem dX4_takeOut_67 : decode cX4_takeOut 67 = .ok (.iload_n 3, 1) := by decide +kernel
theorem dX4_takeOut_68 : decode cX4_takeOut 68 = .ok (.putfield 51, 3) := by decide +kernel
theorem dX4_takeOut_71 : decode cX4_takeOut 71 = .ok (.return_, 1) := by decide +kernel
theorem dX4_dropMessage_0 : decode cX4_dropMessage 0 = .ok (.aload_n 0, 1) := by decide +kernel
theorem dX4_dropMessage_1 : decode cX4_dropMessage 1 = .ok (.iload_n 1, 1) := by decide +kernel
theorem dX4_dropMessage_2 : decode cX4_dropMessage 2 = .ok (.invokevirtual 54, 3) := by decide +kernel
theorem dX4_dropMessage_5 : decode cX4_dropMessage 5 = .ok (.ifCond .ne 5, 3) := by decide +kernel
theorem dX4_dropMessage_8 : decode cX4_dropMessage 8 = .ok (.iconst (-1), 1) := by decide +kernel
theorem dX4_dropMessage_9 : decode cX4_dropMessage 9 = .ok (.ireturn, 1) := by decide +kernel
theorem dX4_dropMessage_10 : decode cX4_dropMessage 10 = .ok (.aload_n 0, 1) := by decide +kernel
theorem dX4_dropMessage_11 : decode cX4_dropMessage 11 = .ok (.getfield 30, 3) := by decide +kernel
theorem dX4_dropMessage_14 : decode cX4_dropMessage 14 = .ok (.iload_n 1, 1) := by decide +kernel
theorem dX4_dropMessage_15 : decode cX4_dropMessage 15 = .ok (.aaload, 1) := by decide +kernel
theorem dX4_dropMessage_16 : decode cX4_dropMessage 16 = .ok (.astore_n 2, 1) := by decide +kernel
theorem dX4_dropMessage_17 : decode cX4_dropMessage 17 = .ok (.aload_n 2, 1) := by decide +kernel
theorem dX4_dropMessage_18 : decode cX4_dropMessage 18 = .ok (.getfield 117, 3) := by decide +kernel
theorem dX4_dropMessage_21 : decode cX4_dropMessage 21 = .ok (.istore_n 3, 1) := by decide +kernel
theorem dX4_dropMessage_22 : decode cX4_dropMessage 22 = .ok (.aload_n 2, 1) := by decide +kernel
theorem dX4_dropMessage_23 : decode cX4_dropMessage 23 = .ok (.getfield 108, 3) := by decide +kernel
theorem dX4_dropMessage_26 : decode cX4_dropMessage 26 = .ok (.iconst 1, 1) := by decide +kernel
theorem dX4_dropMessage_27 : decode cX4_dropMessage 27 = .ok (.if_icmp .ne 11, 3) := by decide +kernel
theorem dX4_dropMessage_30 : decode cX4_dropMessage 30 = .ok (.aload_n 0, 1) := by decide +kernel
theorem dX4_dropMessage_31 : decode cX4_dropMessage 31 = .ok (.aload_n 2, 1) := by decide +kernel
theorem dX4_dropMessage_32 : decode cX4_dropMessage 32 = .ok (.getfield 111, 3) := by decide +kernel
theorem dX4_dropMessage_35 : decode cX4_dropMessage 35 = .ok (.invokevirtual 127, 3) := by decide +kernel
theorem dX4_dropMessage_38 : decode cX4_dropMessage 38 = .ok (.aload_n 2, 1) := by decide +kernel
theorem dX4_dropMessage_39 : decode cX4_dropMessage 39 = .ok (.getfield 108, 3) := by decide +kernel
theorem dX4_dropMessage_42 : decode cX4_dropMessage 42 = .ok (.iconst 2, 1) := by decide +kernel
theorem dX4_dropMessage_43 : decode cX4_dropMessage 43 = .ok (.if_icmp .ne 11, 3) := by decide +kernel
theorem dX4_dropMessage_46 : decode cX4_dropMessage 46 = .ok (.aload_n 0, 1) := by decide +kernel
theorem dX4_dropMessage_47 : decode cX4_dropMessage 47 = .ok (.aload_n 2, 1) := by decide +kernel
theorem dX4_dropMessage_48 : decode cX4_dropMessage 48 = .ok (.getfield 114, 3) := by decide +kernel
theorem dX4_dropMessage_51 : decode cX4_dropMessage 51 = .ok (.invokevirtual 127, 3) := by decide +kernel
theorem dX4_dropMessage_54 : decode cX4_dropMessage 54 = .ok (.aload_n 0, 1) := by decide +kernel
theorem dX4_dropMessage_55 : decode cX4_dropMessage 55 = .ok (.dup, 1) := by decide +kernel
theorem dX4_dropMessage_56 : decode cX4_dropMessage 56 = .ok (.getfield 67, 3) := by decide +kernel
theorem dX4_dropMessage_59 : decode cX4_dropMessage 59 = .ok (.iload_n 3, 1) := by decide +kernel
theorem dX4_dropMessage_60 : decode cX4_dropMessage 60 = .ok (.iadd, 1) := by decide +kernel
theorem dX4_dropMessage_61 : decode cX4_dropMessage 61 = .ok (.putfield 67, 3) := by decide +kernel
theorem dX4_dropMessage_64 : decode cX4_dropMessage 64 = .ok (.aload_n 0, 1) := by decide +kernel
theorem dX4_dropMessage_65 : decode cX4_dropMessage 65 = .ok (.dup, 1) := by decide +kernel
theorem dX4_dropMessage_66 : decode cX4_dropMessage 66 = .ok (.getfield 76, 3) := by decide +kernel
theorem dX4_dropMessage_69 : decode cX4_dropMessage 69 = .ok (.iconst 1, 1) := by decide +kernel
theorem dX4_dropMessage_70 : decode cX4_dropMessage 70 = .ok (.iadd, 1) := by decide +kernel
theorem dX4_dropMessage_71 : decode cX4_dropMessage 71 = .ok (.putfield 76, 3) := by decide +kernel
theorem dX4_dropMessage_74 : decode cX4_dropMessage 74 = .ok (.aload_n 0, 1) := by decide +kernel
theorem dX4_dropMessage_75 : decode cX4_dropMessage 75 = .ok (.iconst 1, 1) := by decide +kernel
theorem dX4_dropMessage_76 : decode cX4_dropMessage 76 = .ok (.putfield 79, 3) := by decide +kernel
theorem dX4_dropMessage_79 : decode cX4_dropMessage 79 = .ok (.aload_n 0, 1) := by decide +kernel
theorem dX4_dropMessage_80 : decode cX4_dropMessage 80 = .ok (.iload_n 1, 1) := by decide +kernel
theorem dX4_dropMessage_81 : decode cX4_dropMessage 81 = .ok (.invokevirtual 131, 3) := by decide +kernel
theorem dX4_dropMessage_84 : decode cX4_dropMessage 84 = .ok (.iload_n 3, 1) := by decide +kernel
theorem dX4_dropMessage_85 : decode cX4_dropMessage 85 = .ok (.ireturn, 1) := by decide +kernel
theorem dX4_loseAskOf_0 : decode cX4_loseAskOf 0 = .ok (.iload_n 1, 1) := by decide +kernel
theorem dX4_loseAskOf_1 : decode cX4_loseAskOf 1 = .ok (.invokestatic 134, 3) := by decide +kernel
theorem dX4_loseAskOf_4 : decode cX4_loseAskOf 4 = .ok (.ifCond .eq 13, 3) := by decide +kernel
theorem dX4_loseAskOf_7 : decode cX4_loseAskOf 7 = .ok (.aload_n 0, 1) := by decide +kernel
theorem dX4_loseAskOf_8 : decode cX4_loseAskOf 8 = .ok (.getfield 24, 3) := by decide +kernel
theorem dX4_loseAskOf_11 : decode cX4_loseAskOf 11 = .ok (.iload_n 1, 1) := by decide +kernel
theorem dX4_loseAskOf_12 : decode cX4_loseAskOf 12 = .ok (.aaload, 1) := by decide +kernel
theorem dX4_loseAskOf_13 : decode cX4_loseAskOf 13 = .ok (.iconst 1, 1) := by decide +kernel
theorem dX4_loseAskOf_14 : decode cX4_loseAskOf 14 = .ok (.putfield 137, 3) := by decide +kernel
theorem dX4_loseAskOf_17 : decode cX4_loseAskOf 17 = .ok (.return_, 1) := by decide +kernel
theorem dX4_replaceLost_0 : decode cX4_replaceLost 0 = .ok (.aload_n 0, 1) := by decide +kernel
theorem dX4_replaceLost_1 : decode cX4_replaceLost 1 = .ok (.getfield 67, 3) := by decide +kernel
theorem dX4_replaceLost_4 : decode cX4_replaceLost 4 = .ok (.istore_n 1, 1) := by decide +kernel
theorem dX4_replaceLost_5 : decode cX4_replaceLost 5 = .ok (.aload_n 0, 1) := by decide +kernel
theorem dX4_replaceLost_6 : decode cX4_replaceLost 6 = .ok (.dup, 1) := by decide +kernel
theorem dX4_replaceLost_7 : decode cX4_replaceLost 7 = .ok (.getfield 64, 3) := by decide +kernel
theorem dX4_replaceLost_10 : decode cX4_replaceLost 10 = .ok (.iload_n 1, 1) := by decide +kernel
theorem dX4_replaceLost_11 : decode cX4_replaceLost 11 = .ok (.iadd, 1) := by decide +kernel
theorem dX4_replaceLost_12 : decode cX4_replaceLost 12 = .ok (.putfield 64, 3) := by decide +kernel
theorem dX4_replaceLost_15 : decode cX4_replaceLost 15 = .ok (.aload_n 0, 1) := by decide +kernel
theorem dX4_replaceLost_16 : decode cX4_replaceLost 16 = .ok (.iconst 0, 1) := by decide +kernel
theorem dX4_replaceLost_17 : decode cX4_replaceLost 17 = .ok (.putfield 67, 3) := by decide +kernel
theorem dX4_replaceLost_20 : decode cX4_replaceLost 20 = .ok (.aload_n 0, 1) := by decide +kernel
theorem dX4_replaceLost_21 : decode cX4_replaceLost 21 = .ok (.iconst 0, 1) := by decide +kernel
theorem dX4_replaceLost_22 : decode cX4_replaceLost 22 = .ok (.putfield 79, 3) := by decide +kernel
theorem dX4_replaceLost_25 : decode cX4_replaceLost 25 = .ok (.iconst 0, 1) := by decide +kernel
theorem dX4_replaceLost_26 : decode cX4_replaceLost 26 = .ok (.istore_n 2, 1) := by decide +kernel
theorem dX4_replaceLost_27 : decode cX4_replaceLost 27 = .ok (.iload_n 2, 1) := by decide +kernel
theorem dX4_replaceLost_28 : decode cX4_replaceLost 28 = .ok (.aload_n 0, 1) := by decide +kernel
theorem dX4_replaceLost_29 : decode cX4_replaceLost 29 = .ok (.getfield 24, 3) := by decide +kernel
theorem dX4_replaceLost_32 : decode cX4_replaceLost 32 = .ok (.arraylength, 1) := by decide +kernel
theorem dX4_replaceLost_33 : decode cX4_replaceLost 33 = .ok (.if_icmp .ge 46, 3) := by decide +kernel
theorem dX4_replaceLost_36 : decode cX4_replaceLost 36 = .ok (.aload_n 0, 1) := by decide +kernel
theorem dX4_replaceLost_37 : decode cX4_replaceLost 37 = .ok (.getfield 24, 3) := by decide +kernel
theorem dX4_replaceLost_40 : decode cX4_replaceLost 40 = .ok (.iload_n 2, 1) := by decide +kernel
theorem dX4_replaceLost_41 : decode cX4_replaceLost 41 = .ok (.aaload, 1) := by decide +kernel
theorem dX4_replaceLost_42 : decode cX4_replaceLost 42 = .ok (.getfield 137, 3) := by decide +kernel
theorem dX4_replaceLost_45 : decode cX4_replaceLost 45 = .ok (.ifCond .eq 28, 3) := by decide +kernel
theorem dX4_replaceLost_48 : decode cX4_replaceLost 48 = .ok (.aload_n 0, 1) := by decide +kernel
theorem dX4_replaceLost_49 : decode cX4_replaceLost 49 = .ok (.getfield 24, 3) := by decide +kernel
theorem dX4_replaceLost_52 : decode cX4_replaceLost 52 = .ok (.iload_n 2, 1) := by decide +kernel
theorem dX4_replaceLost_53 : decode cX4_replaceLost 53 = .ok (.aaload, 1) := by decide +kernel
theorem dX4_replaceLost_54 : decode cX4_replaceLost 54 = .ok (.iconst 0, 1) := by decide +kernel
theorem dX4_replaceLost_55 : decode cX4_replaceLost 55 = .ok (.putfield 137, 3) := by decide +kernel
theorem dX4_replaceLost_58 : decode cX4_replaceLost 58 = .ok (.aload_n 0, 1) := by decide +kernel
theorem dX4_replaceLost_59 : decode cX4_replaceLost 59 = .ok (.getfield 24, 3) := by decide +kernel
theorem dX4_replaceLost_62 : decode cX4_replaceLost 62 = .ok (.iload_n 2, 1) := by decide +kernel
theorem dX4_replaceLost_63 : decode cX4_replaceLost 63 = .ok (.aaload, 1) := by decide +kernel
theorem dX4_replaceLost_64 : decode cX4_replaceLost 64 = .ok (.iconst 0, 1) := by decide +kernel
theorem dX4_replaceLost_65 : decode cX4_replaceLost 65 = .ok (.putfield 140, 3) := by decide +kernel
theorem dX4_replaceLost_68 : decode cX4_replaceLost 68 = .ok (.aload_n 0, 1) := by decide +kernel
theorem dX4_replaceLost_69 : decode cX4_replaceLost 69 = .ok (.iload_n 2, 1) := by decide +kernel
theorem dX4_replaceLost_70 : decode cX4_replaceLost 70 = .ok (.invokevirtual 143, 3) := by decide +kernel
theorem dX4_replaceLost_73 : decode cX4_replaceLost 73 = .ok (.iinc 2 1, 3) := by decide +kernel
theorem dX4_replaceLost_76 : decode cX4_replaceLost 76 = .ok (.goto (-49), 3) := by decide +kernel
theorem dX4_replaceLost_79 : decode cX4_replaceLost 79 = .ok (.iload_n 1, 1) := by decide +kernel
theorem dX4_replaceLost_80 : decode cX4_replaceLost 80 = .ok (.ireturn, 1) := by decide +kernel
theorem dX4_tick_0 : decode cX4_tick 0 = .ok (.aload_n 0, 1) := by decide +kernel
theorem dX4_tick_1 : decode cX4_tick 1 = .ok (.dup, 1) := by decide +kernel
theorem dX4_tick_2 : decode cX4_tick 2 = .ok (.getfield 40, 3) := by decide +kernel
theorem dX4_tick_5 : decode cX4_tick 5 = .ok (.iconst 1, 1) := by decide +kernel
theorem dX4_tick_6 : decode cX4_tick 6 = .ok (.iadd, 1) := by decide +kernel
theorem dX4_tick_7 : decode cX4_tick 7 = .ok (.putfield 40, 3) := by decide +kernel
theorem dX4_tick_10 : decode cX4_tick 10 = .ok (.aload_n 0, 1) := by decide +kernel
theorem dX4_tick_11 : decode cX4_tick 11 = .ok (.invokevirtual 146, 3) := by decide +kernel
theorem dX4_tick_14 : decode cX4_tick 14 = .ok (.istore_n 1, 1) := by decide +kernel
theorem dX4_tick_15 : decode cX4_tick 15 = .ok (.iconst 0, 1) := by decide +kernel
theorem dX4_tick_16 : decode cX4_tick 16 = .ok (.istore_n 2, 1) := by decide +kernel
theorem dX4_tick_17 : decode cX4_tick 17 = .ok (.iload_n 2, 1) := by decide +kernel
theorem dX4_tick_18 : decode cX4_tick 18 = .ok (.iload_n 1, 1) := by decide +kernel
theorem dX4_tick_19 : decode cX4_tick 19 = .ok (.if_icmp .ge 24, 3) := by decide +kernel
theorem dX4_tick_22 : decode cX4_tick 22 = .ok (.aload_n 0, 1) := by decide +kernel
theorem dX4_tick_23 : decode cX4_tick 23 = .ok (.aload_n 0, 1) := by decide +kernel
theorem dX4_tick_24 : decode cX4_tick 24 = .ok (.getfield 30, 3) := by decide +kernel
theorem dX4_tick_27 : decode cX4_tick 27 = .ok (.iconst 0, 1) := by decide +kernel
theorem dX4_tick_28 : decode cX4_tick 28 = .ok (.aaload, 1) := by decide +kernel
theorem dX4_tick_29 : decode cX4_tick 29 = .ok (.invokevirtual 149, 3) := by decide +kernel
theorem dX4_tick_32 : decode cX4_tick 32 = .ok (.aload_n 0, 1) := by decide +kernel
theorem dX4_tick_33 : decode cX4_tick 33 = .ok (.iconst 0, 1) := by decide +kernel
theorem dX4_tick_34 : decode cX4_tick 34 = .ok (.invokevirtual 131, 3) := by decide +kernel
theorem dX4_tick_37 : decode cX4_tick 37 = .ok (.iinc 2 1, 3) := by decide +kernel
theorem dX4_tick_40 : decode cX4_tick 40 = .ok (.goto (-23), 3) := by decide +kernel
theorem dX4_tick_43 : decode cX4_tick 43 = .ok (.iconst 0, 1) := by decide +kernel
theorem dX4_tick_44 : decode cX4_tick 44 = .ok (.istore_n 2, 1) := by decide +kernel
theorem dX4_tick_45 : decode cX4_tick 45 = .ok (.iload_n 2, 1) := by decide +kernel
theorem dX4_tick_46 : decode cX4_tick 46 = .ok (.aload_n 0, 1) := by decide +kernel
theorem dX4_tick_47 : decode cX4_tick 47 = .ok (.getfield 24, 3) := by decide +kernel
theorem dX4_tick_50 : decode cX4_tick 50 = .ok (.arraylength, 1) := by decide +kernel
theorem dX4_tick_51 : decode cX4_tick 51 = .ok (.if_icmp .ge 26, 3) := by decide +kernel
theorem dX4_tick_54 : decode cX4_tick 54 = .ok (.aload_n 0, 1) := by decide +kernel
theorem dX4_tick_55 : decode cX4_tick 55 = .ok (.getfield 24, 3) := by decide +kernel
theorem dX4_tick_58 : decode cX4_tick 58 = .ok (.iload_n 2, 1) := by decide +kernel
theorem dX4_tick_59 : decode cX4_tick 59 = .ok (.aaload, 1) := by decide +kernel
theorem dX4_tick_60 : decode cX4_tick 60 = .ok (.getfield 152, 3) := by decide +kernel
theorem dX4_tick_63 : decode cX4_tick 63 = .ok (.ifCond .eq 8, 3) := by decide +kernel
theorem dX4_tick_66 : decode cX4_tick 66 = .ok (.aload_n 0, 1) := by decide +kernel
theorem dX4_tick_67 : decode cX4_tick 67 = .ok (.iload_n 2, 1) := by decide +kernel
theorem dX4_tick_68 : decode cX4_tick 68 = .ok (.invokevirtual 155, 3) := by decide +kernel
theorem dX4_tick_71 : decode cX4_tick 71 = .ok (.iinc 2 1, 3) := by decide +kernel
theorem dX4_tick_74 : decode cX4_tick 74 = .ok (.goto (-29), 3) := by decide +kernel
theorem dX4_tick_77 : decode cX4_tick 77 = .ok (.return_, 1) := by decide +kernel
theorem dX4_countArriving_0 : decode cX4_countArriving 0 = .ok (.iconst 0, 1) := by decide +kernel
theorem dX4_countArriving_1 : decode cX4_countArriving 1 = .ok (.istore_n 1, 1) := by decide +kernel
theorem dX4_countArriving_2 : decode cX4_countArriving 2 = .ok (.iload_n 1, 1) := by decide +kernel
theorem dX4_countArriving_3 : decode cX4_countArriving 3 = .ok (.aload_n 0, 1) := by decide +kernel
theorem dX4_countArriving_4 : decode cX4_countArriving 4 = .ok (.getfield 51, 3) := by decide +kernel
theorem dX4_countArriving_7 : decode cX4_countArriving 7 = .ok (.if_icmp .ge 36, 3) := by decide +kernel
theorem dX4_countArriving_10 : decode cX4_countArriving 10 = .ok (.iload_n 1, 1) := by decide +kernel
theorem dX4_countArriving_11 : decode cX4_countArriving 11 = .ok (.aload_n 0, 1) := by decide +kernel
theorem dX4_countArriving_12 : decode cX4_countArriving 12 = .ok (.getfield 30, 3) := by decide +kernel
theorem dX4_countArriving_15 : decode cX4_countArriving 15 = .ok (.arraylength, 1) := by decide +kernel
theorem dX4_countArriving_16 : decode cX4_countArriving 16 = .ok (.if_icmp .ge 27, 3) := by decide +kernel
theorem dX4_countArriving_19 : decode cX4_countArriving 19 = .ok (.aload_n 0, 1) := by decide +kernel
theorem dX4_countArriving_20 : decode cX4_countArriving 20 = .ok (.getfield 30, 3) := by decide +kernel
theorem dX4_countArriving_23 : decode cX4_countArriving 23 = .ok (.iload_n 1, 1) := by decide +kernel
theorem dX4_countArriving_24 : decode cX4_countArriving 24 = .ok (.aaload, 1) := by decide +kernel
theorem dX4_countArriving_25 : decode cX4_countArriving 25 = .ok (.getfield 120, 3) := by decide +kernel
theorem dX4_countArriving_28 : decode cX4_countArriving 28 = .ok (.aload_n 0, 1) := by decide +kernel
theorem dX4_countArriving_29 : decode cX4_countArriving 29 = .ok (.getfield 40, 3) := by decide +kernel
theorem dX4_countArriving_32 : decode cX4_countArriving 32 = .ok (.if_icmp .le 5, 3) := by decide +kernel
theorem dX4_countArriving_35 : decode cX4_countArriving 35 = .ok (.iload_n 1, 1) := by decide +kernel
theorem dX4_countArriving_36 : decode cX4_countArriving 36 = .ok (.ireturn, 1) := by decide +kernel
theorem dX4_countArriving_37 : decode cX4_countArriving 37 = .ok (.iinc 1 1, 3) := by decide +kernel
theorem dX4_countArriving_40 : decode cX4_countArriving 40 = .ok (.goto (-38), 3) := by decide +kernel
theorem dX4_countArriving_43 : decode cX4_countArriving 43 = .ok (.aload_n 0, 1) := by decide +kernel
theorem dX4_countArriving_44 : decode cX4_countArriving 44 = .ok (.getfield 51, 3) := by decide +kernel
theorem dX4_countArriving_47 : decode cX4_countArriving 47 = .ok (.ireturn, 1) := by decide +kernel
theorem dX4_arrive_0 : decode cX4_arrive 0 = .ok (.aload_n 1, 1) := by decide +kernel
theorem dX4_arrive_1 : decode cX4_arrive 1 = .ok (.getfield 108, 3) := by decide +kernel
theorem dX4_arrive_4 : decode cX4_arrive 4 = .ok (.iconst 3, 1) := by decide +kernel
theorem dX4_arrive_5 : decode cX4_arrive 5 = .ok (.if_icmp .ne 17, 3) := by decide +kernel
theorem dX4_arrive_8 : decode cX4_arrive 8 = .ok (.aload_n 0, 1) := by decide +kernel
theorem dX4_arrive_9 : decode cX4_arrive 9 = .ok (.dup, 1) := by decide +kernel
theorem dX4_arrive_10 : decode cX4_arrive 10 = .ok (.getfield 64, 3) := by decide +kernel
theorem dX4_arrive_13 : decode cX4_arrive 13 = .ok (.aload_n 1, 1) := by decide +kernel
theorem dX4_arrive_14 : decode cX4_arrive 14 = .ok (.getfield 117, 3) := by decide +kernel
theorem dX4_arrive_17 : decode cX4_arrive 17 = .ok (.iadd, 1) := by decide +kernel
theorem dX4_arrive_18 : decode cX4_arrive 18 = .ok (.putfield 64, 3) := by decide +kernel
theorem dX4_arrive_21 : decode cX4_arrive 21 = .ok (.return_, 1) := by decide +kernel
theorem dX4_arrive_22 : decode cX4_arrive 22 = .ok (.aload_n 1, 1) := by decide +kernel
theorem dX4_arrive_23 : decode cX4_arrive 23 = .ok (.getfield 108, 3) := by decide +kernel
theorem dX4_arrive_26 : decode cX4_arrive 26 = .ok (.iconst 1, 1) := by decide +kernel
theorem dX4_arrive_27 : decode cX4_arrive 27 = .ok (.if_icmp .ne 20, 3) := by decide +kernel
theorem dX4_arrive_30 : decode cX4_arrive 30 = .ok (.aload_n 0, 1) := by decide +kernel
theorem dX4_arrive_31 : decode cX4_arrive 31 = .ok (.iconst 2, 1) := by decide +kernel
theorem dX4_arrive_32 : decode cX4_arrive 32 = .ok (.bipush 6, 2) := by decide +kernel
theorem dX4_arrive_34 : decode cX4_arrive 34 = .ok (.aload_n 1, 1) := by decide +kernel
theorem dX4_arrive_35 : decode cX4_arrive 35 = .ok (.getfield 111, 3) := by decide +kernel
theorem dX4_arrive_38 : decode cX4_arrive 38 = .ok (.aload_n 0, 1) := by decide +kernel
theorem dX4_arrive_39 : decode cX4_arrive 39 = .ok (.invokevirtual 100, 3) := by decide +kernel
theorem dX4_arrive_42 : decode cX4_arrive 42 = .ok (.aconst_null, 1) := by decide +kernel
theorem dX4_arrive_43 : decode cX4_arrive 43 = .ok (.invokevirtual 104, 3) := by decide +kernel
theorem dX4_arrive_46 : decode cX4_arrive 46 = .ok (.return_, 1) := by decide +kernel
theorem dX4_arrive_47 : decode cX4_arrive 47 = .ok (.aload_n 1, 1) := by decide +kernel
theorem dX4_arrive_48 : decode cX4_arrive 48 = .ok (.getfield 114, 3) := by decide +kernel
theorem dX4_arrive_51 : decode cX4_arrive 51 = .ok (.istore_n 2, 1) := by decide +kernel
theorem dX4_arrive_52 : decode cX4_arrive 52 = .ok (.iload_n 2, 1) := by decide +kernel
theorem dX4_arrive_53 : decode cX4_arrive 53 = .ok (.invokestatic 134, 3) := by decide +kernel
theorem dX4_arrive_56 : decode cX4_arrive 56 = .ok (.ifCond .ne 4, 3) := by decide +kernel
theorem dX4_arrive_59 : decode cX4_arrive 59 = .ok (.return_, 1) := by decide +kernel
theorem dX4_arrive_60 : decode cX4_arrive 60 = .ok (.aload_n 0, 1) := by decide +kernel
theorem dX4_arrive_61 : decode cX4_arrive 61 = .ok (.getfield 24, 3) := by decide +kernel
theorem dX4_arrive_64 : decode cX4_arrive 64 = .ok (.iload_n 2, 1) := by decide +kernel
theorem dX4_arrive_65 : decode cX4_arrive 65 = .ok (.aaload, 1) := by decide +kernel
theorem dX4_arrive_66 : decode cX4_arrive 66 = .ok (.dup, 1) := by decide +kernel
theorem dX4_arrive_67 : decode cX4_arrive 67 = .ok (.getfield 158, 3) := by decide +kernel
theorem dX4_arrive_70 : decode cX4_arrive 70 = .ok (.aload_n 1, 1) := by decide +kernel
theorem dX4_arrive_71 : decode cX4_arrive 71 = .ok (.getfield 117, 3) := by decide +kernel
theorem dX4_arrive_74 : decode cX4_arrive 74 = .ok (.iadd, 1) := by decide +kernel
theorem dX4_arrive_75 : decode cX4_arrive 75 = .ok (.putfield 158, 3) := by decide +kernel
theorem dX4_arrive_78 : decode cX4_arrive 78 = .ok (.aload_n 1, 1) := by decide +kernel
theorem dX4_arrive_79 : decode cX4_arrive 79 = .ok (.getfield 108, 3) := by decide +kernel
theorem dX4_arrive_82 : decode cX4_arrive 82 = .ok (.iconst 2, 1) := by decide +kernel
theorem dX4_arrive_83 : decode cX4_arrive 83 = .ok (.if_icmp .ne 16, 3) := by decide +kernel
theorem dX4_arrive_86 : decode cX4_arrive 86 = .ok (.aload_n 0, 1) := by decide +kernel
theorem dX4_arrive_87 : decode cX4_arrive 87 = .ok (.getfield 24, 3) := by decide +kernel
theorem dX4_arrive_90 : decode cX4_arrive 90 = .ok (.iload_n 2, 1) := by decide +kernel
theorem dX4_arrive_91 : decode cX4_arrive 91 = .ok (.aaload, 1) := by decide +kernel
theorem dX4_arrive_92 : decode cX4_arrive 92 = .ok (.iconst 0, 1) := by decide +kernel
theorem dX4_arrive_93 : decode cX4_arrive 93 = .ok (.putfield 140, 3) := by decide +kernel
theorem dX4_arrive_96 : decode cX4_arrive 96 = .ok (.goto 23, 3) := by decide +kernel
theorem dX4_arrive_99 : decode cX4_arrive 99 = .ok (.aload_n 1, 1) := by decide +kernel
theorem dX4_arrive_100 : decode cX4_arrive 100 = .ok (.getfield 123, 3) := by decide +kernel
theorem dX4_arrive_103 : decode cX4_arrive 103 = .ok (.ifnull 16, 3) := by decide +kernel
theorem dX4_arrive_106 : decode cX4_arrive 106 = .ok (.aload_n 0, 1) := by decide +kernel
theorem dX4_arrive_107 : decode cX4_arrive 107 = .ok (.getfield 24, 3) := by decide +kernel
theorem dX4_arrive_110 : decode cX4_arrive 110 = .ok (.iload_n 2, 1) := by decide +kernel
theorem dX4_arrive_111 : decode cX4_arrive 111 = .ok (.aaload, 1) := by decide +kernel
theorem dX4_arrive_112 : decode cX4_arrive 112 = .ok (.aload_n 1, 1) := by decide +kernel
theorem dX4_arrive_113 : decode cX4_arrive 113 = .ok (.getfield 123, 3) := by decide +kernel
theorem dX4_arrive_116 : decode cX4_arrive 116 = .ok (.invokevirtual 159, 3) := by decide +kernel
theorem dX4_arrive_119 : decode cX4_arrive 119 = .ok (.aload_n 0, 1) := by decide +kernel
theorem dX4_arrive_120 : decode cX4_arrive 120 = .ok (.iload_n 2, 1) := by decide +kernel
theorem dX4_arrive_121 : decode cX4_arrive 121 = .ok (.invokevirtual 143, 3) := by decide +kernel
theorem dX4_arrive_124 : decode cX4_arrive 124 = .ok (.return_, 1) := by decide +kernel
theorem dX4_sendWhatItCan_0 : decode cX4_sendWhatItCan 0 = .ok (.iload_n 1, 1) := by decide +kernel
theorem dX4_sendWhatItCan_1 : decode cX4_sendWhatItCan 1 = .ok (.invokestatic 134, 3) := by decide +kernel
theorem dX4_sendWhatItCan_4 : decode cX4_sendWhatItCan 4 = .ok (.ifCond .ne 4, 3) := by decide +kernel
theorem dX4_sendWhatItCan_7 : decode cX4_sendWhatItCan 7 = .ok (.return_, 1) := by decide +kernel
theorem dX4_sendWhatItCan_8 : decode cX4_sendWhatItCan 8 = .ok (.aload_n 0, 1) := by decide +kernel
theorem dX4_sendWhatItCan_9 : decode cX4_sendWhatItCan 9 = .ok (.getfield 24, 3) := by decide +kernel
theorem dX4_sendWhatItCan_12 : decode cX4_sendWhatItCan 12 = .ok (.iload_n 1, 1) := by decide +kernel
theorem dX4_sendWhatItCan_13 : decode cX4_sendWhatItCan 13 = .ok (.aaload, 1) := by decide +kernel
theorem dX4_sendWhatItCan_14 : decode cX4_sendWhatItCan 14 = .ok (.astore_n 2, 1) := by decide +kernel
theorem dX4_sendWhatItCan_15 : decode cX4_sendWhatItCan 15 = .ok (.aload_n 2, 1) := by decide +kernel
theorem dX4_sendWhatItCan_16 : decode cX4_sendWhatItCan 16 = .ok (.getfield 163, 3) := by decide +kernel
theorem dX4_sendWhatItCan_19 : decode cX4_sendWhatItCan 19 = .ok (.istore_n 3, 1) := by decide +kernel
theorem dX4_sendWhatItCan_20 : decode cX4_sendWhatItCan 20 = .ok (.iload_n 3, 1) := by decide +kernel
theorem dX4_sendWhatItCan_21 : decode cX4_sendWhatItCan 21 = .ok (.ifCond .le 28, 3) := by decide +kernel
theorem dX4_sendWhatItCan_24 : decode cX4_sendWhatItCan 24 = .ok (.aload_n 2, 1) := by decide +kernel
theorem dX4_sendWhatItCan_25 : decode cX4_sendWhatItCan 25 = .ok (.getfield 158, 3) := by decide +kernel
theorem dX4_sendWhatItCan_28 : decode cX4_sendWhatItCan 28 = .ok (.iconst 2, 1) := by decide +kernel
theorem dX4_sendWhatItCan_29 : decode cX4_sendWhatItCan 29 = .ok (.aload_n 0, 1) := by decide +kernel
theorem dX4_sendWhatItCan_30 : decode cX4_sendWhatItCan 30 = .ok (.getfield 15, 3) := by decide +kernel
theorem dX4_sendWhatItCan_33 : decode cX4_sendWhatItCan 33 = .ok (.imul, 1) := by decide +kernel
theorem dX4_sendWhatItCan_34 : decode cX4_sendWhatItCan 34 = .ok (.if_icmp .lt 15, 3) := by decide +kernel
theorem dX4_sendWhatItCan_37 : decode cX4_sendWhatItCan 37 = .ok (.aload_n 0, 1) := by decide +kernel
theorem dX4_sendWhatItCan_38 : decode cX4_sendWhatItCan 38 = .ok (.iload_n 1, 1) := by decide +kernel
theorem dX4_sendWhatItCan_39 : decode cX4_sendWhatItCan 39 = .ok (.aload_n 2, 1) := by decide +kernel
theorem dX4_sendWhatItCan_40 : decode cX4_sendWhatItCan 40 = .ok (.invokevirtual 166, 3) := by decide +kernel
theorem dX4_sendWhatItCan_43 : decode cX4_sendWhatItCan 43 = .ok (.iinc 3 (-1), 3) := by decide +kernel
theorem dX4_sendWhatItCan_46 : decode cX4_sendWhatItCan 46 = .ok (.goto (-26), 3) := by decide +kernel
theorem dX4_sendWhatItCan_49 : decode cX4_sendWhatItCan 49 = .ok (.aload_n 2, 1) := by decide +kernel
theorem dX4_sendWhatItCan_50 : decode cX4_sendWhatItCan 50 = .ok (.getfield 163, 3) := by decide +kernel
theorem dX4_sendWhatItCan_53 : decode cX4_sendWhatItCan 53 = .ok (.ifCond .le 35, 3) := by decide +kernel
theorem dX4_sendWhatItCan_56 : decode cX4_sendWhatItCan 56 = .ok (.aload_n 2, 1) := by decide +kernel
theorem dX4_sendWhatItCan_57 : decode cX4_sendWhatItCan 57 = .ok (.getfield 140, 3) := by decide +kernel
theorem dX4_sendWhatItCan_60 : decode cX4_sendWhatItCan 60 = .ok (.ifCond .ne 28, 3) := by decide +kernel
theorem dX4_sendWhatItCan_63 : decode cX4_sendWhatItCan 63 = .ok (.aload_n 2, 1) := by decide +kernel
theorem dX4_sendWhatItCan_64 : decode cX4_sendWhatItCan 64 = .ok (.iconst 1, 1) := by decide +kernel
theorem dX4_sendWhatItCan_65 : decode cX4_sendWhatItCan 65 = .ok (.putfield 140, 3) := by decide +kernel
theorem dX4_sendWhatItCan_68 : decode cX4_sendWhatItCan 68 = .ok (.aload_n 2, 1) := by decide +kernel
theorem dX4_sendWhatItCan_69 : decode cX4_sendWhatItCan 69 = .ok (.dup, 1) := by decide +kernel
theorem dX4_sendWhatItCan_70 : decode cX4_sendWhatItCan 70 = .ok (.getfield 170, 3) := by decide +kernel
theorem dX4_sendWhatItCan_73 : decode cX4_sendWhatItCan 73 = .ok (.iconst 1, 1) := by decide +kernel
theorem dX4_sendWhatItCan_74 : decode cX4_sendWhatItCan 74 = .ok (.iadd, 1) := by decide +kernel
theorem dX4_sendWhatItCan_75 : decode cX4_sendWhatItCan 75 = .ok (.putfield 170, 3) := by decide +kernel
theorem dX4_sendWhatItCan_78 : decode cX4_sendWhatItCan 78 = .ok (.aload_n 0, 1) := by decide +kernel
theorem dX4_sendWhatItCan_79 : decode cX4_sendWhatItCan 79 = .ok (.iconst 1, 1) := by decide +kernel
theorem dX4_sendWhatItCan_80 : decode cX4_sendWhatItCan 80 = .ok (.iload_n 1, 1) := by decide +kernel
theorem dX4_sendWhatItCan_81 : decode cX4_sendWhatItCan 81 = .ok (.bipush 6, 2) := by decide +kernel
theorem dX4_sendWhatItCan_83 : decode cX4_sendWhatItCan 83 = .ok (.iconst 0, 1) := by decide +kernel
theorem dX4_sendWhatItCan_84 : decode cX4_sendWhatItCan 84 = .ok (.aconst_null, 1) := by decide +kernel
theorem dX4_sendWhatItCan_85 : decode cX4_sendWhatItCan 85 = .ok (.invokevirtual 104, 3) := by decide +kernel
theorem dX4_sendWhatItCan_88 : decode cX4_sendWhatItCan 88 = .ok (.return_, 1) := by decide +kernel
theorem dX4_sendFirst_0 : decode cX4_sendFirst 0 = .ok (.aload_n 2, 1) := by decide +kernel
theorem dX4_sendFirst_1 : decode cX4_sendFirst 1 = .ok (.iconst 0, 1) := by decide +kernel
theorem dX4_sendFirst_2 : decode cX4_sendFirst 2 = .ok (.invokevirtual 173, 3) := by decide +kernel
theorem dX4_sendFirst_5 : decode cX4_sendFirst 5 = .ok (.astore_n 3, 1) := by decide +kernel
theorem dX4_sendFirst_6 : decode cX4_sendFirst 6 = .ok (.aload_n 3, 1) := by decide +kernel
theorem dX4_sendFirst_7 : decode cX4_sendFirst 7 = .ok (.ifnonnull 4, 3) := by decide +kernel
theorem dX4_sendFirst_10 : decode cX4_sendFirst 10 = .ok (.return_, 1) := by decide +kernel
theorem dX4_sendFirst_11 : decode cX4_sendFirst 11 = .ok (.aload_n 2, 1) := by decide +kernel
theorem dX4_sendFirst_12 : decode cX4_sendFirst 12 = .ok (.getfield 158, 3) := by decide +kernel
theorem dX4_sendFirst_15 : decode cX4_sendFirst 15 = .ok (.iconst 2, 1) := by decide +kernel
theorem dX4_sendFirst_16 : decode cX4_sendFirst 16 = .ok (.idiv, 1) := by decide +kernel
theorem dX4_sendFirst_17 : decode cX4_sendFirst 17 = .ok (.istore 4, 2) := by decide +kernel
theorem dX4_sendFirst_19 : decode cX4_sendFirst 19 = .ok (.aload_n 2, 1) := by decide +kernel
theorem dX4_sendFirst_20 : decode cX4_sendFirst 20 = .ok (.dup, 1) := by decide +kernel
theorem dX4_sendFirst_21 : decode cX4_sendFirst 21 = .ok (.getfield 158, 3) := by decide +kernel
theorem dX4_sendFirst_24 : decode cX4_sendFirst 24 = .ok (.iload 4, 2) := by decide +kernel
theorem dX4_sendFirst_26 : decode cX4_sendFirst 26 = .ok (.isub, 1) := by decide +kernel
theorem dX4_sendFirst_27 : decode cX4_sendFirst 27 = .ok (.putfield 158, 3) := by decide +kernel
theorem dX4_sendFirst_30 : decode cX4_sendFirst 30 = .ok (.aload_n 2, 1) := by decide +kernel
theorem dX4_sendFirst_31 : decode cX4_sendFirst 31 = .ok (.dup, 1) := by decide +kernel
theorem dX4_sendFirst_32 : decode cX4_sendFirst 32 = .ok (.getfield 177, 3) := by decide +kernel
theorem dX4_sendFirst_35 : decode cX4_sendFirst 35 = .ok (.iconst 1, 1) := by decide +kernel
theorem dX4_sendFirst_36 : decode cX4_sendFirst 36 = .ok (.iadd, 1) := by decide +kernel
theorem dX4_sendFirst_37 : decode cX4_sendFirst 37 = .ok (.putfield 177, 3) := by decide +kernel
theorem dX4_sendFirst_40 : decode cX4_sendFirst 40 = .ok (.aload_n 2, 1) := by decide +kernel
theorem dX4_sendFirst_41 : decode cX4_sendFirst 41 = .ok (.invokevirtual 180, 3) := by decide +kernel
theorem dX4_sendFirst_44 : decode cX4_sendFirst 44 = .ok (.aload_n 0, 1) := by decide +kernel
theorem dX4_sendFirst_45 : decode cX4_sendFirst 45 = .ok (.iconst 0, 1) := by decide +kernel
theorem dX4_sendFirst_46 : decode cX4_sendFirst 46 = .ok (.iload_n 1, 1) := by decide +kernel
theorem dX4_sendFirst_47 : decode cX4_sendFirst 47 = .ok (.aload_n 3, 1) := by decide +kernel
theorem dX4_sendFirst_48 : decode cX4_sendFirst 48 = .ok (.getfield 95, 3) := by decide +kernel
theorem dX4_sendFirst_51 : decode cX4_sendFirst 51 = .ok (.iload 4, 2) := by decide +kernel
theorem dX4_sendFirst_53 : decode cX4_sendFirst 53 = .ok (.aload_n 3, 1) := by decide +kernel
theorem dX4_sendFirst_54 : decode cX4_sendFirst 54 = .ok (.invokevirtual 104, 3) := by decide +kernel
theorem dX4_sendFirst_57 : decode cX4_sendFirst 57 = .ok (.return_, 1) := by decide +kernel
theorem dX4_workIn_0 : decode cX4_workIn 0 = .ok (.iload_n 1, 1) := by decide +kernel
theorem dX4_workIn_1 : decode cX4_workIn 1 = .ok (.invokestatic 134, 3) := by decide +kernel
theorem dX4_workIn_4 : decode cX4_workIn 4 = .ok (.ifCond .ne 4, 3) := by decide +kernel
theorem dX4_workIn_7 : decode cX4_workIn 7 = .ok (.return_, 1) := by decide +kernel
theorem dX4_workIn_8 : decode cX4_workIn 8 = .ok (.aload_n 0, 1) := by decide +kernel
theorem dX4_workIn_9 : decode cX4_workIn 9 = .ok (.getfield 24, 3) := by decide +kernel
theorem dX4_workIn_12 : decode cX4_workIn 12 = .ok (.iload_n 1, 1) := by decide +kernel
theorem dX4_workIn_13 : decode cX4_workIn 13 = .ok (.aaload, 1) := by decide +kernel
theorem dX4_workIn_14 : decode cX4_workIn 14 = .ok (.astore_n 2, 1) := by decide +kernel
theorem dX4_workIn_15 : decode cX4_workIn 15 = .ok (.aload_n 2, 1) := by decide +kernel
theorem dX4_workIn_16 : decode cX4_workIn 16 = .ok (.getfield 183, 3) := by decide +kernel
theorem dX4_workIn_19 : decode cX4_workIn 19 = .ok (.ifCond .le 13, 3) := by decide +kernel
theorem dX4_workIn_22 : decode cX4_workIn 22 = .ok (.aload_n 2, 1) := by decide +kernel
theorem dX4_workIn_23 : decode cX4_workIn 23 = .ok (.dup, 1) := by decide +kernel
theorem dX4_workIn_24 : decode cX4_workIn 24 = .ok (.getfield 183, 3) := by decide +kernel
theorem dX4_workIn_27 : decode cX4_workIn 27 = .ok (.iconst 1, 1) := by decide +kernel
theorem dX4_workIn_28 : decode cX4_workIn 28 = .ok (.isub, 1) := by decide +kernel
theorem dX4_workIn_29 : decode cX4_workIn 29 = .ok (.putfield 183, 3) := by decide +kernel
theorem dX4_workIn_32 : decode cX4_workIn 32 = .ok (.aload_n 2, 1) := by decide +kernel
theorem dX4_workIn_33 : decode cX4_workIn 33 = .ok (.getfield 183, 3) := by decide +kernel
theorem dX4_workIn_36 : decode cX4_workIn 36 = .ok (.ifCond .gt 17, 3) := by decide +kernel
theorem dX4_workIn_39 : decode cX4_workIn 39 = .ok (.aload_n 2, 1) := by decide +kernel
theorem dX4_workIn_40 : decode cX4_workIn 40 = .ok (.getfield 163, 3) := by decide +kernel
theorem dX4_workIn_43 : decode cX4_workIn 43 = .ok (.ifCond .gt 10, 3) := by decide +kernel
theorem dX4_workIn_46 : decode cX4_workIn 46 = .ok (.aload_n 2, 1) := by decide +kernel
theorem dX4_workIn_47 : decode cX4_workIn 47 = .ok (.getfield 140, 3) := by decide +kernel
theorem dX4_workIn_50 : decode cX4_workIn 50 = .ok (.ifCond .eq 4, 3) := by decide +kernel
theorem dX4_workIn_53 : decode cX4_workIn 53 = .ok (.return_, 1) := by decide +kernel
theorem dX4_workIn_54 : decode cX4_workIn 54 = .ok (.aload_n 2, 1) := by decide +kernel
theorem dX4_workIn_55 : decode cX4_workIn 55 = .ok (.iconst 0, 1) := by decide +kernel
theorem dX4_workIn_56 : decode cX4_workIn 56 = .ok (.putfield 152, 3) := by decide +kernel
theorem dX4_workIn_59 : decode cX4_workIn 59 = .ok (.aload_n 2, 1) := by decide +kernel
theorem dX4_workIn_60 : decode cX4_workIn 60 = .ok (.dup, 1) := by decide +kernel
theorem dX4_workIn_61 : decode cX4_workIn 61 = .ok (.getfield 186, 3) := by decide +kernel
theorem dX4_workIn_64 : decode cX4_workIn 64 = .ok (.iconst 1, 1) := by decide +kernel
theorem dX4_workIn_65 : decode cX4_workIn 65 = .ok (.iadd, 1) := by decide +kernel
theorem dX4_workIn_66 : decode cX4_workIn 66 = .ok (.putfield 186, 3) := by decide +kernel
theorem dX4_workIn_69 : decode cX4_workIn 69 = .ok (.aload_n 2, 1) := by decide +kernel
theorem dX4_workIn_70 : decode cX4_workIn 70 = .ok (.getfield 158, 3) := by decide +kernel
theorem dX4_workIn_73 : decode cX4_workIn 73 = .ok (.ifCond .le 21, 3) := by decide +kernel
theorem dX4_workIn_76 : decode cX4_workIn 76 = .ok (.aload_n 0, 1) := by decide +kernel
theorem dX4_workIn_77 : decode cX4_workIn 77 = .ok (.iconst 3, 1) := by decide +kernel
theorem dX4_workIn_78 : decode cX4_workIn 78 = .ok (.iload_n 1, 1) := by decide +kernel
theorem dX4_workIn_79 : decode cX4_workIn 79 = .ok (.bipush 6, 2) := by decide +kernel
theorem dX4_workIn_81 : decode cX4_workIn 81 = .ok (.aload_n 2, 1) := by decide +kernel
theorem dX4_workIn_82 : decode cX4_workIn 82 = .ok (.getfield 158, 3) := by decide +kernel
theorem dX4_workIn_85 : decode cX4_workIn 85 = .ok (.aconst_null, 1) := by decide +kernel
theorem dX4_workIn_86 : decode cX4_workIn 86 = .ok (.invokevirtual 104, 3) := by decide +kernel
theorem dX4_workIn_89 : decode cX4_workIn 89 = .ok (.aload_n 2, 1) := by decide +kernel
theorem dX4_workIn_90 : decode cX4_workIn 90 = .ok (.iconst 0, 1) := by decide +kernel
theorem dX4_workIn_91 : decode cX4_workIn 91 = .ok (.putfield 158, 3) := by decide +kernel
theorem dX4_workIn_94 : decode cX4_workIn 94 = .ok (.return_, 1) := by decide +kernel
theorem dX4_isQuiet_0 : decode cX4_isQuiet 0 = .ok (.aload_n 0, 1) := by decide +kernel
theorem dX4_isQuiet_1 : decode cX4_isQuiet 1 = .ok (.getfield 61, 3) := by decide +kernel
theorem dX4_isQuiet_4 : decode cX4_isQuiet 4 = .ok (.aload_n 0, 1) := by decide +kernel
theorem dX4_isQuiet_5 : decode cX4_isQuiet 5 = .ok (.getfield 64, 3) := by decide +kernel
theorem dX4_isQuiet_8 : decode cX4_isQuiet 8 = .ok (.if_icmp .ne 7, 3) := by decide +kernel
theorem dX4_isQuiet_11 : decode cX4_isQuiet 11 = .ok (.iconst 1, 1) := by decide +kernel
theorem dX4_isQuiet_12 : decode cX4_isQuiet 12 = .ok (.goto 4, 3) := by decide +kernel
theorem dX4_isQuiet_15 : decode cX4_isQuiet 15 = .ok (.iconst 0, 1) := by decide +kernel
theorem dX4_isQuiet_16 : decode cX4_isQuiet 16 = .ok (.ireturn, 1) := by decide +kernel
theorem dX4_isIdle_0 : decode cX4_isIdle 0 = .ok (.aload_n 0, 1) := by decide +kernel
theorem dX4_isIdle_1 : decode cX4_isIdle 1 = .ok (.invokevirtual 189, 3) := by decide +kernel
theorem dX4_isIdle_4 : decode cX4_isIdle 4 = .ok (.ifCond .ne 14, 3) := by decide +kernel
theorem dX4_isIdle_7 : decode cX4_isIdle 7 = .ok (.aload_n 0, 1) := by decide +kernel
theorem dX4_isIdle_8 : decode cX4_isIdle 8 = .ok (.invokevirtual 192, 3) := by decide +kernel
theorem dX4_isIdle_11 : decode cX4_isIdle 11 = .ok (.ifCond .ne 7, 3) := by decide +kernel
theorem dX4_isIdle_14 : decode cX4_isIdle 14 = .ok (.iconst 1, 1) := by decide +kernel
theorem dX4_isIdle_15 : decode cX4_isIdle 15 = .ok (.goto 4, 3) := by decide +kernel
theorem dX4_isIdle_18 : decode cX4_isIdle 18 = .ok (.iconst 0, 1) := by decide +kernel
theorem dX4_isIdle_19 : decode cX4_isIdle 19 = .ok (.ireturn, 1) := by decide +kernel
theorem dX4_isMoreThanGrainsOnItsWay_0 : decode cX4_isMoreThanGrainsOnItsWay 0 = .ok (.iconst 0, 1) := by decide +kernel
theorem dX4_isMoreThanGrainsOnItsWay_1 : decode cX4_isMoreThanGrainsOnItsWay 1 = .ok (.istore_n 1, 1) := by decide +kernel
theorem dX4_isMoreThanGrainsOnItsWay_2 : decode cX4_isMoreThanGrainsOnItsWay 2 = .ok (.iload_n 1, 1) := by decide +kernel
theorem dX4_isMoreThanGrainsOnItsWay_3 : decode cX4_isMoreThanGrainsOnItsWay 3 = .ok (.aload_n 0, 1) := by decide +kernel
theorem dX4_isMoreThanGrainsOnItsWay_4 : decode cX4_isMoreThanGrainsOnItsWay 4 = .ok (.getfield 51, 3) := by decide +kernel
theorem dX4_isMoreThanGrainsOnItsWay_7 : decode cX4_isMoreThanGrainsOnItsWay 7 = .ok (.if_icmp .ge 33, 3) := by decide +kernel
theorem dX4_isMoreThanGrainsOnItsWay_10 : decode cX4_isMoreThanGrainsOnItsWay 10 = .ok (.iload_n 1, 1) := by decide +kernel
theorem dX4_isMoreThanGrainsOnItsWay_11 : decode cX4_isMoreThanGrainsOnItsWay 11 = .ok (.aload_n 0, 1) := by decide +kernel
theorem dX4_isMoreThanGrainsOnItsWay_12 : decode cX4_isMoreThanGrainsOnItsWay 12 = .ok (.getfield 30, 3) := by decide +kernel
theorem dX4_isMoreThanGrainsOnItsWay_15 : decode cX4_isMoreThanGrainsOnItsWay 15 = .ok (.arraylength, 1) := by decide +kernel
theorem dX4_isMoreThanGrainsOnItsWay_16 : decode cX4_isMoreThanGrainsOnItsWay 16 = .ok (.if_icmp .ge 24, 3) := by decide +kernel
theorem dX4_isMoreThanGrainsOnItsWay_19 : decode cX4_isMoreThanGrainsOnItsWay 19 = .ok (.aload_n 0, 1) := by decide +kernel
theorem dX4_isMoreThanGrainsOnItsWay_20 : decode cX4_isMoreThanGrainsOnItsWay 20 = .ok (.getfield 30, 3) := by decide +kernel
theorem dX4_isMoreThanGrainsOnItsWay_23 : decode cX4_isMoreThanGrainsOnItsWay 23 = .ok (.iload_n 1, 1) := by decide +kernel
theorem dX4_isMoreThanGrainsOnItsWay_24 : decode cX4_isMoreThanGrainsOnItsWay 24 = .ok (.aaload, 1) := by decide +kernel
theorem dX4_isMoreThanGrainsOnItsWay_25 : decode cX4_isMoreThanGrainsOnItsWay 25 = .ok (.getfield 108, 3) := by decide +kernel
theorem dX4_isMoreThanGrainsOnItsWay_28 : decode cX4_isMoreThanGrainsOnItsWay 28 = .ok (.iconst 3, 1) := by decide +kernel
theorem dX4_isMoreThanGrainsOnItsWay_29 : decode cX4_isMoreThanGrainsOnItsWay 29 = .ok (.if_icmp .eq 5, 3) := by decide +kernel
theorem dX4_isMoreThanGrainsOnItsWay_32 : decode cX4_isMoreThanGrainsOnItsWay 32 = .ok (.iconst 1, 1) := by decide +kernel
theorem dX4_isMoreThanGrainsOnItsWay_33 : decode cX4_isMoreThanGrainsOnItsWay 33 = .ok (.ireturn, 1) := by decide +kernel
theorem dX4_isMoreThanGrainsOnItsWay_34 : decode cX4_isMoreThanGrainsOnItsWay 34 = .ok (.iinc 1 1, 3) := by decide +kernel
theorem dX4_isMoreThanGrainsOnItsWay_37 : decode cX4_isMoreThanGrainsOnItsWay 37 = .ok (.goto (-35), 3) := by decide +kernel
theorem dX4_isMoreThanGrainsOnItsWay_40 : decode cX4_isMoreThanGrainsOnItsWay 40 = .ok (.iconst 0, 1) := by decide +kernel
theorem dX4_isMoreThanGrainsOnItsWay_41 : decode cX4_isMoreThanGrainsOnItsWay 41 = .ok (.ireturn, 1) := by decide +kernel
theorem dX4_isStuck_0 : decode cX4_isStuck 0 = .ok (.aload_n 0, 1) := by decide +kernel
theorem dX4_isStuck_1 : decode cX4_isStuck 1 = .ok (.getfield 24, 3) := by decide +kernel
theorem dX4_isStuck_4 : decode cX4_isStuck 4 = .ok (.astore_n 1, 1) := by decide +kernel
theorem dX4_isStuck_5 : decode cX4_isStuck 5 = .ok (.aload_n 1, 1) := by decide +kernel
theorem dX4_isStuck_6 : decode cX4_isStuck 6 = .ok (.arraylength, 1) := by decide +kernel
theorem dX4_isStuck_7 : decode cX4_isStuck 7 = .ok (.istore_n 2, 1) := by decide +kernel
theorem dX4_isStuck_8 : decode cX4_isStuck 8 = .ok (.iconst 0, 1) := by decide +kernel
theorem dX4_isStuck_9 : decode cX4_isStuck 9 = .ok (.istore_n 3, 1) := by decide +kernel
theorem dX4_isStuck_10 : decode cX4_isStuck 10 = .ok (.iload_n 3, 1) := by decide +kernel
theorem dX4_isStuck_11 : decode cX4_isStuck 11 = .ok (.iload_n 2, 1) := by decide +kernel
theorem dX4_isStuck_12 : decode cX4_isStuck 12 = .ok (.if_icmp .ge 24, 3) := by decide +kernel
theorem dX4_isStuck_15 : decode cX4_isStuck 15 = .ok (.aload_n 1, 1) := by decide +kernel
theorem dX4_isStuck_16 : decode cX4_isStuck 16 = .ok (.iload_n 3, 1) := by decide +kernel
theorem dX4_isStuck_17 : decode cX4_isStuck 17 = .ok (.aaload, 1) := by decide +kernel
theorem dX4_isStuck_18 : decode cX4_isStuck 18 = .ok (.astore 4, 2) := by decide +kernel
theorem dX4_isStuck_20 : decode cX4_isStuck 20 = .ok (.aload 4, 2) := by decide +kernel
theorem dX4_isStuck_22 : decode cX4_isStuck 22 = .ok (.invokevirtual 196, 3) := by decide +kernel
theorem dX4_isStuck_25 : decode cX4_isStuck 25 = .ok (.ifCond .ne 5, 3) := by decide +kernel
theorem dX4_isStuck_28 : decode cX4_isStuck 28 = .ok (.iconst 0, 1) := by decide +kernel
theorem dX4_isStuck_29 : decode cX4_isStuck 29 = .ok (.ireturn, 1) := by decide +kernel
theorem dX4_isStuck_30 : decode cX4_isStuck 30 = .ok (.iinc 3 1, 3) := by decide +kernel
theorem dX4_isStuck_33 : decode cX4_isStuck 33 = .ok (.goto (-23), 3) := by decide +kernel
theorem dX4_isStuck_36 : decode cX4_isStuck 36 = .ok (.aload_n 0, 1) := by decide +kernel
theorem dX4_isStuck_37 : decode cX4_isStuck 37 = .ok (.getfield 51, 3) := by decide +kernel
theorem dX4_isStuck_40 : decode cX4_isStuck 40 = .ok (.ifCond .ne 7, 3) := by decide +kernel
theorem dX4_isStuck_43 : decode cX4_isStuck 43 = .ok (.iconst 1, 1) := by decide +kernel
theorem dX4_isStuck_44 : decode cX4_isStuck 44 = .ok (.goto 4, 3) := by decide +kernel
theorem dX4_isStuck_47 : decode cX4_isStuck 47 = .ok (.iconst 0, 1) := by decide +kernel
theorem dX4_isStuck_48 : decode cX4_isStuck 48 = .ok (.ireturn, 1) := by decide +kernel
theorem dX4_busyHouses_0 : decode cX4_busyHouses 0 = .ok (.iconst 0, 1) := by decide +kernel
theorem dX4_busyHouses_1 : decode cX4_busyHouses 1 = .ok (.istore_n 1, 1) := by decide +kernel
theorem dX4_busyHouses_2 : decode cX4_busyHouses 2 = .ok (.aload_n 0, 1) := by decide +kernel
theorem dX4_busyHouses_3 : decode cX4_busyHouses 3 = .ok (.getfield 24, 3) := by decide +kernel
theorem dX4_busyHouses_6 : decode cX4_busyHouses 6 = .ok (.astore_n 2, 1) := by decide +kernel
theorem dX4_busyHouses_7 : decode cX4_busyHouses 7 = .ok (.aload_n 2, 1) := by decide +kernel
theorem dX4_busyHouses_8 : decode cX4_busyHouses 8 = .ok (.arraylength, 1) := by decide +kernel
theorem dX4_busyHouses_9 : decode cX4_busyHouses 9 = .ok (.istore_n 3, 1) := by decide +kernel
theorem dX4_busyHouses_10 : decode cX4_busyHouses 10 = .ok (.iconst 0, 1) := by decide +kernel
theorem dX4_busyHouses_11 : decode cX4_busyHouses 11 = .ok (.istore 4, 2) := by decide +kernel
theorem dX4_busyHouses_13 : decode cX4_busyHouses 13 = .ok (.iload 4, 2) := by decide +kernel
theorem dX4_busyHouses_15 : decode cX4_busyHouses 15 = .ok (.iload_n 3, 1) := by decide +kernel
theorem dX4_busyHouses_16 : decode cX4_busyHouses 16 = .ok (.if_icmp .ge 26, 3) := by decide +kernel
theorem dX4_busyHouses_19 : decode cX4_busyHouses 19 = .ok (.aload_n 2, 1) := by decide +kernel
theorem dX4_busyHouses_20 : decode cX4_busyHouses 20 = .ok (.iload 4, 2) := by decide +kernel
theorem dX4_busyHouses_22 : decode cX4_busyHouses 22 = .ok (.aaload, 1) := by decide +kernel
theorem dX4_busyHouses_23 : decode cX4_busyHouses 23 = .ok (.astore 5, 2) := by decide +kernel
theorem dX4_busyHouses_25 : decode cX4_busyHouses 25 = .ok (.aload 5, 2) := by decide +kernel
theorem dX4_busyHouses_27 : decode cX4_busyHouses 27 = .ok (.getfield 152, 3) := by decide +kernel
theorem dX4_busyHouses_30 : decode cX4_busyHouses 30 = .ok (.ifCond .eq 6, 3) := by decide +kernel
theorem dX4_busyHouses_33 : decode cX4_busyHouses 33 = .ok (.iinc 1 1, 3) := by decide +kernel
theorem dX4_busyHouses_36 : decode cX4_busyHouses 36 = .ok (.iinc 4 1, 3) := by decide +kernel
theorem dX4_busyHouses_39 : decode cX4_busyHouses 39 = .ok (.goto (-26), 3) := by decide +kernel
theorem dX4_busyHouses_42 : decode cX4_busyHouses 42 = .ok (.iload_n 1, 1) := by decide +kernel
theorem dX4_busyHouses_43 : decode cX4_busyHouses 43 = .ok (.ireturn, 1) := by decide +kernel
theorem dX4_grainsInHouses_0 : decode cX4_grainsInHouses 0 = .ok (.iconst 0, 1) := by decide +kernel
theorem dX4_grainsInHouses_1 : decode cX4_grainsInHouses 1 = .ok (.istore_n 1, 1) := by decide +kernel
theorem dX4_grainsInHouses_2 : decode cX4_grainsInHouses 2 = .ok (.aload_n 0, 1) := by decide +kernel
theorem dX4_grainsInHouses_3 : decode cX4_grainsInHouses 3 = .ok (.getfield 24, 3) := by decide +kernel
theorem dX4_grainsInHouses_6 : decode cX4_grainsInHouses 6 = .ok (.astore_n 2, 1) := by decide +kernel
theorem dX4_grainsInHouses_7 : decode cX4_grainsInHouses 7 = .ok (.aload_n 2, 1) := by decide +kernel
theorem dX4_grainsInHouses_8 : decode cX4_grainsInHouses 8 = .ok (.arraylength, 1) := by decide +kernel
theorem dX4_grainsInHouses_9 : decode cX4_grainsInHouses 9 = .ok (.istore_n 3, 1) := by decide +kernel
theorem dX4_grainsInHouses_10 : decode cX4_grainsInHouses 10 = .ok (.iconst 0, 1) := by decide +kernel
theorem dX4_grainsInHouses_11 : decode cX4_grainsInHouses 11 = .ok (.istore 4, 2) := by decide +kernel
theorem dX4_grainsInHouses_13 : decode cX4_grainsInHouses 13 = .ok (.iload 4, 2) := by decide +kernel
theorem dX4_grainsInHouses_15 : decode cX4_grainsInHouses 15 = .ok (.iload_n 3, 1) := by decide +kernel
theorem dX4_grainsInHouses_16 : decode cX4_grainsInHouses 16 = .ok (.if_icmp .ge 23, 3) := by decide +kernel
theorem dX4_grainsInHouses_19 : decode cX4_grainsInHouses 19 = .ok (.aload_n 2, 1) := by decide +kernel
theorem dX4_grainsInHouses_20 : decode cX4_grainsInHouses 20 = .ok (.iload 4, 2) := by decide +kernel
theorem dX4_grainsInHouses_22 : decode cX4_grainsInHouses 22 = .ok (.aaload, 1) := by decide +kernel
theorem dX4_grainsInHouses_23 : decode cX4_grainsInHouses 23 = .ok (.astore 5, 2) := by decide +kernel
theorem dX4_grainsInHouses_25 : decode cX4_grainsInHouses 25 = .ok (.iload_n 1, 1) := by decide +kernel
theorem dX4_grainsInHouses_26 : decode cX4_grainsInHouses 26 = .ok (.aload 5, 2) := by decide +kernel
theorem dX4_grainsInHouses_28 : decode cX4_grainsInHouses 28 = .ok (.getfield 158, 3) := by decide +kernel
theorem dX4_grainsInHouses_31 : decode cX4_grainsInHouses 31 = .ok (.iadd, 1) := by decide +kernel
theorem dX4_grainsInHouses_32 : decode cX4_grainsInHouses 32 = .ok (.istore_n 1, 1) := by decide +kernel
theorem dX4_grainsInHouses_33 : decode cX4_grainsInHouses 33 = .ok (.iinc 4 1, 3) := by decide +kernel
theorem dX4_grainsInHouses_36 : decode cX4_grainsInHouses 36 = .ok (.goto (-23), 3) := by decide +kernel
theorem dX4_grainsInHouses_39 : decode cX4_grainsInHouses 39 = .ok (.iload_n 1, 1) := by decide +kernel
theorem dX4_grainsInHouses_40 : decode cX4_grainsInHouses 40 = .ok (.ireturn, 1) := by decide +kernel
theorem dX4_grainsOnTheirWay_0 : decode cX4_grainsOnTheirWay 0 = .ok (.iconst 0, 1) := by decide +kernel
theorem dX4_grainsOnTheirWay_1 : decode cX4_grainsOnTheirWay 1 = .ok (.istore_n 1, 1) := by decide +kernel
theorem dX4_grainsOnTheirWay_2 : decode cX4_grainsOnTheirWay 2 = .ok (.iconst 0, 1) := by decide +kernel
theorem dX4_grainsOnTheirWay_3 : decode cX4_grainsOnTheirWay 3 = .ok (.istore_n 2, 1) := by decide +kernel
theorem dX4_grainsOnTheirWay_4 : decode cX4_grainsOnTheirWay 4 = .ok (.iload_n 2, 1) := by decide +kernel
theorem dX4_grainsOnTheirWay_5 : decode cX4_grainsOnTheirWay 5 = .ok (.aload_n 0, 1) := by decide +kernel
theorem dX4_grainsOnTheirWay_6 : decode cX4_grainsOnTheirWay 6 = .ok (.getfield 51, 3) := by decide +kernel
theorem dX4_grainsOnTheirWay_9 : decode cX4_grainsOnTheirWay 9 = .ok (.if_icmp .ge 30, 3) := by decide +kernel
theorem dX4_grainsOnTheirWay_12 : decode cX4_grainsOnTheirWay 12 = .ok (.iload_n 2, 1) := by decide +kernel
theorem dX4_grainsOnTheirWay_13 : decode cX4_grainsOnTheirWay 13 = .ok (.aload_n 0, 1) := by decide +kernel
theorem dX4_grainsOnTheirWay_14 : decode cX4_grainsOnTheirWay 14 = .ok (.getfield 30, 3) := by decide +kernel
theorem dX4_grainsOnTheirWay_17 : decode cX4_grainsOnTheirWay 17 = .ok (.arraylength, 1) := by decide +kernel
theorem dX4_grainsOnTheirWay_18 : decode cX4_grainsOnTheirWay 18 = .ok (.if_icmp .ge 21, 3) := by decide +kernel
theorem dX4_grainsOnTheirWay_21 : decode cX4_grainsOnTheirWay 21 = .ok (.iload_n 1, 1) := by decide +kernel
theorem dX4_grainsOnTheirWay_22 : decode cX4_grainsOnTheirWay 22 = .ok (.aload_n 0, 1) := by decide +kernel
theorem dX4_grainsOnTheirWay_23 : decode cX4_grainsOnTheirWay 23 = .ok (.getfield 30, 3) := by decide +kernel
theorem dX4_grainsOnTheirWay_26 : decode cX4_grainsOnTheirWay 26 = .ok (.iload_n 2, 1) := by decide +kernel
theorem dX4_grainsOnTheirWay_27 : decode cX4_grainsOnTheirWay 27 = .ok (.aaload, 1) := by decide +kernel
theorem dX4_grainsOnTheirWay_28 : decode cX4_grainsOnTheirWay 28 = .ok (.getfield 117, 3) := by decide +kernel
theorem dX4_grainsOnTheirWay_31 : decode cX4_grainsOnTheirWay 31 = .ok (.iadd, 1) := by decide +kernel
theorem dX4_grainsOnTheirWay_32 : decode cX4_grainsOnTheirWay 32 = .ok (.istore_n 1, 1) := by decide +kernel
theorem dX4_grainsOnTheirWay_33 : decode cX4_grainsOnTheirWay 33 = .ok (.iinc 2 1, 3) := by decide +kernel
theorem dX4_grainsOnTheirWay_36 : decode cX4_grainsOnTheirWay 36 = .ok (.goto (-32), 3) := by decide +kernel
theorem dX4_grainsOnTheirWay_39 : decode cX4_grainsOnTheirWay 39 = .ok (.iload_n 1, 1) := by decide +kernel
theorem dX4_grainsOnTheirWay_40 : decode cX4_grainsOnTheirWay 40 = .ok (.ireturn, 1) := by decide +kernel
theorem dX4_errandsInAll_0 : decode cX4_errandsInAll 0 = .ok (.iconst 0, 1) := by decide +kernel
theorem dX4_errandsInAll_1 : decode cX4_errandsInAll 1 = .ok (.istore_n 1, 1) := by decide +kernel
theorem dX4_errandsInAll_2 : decode cX4_errandsInAll 2 = .ok (.aload_n 0, 1) := by decide +kernel
theorem dX4_errandsInAll_3 : decode cX4_errandsInAll 3 = .ok (.getfield 24, 3) := by decide +kernel
theorem dX4_errandsInAll_6 : decode cX4_errandsInAll 6 = .ok (.astore_n 2, 1) := by decide +kernel
theorem dX4_errandsInAll_7 : decode cX4_errandsInAll 7 = .ok (.aload_n 2, 1) := by decide +kernel
theorem dX4_errandsInAll_8 : decode cX4_errandsInAll 8 = .ok (.arraylength, 1) := by decide +kernel
theorem dX4_errandsInAll_9 : decode cX4_errandsInAll 9 = .ok (.istore_n 3, 1) := by decide +kernel
theorem dX4_errandsInAll_10 : decode cX4_errandsInAll 10 = .ok (.iconst 0, 1) := by decide +kernel
theorem dX4_errandsInAll_11 : decode cX4_errandsInAll 11 = .ok (.istore 4, 2) := by decide +kernel
theorem dX4_errandsInAll_13 : decode cX4_errandsInAll 13 = .ok (.iload 4, 2) := by decide +kernel
theorem dX4_errandsInAll_15 : decode cX4_errandsInAll 15 = .ok (.iload_n 3, 1) := by decide +kernel
theorem dX4_errandsInAll_16 : decode cX4_errandsInAll 16 = .ok (.if_icmp .ge 23, 3) := by decide +kernel
theorem dX4_errandsInAll_19 : decode cX4_errandsInAll 19 = .ok (.aload_n 2, 1) := by decide +kernel
theorem dX4_errandsInAll_20 : decode cX4_errandsInAll 20 = .ok (.iload 4, 2) := by decide +kernel
theorem dX4_errandsInAll_22 : decode cX4_errandsInAll 22 = .ok (.aaload, 1) := by decide +kernel
theorem dX4_errandsInAll_23 : decode cX4_errandsInAll 23 = .ok (.astore 5, 2) := by decide +kernel
theorem dX4_errandsInAll_25 : decode cX4_errandsInAll 25 = .ok (.iload_n 1, 1) := by decide +kernel
theorem dX4_errandsInAll_26 : decode cX4_errandsInAll 26 = .ok (.aload 5, 2) := by decide +kernel
theorem dX4_errandsInAll_28 : decode cX4_errandsInAll 28 = .ok (.invokevirtual 199, 3) := by decide +kernel
theorem dX4_errandsInAll_31 : decode cX4_errandsInAll 31 = .ok (.iadd, 1) := by decide +kernel
theorem dX4_errandsInAll_32 : decode cX4_errandsInAll 32 = .ok (.istore_n 1, 1) := by decide +kernel
theorem dX4_errandsInAll_33 : decode cX4_errandsInAll 33 = .ok (.iinc 4 1, 3) := by decide +kernel
theorem dX4_errandsInAll_36 : decode cX4_errandsInAll 36 = .ok (.goto (-23), 3) := by decide +kernel
theorem dX4_errandsInAll_39 : decode cX4_errandsInAll 39 = .ok (.iconst 0, 1) := by decide +kernel
theorem dX4_errandsInAll_40 : decode cX4_errandsInAll 40 = .ok (.istore_n 2, 1) := by decide +kernel
theorem dX4_errandsInAll_41 : decode cX4_errandsInAll 41 = .ok (.iload_n 2, 1) := by decide +kernel
theorem dX4_errandsInAll_42 : decode cX4_errandsInAll 42 = .ok (.aload_n 0, 1) := by decide +kernel
theorem dX4_errandsInAll_43 : decode cX4_errandsInAll 43 = .ok (.getfield 51, 3) := by decide +kernel
theorem dX4_errandsInAll_46 : decode cX4_errandsInAll 46 = .ok (.if_icmp .ge 30, 3) := by decide +kernel
theorem dX4_errandsInAll_49 : decode cX4_errandsInAll 49 = .ok (.iload_n 2, 1) := by decide +kernel
theorem dX4_errandsInAll_50 : decode cX4_errandsInAll 50 = .ok (.aload_n 0, 1) := by decide +kernel
theorem dX4_errandsInAll_51 : decode cX4_errandsInAll 51 = .ok (.getfield 30, 3) := by decide +kernel
theorem dX4_errandsInAll_54 : decode cX4_errandsInAll 54 = .ok (.arraylength, 1) := by decide +kernel
theorem dX4_errandsInAll_55 : decode cX4_errandsInAll 55 = .ok (.if_icmp .ge 21, 3) := by decide +kernel
theorem dX4_errandsInAll_58 : decode cX4_errandsInAll 58 = .ok (.iload_n 1, 1) := by decide +kernel
theorem dX4_errandsInAll_59 : decode cX4_errandsInAll 59 = .ok (.aload_n 0, 1) := by decide +kernel
theorem dX4_errandsInAll_60 : decode cX4_errandsInAll 60 = .ok (.getfield 30, 3) := by decide +kernel
theorem dX4_errandsInAll_63 : decode cX4_errandsInAll 63 = .ok (.iload_n 2, 1) := by decide +kernel
theorem dX4_errandsInAll_64 : decode cX4_errandsInAll 64 = .ok (.aaload, 1) := by decide +kernel
theorem dX4_errandsInAll_65 : decode cX4_errandsInAll 65 = .ok (.invokevirtual 202, 3) := by decide +kernel
theorem dX4_errandsInAll_68 : decode cX4_errandsInAll 68 = .ok (.iadd, 1) := by decide +kernel
theorem dX4_errandsInAll_69 : decode cX4_errandsInAll 69 = .ok (.istore_n 1, 1) := by decide +kernel
theorem dX4_errandsInAll_70 : decode cX4_errandsInAll 70 = .ok (.iinc 2 1, 3) := by decide +kernel
theorem dX4_errandsInAll_73 : decode cX4_errandsInAll 73 = .ok (.goto (-32), 3) := by decide +kernel
theorem dX4_errandsInAll_76 : decode cX4_errandsInAll 76 = .ok (.iload_n 1, 1) := by decide +kernel
theorem dX4_errandsInAll_77 : decode cX4_errandsInAll 77 = .ok (.ireturn, 1) := by decide +kernel
theorem dX4_tell_0 : decode cX4_tell 0 = .ok (.iload_n 1, 1) := by decide +kernel
theorem dX4_tell_1 : decode cX4_tell 1 = .ok (.tableswitch 166 0 14 #[75, 80, 85, 90, 95, 100, 105, 110, 115, 120, 125, 130, 143, 156, 161], 75) := by decide +kernel
theorem dX4_tell_76 : decode cX4_tell 76 = .ok (.aload_n 0, 1) := by decide +kernel
theorem dX4_tell_77 : decode cX4_tell 77 = .ok (.getfield 40, 3) := by decide +kernel
theorem dX4_tell_80 : decode cX4_tell 80 = .ok (.ireturn, 1) := by decide +kernel
theorem dX4_tell_81 : decode cX4_tell 81 = .ok (.aload_n 0, 1) := by decide +kernel
theorem dX4_tell_82 : decode cX4_tell 82 = .ok (.getfield 61, 3) := by decide +kernel
theorem dX4_tell_85 : decode cX4_tell 85 = .ok (.ireturn, 1) := by decide +kernel
theorem dX4_tell_86 : decode cX4_tell 86 = .ok (.aload_n 0, 1) := by decide +kernel
theorem dX4_tell_87 : decode cX4_tell 87 = .ok (.getfield 64, 3) := by decide +kernel
theorem dX4_tell_90 : decode cX4_tell 90 = .ok (.ireturn, 1) := by decide +kernel
theorem dX4_tell_91 : decode cX4_tell 91 = .ok (.aload_n 0, 1) := by decide +kernel
theorem dX4_tell_92 : decode cX4_tell 92 = .ok (.invokevirtual 205, 3) := by decide +kernel
theorem dX4_tell_95 : decode cX4_tell 95 = .ok (.ireturn, 1) := by decide +kernel
theorem dX4_tell_96 : decode cX4_tell 96 = .ok (.aload_n 0, 1) := by decide +kernel
theorem dX4_tell_97 : decode cX4_tell 97 = .ok (.invokevirtual 208, 3) := by decide +kernel
theorem dX4_tell_100 : decode cX4_tell 100 = .ok (.ireturn, 1) := by decide +kernel
theorem dX4_tell_101 : decode cX4_tell 101 = .ok (.aload_n 0, 1) := by decide +kernel
theorem dX4_tell_102 : decode cX4_tell 102 = .ok (.getfield 67, 3) := by decide +kernel
theorem dX4_tell_105 : decode cX4_tell 105 = .ok (.ireturn, 1) := by decide +kernel
theorem dX4_tell_106 : decode cX4_tell 106 = .ok (.aload_n 0, 1) := by decide +kernel
theorem dX4_tell_107 : decode cX4_tell 107 = .ok (.getfield 51, 3) := by decide +kernel
theorem dX4_tell_110 : decode cX4_tell 110 = .ok (.ireturn, 1) := by decide +kernel
theorem dX4_tell_111 : decode cX4_tell 111 = .ok (.aload_n 0, 1) := by decide +kernel
theorem dX4_tell_112 : decode cX4_tell 112 = .ok (.invokevirtual 189, 3) := by decide +kernel
theorem dX4_tell_115 : decode cX4_tell 115 = .ok (.ireturn, 1) := by decide +kernel
theorem dX4_tell_116 : decode cX4_tell 116 = .ok (.aload_n 0, 1) := by decide +kernel
theorem dX4_tell_117 : decode cX4_tell 117 = .ok (.getfield 70, 3) := by decide +kernel
theorem dX4_tell_120 : decode cX4_tell 120 = .ok (.ireturn, 1) := by decide +kernel
theorem dX4_tell_121 : decode cX4_tell 121 = .ok (.aload_n 0, 1) := by decide +kernel
theorem dX4_tell_122 : decode cX4_tell 122 = .ok (.getfield 73, 3) := by decide +kernel
theorem dX4_tell_125 : decode cX4_tell 125 = .ok (.ireturn, 1) := by decide +kernel
theorem dX4_tell_126 : decode cX4_tell 126 = .ok (.aload_n 0, 1) := by decide +kernel
theorem dX4_tell_127 : decode cX4_tell 127 = .ok (.getfield 76, 3) := by decide +kernel
theorem dX4_tell_130 : decode cX4_tell 130 = .ok (.ireturn, 1) := by decide +kernel
theorem dX4_tell_131 : decode cX4_tell 131 = .ok (.aload_n 0, 1) := by decide +kernel
theorem dX4_tell_132 : decode cX4_tell 132 = .ok (.invokevirtual 211, 3) := by decide +kernel
theorem dX4_tell_135 : decode cX4_tell 135 = .ok (.ifCond .eq 7, 3) := by decide +kernel
theorem dX4_tell_138 : decode cX4_tell 138 = .ok (.iconst 1, 1) := by decide +kernel
theorem dX4_tell_139 : decode cX4_tell 139 = .ok (.goto 4, 3) := by decide +kernel
theorem dX4_tell_142 : decode cX4_tell 142 = .ok (.iconst 0, 1) := by decide +kernel
theorem dX4_tell_143 : decode cX4_tell 143 = .ok (.ireturn, 1) := by decide +kernel
theorem dX4_tell_144 : decode cX4_tell 144 = .ok (.aload_n 0, 1) := by decide +kernel
theorem dX4_tell_145 : decode cX4_tell 145 = .ok (.invokevirtual 214, 3) := by decide +kernel
theorem dX4_tell_148 : decode cX4_tell 148 = .ok (.ifCond .eq 7, 3) := by decide +kernel
theorem dX4_tell_151 : decode cX4_tell 151 = .ok (.iconst 1, 1) := by decide +kernel
theorem dX4_tell_152 : decode cX4_tell 152 = .ok (.goto 4, 3) := by decide +kernel
theorem dX4_tell_155 : decode cX4_tell 155 = .ok (.iconst 0, 1) := by decide +kernel
theorem dX4_tell_156 : decode cX4_tell 156 = .ok (.ireturn, 1) := by decide +kernel
theorem dX4_tell_157 : decode cX4_tell 157 = .ok (.aload_n 0, 1) := by decide +kernel
theorem dX4_tell_158 : decode cX4_tell 158 = .ok (.getfield 9, 3) := by decide +kernel
theorem dX4_tell_161 : decode cX4_tell 161 = .ok (.ireturn, 1) := by decide +kernel
theorem dX4_tell_162 : decode cX4_tell 162 = .ok (.aload_n 0, 1) := by decide +kernel
theorem dX4_tell_163 : decode cX4_tell 163 = .ok (.getfield 15, 3) := by decide +kernel
theorem dX4_tell_166 : decode cX4_tell 166 = .ok (.ireturn, 1) := by decide +kernel
theorem dX4_tell_167 : decode cX4_tell 167 = .ok (.bipush (-2), 2) := by decide +kernel
theorem dX4_tell_169 : decode cX4_tell 169 = .ok (.ireturn, 1) := by decide +kernel
theorem dX5_init_0 : decode cX5_init 0 = .ok (.aload_n 0, 1) := by decide +kernel
theorem dX5_init_1 : decode cX5_init 1 = .ok (.invokespecial 3, 3) := by decide +kernel
theorem dX5_init_4 : decode cX5_init 4 = .ok (.aload_n 0, 1) := by decide +kernel
theorem dX5_init_5 : decode cX5_init 5 = .ok (.new 9, 3) := by decide +kernel
theorem dX5_init_8 : decode cX5_init 8 = .ok (.dup, 1) := by decide +kernel
theorem dX5_init_9 : decode cX5_init 9 = .ok (.invokespecial 11, 3) := by decide +kernel
theorem dX5_init_12 : decode cX5_init 12 = .ok (.putfield 12, 3) := by decide +kernel
theorem dX5_init_15 : decode cX5_init 15 = .ok (.aload_n 0, 1) := by decide +kernel
theorem dX5_init_16 : decode cX5_init 16 = .ok (.new 9, 3) := by decide +kernel
theorem dX5_init_19 : decode cX5_init 19 = .ok (.dup, 1) := by decide +kernel
theorem dX5_init_20 : decode cX5_init 20 = .ok (.invokespecial 11, 3) := by decide +kernel
theorem dX5_init_23 : decode cX5_init 23 = .ok (.putfield 16, 3) := by decide +kernel
theorem dX5_init_26 : decode cX5_init 26 = .ok (.aload_n 0, 1) := by decide +kernel
theorem dX5_init_27 : decode cX5_init 27 = .ok (.new 9, 3) := by decide +kernel
theorem dX5_init_30 : decode cX5_init 30 = .ok (.dup, 1) := by decide +kernel
theorem dX5_init_31 : decode cX5_init 31 = .ok (.invokespecial 11, 3) := by decide +kernel
theorem dX5_init_34 : decode cX5_init 34 = .ok (.putfield 19, 3) := by decide +kernel
theorem dX5_init_37 : decode cX5_init 37 = .ok (.aload_n 0, 1) := by decide +kernel
theorem dX5_init_38 : decode cX5_init 38 = .ok (.iconst 4, 1) := by decide +kernel
theorem dX5_init_39 : decode cX5_init 39 = .ok (.anewarray 9, 3) := by decide +kernel
theorem dX5_init_42 : decode cX5_init 42 = .ok (.putfield 22, 3) := by decide +kernel
theorem dX5_init_45 : decode cX5_init 45 = .ok (.aload_n 0, 1) := by decide +kernel
theorem dX5_init_46 : decode cX5_init 46 = .ok (.bipush 60, 2) := by decide +kernel
theorem dX5_init_48 : decode cX5_init 48 = .ok (.newarray .char, 2) := by decide +kernel
theorem dX5_init_50 : decode cX5_init 50 = .ok (.putfield 26, 3) := by decide +kernel
