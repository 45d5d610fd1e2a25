theorem dX1_init_0 : decode cX1_init 0 = .ok (.aload_n 0, 1) := by decide +kernel
theorem dX1_init_1 : decode cX1_init 1 = .ok (.invokespecial 3, 3) := by decide +kernel
theorem dX1_init_4 : decode cX1_init 4 = .ok (.aload_n 0, 1) := by decide +kernel
theorem dX1_init_5 : decode cX1_init 5 = .ok (.iconst 0, 1) := by decide +kernel
theorem dX1_init_6 : decode cX1_init 6 = .ok (.putfield 9, 3) := by decide +kernel
theorem dX1_init_9 : decode cX1_init 9 = .ok (.aload_n 0, 1) := by decide +kernel
theorem dX1_init_10 : decode cX1_init 10 = .ok (.bipush 8, 2) := by decide +kernel
theorem dX1_init_12 : decode cX1_init 12 = .ok (.newarray .int, 2) := by decide +kernel
theorem dX1_init_14 : decode cX1_init 14 = .ok (.putfield 15, 3) := by decide +kernel
theorem dX1_init_17 : decode cX1_init 17 = .ok (.aload_n 0, 1) := by decide +kernel
theorem dX1_init_18 : decode cX1_init 18 = .ok (.bipush 8, 2) := by decide +kernel
theorem dX1_init_20 : decode cX1_init 20 = .ok (.newarray .int, 2) := by decide +kernel
theorem dX1_init_22 : decode cX1_init 22 = .ok (.putfield 19, 3) := by decide +kernel
theorem dX1_init_25 : decode cX1_init 25 = .ok (.aload_n 0, 1) := by decide +kernel
theorem dX1_init_26 : decode cX1_init 26 = .ok (.iconst 0, 1) := by decide +kernel
theorem dX1_init_27 : decode cX1_init 27 = .ok (.putfield 22, 3) := by decide +kernel
theorem dX1_init_30 : decode cX1_init 30 = .ok (.aload_n 0, 1) := by decide +kernel
theorem dX1_init_31 : decode cX1_init 31 = .ok (.iconst 1, 1) := by decide +kernel
theorem dX1_init_32 : decode cX1_init 32 = .ok (.putfield 25, 3) := by decide +kernel
theorem dX1_init_35 : decode cX1_init 35 = .ok (.aload_n 0, 1) := by decide +kernel
theorem dX1_init_36 : decode cX1_init 36 = .ok (.bipush 100, 2) := by decide +kernel
theorem dX1_init_38 : decode cX1_init 38 = .ok (.putfield 28, 3) := by decide +kernel
theorem dX1_init_41 : decode cX1_init 41 = .ok (.aload_n 0, 1) := by decide +kernel
theorem dX1_init_42 : decode cX1_init 42 = .ok (.iconst 1, 1) := by decide +kernel
theorem dX1_init_43 : decode cX1_init 43 = .ok (.putfield 31, 3) := by decide +kernel
theorem dX1_init_46 : decode cX1_init 46 = .ok (.aload_n 0, 1) := by decide +kernel
theorem dX1_init_47 : decode cX1_init 47 = .ok (.iconst 4, 1) := by decide +kernel
theorem dX1_init_48 : decode cX1_init 48 = .ok (.newarray .int, 2) := by decide +kernel
theorem dX1_init_50 : decode cX1_init 50 = .ok (.putfield 34, 3) := by decide +kernel
theorem dX1_init_53 : decode cX1_init 53 = .ok (.aload_n 0, 1) := by decide +kernel
theorem dX1_init_54 : decode cX1_init 54 = .ok (.iconst 4, 1) := by decide +kernel
theorem dX1_init_55 : decode cX1_init 55 = .ok (.newarray .int, 2) := by decide +kernel
theorem dX1_init_57 : decode cX1_init 57 = .ok (.putfield 37, 3) := by decide +kernel
theorem dX1_init_60 : decode cX1_init 60 = .ok (.aload_n 0, 1) := by decide +kernel
theorem dX1_init_61 : decode cX1_init 61 = .ok (.getfield 37, 3) := by decide +kernel
theorem dX1_init_64 : decode cX1_init 64 = .ok (.iconst 0, 1) := by decide +kernel
theorem dX1_init_65 : decode cX1_init 65 = .ok (.ldc 40, 2) := by decide +kernel
theorem dX1_init_67 : decode cX1_init 67 = .ok (.iastore, 1) := by decide +kernel
theorem dX1_init_68 : decode cX1_init 68 = .ok (.return_, 1) := by decide +kernel
theorem dX1_copyBench_0 : decode cX1_copyBench 0 = .ok (.aload_n 0, 1) := by decide +kernel
theorem dX1_copyBench_1 : decode cX1_copyBench 1 = .ok (.aload_n 1, 1) := by decide +kernel
theorem dX1_copyBench_2 : decode cX1_copyBench 2 = .ok (.invokevirtual 41, 3) := by decide +kernel
theorem dX1_copyBench_5 : decode cX1_copyBench 5 = .ok (.aload_n 0, 1) := by decide +kernel
theorem dX1_copyBench_6 : decode cX1_copyBench 6 = .ok (.aload_n 1, 1) := by decide +kernel
theorem dX1_copyBench_7 : decode cX1_copyBench 7 = .ok (.invokevirtual 45, 3) := by decide +kernel
theorem dX1_copyBench_10 : decode cX1_copyBench 10 = .ok (.aload_n 0, 1) := by decide +kernel
theorem dX1_copyBench_11 : decode cX1_copyBench 11 = .ok (.aload_n 1, 1) := by decide +kernel
theorem dX1_copyBench_12 : decode cX1_copyBench 12 = .ok (.getfield 31, 3) := by decide +kernel
theorem dX1_copyBench_15 : decode cX1_copyBench 15 = .ok (.putfield 31, 3) := by decide +kernel
theorem dX1_copyBench_18 : decode cX1_copyBench 18 = .ok (.aload_n 1, 1) := by decide +kernel
theorem dX1_copyBench_19 : decode cX1_copyBench 19 = .ok (.getfield 34, 3) := by decide +kernel
theorem dX1_copyBench_22 : decode cX1_copyBench 22 = .ok (.iconst 0, 1) := by decide +kernel
theorem dX1_copyBench_23 : decode cX1_copyBench 23 = .ok (.aload_n 0, 1) := by decide +kernel
theorem dX1_copyBench_24 : decode cX1_copyBench 24 = .ok (.getfield 34, 3) := by decide +kernel
theorem dX1_copyBench_27 : decode cX1_copyBench 27 = .ok (.iconst 0, 1) := by decide +kernel
theorem dX1_copyBench_28 : decode cX1_copyBench 28 = .ok (.iconst 4, 1) := by decide +kernel
theorem dX1_copyBench_29 : decode cX1_copyBench 29 = .ok (.invokestatic 48, 3) := by decide +kernel
theorem dX1_copyBench_32 : decode cX1_copyBench 32 = .ok (.aload_n 1, 1) := by decide +kernel
theorem dX1_copyBench_33 : decode cX1_copyBench 33 = .ok (.getfield 37, 3) := by decide +kernel
theorem dX1_copyBench_36 : decode cX1_copyBench 36 = .ok (.iconst 0, 1) := by decide +kernel
theorem dX1_copyBench_37 : decode cX1_copyBench 37 = .ok (.aload_n 0, 1) := by decide +kernel
theorem dX1_copyBench_38 : decode cX1_copyBench 38 = .ok (.getfield 37, 3) := by decide +kernel
theorem dX1_copyBench_41 : decode cX1_copyBench 41 = .ok (.iconst 0, 1) := by decide +kernel
theorem dX1_copyBench_42 : decode cX1_copyBench 42 = .ok (.iconst 4, 1) := by decide +kernel
theorem dX1_copyBench_43 : decode cX1_copyBench 43 = .ok (.invokestatic 48, 3) := by decide +kernel
theorem dX1_copyBench_46 : decode cX1_copyBench 46 = .ok (.return_, 1) := by decide +kernel
theorem dX1_takeLine_0 : decode cX1_takeLine 0 = .ok (.aload_n 0, 1) := by decide +kernel
theorem dX1_takeLine_1 : decode cX1_takeLine 1 = .ok (.aload_n 1, 1) := by decide +kernel
theorem dX1_takeLine_2 : decode cX1_takeLine 2 = .ok (.getfield 9, 3) := by decide +kernel
theorem dX1_takeLine_5 : decode cX1_takeLine 5 = .ok (.putfield 9, 3) := by decide +kernel
theorem dX1_takeLine_8 : decode cX1_takeLine 8 = .ok (.aload_n 1, 1) := by decide +kernel
theorem dX1_takeLine_9 : decode cX1_takeLine 9 = .ok (.getfield 15, 3) := by decide +kernel
theorem dX1_takeLine_12 : decode cX1_takeLine 12 = .ok (.iconst 0, 1) := by decide +kernel
theorem dX1_takeLine_13 : decode cX1_takeLine 13 = .ok (.aload_n 0, 1) := by decide +kernel
theorem dX1_takeLine_14 : decode cX1_takeLine 14 = .ok (.getfield 15, 3) := by decide +kernel
theorem dX1_takeLine_17 : decode cX1_takeLine 17 = .ok (.iconst 0, 1) := by decide +kernel
theorem dX1_takeLine_18 : decode cX1_takeLine 18 = .ok (.bipush 8, 2) := by decide +kernel
theorem dX1_takeLine_20 : decode cX1_takeLine 20 = .ok (.invokestatic 48, 3) := by decide +kernel
theorem dX1_takeLine_23 : decode cX1_takeLine 23 = .ok (.aload_n 1, 1) := by decide +kernel
theorem dX1_takeLine_24 : decode cX1_takeLine 24 = .ok (.getfield 19, 3) := by decide +kernel
theorem dX1_takeLine_27 : decode cX1_takeLine 27 = .ok (.iconst 0, 1) := by decide +kernel
theorem dX1_takeLine_28 : decode cX1_takeLine 28 = .ok (.aload_n 0, 1) := by decide +kernel
theorem dX1_takeLine_29 : decode cX1_takeLine 29 = .ok (.getfield 19, 3) := by decide +kernel
theorem dX1_takeLine_32 : decode cX1_takeLine 32 = .ok (.iconst 0, 1) := by decide +kernel
theorem dX1_takeLine_33 : decode cX1_takeLine 33 = .ok (.bipush 8, 2) := by decide +kernel
theorem dX1_takeLine_35 : decode cX1_takeLine 35 = .ok (.invokestatic 48, 3) := by decide +kernel
theorem dX1_takeLine_38 : decode cX1_takeLine 38 = .ok (.return_, 1) := by decide +kernel
theorem dX1_takeSettings_0 : decode cX1_takeSettings 0 = .ok (.aload_n 0, 1) := by decide +kernel
theorem dX1_takeSettings_1 : decode cX1_takeSettings 1 = .ok (.aload_n 1, 1) := by decide +kernel
theorem dX1_takeSettings_2 : decode cX1_takeSettings 2 = .ok (.getfield 22, 3) := by decide +kernel
theorem dX1_takeSettings_5 : decode cX1_takeSettings 5 = .ok (.putfield 22, 3) := by decide +kernel
theorem dX1_takeSettings_8 : decode cX1_takeSettings 8 = .ok (.aload_n 0, 1) := by decide +kernel
theorem dX1_takeSettings_9 : decode cX1_takeSettings 9 = .ok (.aload_n 1, 1) := by decide +kernel
theorem dX1_takeSettings_10 : decode cX1_takeSettings 10 = .ok (.getfield 25, 3) := by decide +kernel
theorem dX1_takeSettings_13 : decode cX1_takeSettings 13 = .ok (.putfield 25, 3) := by decide +kernel
theorem dX1_takeSettings_16 : decode cX1_takeSettings 16 = .ok (.aload_n 0, 1) := by decide +kernel
theorem dX1_takeSettings_17 : decode cX1_takeSettings 17 = .ok (.aload_n 1, 1) := by decide +kernel
theorem dX1_takeSettings_18 : decode cX1_takeSettings 18 = .ok (.getfield 28, 3) := by decide +kernel
theorem dX1_takeSettings_21 : decode cX1_takeSettings 21 = .ok (.putfield 28, 3) := by decide +kernel
theorem dX1_takeSettings_24 : decode cX1_takeSettings 24 = .ok (.return_, 1) := by decide +kernel
theorem dX1_verdictOnPart_0 : decode cX1_verdictOnPart 0 = .ok (.iload_n 1, 1) := by decide +kernel
theorem dX1_verdictOnPart_1 : decode cX1_verdictOnPart 1 = .ok (.i2l, 1) := by decide +kernel
theorem dX1_verdictOnPart_2 : decode cX1_verdictOnPart 2 = .ok (.lconst 0, 1) := by decide +kernel
theorem dX1_verdictOnPart_3 : decode cX1_verdictOnPart 3 = .ok (.aload_n 0, 1) := by decide +kernel
theorem dX1_verdictOnPart_4 : decode cX1_verdictOnPart 4 = .ok (.getfield 9, 3) := by decide +kernel
theorem dX1_verdictOnPart_7 : decode cX1_verdictOnPart 7 = .ok (.iconst 1, 1) := by decide +kernel
theorem dX1_verdictOnPart_8 : decode cX1_verdictOnPart 8 = .ok (.isub, 1) := by decide +kernel
theorem dX1_verdictOnPart_9 : decode cX1_verdictOnPart 9 = .ok (.i2l, 1) := by decide +kernel
theorem dX1_verdictOnPart_10 : decode cX1_verdictOnPart 10 = .ok (.invokestatic 54, 3) := by decide +kernel
theorem dX1_verdictOnPart_13 : decode cX1_verdictOnPart 13 = .ok (.ifCond .eq 9, 3) := by decide +kernel
theorem dX1_verdictOnPart_16 : decode cX1_verdictOnPart 16 = .ok (.getstatic 58, 3) := by decide +kernel
theorem dX1_verdictOnPart_19 : decode cX1_verdictOnPart 19 = .ok (.goto 6, 3) := by decide +kernel
theorem dX1_verdictOnPart_22 : decode cX1_verdictOnPart 22 = .ok (.getstatic 64, 3) := by decide +kernel
theorem dX1_verdictOnPart_25 : decode cX1_verdictOnPart 25 = .ok (.areturn, 1) := by decide +kernel
theorem dX1_verdictOnAppend_0 : decode cX1_verdictOnAppend 0 = .ok (.iload_n 1, 1) := by decide +kernel
theorem dX1_verdictOnAppend_1 : decode cX1_verdictOnAppend 1 = .ok (.i2l, 1) := by decide +kernel
theorem dX1_verdictOnAppend_2 : decode cX1_verdictOnAppend 2 = .ok (.lconst 1, 1) := by decide +kernel
theorem dX1_verdictOnAppend_3 : decode cX1_verdictOnAppend 3 = .ok (.ldc2_w 67, 3) := by decide +kernel
theorem dX1_verdictOnAppend_6 : decode cX1_verdictOnAppend 6 = .ok (.invokestatic 54, 3) := by decide +kernel
theorem dX1_verdictOnAppend_9 : decode cX1_verdictOnAppend 9 = .ok (.ifCond .eq 15, 3) := by decide +kernel
theorem dX1_verdictOnAppend_12 : decode cX1_verdictOnAppend 12 = .ok (.iload_n 2, 1) := by decide +kernel
theorem dX1_verdictOnAppend_13 : decode cX1_verdictOnAppend 13 = .ok (.i2l, 1) := by decide +kernel
theorem dX1_verdictOnAppend_14 : decode cX1_verdictOnAppend 14 = .ok (.lconst 0, 1) := by decide +kernel
theorem dX1_verdictOnAppend_15 : decode cX1_verdictOnAppend 15 = .ok (.ldc2_w 69, 3) := by decide +kernel
theorem dX1_verdictOnAppend_18 : decode cX1_verdictOnAppend 18 = .ok (.invokestatic 54, 3) := by decide +kernel
theorem dX1_verdictOnAppend_21 : decode cX1_verdictOnAppend 21 = .ok (.ifCond .ne 7, 3) := by decide +kernel
theorem dX1_verdictOnAppend_24 : decode cX1_verdictOnAppend 24 = .ok (.getstatic 71, 3) := by decide +kernel
theorem dX1_verdictOnAppend_27 : decode cX1_verdictOnAppend 27 = .ok (.areturn, 1) := by decide +kernel
theorem dX1_verdictOnAppend_28 : decode cX1_verdictOnAppend 28 = .ok (.aload_n 0, 1) := by decide +kernel
theorem dX1_verdictOnAppend_29 : decode cX1_verdictOnAppend 29 = .ok (.getfield 9, 3) := by decide +kernel
theorem dX1_verdictOnAppend_32 : decode cX1_verdictOnAppend 32 = .ok (.bipush 8, 2) := by decide +kernel
theorem dX1_verdictOnAppend_34 : decode cX1_verdictOnAppend 34 = .ok (.if_icmp .ge 9, 3) := by decide +kernel
theorem dX1_verdictOnAppend_37 : decode cX1_verdictOnAppend 37 = .ok (.getstatic 58, 3) := by decide +kernel
theorem dX1_verdictOnAppend_40 : decode cX1_verdictOnAppend 40 = .ok (.goto 6, 3) := by decide +kernel
theorem dX1_verdictOnAppend_43 : decode cX1_verdictOnAppend 43 = .ok (.getstatic 74, 3) := by decide +kernel
theorem dX1_verdictOnAppend_46 : decode cX1_verdictOnAppend 46 = .ok (.areturn, 1) := by decide +kernel
theorem dX1_verdictOnReplace_0 : decode cX1_verdictOnReplace 0 = .ok (.iload_n 1, 1) := by decide +kernel
theorem dX1_verdictOnReplace_1 : decode cX1_verdictOnReplace 1 = .ok (.i2l, 1) := by decide +kernel
theorem dX1_verdictOnReplace_2 : decode cX1_verdictOnReplace 2 = .ok (.lconst 0, 1) := by decide +kernel
theorem dX1_verdictOnReplace_3 : decode cX1_verdictOnReplace 3 = .ok (.aload_n 0, 1) := by decide +kernel
theorem dX1_verdictOnReplace_4 : decode cX1_verdictOnReplace 4 = .ok (.getfield 9, 3) := by decide +kernel
theorem dX1_verdictOnReplace_7 : decode cX1_verdictOnReplace 7 = .ok (.iconst 1, 1) := by decide +kernel
theorem dX1_verdictOnReplace_8 : decode cX1_verdictOnReplace 8 = .ok (.isub, 1) := by decide +kernel
theorem dX1_verdictOnReplace_9 : decode cX1_verdictOnReplace 9 = .ok (.i2l, 1) := by decide +kernel
theorem dX1_verdictOnReplace_10 : decode cX1_verdictOnReplace 10 = .ok (.invokestatic 54, 3) := by decide +kernel
theorem dX1_verdictOnReplace_13 : decode cX1_verdictOnReplace 13 = .ok (.ifCond .ne 7, 3) := by decide +kernel
theorem dX1_verdictOnReplace_16 : decode cX1_verdictOnReplace 16 = .ok (.getstatic 64, 3) := by decide +kernel
theorem dX1_verdictOnReplace_19 : decode cX1_verdictOnReplace 19 = .ok (.areturn, 1) := by decide +kernel
theorem dX1_verdictOnReplace_20 : decode cX1_verdictOnReplace 20 = .ok (.iload_n 2, 1) := by decide +kernel
theorem dX1_verdictOnReplace_21 : decode cX1_verdictOnReplace 21 = .ok (.i2l, 1) := by decide +kernel
theorem dX1_verdictOnReplace_22 : decode cX1_verdictOnReplace 22 = .ok (.lconst 1, 1) := by decide +kernel
theorem dX1_verdictOnReplace_23 : decode cX1_verdictOnReplace 23 = .ok (.ldc2_w 67, 3) := by decide +kernel
theorem dX1_verdictOnReplace_26 : decode cX1_verdictOnReplace 26 = .ok (.invokestatic 54, 3) := by decide +kernel
theorem dX1_verdictOnReplace_29 : decode cX1_verdictOnReplace 29 = .ok (.ifCond .eq 19, 3) := by decide +kernel
theorem dX1_verdictOnReplace_32 : decode cX1_verdictOnReplace 32 = .ok (.iload_n 3, 1) := by decide +kernel
theorem dX1_verdictOnReplace_33 : decode cX1_verdictOnReplace 33 = .ok (.i2l, 1) := by decide +kernel
theorem dX1_verdictOnReplace_34 : decode cX1_verdictOnReplace 34 = .ok (.lconst 0, 1) := by decide +kernel
theorem dX1_verdictOnReplace_35 : decode cX1_verdictOnReplace 35 = .ok (.ldc2_w 69, 3) := by decide +kernel
theorem dX1_verdictOnReplace_38 : decode cX1_verdictOnReplace 38 = .ok (.invokestatic 54, 3) := by decide +kernel
theorem dX1_verdictOnReplace_41 : decode cX1_verdictOnReplace 41 = .ok (.ifCond .eq 7, 3) := by decide +kernel
theorem dX1_verdictOnReplace_44 : decode cX1_verdictOnReplace 44 = .ok (.iconst 1, 1) := by decide +kernel
theorem dX1_verdictOnReplace_45 : decode cX1_verdictOnReplace 45 = .ok (.goto 4, 3) := by decide +kernel
theorem dX1_verdictOnReplace_48 : decode cX1_verdictOnReplace 48 = .ok (.iconst 0, 1) := by decide +kernel
theorem dX1_verdictOnReplace_49 : decode cX1_verdictOnReplace 49 = .ok (.istore 4, 2) := by decide +kernel
theorem dX1_verdictOnReplace_51 : decode cX1_verdictOnReplace 51 = .ok (.iload 4, 2) := by decide +kernel
theorem dX1_verdictOnReplace_53 : decode cX1_verdictOnReplace 53 = .ok (.ifCond .eq 9, 3) := by decide +kernel
theorem dX1_verdictOnReplace_56 : decode cX1_verdictOnReplace 56 = .ok (.getstatic 58, 3) := by decide +kernel
theorem dX1_verdictOnReplace_59 : decode cX1_verdictOnReplace 59 = .ok (.goto 6, 3) := by decide +kernel
theorem dX1_verdictOnReplace_62 : decode cX1_verdictOnReplace 62 = .ok (.getstatic 71, 3) := by decide +kernel
theorem dX1_verdictOnReplace_65 : decode cX1_verdictOnReplace 65 = .ok (.areturn, 1) := by decide +kernel
theorem dX1_verdictOnDivide_0 : decode cX1_verdictOnDivide 0 = .ok (.iload_n 1, 1) := by decide +kernel
theorem dX1_verdictOnDivide_1 : decode cX1_verdictOnDivide 1 = .ok (.i2l, 1) := by decide +kernel
theorem dX1_verdictOnDivide_2 : decode cX1_verdictOnDivide 2 = .ok (.lconst 0, 1) := by decide +kernel
theorem dX1_verdictOnDivide_3 : decode cX1_verdictOnDivide 3 = .ok (.aload_n 0, 1) := by decide +kernel
theorem dX1_verdictOnDivide_4 : decode cX1_verdictOnDivide 4 = .ok (.getfield 9, 3) := by decide +kernel
theorem dX1_verdictOnDivide_7 : decode cX1_verdictOnDivide 7 = .ok (.iconst 1, 1) := by decide +kernel
theorem dX1_verdictOnDivide_8 : decode cX1_verdictOnDivide 8 = .ok (.isub, 1) := by decide +kernel
theorem dX1_verdictOnDivide_9 : decode cX1_verdictOnDivide 9 = .ok (.i2l, 1) := by decide +kernel
theorem dX1_verdictOnDivide_10 : decode cX1_verdictOnDivide 10 = .ok (.invokestatic 54, 3) := by decide +kernel
theorem dX1_verdictOnDivide_13 : decode cX1_verdictOnDivide 13 = .ok (.ifCond .ne 7, 3) := by decide +kernel
theorem dX1_verdictOnDivide_16 : decode cX1_verdictOnDivide 16 = .ok (.getstatic 64, 3) := by decide +kernel
theorem dX1_verdictOnDivide_19 : decode cX1_verdictOnDivide 19 = .ok (.areturn, 1) := by decide +kernel
theorem dX1_verdictOnDivide_20 : decode cX1_verdictOnDivide 20 = .ok (.iload_n 2, 1) := by decide +kernel
theorem dX1_verdictOnDivide_21 : decode cX1_verdictOnDivide 21 = .ok (.i2l, 1) := by decide +kernel
theorem dX1_verdictOnDivide_22 : decode cX1_verdictOnDivide 22 = .ok (.lconst 1, 1) := by decide +kernel
theorem dX1_verdictOnDivide_23 : decode cX1_verdictOnDivide 23 = .ok (.aload_n 0, 1) := by decide +kernel
theorem dX1_verdictOnDivide_24 : decode cX1_verdictOnDivide 24 = .ok (.getfield 15, 3) := by decide +kernel
theorem dX1_verdictOnDivide_27 : decode cX1_verdictOnDivide 27 = .ok (.iload_n 1, 1) := by decide +kernel
theorem dX1_verdictOnDivide_28 : decode cX1_verdictOnDivide 28 = .ok (.iaload, 1) := by decide +kernel
theorem dX1_verdictOnDivide_29 : decode cX1_verdictOnDivide 29 = .ok (.iconst 1, 1) := by decide +kernel
theorem dX1_verdictOnDivide_30 : decode cX1_verdictOnDivide 30 = .ok (.isub, 1) := by decide +kernel
theorem dX1_verdictOnDivide_31 : decode cX1_verdictOnDivide 31 = .ok (.i2l, 1) := by decide +kernel
theorem dX1_verdictOnDivide_32 : decode cX1_verdictOnDivide 32 = .ok (.invokestatic 54, 3) := by decide +kernel
theorem dX1_verdictOnDivide_35 : decode cX1_verdictOnDivide 35 = .ok (.ifCond .eq 15, 3) := by decide +kernel
theorem dX1_verdictOnDivide_38 : decode cX1_verdictOnDivide 38 = .ok (.iload_n 3, 1) := by decide +kernel
theorem dX1_verdictOnDivide_39 : decode cX1_verdictOnDivide 39 = .ok (.i2l, 1) := by decide +kernel
theorem dX1_verdictOnDivide_40 : decode cX1_verdictOnDivide 40 = .ok (.lconst 0, 1) := by decide +kernel
theorem dX1_verdictOnDivide_41 : decode cX1_verdictOnDivide 41 = .ok (.ldc2_w 69, 3) := by decide +kernel
theorem dX1_verdictOnDivide_44 : decode cX1_verdictOnDivide 44 = .ok (.invokestatic 54, 3) := by decide +kernel
theorem dX1_verdictOnDivide_47 : decode cX1_verdictOnDivide 47 = .ok (.ifCond .ne 7, 3) := by decide +kernel
theorem dX1_verdictOnDivide_50 : decode cX1_verdictOnDivide 50 = .ok (.getstatic 71, 3) := by decide +kernel
theorem dX1_verdictOnDivide_53 : decode cX1_verdictOnDivide 53 = .ok (.areturn, 1) := by decide +kernel
theorem dX1_verdictOnDivide_54 : decode cX1_verdictOnDivide 54 = .ok (.aload_n 0, 1) := by decide +kernel
theorem dX1_verdictOnDivide_55 : decode cX1_verdictOnDivide 55 = .ok (.getfield 9, 3) := by decide +kernel
theorem dX1_verdictOnDivide_58 : decode cX1_verdictOnDivide 58 = .ok (.bipush 8, 2) := by decide +kernel
theorem dX1_verdictOnDivide_60 : decode cX1_verdictOnDivide 60 = .ok (.if_icmp .ge 9, 3) := by decide +kernel
theorem dX1_verdictOnDivide_63 : decode cX1_verdictOnDivide 63 = .ok (.getstatic 58, 3) := by decide +kernel
theorem dX1_verdictOnDivide_66 : decode cX1_verdictOnDivide 66 = .ok (.goto 6, 3) := by decide +kernel
theorem dX1_verdictOnDivide_69 : decode cX1_verdictOnDivide 69 = .ok (.getstatic 74, 3) := by decide +kernel
theorem dX1_verdictOnDivide_72 : decode cX1_verdictOnDivide 72 = .ok (.areturn, 1) := by decide +kernel
theorem dX1_verdictOnPulse_0 : decode cX1_verdictOnPulse 0 = .ok (.iload_n 1, 1) := by decide +kernel
theorem dX1_verdictOnPulse_1 : decode cX1_verdictOnPulse 1 = .ok (.i2l, 1) := by decide +kernel
theorem dX1_verdictOnPulse_2 : decode cX1_verdictOnPulse 2 = .ok (.lconst 0, 1) := by decide +kernel
theorem dX1_verdictOnPulse_3 : decode cX1_verdictOnPulse 3 = .ok (.ldc2_w 77, 3) := by decide +kernel
theorem dX1_verdictOnPulse_6 : decode cX1_verdictOnPulse 6 = .ok (.invokestatic 54, 3) := by decide +kernel
theorem dX1_verdictOnPulse_9 : decode cX1_verdictOnPulse 9 = .ok (.ifCond .eq 15, 3) := by decide +kernel
theorem dX1_verdictOnPulse_12 : decode cX1_verdictOnPulse 12 = .ok (.iload_n 2, 1) := by decide +kernel
theorem dX1_verdictOnPulse_13 : decode cX1_verdictOnPulse 13 = .ok (.i2l, 1) := by decide +kernel
theorem dX1_verdictOnPulse_14 : decode cX1_verdictOnPulse 14 = .ok (.lconst 1, 1) := by decide +kernel
theorem dX1_verdictOnPulse_15 : decode cX1_verdictOnPulse 15 = .ok (.ldc2_w 79, 3) := by decide +kernel
theorem dX1_verdictOnPulse_18 : decode cX1_verdictOnPulse 18 = .ok (.invokestatic 54, 3) := by decide +kernel
theorem dX1_verdictOnPulse_21 : decode cX1_verdictOnPulse 21 = .ok (.ifCond .ne 7, 3) := by decide +kernel
theorem dX1_verdictOnPulse_24 : decode cX1_verdictOnPulse 24 = .ok (.getstatic 71, 3) := by decide +kernel
theorem dX1_verdictOnPulse_27 : decode cX1_verdictOnPulse 27 = .ok (.areturn, 1) := by decide +kernel
theorem dX1_verdictOnPulse_28 : decode cX1_verdictOnPulse 28 = .ok (.aload_n 0, 1) := by decide +kernel
theorem dX1_verdictOnPulse_29 : decode cX1_verdictOnPulse 29 = .ok (.getfield 31, 3) := by decide +kernel
theorem dX1_verdictOnPulse_32 : decode cX1_verdictOnPulse 32 = .ok (.iconst 4, 1) := by decide +kernel
theorem dX1_verdictOnPulse_33 : decode cX1_verdictOnPulse 33 = .ok (.if_icmp .ge 9, 3) := by decide +kernel
theorem dX1_verdictOnPulse_36 : decode cX1_verdictOnPulse 36 = .ok (.getstatic 58, 3) := by decide +kernel
theorem dX1_verdictOnPulse_39 : decode cX1_verdictOnPulse 39 = .ok (.goto 6, 3) := by decide +kernel
theorem dX1_verdictOnPulse_42 : decode cX1_verdictOnPulse 42 = .ok (.getstatic 74, 3) := by decide +kernel
theorem dX1_verdictOnPulse_45 : decode cX1_verdictOnPulse 45 = .ok (.areturn, 1) := by decide +kernel
theorem dX1_append_0 : decode cX1_append 0 = .ok (.aload_n 0, 1) := by decide +kernel
theorem dX1_append_1 : decode cX1_append 1 = .ok (.getfield 9, 3) := by decide +kernel
theorem dX1_append_4 : decode cX1_append 4 = .ok (.bipush 8, 2) := by decide +kernel
theorem dX1_append_6 : decode cX1_append 6 = .ok (.if_icmp .ge 33, 3) := by decide +kernel
theorem dX1_append_9 : decode cX1_append 9 = .ok (.aload_n 0, 1) := by decide +kernel
theorem dX1_append_10 : decode cX1_append 10 = .ok (.getfield 15, 3) := by decide +kernel
theorem dX1_append_13 : decode cX1_append 13 = .ok (.aload_n 0, 1) := by decide +kernel
theorem dX1_append_14 : decode cX1_append 14 = .ok (.getfield 9, 3) := by decide +kernel
theorem dX1_append_17 : decode cX1_append 17 = .ok (.iload_n 1, 1) := by decide +kernel
theorem dX1_append_18 : decode cX1_append 18 = .ok (.iastore, 1) := by decide +kernel
theorem dX1_append_19 : decode cX1_append 19 = .ok (.aload_n 0, 1) := by decide +kernel
theorem dX1_append_20 : decode cX1_append 20 = .ok (.getfield 19, 3) := by decide +kernel
theorem dX1_append_23 : decode cX1_append 23 = .ok (.aload_n 0, 1) := by decide +kernel
theorem dX1_append_24 : decode cX1_append 24 = .ok (.getfield 9, 3) := by decide +kernel
theorem dX1_append_27 : decode cX1_append 27 = .ok (.iload_n 2, 1) := by decide +kernel
theorem dX1_append_28 : decode cX1_append 28 = .ok (.iastore, 1) := by decide +kernel
theorem dX1_append_29 : decode cX1_append 29 = .ok (.aload_n 0, 1) := by decide +kernel
theorem dX1_append_30 : decode cX1_append 30 = .ok (.dup, 1) := by decide +kernel
theorem dX1_append_31 : decode cX1_append 31 = .ok (.getfield 9, 3) := by decide +kernel
theorem dX1_append_34 : decode cX1_append 34 = .ok (.iconst 1, 1) := by decide +kernel
theorem dX1_append_35 : decode cX1_append 35 = .ok (.iadd, 1) := by decide +kernel
theorem dX1_append_36 : decode cX1_append 36 = .ok (.putfield 9, 3) := by decide +kernel
theorem dX1_append_39 : decode cX1_append 39 = .ok (.aload_n 0, 1) := by decide +kernel
theorem dX1_append_40 : decode cX1_append 40 = .ok (.getfield 9, 3) := by decide +kernel
theorem dX1_append_43 : decode cX1_append 43 = .ok (.ireturn, 1) := by decide +kernel
theorem dX1_replace_0 : decode cX1_replace 0 = .ok (.aload_n 0, 1) := by decide +kernel
theorem dX1_replace_1 : decode cX1_replace 1 = .ok (.getfield 19, 3) := by decide +kernel
theorem dX1_replace_4 : decode cX1_replace 4 = .ok (.iload_n 1, 1) := by decide +kernel
theorem dX1_replace_5 : decode cX1_replace 5 = .ok (.iaload, 1) := by decide +kernel
theorem dX1_replace_6 : decode cX1_replace 6 = .ok (.istore 4, 2) := by decide +kernel
theorem dX1_replace_8 : decode cX1_replace 8 = .ok (.aload_n 0, 1) := by decide +kernel
theorem dX1_replace_9 : decode cX1_replace 9 = .ok (.getfield 15, 3) := by decide +kernel
theorem dX1_replace_12 : decode cX1_replace 12 = .ok (.iload_n 1, 1) := by decide +kernel
theorem dX1_replace_13 : decode cX1_replace 13 = .ok (.iload_n 2, 1) := by decide +kernel
theorem dX1_replace_14 : decode cX1_replace 14 = .ok (.iastore, 1) := by decide +kernel
theorem dX1_replace_15 : decode cX1_replace 15 = .ok (.aload_n 0, 1) := by decide +kernel
theorem dX1_replace_16 : decode cX1_replace 16 = .ok (.getfield 19, 3) := by decide +kernel
theorem dX1_replace_19 : decode cX1_replace 19 = .ok (.iload_n 1, 1) := by decide +kernel
theorem dX1_replace_20 : decode cX1_replace 20 = .ok (.iload_n 3, 1) := by decide +kernel
theorem dX1_replace_21 : decode cX1_replace 21 = .ok (.iastore, 1) := by decide +kernel
theorem dX1_replace_22 : decode cX1_replace 22 = .ok (.iload 4, 2) := by decide +kernel
theorem dX1_replace_24 : decode cX1_replace 24 = .ok (.ireturn, 1) := by decide +kernel
theorem dX1_cut_0 : decode cX1_cut 0 = .ok (.iload_n 1, 1) := by decide +kernel
theorem dX1_cut_1 : decode cX1_cut 1 = .ok (.istore_n 2, 1) := by decide +kernel
theorem dX1_cut_2 : decode cX1_cut 2 = .ok (.iload_n 2, 1) := by decide +kernel
theorem dX1_cut_3 : decode cX1_cut 3 = .ok (.aload_n 0, 1) := by decide +kernel
theorem dX1_cut_4 : decode cX1_cut 4 = .ok (.getfield 9, 3) := by decide +kernel
theorem dX1_cut_7 : decode cX1_cut 7 = .ok (.iconst 1, 1) := by decide +kernel
theorem dX1_cut_8 : decode cX1_cut 8 = .ok (.isub, 1) := by decide +kernel
theorem dX1_cut_9 : decode cX1_cut 9 = .ok (.if_icmp .ge 37, 3) := by decide +kernel
theorem dX1_cut_12 : decode cX1_cut 12 = .ok (.aload_n 0, 1) := by decide +kernel
theorem dX1_cut_13 : decode cX1_cut 13 = .ok (.getfield 15, 3) := by decide +kernel
theorem dX1_cut_16 : decode cX1_cut 16 = .ok (.iload_n 2, 1) := by decide +kernel
theorem dX1_cut_17 : decode cX1_cut 17 = .ok (.aload_n 0, 1) := by decide +kernel
theorem dX1_cut_18 : decode cX1_cut 18 = .ok (.getfield 15, 3) := by decide +kernel
theorem dX1_cut_21 : decode cX1_cut 21 = .ok (.iload_n 2, 1) := by decide +kernel
theorem dX1_cut_22 : decode cX1_cut 22 = .ok (.iconst 1, 1) := by decide +kernel
theorem dX1_cut_23 : decode cX1_cut 23 = .ok (.iadd, 1) := by decide +kernel
theorem dX1_cut_24 : decode cX1_cut 24 = .ok (.iaload, 1) := by decide +kernel
theorem dX1_cut_25 : decode cX1_cut 25 = .ok (.iastore, 1) := by decide +kernel
theorem dX1_cut_26 : decode cX1_cut 26 = .ok (.aload_n 0, 1) := by decide +kernel
theorem dX1_cut_27 : decode cX1_cut 27 = .ok (.getfield 19, 3) := by decide +kernel
theorem dX1_cut_30 : decode cX1_cut 30 = .ok (.iload_n 2, 1) := by decide +kernel
theorem dX1_cut_31 : decode cX1_cut 31 = .ok (.aload_n 0, 1) := by decide +kernel
theorem dX1_cut_32 : decode cX1_cut 32 = .ok (.getfield 19, 3) := by decide +kernel
theorem dX1_cut_35 : decode cX1_cut 35 = .ok (.iload_n 2, 1) := by decide +kernel
theorem dX1_cut_36 : decode cX1_cut 36 = .ok (.iconst 1, 1) := by decide +kernel
theorem dX1_cut_37 : decode cX1_cut 37 = .ok (.iadd, 1) := by decide +kernel
theorem dX1_cut_38 : decode cX1_cut 38 = .ok (.iaload, 1) := by decide +kernel
theorem dX1_cut_39 : decode cX1_cut 39 = .ok (.iastore, 1) := by decide +kernel
theorem dX1_cut_40 : decode cX1_cut 40 = .ok (.iinc 2 1, 3) := by decide +kernel
theorem dX1_cut_43 : decode cX1_cut 43 = .ok (.goto (-41), 3) := by decide +kernel
theorem dX1_cut_46 : decode cX1_cut 46 = .ok (.aload_n 0, 1) := by decide +kernel
theorem dX1_cut_47 : decode cX1_cut 47 = .ok (.dup, 1) := by decide +kernel
theorem dX1_cut_48 : decode cX1_cut 48 = .ok (.getfield 9, 3) := by decide +kernel
theorem dX1_cut_51 : decode cX1_cut 51 = .ok (.iconst 1, 1) := by decide +kernel
theorem dX1_cut_52 : decode cX1_cut 52 = .ok (.isub, 1) := by decide +kernel
theorem dX1_cut_53 : decode cX1_cut 53 = .ok (.putfield 9, 3) := by decide +kernel
theorem dX1_cut_56 : decode cX1_cut 56 = .ok (.aload_n 0, 1) := by decide +kernel
theorem dX1_cut_57 : decode cX1_cut 57 = .ok (.getfield 9, 3) := by decide +kernel
theorem dX1_cut_60 : decode cX1_cut 60 = .ok (.ireturn, 1) := by decide +kernel
theorem dX1_divide_0 : decode cX1_divide 0 = .ok (.aload_n 0, 1) := by decide +kernel
theorem dX1_divide_1 : decode cX1_divide 1 = .ok (.getfield 9, 3) := by decide +kernel
theorem dX1_divide_4 : decode cX1_divide 4 = .ok (.bipush 8, 2) := by decide +kernel
theorem dX1_divide_6 : decode cX1_divide 6 = .ok (.if_icmp .ge 89, 3) := by decide +kernel
theorem dX1_divide_9 : decode cX1_divide 9 = .ok (.aload_n 0, 1) := by decide +kernel
theorem dX1_divide_10 : decode cX1_divide 10 = .ok (.getfield 9, 3) := by decide +kernel
theorem dX1_divide_13 : decode cX1_divide 13 = .ok (.istore 4, 2) := by decide +kernel
theorem dX1_divide_15 : decode cX1_divide 15 = .ok (.iload 4, 2) := by decide +kernel
theorem dX1_divide_17 : decode cX1_divide 17 = .ok (.iload_n 1, 1) := by decide +kernel
theorem dX1_divide_18 : decode cX1_divide 18 = .ok (.if_icmp .le 41, 3) := by decide +kernel
theorem dX1_divide_21 : decode cX1_divide 21 = .ok (.aload_n 0, 1) := by decide +kernel
theorem dX1_divide_22 : decode cX1_divide 22 = .ok (.getfield 15, 3) := by decide +kernel
theorem dX1_divide_25 : decode cX1_divide 25 = .ok (.iload 4, 2) := by decide +kernel
theorem dX1_divide_27 : decode cX1_divide 27 = .ok (.aload_n 0, 1) := by decide +kernel
theorem dX1_divide_28 : decode cX1_divide 28 = .ok (.getfield 15, 3) := by decide +kernel
theorem dX1_divide_31 : decode cX1_divide 31 = .ok (.iload 4, 2) := by decide +kernel
theorem dX1_divide_33 : decode cX1_divide 33 = .ok (.iconst 1, 1) := by decide +kernel
theorem dX1_divide_34 : decode cX1_divide 34 = .ok (.isub, 1) := by decide +kernel
theorem dX1_divide_35 : decode cX1_divide 35 = .ok (.iaload, 1) := by decide +kernel
theorem dX1_divide_36 : decode cX1_divide 36 = .ok (.iastore, 1) := by decide +kernel
theorem dX1_divide_37 : decode cX1_divide 37 = .ok (.aload_n 0, 1) := by decide +kernel
theorem dX1_divide_38 : decode cX1_divide 38 = .ok (.getfield 19, 3) := by decide +kernel
theorem dX1_divide_41 : decode cX1_divide 41 = .ok (.iload 4, 2) := by decide +kernel
theorem dX1_divide_43 : decode cX1_divide 43 = .ok (.aload_n 0, 1) := by decide +kernel
theorem dX1_divide_44 : decode cX1_divide 44 = .ok (.getfield 19, 3) := by decide +kernel
theorem dX1_divide_47 : decode cX1_divide 47 = .ok (.iload 4, 2) := by decide +kernel
theorem dX1_divide_49 : decode cX1_divide 49 = .ok (.iconst 1, 1) := by decide +kernel
theorem dX1_divide_50 : decode cX1_divide 50 = .ok (.isub, 1) := by decide +kernel
theorem dX1_divide_51 : decode cX1_divide 51 = .ok (.iaload, 1) := by decide +kernel
theorem dX1_divide_52 : decode cX1_divide 52 = .ok (.iastore, 1) := by decide +kernel
theorem dX1_divide_53 : decode cX1_divide 53 = .ok (.iinc 4 (-1), 3) := by decide +kernel
theorem dX1_divide_56 : decode cX1_divide 56 = .ok (.goto (-41), 3) := by decide +kernel
theorem dX1_divide_59 : decode cX1_divide 59 = .ok (.aload_n 0, 1) := by decide +kernel
theorem dX1_divide_60 : decode cX1_divide 60 = .ok (.dup, 1) := by decide +kernel
theorem dX1_divide_61 : decode cX1_divide 61 = .ok (.getfield 9, 3) := by decide +kernel
theorem dX1_divide_64 : decode cX1_divide 64 = .ok (.iconst 1, 1) := by decide +kernel
theorem dX1_divide_65 : decode cX1_divide 65 = .ok (.iadd, 1) := by decide +kernel
theorem dX1_divide_66 : decode cX1_divide 66 = .ok (.putfield 9, 3) := by decide +kernel
theorem dX1_divide_69 : decode cX1_divide 69 = .ok (.aload_n 0, 1) := by decide +kernel
theorem dX1_divide_70 : decode cX1_divide 70 = .ok (.getfield 15, 3) := by decide +kernel
theorem dX1_divide_73 : decode cX1_divide 73 = .ok (.iload_n 1, 1) := by decide +kernel
theorem dX1_divide_74 : decode cX1_divide 74 = .ok (.iload_n 2, 1) := by decide +kernel
theorem dX1_divide_75 : decode cX1_divide 75 = .ok (.iastore, 1) := by decide +kernel
theorem dX1_divide_76 : decode cX1_divide 76 = .ok (.aload_n 0, 1) := by decide +kernel
theorem dX1_divide_77 : decode cX1_divide 77 = .ok (.getfield 19, 3) := by decide +kernel
theorem dX1_divide_80 : decode cX1_divide 80 = .ok (.iload_n 1, 1) := by decide +kernel
theorem dX1_divide_81 : decode cX1_divide 81 = .ok (.iload_n 3, 1) := by decide +kernel
theorem dX1_divide_82 : decode cX1_divide 82 = .ok (.iastore, 1) := by decide +kernel
theorem dX1_divide_83 : decode cX1_divide 83 = .ok (.aload_n 0, 1) := by decide +kernel
theorem dX1_divide_84 : decode cX1_divide 84 = .ok (.getfield 15, 3) := by decide +kernel
theorem dX1_divide_87 : decode cX1_divide 87 = .ok (.iload_n 1, 1) := by decide +kernel
theorem dX1_divide_88 : decode cX1_divide 88 = .ok (.iconst 1, 1) := by decide +kernel
theorem dX1_divide_89 : decode cX1_divide 89 = .ok (.iadd, 1) := by decide +kernel
theorem dX1_divide_90 : decode cX1_divide 90 = .ok (.dup2, 1) := by decide +kernel
theorem dX1_divide_91 : decode cX1_divide 91 = .ok (.iaload, 1) := by decide +kernel
theorem dX1_divide_92 : decode cX1_divide 92 = .ok (.iload_n 2, 1) := by decide +kernel
theorem dX1_divide_93 : decode cX1_divide 93 = .ok (.isub, 1) := by decide +kernel
theorem dX1_divide_94 : decode cX1_divide 94 = .ok (.iastore, 1) := by decide +kernel
theorem dX1_divide_95 : decode cX1_divide 95 = .ok (.aload_n 0, 1) := by decide +kernel
theorem dX1_divide_96 : decode cX1_divide 96 = .ok (.getfield 9, 3) := by decide +kernel
theorem dX1_divide_99 : decode cX1_divide 99 = .ok (.ireturn, 1) := by decide +kernel
theorem dX1_turnRound_0 : decode cX1_turnRound 0 = .ok (.aload_n 0, 1) := by decide +kernel
theorem dX1_turnRound_1 : decode cX1_turnRound 1 = .ok (.getfield 15, 3) := by decide +kernel
theorem dX1_turnRound_4 : decode cX1_turnRound 4 = .ok (.aload_n 0, 1) := by decide +kernel
theorem dX1_turnRound_5 : decode cX1_turnRound 5 = .ok (.getfield 9, 3) := by decide +kernel
theorem dX1_turnRound_8 : decode cX1_turnRound 8 = .ok (.invokestatic 81, 3) := by decide +kernel
theorem dX1_turnRound_11 : decode cX1_turnRound 11 = .ok (.aload_n 0, 1) := by decide +kernel
theorem dX1_turnRound_12 : decode cX1_turnRound 12 = .ok (.getfield 19, 3) := by decide +kernel
theorem dX1_turnRound_15 : decode cX1_turnRound 15 = .ok (.aload_n 0, 1) := by decide +kernel
theorem dX1_turnRound_16 : decode cX1_turnRound 16 = .ok (.getfield 9, 3) := by decide +kernel
theorem dX1_turnRound_19 : decode cX1_turnRound 19 = .ok (.iconst 1, 1) := by decide +kernel
theorem dX1_turnRound_20 : decode cX1_turnRound 20 = .ok (.isub, 1) := by decide +kernel
theorem dX1_turnRound_21 : decode cX1_turnRound 21 = .ok (.invokestatic 81, 3) := by decide +kernel
theorem dX1_turnRound_24 : decode cX1_turnRound 24 = .ok (.return_, 1) := by decide +kernel
theorem dX1_swapEnds_0 : decode cX1_swapEnds 0 = .ok (.iconst 0, 1) := by decide +kernel
theorem dX1_swapEnds_1 : decode cX1_swapEnds 1 = .ok (.istore_n 2, 1) := by decide +kernel
theorem dX1_swapEnds_2 : decode cX1_swapEnds 2 = .ok (.iload_n 1, 1) := by decide +kernel
theorem dX1_swapEnds_3 : decode cX1_swapEnds 3 = .ok (.iconst 1, 1) := by decide +kernel
theorem dX1_swapEnds_4 : decode cX1_swapEnds 4 = .ok (.isub, 1) := by decide +kernel
theorem dX1_swapEnds_5 : decode cX1_swapEnds 5 = .ok (.istore_n 3, 1) := by decide +kernel
theorem dX1_swapEnds_6 : decode cX1_swapEnds 6 = .ok (.iload_n 2, 1) := by decide +kernel
theorem dX1_swapEnds_7 : decode cX1_swapEnds 7 = .ok (.iload_n 3, 1) := by decide +kernel
theorem dX1_swapEnds_8 : decode cX1_swapEnds 8 = .ok (.if_icmp .ge 28, 3) := by decide +kernel
theorem dX1_swapEnds_11 : decode cX1_swapEnds 11 = .ok (.aload_n 0, 1) := by decide +kernel
theorem dX1_swapEnds_12 : decode cX1_swapEnds 12 = .ok (.iload_n 2, 1) := by decide +kernel
theorem dX1_swapEnds_13 : decode cX1_swapEnds 13 = .ok (.iaload, 1) := by decide +kernel
theorem dX1_swapEnds_14 : decode cX1_swapEnds 14 = .ok (.istore 4, 2) := by decide +kernel
theorem dX1_swapEnds_16 : decode cX1_swapEnds 16 = .ok (.aload_n 0, 1) := by decide +kernel
theorem dX1_swapEnds_17 : decode cX1_swapEnds 17 = .ok (.iload_n 2, 1) := by decide +kernel
theorem dX1_swapEnds_18 : decode cX1_swapEnds 18 = .ok (.aload_n 0, 1) := by decide +kernel
theorem dX1_swapEnds_19 : decode cX1_swapEnds 19 = .ok (.iload_n 3, 1) := by decide +kernel
theorem dX1_swapEnds_20 : decode cX1_swapEnds 20 = .ok (.iaload, 1) := by decide +kernel
theorem dX1_swapEnds_21 : decode cX1_swapEnds 21 = .ok (.iastore, 1) := by decide +kernel
theorem dX1_swapEnds_22 : decode cX1_swapEnds 22 = .ok (.aload_n 0, 1) := by decide +kernel
theorem dX1_swapEnds_23 : decode cX1_swapEnds 23 = .ok (.iload_n 3, 1) := by decide +kernel
theorem dX1_swapEnds_24 : decode cX1_swapEnds 24 = .ok (.iload 4, 2) := by decide +kernel
theorem dX1_swapEnds_26 : decode cX1_swapEnds 26 = .ok (.iastore, 1) := by decide +kernel
theorem dX1_swapEnds_27 : decode cX1_swapEnds 27 = .ok (.iinc 2 1, 3) := by decide +kernel
theorem dX1_swapEnds_30 : decode cX1_swapEnds 30 = .ok (.iinc 3 (-1), 3) := by decide +kernel
theorem dX1_swapEnds_33 : decode cX1_swapEnds 33 = .ok (.goto (-27), 3) := by decide +kernel
theorem dX1_swapEnds_36 : decode cX1_swapEnds 36 = .ok (.return_, 1) := by decide +kernel
theorem dX1_appendPulse_0 : decode cX1_appendPulse 0 = .ok (.aload_n 0, 1) := by decide +kernel
theorem dX1_appendPulse_1 : decode cX1_appendPulse 1 = .ok (.getfield 31, 3) := by decide +kernel
theorem dX1_appendPulse_4 : decode cX1_appendPulse 4 = .ok (.iconst 4, 1) := by decide +kernel
theorem dX1_appendPulse_5 : decode cX1_appendPulse 5 = .ok (.if_icmp .ge 33, 3) := by decide +kernel
theorem dX1_appendPulse_8 : decode cX1_appendPulse 8 = .ok (.aload_n 0, 1) := by decide +kernel
theorem dX1_appendPulse_9 : decode cX1_appendPulse 9 = .ok (.getfield 34, 3) := by decide +kernel
theorem dX1_appendPulse_12 : decode cX1_appendPulse 12 = .ok (.aload_n 0, 1) := by decide +kernel
theorem dX1_appendPulse_13 : decode cX1_appendPulse 13 = .ok (.getfield 31, 3) := by decide +kernel
theorem dX1_appendPulse_16 : decode cX1_appendPulse 16 = .ok (.iload_n 1, 1) := by decide +kernel
theorem dX1_appendPulse_17 : decode cX1_appendPulse 17 = .ok (.iastore, 1) := by decide +kernel
theorem dX1_appendPulse_18 : decode cX1_appendPulse 18 = .ok (.aload_n 0, 1) := by decide +kernel
theorem dX1_appendPulse_19 : decode cX1_appendPulse 19 = .ok (.getfield 37, 3) := by decide +kernel
theorem dX1_appendPulse_22 : decode cX1_appendPulse 22 = .ok (.aload_n 0, 1) := by decide +kernel
theorem dX1_appendPulse_23 : decode cX1_appendPulse 23 = .ok (.getfield 31, 3) := by decide +kernel
theorem dX1_appendPulse_26 : decode cX1_appendPulse 26 = .ok (.iload_n 2, 1) := by decide +kernel
theorem dX1_appendPulse_27 : decode cX1_appendPulse 27 = .ok (.iastore, 1) := by decide +kernel
theorem dX1_appendPulse_28 : decode cX1_appendPulse 28 = .ok (.aload_n 0, 1) := by decide +kernel
theorem dX1_appendPulse_29 : decode cX1_appendPulse 29 = .ok (.dup, 1) := by decide +kernel
theorem dX1_appendPulse_30 : decode cX1_appendPulse 30 = .ok (.getfield 31, 3) := by decide +kernel
theorem dX1_appendPulse_33 : decode cX1_appendPulse 33 = .ok (.iconst 1, 1) := by decide +kernel
theorem dX1_appendPulse_34 : decode cX1_appendPulse 34 = .ok (.iadd, 1) := by decide +kernel
theorem dX1_appendPulse_35 : decode cX1_appendPulse 35 = .ok (.putfield 31, 3) := by decide +kernel
theorem dX1_appendPulse_38 : decode cX1_appendPulse 38 = .ok (.aload_n 0, 1) := by decide +kernel
theorem dX1_appendPulse_39 : decode cX1_appendPulse 39 = .ok (.getfield 31, 3) := by decide +kernel
theorem dX1_appendPulse_42 : decode cX1_appendPulse 42 = .ok (.ireturn, 1) := by decide +kernel
theorem dX1_cutPulse_0 : decode cX1_cutPulse 0 = .ok (.iload_n 1, 1) := by decide +kernel
theorem dX1_cutPulse_1 : decode cX1_cutPulse 1 = .ok (.istore_n 2, 1) := by decide +kernel
theorem dX1_cutPulse_2 : decode cX1_cutPulse 2 = .ok (.iload_n 2, 1) := by decide +kernel
theorem dX1_cutPulse_3 : decode cX1_cutPulse 3 = .ok (.aload_n 0, 1) := by decide +kernel
theorem dX1_cutPulse_4 : decode cX1_cutPulse 4 = .ok (.getfield 31, 3) := by decide +kernel
theorem dX1_cutPulse_7 : decode cX1_cutPulse 7 = .ok (.iconst 1, 1) := by decide +kernel
theorem dX1_cutPulse_8 : decode cX1_cutPulse 8 = .ok (.isub, 1) := by decide +kernel
theorem dX1_cutPulse_9 : decode cX1_cutPulse 9 = .ok (.if_icmp .ge 37, 3) := by decide +kernel
theorem dX1_cutPulse_12 : decode cX1_cutPulse 12 = .ok (.aload_n 0, 1) := by decide +kernel
theorem dX1_cutPulse_13 : decode cX1_cutPulse 13 = .ok (.getfield 34, 3) := by decide +kernel
theorem dX1_cutPulse_16 : decode cX1_cutPulse 16 = .ok (.iload_n 2, 1) := by decide +kernel
theorem dX1_cutPulse_17 : decode cX1_cutPulse 17 = .ok (.aload_n 0, 1) := by decide +kernel
theorem dX1_cutPulse_18 : decode cX1_cutPulse 18 = .ok (.getfield 34, 3) := by decide +kernel
theorem dX1_cutPulse_21 : decode cX1_cutPulse 21 = .ok (.iload_n 2, 1) := by decide +kernel
theorem dX1_cutPulse_22 : decode cX1_cutPulse 22 = .ok (.iconst 1, 1) := by decide +kernel
theorem dX1_cutPulse_23 : decode cX1_cutPulse 23 = .ok (.iadd, 1) := by decide +kernel
theorem dX1_cutPulse_24 : decode cX1_cutPulse 24 = .ok (.iaload, 1) := by decide +kernel
theorem dX1_cutPulse_25 : decode cX1_cutPulse 25 = .ok (.iastore, 1) := by decide +kernel
theorem dX1_cutPulse_26 : decode cX1_cutPulse 26 = .ok (.aload_n 0, 1) := by decide +kernel
theorem dX1_cutPulse_27 : decode cX1_cutPulse 27 = .ok (.getfield 37, 3) := by decide +kernel
theorem dX1_cutPulse_30 : decode cX1_cutPulse 30 = .ok (.iload_n 2, 1) := by decide +kernel
theorem dX1_cutPulse_31 : decode cX1_cutPulse 31 = .ok (.aload_n 0, 1) := by decide +kernel
theorem dX1_cutPulse_32 : decode cX1_cutPulse 32 = .ok (.getfield 37, 3) := by decide +kernel
theorem dX1_cutPulse_35 : decode cX1_cutPulse 35 = .ok (.iload_n 2, 1) := by decide +kernel
theorem dX1_cutPulse_36 : decode cX1_cutPulse 36 = .ok (.iconst 1, 1) := by decide +kernel
theorem dX1_cutPulse_37 : decode cX1_cutPulse 37 = .ok (.iadd, 1) := by decide +kernel
theorem dX1_cutPulse_38 : decode cX1_cutPulse 38 = .ok (.iaload, 1) := by decide +kernel
theorem dX1_cutPulse_39 : decode cX1_cutPulse 39 = .ok (.iastore, 1) := by decide +kernel
theorem dX1_cutPulse_40 : decode cX1_cutPulse 40 = .ok (.iinc 2 1, 3) := by decide +kernel
theorem dX1_cutPulse_43 : decode cX1_cutPulse 43 = .ok (.goto (-41), 3) := by decide +kernel
theorem dX1_cutPulse_46 : decode cX1_cutPulse 46 = .ok (.aload_n 0, 1) := by decide +kernel
theorem dX1_cutPulse_47 : decode cX1_cutPulse 47 = .ok (.dup, 1) := by decide +kernel
theorem dX1_cutPulse_48 : decode cX1_cutPulse 48 = .ok (.getfield 31, 3) := by decide +kernel
theorem dX1_cutPulse_51 : decode cX1_cutPulse 51 = .ok (.iconst 1, 1) := by decide +kernel
theorem dX1_cutPulse_52 : decode cX1_cutPulse 52 = .ok (.isub, 1) := by decide +kernel
theorem dX1_cutPulse_53 : decode cX1_cutPulse 53 = .ok (.putfield 31, 3) := by decide +kernel
theorem dX1_cutPulse_56 : decode cX1_cutPulse 56 = .ok (.aload_n 0, 1) := by decide +kernel
theorem dX1_cutPulse_57 : decode cX1_cutPulse 57 = .ok (.getfield 31, 3) := by decide +kernel
theorem dX1_cutPulse_60 : decode cX1_cutPulse 60 = .ok (.ireturn, 1) := by decide +kernel
theorem dX1_earliestPulse_0 : decode cX1_earliestPulse 0 = .ok (.bipush 100, 2) := by decide +kernel
theorem dX1_earliestPulse_2 : decode cX1_earliestPulse 2 = .ok (.istore_n 1, 1) := by decide +kernel
theorem dX1_earliestPulse_3 : decode cX1_earliestPulse 3 = .ok (.iconst 0, 1) := by decide +kernel
theorem dX1_earliestPulse_4 : decode cX1_earliestPulse 4 = .ok (.istore_n 2, 1) := by decide +kernel
theorem dX1_earliestPulse_5 : decode cX1_earliestPulse 5 = .ok (.iload_n 2, 1) := by decide +kernel
theorem dX1_earliestPulse_6 : decode cX1_earliestPulse 6 = .ok (.aload_n 0, 1) := by decide +kernel
theorem dX1_earliestPulse_7 : decode cX1_earliestPulse 7 = .ok (.getfield 31, 3) := by decide +kernel
theorem dX1_earliestPulse_10 : decode cX1_earliestPulse 10 = .ok (.if_icmp .ge 20, 3) := by decide +kernel
theorem dX1_earliestPulse_13 : decode cX1_earliestPulse 13 = .ok (.iload_n 1, 1) := by decide +kernel
theorem dX1_earliestPulse_14 : decode cX1_earliestPulse 14 = .ok (.aload_n 0, 1) := by decide +kernel
theorem dX1_earliestPulse_15 : decode cX1_earliestPulse 15 = .ok (.getfield 34, 3) := by decide +kernel
theorem dX1_earliestPulse_18 : decode cX1_earliestPulse 18 = .ok (.iload_n 2, 1) := by decide +kernel
theorem dX1_earliestPulse_19 : decode cX1_earliestPulse 19 = .ok (.iaload, 1) := by decide +kernel
theorem dX1_earliestPulse_20 : decode cX1_earliestPulse 20 = .ok (.invokestatic 85, 3) := by decide +kernel
theorem dX1_earliestPulse_23 : decode cX1_earliestPulse 23 = .ok (.istore_n 1, 1) := by decide +kernel
theorem dX1_earliestPulse_24 : decode cX1_earliestPulse 24 = .ok (.iinc 2 1, 3) := by decide +kernel
theorem dX1_earliestPulse_27 : decode cX1_earliestPulse 27 = .ok (.goto (-22), 3) := by decide +kernel
theorem dX1_earliestPulse_30 : decode cX1_earliestPulse 30 = .ok (.iload_n 1, 1) := by decide +kernel
theorem dX1_earliestPulse_31 : decode cX1_earliestPulse 31 = .ok (.ireturn, 1) := by decide +kernel
theorem dX1_reach_0 : decode cX1_reach 0 = .ok (.iconst 0, 1) := by decide +kernel
theorem dX1_reach_1 : decode cX1_reach 1 = .ok (.istore_n 2, 1) := by decide +kernel
theorem dX1_reach_2 : decode cX1_reach 2 = .ok (.iconst 0, 1) := by decide +kernel
theorem dX1_reach_3 : decode cX1_reach 3 = .ok (.istore_n 3, 1) := by decide +kernel
theorem dX1_reach_4 : decode cX1_reach 4 = .ok (.iload_n 3, 1) := by decide +kernel
theorem dX1_reach_5 : decode cX1_reach 5 = .ok (.iload_n 1, 1) := by decide +kernel
theorem dX1_reach_6 : decode cX1_reach 6 = .ok (.if_icmp .ge 24, 3) := by decide +kernel
theorem dX1_reach_9 : decode cX1_reach 9 = .ok (.iload_n 3, 1) := by decide +kernel
theorem dX1_reach_10 : decode cX1_reach 10 = .ok (.bipush 8, 2) := by decide +kernel
theorem dX1_reach_12 : decode cX1_reach 12 = .ok (.if_icmp .ge 18, 3) := by decide +kernel
theorem dX1_reach_15 : decode cX1_reach 15 = .ok (.iload_n 2, 1) := by decide +kernel
theorem dX1_reach_16 : decode cX1_reach 16 = .ok (.aload_n 0, 1) := by decide +kernel
theorem dX1_reach_17 : decode cX1_reach 17 = .ok (.getfield 15, 3) := by decide +kernel
theorem dX1_reach_20 : decode cX1_reach 20 = .ok (.iload_n 3, 1) := by decide +kernel
theorem dX1_reach_21 : decode cX1_reach 21 = .ok (.iaload, 1) := by decide +kernel
theorem dX1_reach_22 : decode cX1_reach 22 = .ok (.iadd, 1) := by decide +kernel
theorem dX1_reach_23 : decode cX1_reach 23 = .ok (.istore_n 2, 1) := by decide +kernel
theorem dX1_reach_24 : decode cX1_reach 24 = .ok (.iinc 3 1, 3) := by decide +kernel
theorem dX1_reach_27 : decode cX1_reach 27 = .ok (.goto (-23), 3) := by decide +kernel
theorem dX1_reach_30 : decode cX1_reach 30 = .ok (.iload_n 2, 1) := by decide +kernel
theorem dX1_reach_31 : decode cX1_reach 31 = .ok (.ireturn, 1) := by decide +kernel
theorem dX1_partAtWayAndBack_0 : decode cX1_partAtWayAndBack 0 = .ok (.iconst 0, 1) := by decide +kernel
theorem dX1_partAtWayAndBack_1 : decode cX1_partAtWayAndBack 1 = .ok (.istore_n 2, 1) := by decide +kernel
theorem dX1_partAtWayAndBack_2 : decode cX1_partAtWayAndBack 2 = .ok (.iconst 0, 1) := by decide +kernel
theorem dX1_partAtWayAndBack_3 : decode cX1_partAtWayAndBack 3 = .ok (.istore_n 3, 1) := by decide +kernel
theorem dX1_partAtWayAndBack_4 : decode cX1_partAtWayAndBack 4 = .ok (.iload_n 3, 1) := by decide +kernel
theorem dX1_partAtWayAndBack_5 : decode cX1_partAtWayAndBack 5 = .ok (.aload_n 0, 1) := by decide +kernel
theorem dX1_partAtWayAndBack_6 : decode cX1_partAtWayAndBack 6 = .ok (.getfield 9, 3) := by decide +kernel
theorem dX1_partAtWayAndBack_9 : decode cX1_partAtWayAndBack 9 = .ok (.if_icmp .ge 37, 3) := by decide +kernel
theorem dX1_partAtWayAndBack_12 : decode cX1_partAtWayAndBack 12 = .ok (.iload_n 2, 1) := by decide +kernel
theorem dX1_partAtWayAndBack_13 : decode cX1_partAtWayAndBack 13 = .ok (.iconst 2, 1) := by decide +kernel
theorem dX1_partAtWayAndBack_14 : decode cX1_partAtWayAndBack 14 = .ok (.aload_n 0, 1) := by decide +kernel
theorem dX1_partAtWayAndBack_15 : decode cX1_partAtWayAndBack 15 = .ok (.getfield 15, 3) := by decide +kernel
theorem dX1_partAtWayAndBack_18 : decode cX1_partAtWayAndBack 18 = .ok (.iload_n 3, 1) := by decide +kernel
theorem dX1_partAtWayAndBack_19 : decode cX1_partAtWayAndBack 19 = .ok (.iaload, 1) := by decide +kernel
theorem dX1_partAtWayAndBack_20 : decode cX1_partAtWayAndBack 20 = .ok (.imul, 1) := by decide +kernel
theorem dX1_partAtWayAndBack_21 : decode cX1_partAtWayAndBack 21 = .ok (.iadd, 1) := by decide +kernel
theorem dX1_partAtWayAndBack_22 : decode cX1_partAtWayAndBack 22 = .ok (.istore 4, 2) := by decide +kernel
theorem dX1_partAtWayAndBack_24 : decode cX1_partAtWayAndBack 24 = .ok (.iload_n 1, 1) := by decide +kernel
theorem dX1_partAtWayAndBack_25 : decode cX1_partAtWayAndBack 25 = .ok (.iload_n 2, 1) := by decide +kernel
theorem dX1_partAtWayAndBack_26 : decode cX1_partAtWayAndBack 26 = .ok (.if_icmp .le 11, 3) := by decide +kernel
theorem dX1_partAtWayAndBack_29 : decode cX1_partAtWayAndBack 29 = .ok (.iload_n 1, 1) := by decide +kernel
theorem dX1_partAtWayAndBack_30 : decode cX1_partAtWayAndBack 30 = .ok (.iload 4, 2) := by decide +kernel
theorem dX1_partAtWayAndBack_32 : decode cX1_partAtWayAndBack 32 = .ok (.if_icmp .gt 5, 3) := by decide +kernel
theorem dX1_partAtWayAndBack_35 : decode cX1_partAtWayAndBack 35 = .ok (.iload_n 3, 1) := by decide +kernel
theorem dX1_partAtWayAndBack_36 : decode cX1_partAtWayAndBack 36 = .ok (.ireturn, 1) := by decide +kernel
theorem dX1_partAtWayAndBack_37 : decode cX1_partAtWayAndBack 37 = .ok (.iload 4, 2) := by decide +kernel
theorem dX1_partAtWayAndBack_39 : decode cX1_partAtWayAndBack 39 = .ok (.istore_n 2, 1) := by decide +kernel
theorem dX1_partAtWayAndBack_40 : decode cX1_partAtWayAndBack 40 = .ok (.iinc 3 1, 3) := by decide +kernel
theorem dX1_partAtWayAndBack_43 : decode cX1_partAtWayAndBack 43 = .ok (.goto (-39), 3) := by decide +kernel
theorem dX1_partAtWayAndBack_46 : decode cX1_partAtWayAndBack 46 = .ok (.iconst (-1), 1) := by decide +kernel
theorem dX1_partAtWayAndBack_47 : decode cX1_partAtWayAndBack 47 = .ok (.ireturn, 1) := by decide +kernel
theorem dX4_init_0 : decode cX4_init 0 = .ok (.aload_n 0, 1) := by decide +kernel
theorem dX4_init_1 : decode cX4_init 1 = .ok (.invokespecial 3, 3) := by decide +kernel
theorem dX4_init_4 : decode cX4_init 4 = .ok (.aload_n 0, 1) := by decide +kernel
theorem dX4_init_5 : decode cX4_init 5 = .ok (.new 9, 3) := by decide +kernel
theorem dX4_init_8 : decode cX4_init 8 = .ok (.dup, 1) := by decide +kernel
theorem dX4_init_9 : decode cX4_init 9 = .ok (.invokespecial 11, 3) := by decide +kernel
theorem dX4_init_12 : decode cX4_init 12 = .ok (.putfield 12, 3) := by decide +kernel
theorem dX4_init_15 : decode cX4_init 15 = .ok (.aload_n 0, 1) := by decide +kernel
theorem dX4_init_16 : decode cX4_init 16 = .ok (.iconst 0, 1) := by decide +kernel
theorem dX4_init_17 : decode cX4_init 17 = .ok (.putfield 18, 3) := by decide +kernel
theorem dX4_init_20 : decode cX4_init 20 = .ok (.aload_n 0, 1) := by decide +kernel
theorem dX4_init_21 : decode cX4_init 21 = .ok (.iconst (-1), 1) := by decide +kernel
theorem dX4_init_22 : decode cX4_init 22 = .ok (.putfield 22, 3) := by decide +kernel
theorem dX4_init_25 : decode cX4_init 25 = .ok (.aload_n 0, 1) := by decide +kernel
theorem dX4_init_26 : decode cX4_init 26 = .ok (.new 25, 3) := by decide +kernel
theorem dX4_init_29 : decode cX4_init 29 = .ok (.dup, 1) := by decide +kernel
theorem dX4_init_30 : decode cX4_init 30 = .ok (.invokespecial 27, 3) := by decide +kernel
theorem dX4_init_33 : decode cX4_init 33 = .ok (.putfield 28, 3) := by decide +kernel
theorem dX4_init_36 : decode cX4_init 36 = .ok (.return_, 1) := by decide +kernel
theorem dX4_findLine_0 : decode cX4_findLine 0 = .ok (.aload_n 0, 1) := by decide +kernel
theorem dX4_findLine_1 : decode cX4_findLine 1 = .ok (.aload_n 1, 1) := by decide +kernel
theorem dX4_findLine_2 : decode cX4_findLine 2 = .ok (.getfield 32, 3) := by decide +kernel
theorem dX4_findLine_5 : decode cX4_findLine 5 = .ok (.invokevirtual 37, 3) := by decide +kernel
theorem dX4_findLine_8 : decode cX4_findLine 8 = .ok (.iconst 0, 1) := by decide +kernel
theorem dX4_findLine_9 : decode cX4_findLine 9 = .ok (.istore_n 2, 1) := by decide +kernel
theorem dX4_findLine_10 : decode cX4_findLine 10 = .ok (.iload_n 2, 1) := by decide +kernel
theorem dX4_findLine_11 : decode cX4_findLine 11 = .ok (.bipush 8, 2) := by decide +kernel
theorem dX4_findLine_13 : decode cX4_findLine 13 = .ok (.if_icmp .gt 95, 3) := by decide +kernel
theorem dX4_findLine_16 : decode cX4_findLine 16 = .ok (.aload_n 0, 1) := by decide +kernel
theorem dX4_findLine_17 : decode cX4_findLine 17 = .ok (.getfield 28, 3) := by decide +kernel
theorem dX4_findLine_20 : decode cX4_findLine 20 = .ok (.aload_n 0, 1) := by decide +kernel
theorem dX4_findLine_21 : decode cX4_findLine 21 = .ok (.getfield 12, 3) := by decide +kernel
theorem dX4_findLine_24 : decode cX4_findLine 24 = .ok (.invokevirtual 41, 3) := by decide +kernel
theorem dX4_findLine_27 : decode cX4_findLine 27 = .ok (.aload_n 0, 1) := by decide +kernel
theorem dX4_findLine_28 : decode cX4_findLine 28 = .ok (.aload_n 1, 1) := by decide +kernel
theorem dX4_findLine_29 : decode cX4_findLine 29 = .ok (.getfield 44, 3) := by decide +kernel
theorem dX4_findLine_32 : decode cX4_findLine 32 = .ok (.invokevirtual 48, 3) := by decide +kernel
theorem dX4_findLine_35 : decode cX4_findLine 35 = .ok (.istore_n 3, 1) := by decide +kernel
theorem dX4_findLine_36 : decode cX4_findLine 36 = .ok (.iload_n 3, 1) := by decide +kernel
theorem dX4_findLine_37 : decode cX4_findLine 37 = .ok (.iconst (-1), 1) := by decide +kernel
theorem dX4_findLine_38 : decode cX4_findLine 38 = .ok (.if_icmp .ne 4, 3) := by decide +kernel
theorem dX4_findLine_41 : decode cX4_findLine 41 = .ok (.return_, 1) := by decide +kernel
theorem dX4_findLine_42 : decode cX4_findLine 42 = .ok (.aload_n 0, 1) := by decide +kernel
theorem dX4_findLine_43 : decode cX4_findLine 43 = .ok (.getfield 12, 3) := by decide +kernel
theorem dX4_findLine_46 : decode cX4_findLine 46 = .ok (.aload_n 0, 1) := by decide +kernel
theorem dX4_findLine_47 : decode cX4_findLine 47 = .ok (.getfield 12, 3) := by decide +kernel
theorem dX4_findLine_50 : decode cX4_findLine 50 = .ok (.getfield 52, 3) := by decide +kernel
theorem dX4_findLine_53 : decode cX4_findLine 53 = .ok (.invokevirtual 55, 3) := by decide +kernel
theorem dX4_findLine_56 : decode cX4_findLine 56 = .ok (.istore 4, 2) := by decide +kernel
theorem dX4_findLine_58 : decode cX4_findLine 58 = .ok (.aload_n 0, 1) := by decide +kernel
theorem dX4_findLine_59 : decode cX4_findLine 59 = .ok (.iload_n 3, 1) := by decide +kernel
theorem dX4_findLine_60 : decode cX4_findLine 60 = .ok (.iload 4, 2) := by decide +kernel
theorem dX4_findLine_62 : decode cX4_findLine 62 = .ok (.aload_n 1, 1) := by decide +kernel
theorem dX4_findLine_63 : decode cX4_findLine 63 = .ok (.getfield 44, 3) := by decide +kernel
theorem dX4_findLine_66 : decode cX4_findLine 66 = .ok (.iload_n 3, 1) := by decide +kernel
theorem dX4_findLine_67 : decode cX4_findLine 67 = .ok (.laload, 1) := by decide +kernel
theorem dX4_findLine_68 : decode cX4_findLine 68 = .ok (.invokevirtual 59, 3) := by decide +kernel
theorem dX4_findLine_71 : decode cX4_findLine 71 = .ok (.istore 5, 2) := by decide +kernel
theorem dX4_findLine_73 : decode cX4_findLine 73 = .ok (.iload 5, 2) := by decide +kernel
theorem dX4_findLine_75 : decode cX4_findLine 75 = .ok (.iconst (-1), 1) := by decide +kernel
theorem dX4_findLine_76 : decode cX4_findLine 76 = .ok (.if_icmp .ne 10, 3) := by decide +kernel
theorem dX4_findLine_79 : decode cX4_findLine 79 = .ok (.aload_n 0, 1) := by decide +kernel
theorem dX4_findLine_80 : decode cX4_findLine 80 = .ok (.iconst 1, 1) := by decide +kernel
theorem dX4_findLine_81 : decode cX4_findLine 81 = .ok (.iload_n 3, 1) := by decide +kernel
theorem dX4_findLine_82 : decode cX4_findLine 82 = .ok (.invokevirtual 63, 3) := by decide +kernel
theorem dX4_findLine_85 : decode cX4_findLine 85 = .ok (.return_, 1) := by decide +kernel
theorem dX4_findLine_86 : decode cX4_findLine 86 = .ok (.aload_n 0, 1) := by decide +kernel
theorem dX4_findLine_87 : decode cX4_findLine 87 = .ok (.getfield 12, 3) := by decide +kernel
theorem dX4_findLine_90 : decode cX4_findLine 90 = .ok (.iload_n 3, 1) := by decide +kernel
theorem dX4_findLine_91 : decode cX4_findLine 91 = .ok (.iconst 2, 1) := by decide +kernel
theorem dX4_findLine_92 : decode cX4_findLine 92 = .ok (.idiv, 1) := by decide +kernel
theorem dX4_findLine_93 : decode cX4_findLine 93 = .ok (.iload 4, 2) := by decide +kernel
theorem dX4_findLine_95 : decode cX4_findLine 95 = .ok (.isub, 1) := by decide +kernel
theorem dX4_findLine_96 : decode cX4_findLine 96 = .ok (.iload 5, 2) := by decide +kernel
theorem dX4_findLine_98 : decode cX4_findLine 98 = .ok (.invokevirtual 67, 3) := by decide +kernel
theorem dX4_findLine_101 : decode cX4_findLine 101 = .ok (.pop, 1) := by decide +kernel
theorem dX4_findLine_102 : decode cX4_findLine 102 = .ok (.iinc 2 1, 3) := by decide +kernel
theorem dX4_findLine_105 : decode cX4_findLine 105 = .ok (.goto (-95), 3) := by decide +kernel
theorem dX4_findLine_108 : decode cX4_findLine 108 = .ok (.return_, 1) := by decide +kernel
theorem dX4_startLine_0 : decode cX4_startLine 0 = .ok (.aload_n 0, 1) := by decide +kernel
theorem dX4_startLine_1 : decode cX4_startLine 1 = .ok (.getfield 12, 3) := by decide +kernel
theorem dX4_startLine_4 : decode cX4_startLine 4 = .ok (.iconst 0, 1) := by decide +kernel
theorem dX4_startLine_5 : decode cX4_startLine 5 = .ok (.putfield 52, 3) := by decide +kernel
theorem dX4_startLine_8 : decode cX4_startLine 8 = .ok (.aload_n 0, 1) := by decide +kernel
theorem dX4_startLine_9 : decode cX4_startLine 9 = .ok (.getfield 12, 3) := by decide +kernel
theorem dX4_startLine_12 : decode cX4_startLine 12 = .ok (.aload_n 1, 1) := by decide +kernel
theorem dX4_startLine_13 : decode cX4_startLine 13 = .ok (.invokevirtual 71, 3) := by decide +kernel
theorem dX4_startLine_16 : decode cX4_startLine 16 = .ok (.aload_n 0, 1) := by decide +kernel
theorem dX4_startLine_17 : decode cX4_startLine 17 = .ok (.getfield 12, 3) := by decide +kernel
theorem dX4_startLine_20 : decode cX4_startLine 20 = .ok (.iconst 1, 1) := by decide +kernel
theorem dX4_startLine_21 : decode cX4_startLine 21 = .ok (.putfield 74, 3) := by decide +kernel
theorem dX4_startLine_24 : decode cX4_startLine 24 = .ok (.aload_n 0, 1) := by decide +kernel
theorem dX4_startLine_25 : decode cX4_startLine 25 = .ok (.getfield 12, 3) := by decide +kernel
theorem dX4_startLine_28 : decode cX4_startLine 28 = .ok (.getfield 77, 3) := by decide +kernel
theorem dX4_startLine_31 : decode cX4_startLine 31 = .ok (.iconst 0, 1) := by decide +kernel
theorem dX4_startLine_32 : decode cX4_startLine 32 = .ok (.iconst 0, 1) := by decide +kernel
theorem dX4_startLine_33 : decode cX4_startLine 33 = .ok (.iastore, 1) := by decide +kernel
theorem dX4_startLine_34 : decode cX4_startLine 34 = .ok (.aload_n 0, 1) := by decide +kernel
theorem dX4_startLine_35 : decode cX4_startLine 35 = .ok (.getfield 12, 3) := by decide +kernel
theorem dX4_startLine_38 : decode cX4_startLine 38 = .ok (.getfield 81, 3) := by decide +kernel
theorem dX4_startLine_41 : decode cX4_startLine 41 = .ok (.iconst 0, 1) := by decide +kernel
theorem dX4_startLine_42 : decode cX4_startLine 42 = .ok (.aload_n 1, 1) := by decide +kernel
theorem dX4_startLine_43 : decode cX4_startLine 43 = .ok (.getfield 81, 3) := by decide +kernel
theorem dX4_startLine_46 : decode cX4_startLine 46 = .ok (.iconst 0, 1) := by decide +kernel
theorem dX4_startLine_47 : decode cX4_startLine 47 = .ok (.iaload, 1) := by decide +kernel
theorem dX4_startLine_48 : decode cX4_startLine 48 = .ok (.iastore, 1) := by decide +kernel
theorem dX4_startLine_49 : decode cX4_startLine 49 = .ok (.return_, 1) := by decide +kernel
theorem dX4_timeOfNextPart_0 : decode cX4_timeOfNextPart 0 = .ok (.aload_n 1, 1) := by decide +kernel
theorem dX4_timeOfNextPart_1 : decode cX4_timeOfNextPart 1 = .ok (.aload_n 0, 1) := by decide +kernel
theorem dX4_timeOfNextPart_2 : decode cX4_timeOfNextPart 2 = .ok (.getfield 28, 3) := by decide +kernel
theorem dX4_timeOfNextPart_5 : decode cX4_timeOfNextPart 5 = .ok (.getfield 84, 3) := by decide +kernel
theorem dX4_timeOfNextPart_8 : decode cX4_timeOfNextPart 8 = .ok (.aload_n 0, 1) := by decide +kernel
theorem dX4_timeOfNextPart_9 : decode cX4_timeOfNextPart 9 = .ok (.getfield 12, 3) := by decide +kernel
theorem dX4_timeOfNextPart_12 : decode cX4_timeOfNextPart 12 = .ok (.getfield 87, 3) := by decide +kernel
theorem dX4_timeOfNextPart_15 : decode cX4_timeOfNextPart 15 = .ok (.invokestatic 90, 3) := by decide +kernel
theorem dX4_timeOfNextPart_18 : decode cX4_timeOfNextPart 18 = .ok (.istore_n 2, 1) := by decide +kernel
theorem dX4_timeOfNextPart_19 : decode cX4_timeOfNextPart 19 = .ok (.iload_n 2, 1) := by decide +kernel
theorem dX4_timeOfNextPart_20 : decode cX4_timeOfNextPart 20 = .ok (.iconst (-1), 1) := by decide +kernel
theorem dX4_timeOfNextPart_21 : decode cX4_timeOfNextPart 21 = .ok (.if_icmp .ne 11, 3) := by decide +kernel
theorem dX4_timeOfNextPart_24 : decode cX4_timeOfNextPart 24 = .ok (.aload_n 0, 1) := by decide +kernel
theorem dX4_timeOfNextPart_25 : decode cX4_timeOfNextPart 25 = .ok (.iconst 0, 1) := by decide +kernel
theorem dX4_timeOfNextPart_26 : decode cX4_timeOfNextPart 26 = .ok (.iconst (-1), 1) := by decide +kernel
theorem dX4_timeOfNextPart_27 : decode cX4_timeOfNextPart 27 = .ok (.invokevirtual 63, 3) := by decide +kernel
theorem dX4_timeOfNextPart_30 : decode cX4_timeOfNextPart 30 = .ok (.iconst (-1), 1) := by decide +kernel
theorem dX4_timeOfNextPart_31 : decode cX4_timeOfNextPart 31 = .ok (.ireturn, 1) := by decide +kernel
theorem dX4_timeOfNextPart_32 : decode cX4_timeOfNextPart 32 = .ok (.aload_n 0, 1) := by decide +kernel
theorem dX4_timeOfNextPart_33 : decode cX4_timeOfNextPart 33 = .ok (.getfield 12, 3) := by decide +kernel
theorem dX4_timeOfNextPart_36 : decode cX4_timeOfNextPart 36 = .ok (.aload_n 0, 1) := by decide +kernel
theorem dX4_timeOfNextPart_37 : decode cX4_timeOfNextPart 37 = .ok (.getfield 12, 3) := by decide +kernel
theorem dX4_timeOfNextPart_40 : decode cX4_timeOfNextPart 40 = .ok (.getfield 52, 3) := by decide +kernel
theorem dX4_timeOfNextPart_43 : decode cX4_timeOfNextPart 43 = .ok (.invokevirtual 55, 3) := by decide +kernel
theorem dX4_timeOfNextPart_46 : decode cX4_timeOfNextPart 46 = .ok (.istore_n 3, 1) := by decide +kernel
theorem dX4_timeOfNextPart_47 : decode cX4_timeOfNextPart 47 = .ok (.aload_n 1, 1) := by decide +kernel
theorem dX4_timeOfNextPart_48 : decode cX4_timeOfNextPart 48 = .ok (.iload_n 2, 1) := by decide +kernel
theorem dX4_timeOfNextPart_49 : decode cX4_timeOfNextPart 49 = .ok (.laload, 1) := by decide +kernel
theorem dX4_timeOfNextPart_50 : decode cX4_timeOfNextPart 50 = .ok (.aload_n 0, 1) := by decide +kernel
theorem dX4_timeOfNextPart_51 : decode cX4_timeOfNextPart 51 = .ok (.getfield 28, 3) := by decide +kernel
theorem dX4_timeOfNextPart_54 : decode cX4_timeOfNextPart 54 = .ok (.getfield 84, 3) := by decide +kernel
theorem dX4_timeOfNextPart_57 : decode cX4_timeOfNextPart 57 = .ok (.iload_n 2, 1) := by decide +kernel
theorem dX4_timeOfNextPart_58 : decode cX4_timeOfNextPart 58 = .ok (.laload, 1) := by decide +kernel
theorem dX4_timeOfNextPart_59 : decode cX4_timeOfNextPart 59 = .ok (.lcmp, 1) := by decide +kernel
theorem dX4_timeOfNextPart_60 : decode cX4_timeOfNextPart 60 = .ok (.ifCond .lt 16, 3) := by decide +kernel
theorem dX4_timeOfNextPart_63 : decode cX4_timeOfNextPart 63 = .ok (.iload_n 2, 1) := by decide +kernel
theorem dX4_timeOfNextPart_64 : decode cX4_timeOfNextPart 64 = .ok (.iconst 2, 1) := by decide +kernel
theorem dX4_timeOfNextPart_65 : decode cX4_timeOfNextPart 65 = .ok (.irem, 1) := by decide +kernel
theorem dX4_timeOfNextPart_66 : decode cX4_timeOfNextPart 66 = .ok (.ifCond .ne 10, 3) := by decide +kernel
theorem dX4_timeOfNextPart_69 : decode cX4_timeOfNextPart 69 = .ok (.iload_n 2, 1) := by decide +kernel
theorem dX4_timeOfNextPart_70 : decode cX4_timeOfNextPart 70 = .ok (.iconst 2, 1) := by decide +kernel
theorem dX4_timeOfNextPart_71 : decode cX4_timeOfNextPart 71 = .ok (.iload_n 3, 1) := by decide +kernel
theorem dX4_timeOfNextPart_72 : decode cX4_timeOfNextPart 72 = .ok (.imul, 1) := by decide +kernel
theorem dX4_timeOfNextPart_73 : decode cX4_timeOfNextPart 73 = .ok (.if_icmp .gt 11, 3) := by decide +kernel
theorem dX4_timeOfNextPart_76 : decode cX4_timeOfNextPart 76 = .ok (.aload_n 0, 1) := by decide +kernel
theorem dX4_timeOfNextPart_77 : decode cX4_timeOfNextPart 77 = .ok (.iconst 1, 1) := by decide +kernel
theorem dX4_timeOfNextPart_78 : decode cX4_timeOfNextPart 78 = .ok (.iload_n 2, 1) := by decide +kernel
theorem dX4_timeOfNextPart_79 : decode cX4_timeOfNextPart 79 = .ok (.invokevirtual 63, 3) := by decide +kernel
theorem dX4_timeOfNextPart_82 : decode cX4_timeOfNextPart 82 = .ok (.iconst (-1), 1) := by decide +kernel
theorem dX4_timeOfNextPart_83 : decode cX4_timeOfNextPart 83 = .ok (.ireturn, 1) := by decide +kernel
theorem dX4_timeOfNextPart_84 : decode cX4_timeOfNextPart 84 = .ok (.iload_n 2, 1) := by decide +kernel
theorem dX4_timeOfNextPart_85 : decode cX4_timeOfNextPart 85 = .ok (.iconst 2, 1) := by decide +kernel
theorem dX4_timeOfNextPart_86 : decode cX4_timeOfNextPart 86 = .ok (.idiv, 1) := by decide +kernel
theorem dX4_timeOfNextPart_87 : decode cX4_timeOfNextPart 87 = .ok (.iload_n 3, 1) := by decide +kernel
theorem dX4_timeOfNextPart_88 : decode cX4_timeOfNextPart 88 = .ok (.isub, 1) := by decide +kernel
theorem dX4_timeOfNextPart_89 : decode cX4_timeOfNextPart 89 = .ok (.bipush 20, 2) := by decide +kernel
theorem dX4_timeOfNextPart_91 : decode cX4_timeOfNextPart 91 = .ok (.if_icmp .gt 15, 3) := by decide +kernel
theorem dX4_timeOfNextPart_94 : decode cX4_timeOfNextPart 94 = .ok (.aload_n 0, 1) := by decide +kernel
theorem dX4_timeOfNextPart_95 : decode cX4_timeOfNextPart 95 = .ok (.getfield 12, 3) := by decide +kernel
theorem dX4_timeOfNextPart_98 : decode cX4_timeOfNextPart 98 = .ok (.getfield 52, 3) := by decide +kernel
theorem dX4_timeOfNextPart_101 : decode cX4_timeOfNextPart 101 = .ok (.bipush 8, 2) := by decide +kernel
theorem dX4_timeOfNextPart_103 : decode cX4_timeOfNextPart 103 = .ok (.if_icmp .lt 11, 3) := by decide +kernel
theorem dX4_timeOfNextPart_106 : decode cX4_timeOfNextPart 106 = .ok (.aload_n 0, 1) := by decide +kernel
theorem dX4_timeOfNextPart_107 : decode cX4_timeOfNextPart 107 = .ok (.iconst 2, 1) := by decide +kernel
theorem dX4_timeOfNextPart_108 : decode cX4_timeOfNextPart 108 = .ok (.iload_n 2, 1) := by decide +kernel
theorem dX4_timeOfNextPart_109 : decode cX4_timeOfNextPart 109 = .ok (.invokevirtual 63, 3) := by decide +kernel
theorem dX4_timeOfNextPart_112 : decode cX4_timeOfNextPart 112 = .ok (.iconst (-1), 1) := by decide +kernel
theorem dX4_timeOfNextPart_113 : decode cX4_timeOfNextPart 113 = .ok (.ireturn, 1) := by decide +kernel
theorem dX4_timeOfNextPart_114 : decode cX4_timeOfNextPart 114 = .ok (.iload_n 2, 1) := by decide +kernel
theorem dX4_timeOfNextPart_115 : decode cX4_timeOfNextPart 115 = .ok (.ireturn, 1) := by decide +kernel
theorem dX4_endWith_0 : decode cX4_endWith 0 = .ok (.aload_n 0, 1) := by decide +kernel
theorem dX4_endWith_1 : decode cX4_endWith 1 = .ok (.iload_n 1, 1) := by decide +kernel
theorem dX4_endWith_2 : decode cX4_endWith 2 = .ok (.putfield 18, 3) := by decide +kernel
theorem dX4_endWith_5 : decode cX4_endWith 5 = .ok (.aload_n 0, 1) := by decide +kernel
theorem dX4_endWith_6 : decode cX4_endWith 6 = .ok (.iload_n 2, 1) := by decide +kernel
theorem dX4_endWith_7 : decode cX4_endWith 7 = .ok (.putfield 22, 3) := by decide +kernel
theorem dX4_endWith_10 : decode cX4_endWith 10 = .ok (.return_, 1) := by decide +kernel
theorem dX4_smallestFraction_0 : decode cX4_smallestFraction 0 = .ok (.aload_n 0, 1) := by decide +kernel
theorem dX4_smallestFraction_1 : decode cX4_smallestFraction 1 = .ok (.iload_n 2, 1) := by decide +kernel
theorem dX4_smallestFraction_2 : decode cX4_smallestFraction 2 = .ok (.invokevirtual 94, 3) := by decide +kernel
theorem dX4_smallestFraction_5 : decode cX4_smallestFraction 5 = .ok (.lstore 5, 2) := by decide +kernel
theorem dX4_smallestFraction_7 : decode cX4_smallestFraction 7 = .ok (.iconst 0, 1) := by decide +kernel
theorem dX4_smallestFraction_8 : decode cX4_smallestFraction 8 = .ok (.istore 7, 2) := by decide +kernel
theorem dX4_smallestFraction_10 : decode cX4_smallestFraction 10 = .ok (.sipush 512, 3) := by decide +kernel
theorem dX4_smallestFraction_13 : decode cX4_smallestFraction 13 = .ok (.istore 8, 2) := by decide +kernel
theorem dX4_smallestFraction_15 : decode cX4_smallestFraction 15 = .ok (.iload 8, 2) := by decide +kernel
theorem dX4_smallestFraction_17 : decode cX4_smallestFraction 17 = .ok (.ifCond .le 47, 3) := by decide +kernel
theorem dX4_smallestFraction_20 : decode cX4_smallestFraction 20 = .ok (.iload 7, 2) := by decide +kernel
theorem dX4_smallestFraction_22 : decode cX4_smallestFraction 22 = .ok (.iload 8, 2) := by decide +kernel
theorem dX4_smallestFraction_24 : decode cX4_smallestFraction 24 = .ok (.iadd, 1) := by decide +kernel
theorem dX4_smallestFraction_25 : decode cX4_smallestFraction 25 = .ok (.istore 9, 2) := by decide +kernel
theorem dX4_smallestFraction_27 : decode cX4_smallestFraction 27 = .ok (.iload 9, 2) := by decide +kernel
theorem dX4_smallestFraction_29 : decode cX4_smallestFraction 29 = .ok (.sipush 1000, 3) := by decide +kernel
theorem dX4_smallestFraction_32 : decode cX4_smallestFraction 32 = .ok (.if_icmp .gt 23, 3) := by decide +kernel
theorem dX4_smallestFraction_35 : decode cX4_smallestFraction 35 = .ok (.aload_n 0, 1) := by decide +kernel
theorem dX4_smallestFraction_36 : decode cX4_smallestFraction 36 = .ok (.lload 5, 2) := by decide +kernel
theorem dX4_smallestFraction_38 : decode cX4_smallestFraction 38 = .ok (.iload 9, 2) := by decide +kernel
theorem dX4_smallestFraction_40 : decode cX4_smallestFraction 40 = .ok (.iload_n 1, 1) := by decide +kernel
theorem dX4_smallestFraction_41 : decode cX4_smallestFraction 41 = .ok (.iload_n 2, 1) := by decide +kernel
theorem dX4_smallestFraction_42 : decode cX4_smallestFraction 42 = .ok (.isub, 1) := by decide +kernel
theorem dX4_smallestFraction_43 : decode cX4_smallestFraction 43 = .ok (.invokevirtual 98, 3) := by decide +kernel
theorem dX4_smallestFraction_46 : decode cX4_smallestFraction 46 = .ok (.lload_n 3, 1) := by decide +kernel
theorem dX4_smallestFraction_47 : decode cX4_smallestFraction 47 = .ok (.lcmp, 1) := by decide +kernel
theorem dX4_smallestFraction_48 : decode cX4_smallestFraction 48 = .ok (.ifCond .ge 7, 3) := by decide +kernel
theorem dX4_smallestFraction_51 : decode cX4_smallestFraction 51 = .ok (.iload 9, 2) := by decide +kernel
theorem dX4_smallestFraction_53 : decode cX4_smallestFraction 53 = .ok (.istore 7, 2) := by decide +kernel
theorem dX4_smallestFraction_55 : decode cX4_smallestFraction 55 = .ok (.iload 8, 2) := by decide +kernel
theorem dX4_smallestFraction_57 : decode cX4_smallestFraction 57 = .ok (.iconst 2, 1) := by decide +kernel
theorem dX4_smallestFraction_58 : decode cX4_smallestFraction 58 = .ok (.idiv, 1) := by decide +kernel
theorem dX4_smallestFraction_59 : decode cX4_smallestFraction 59 = .ok (.istore 8, 2) := by decide +kernel
theorem dX4_smallestFraction_61 : decode cX4_smallestFraction 61 = .ok (.goto (-46), 3) := by decide +kernel
theorem dX4_smallestFraction_64 : decode cX4_smallestFraction 64 = .ok (.iload 7, 2) := by decide +kernel
theorem dX4_smallestFraction_66 : decode cX4_smallestFraction 66 = .ok (.iconst 1, 1) := by decide +kernel
theorem dX4_smallestFraction_67 : decode cX4_smallestFraction 67 = .ok (.iadd, 1) := by decide +kernel
theorem dX4_smallestFraction_68 : decode cX4_smallestFraction 68 = .ok (.istore 8, 2) := by decide +kernel
theorem dX4_smallestFraction_70 : decode cX4_smallestFraction 70 = .ok (.iload 8, 2) := by decide +kernel
theorem dX4_smallestFraction_72 : decode cX4_smallestFraction 72 = .ok (.sipush 1000, 3) := by decide +kernel
theorem dX4_smallestFraction_75 : decode cX4_smallestFraction 75 = .ok (.if_icmp .gt 23, 3) := by decide +kernel
theorem dX4_smallestFraction_78 : decode cX4_smallestFraction 78 = .ok (.aload_n 0, 1) := by decide +kernel
theorem dX4_smallestFraction_79 : decode cX4_smallestFraction 79 = .ok (.lload 5, 2) := by decide +kernel
theorem dX4_smallestFraction_81 : decode cX4_smallestFraction 81 = .ok (.iload 8, 2) := by decide +kernel
theorem dX4_smallestFraction_83 : decode cX4_smallestFraction 83 = .ok (.iload_n 1, 1) := by decide +kernel
theorem dX4_smallestFraction_84 : decode cX4_smallestFraction 84 = .ok (.iload_n 2, 1) := by decide +kernel
theorem dX4_smallestFraction_85 : decode cX4_smallestFraction 85 = .ok (.isub, 1) := by decide +kernel
theorem dX4_smallestFraction_86 : decode cX4_smallestFraction 86 = .ok (.invokevirtual 98, 3) := by decide +kernel
theorem dX4_smallestFraction_89 : decode cX4_smallestFraction 89 = .ok (.lload_n 3, 1) := by decide +kernel
theorem dX4_smallestFraction_90 : decode cX4_smallestFraction 90 = .ok (.lcmp, 1) := by decide +kernel
theorem dX4_smallestFraction_91 : decode cX4_smallestFraction 91 = .ok (.ifCond .ne 7, 3) := by decide +kernel
theorem dX4_smallestFraction_94 : decode cX4_smallestFraction 94 = .ok (.iconst 1, 1) := by decide +kernel
theorem dX4_smallestFraction_95 : decode cX4_smallestFraction 95 = .ok (.goto 4, 3) := by decide +kernel
theorem dX4_smallestFraction_98 : decode cX4_smallestFraction 98 = .ok (.iconst 0, 1) := by decide +kernel
theorem dX4_smallestFraction_99 : decode cX4_smallestFraction 99 = .ok (.istore 9, 2) := by decide +kernel
theorem dX4_smallestFraction_101 : decode cX4_smallestFraction 101 = .ok (.iload 9, 2) := by decide +kernel
theorem dX4_smallestFraction_103 : decode cX4_smallestFraction 103 = .ok (.ifCond .eq 8, 3) := by decide +kernel
theorem dX4_smallestFraction_106 : decode cX4_smallestFraction 106 = .ok (.iload 8, 2) := by decide +kernel
theorem dX4_smallestFraction_108 : decode cX4_smallestFraction 108 = .ok (.goto 4, 3) := by decide +kernel
theorem dX4_smallestFraction_111 : decode cX4_smallestFraction 111 = .ok (.iconst (-1), 1) := by decide +kernel
theorem dX4_smallestFraction_112 : decode cX4_smallestFraction 112 = .ok (.ireturn, 1) := by decide +kernel
theorem dX4_energyBeyondEnd_0 : decode cX4_energyBeyondEnd 0 = .ok (.aload_n 0, 1) := by decide +kernel
theorem dX4_energyBeyondEnd_1 : decode cX4_energyBeyondEnd 1 = .ok (.getfield 12, 3) := by decide +kernel
theorem dX4_energyBeyondEnd_4 : decode cX4_energyBeyondEnd 4 = .ok (.getfield 52, 3) := by decide +kernel
theorem dX4_energyBeyondEnd_7 : decode cX4_energyBeyondEnd 7 = .ok (.ifCond .ne 18, 3) := by decide +kernel
theorem dX4_energyBeyondEnd_10 : decode cX4_energyBeyondEnd 10 = .ok (.aload_n 0, 1) := by decide +kernel
theorem dX4_energyBeyondEnd_11 : decode cX4_energyBeyondEnd 11 = .ok (.aload_n 0, 1) := by decide +kernel
theorem dX4_energyBeyondEnd_12 : decode cX4_energyBeyondEnd 12 = .ok (.getfield 12, 3) := by decide +kernel
theorem dX4_energyBeyondEnd_15 : decode cX4_energyBeyondEnd 15 = .ok (.getfield 81, 3) := by decide +kernel
theorem dX4_energyBeyondEnd_18 : decode cX4_energyBeyondEnd 18 = .ok (.iconst 0, 1) := by decide +kernel
theorem dX4_energyBeyondEnd_19 : decode cX4_energyBeyondEnd 19 = .ok (.iaload, 1) := by decide +kernel
theorem dX4_energyBeyondEnd_20 : decode cX4_energyBeyondEnd 20 = .ok (.i2l, 1) := by decide +kernel
theorem dX4_energyBeyondEnd_21 : decode cX4_energyBeyondEnd 21 = .ok (.invokevirtual 102, 3) := by decide +kernel
theorem dX4_energyBeyondEnd_24 : decode cX4_energyBeyondEnd 24 = .ok (.lreturn, 1) := by decide +kernel
theorem dX4_energyBeyondEnd_25 : decode cX4_energyBeyondEnd 25 = .ok (.aload_n 0, 1) := by decide +kernel
theorem dX4_energyBeyondEnd_26 : decode cX4_energyBeyondEnd 26 = .ok (.getfield 28, 3) := by decide +kernel
theorem dX4_energyBeyondEnd_29 : decode cX4_energyBeyondEnd 29 = .ok (.getfield 106, 3) := by decide +kernel
theorem dX4_energyBeyondEnd_32 : decode cX4_energyBeyondEnd 32 = .ok (.aload_n 0, 1) := by decide +kernel
theorem dX4_energyBeyondEnd_33 : decode cX4_energyBeyondEnd 33 = .ok (.getfield 12, 3) := by decide +kernel
theorem dX4_energyBeyondEnd_36 : decode cX4_energyBeyondEnd 36 = .ok (.getfield 52, 3) := by decide +kernel
theorem dX4_energyBeyondEnd_39 : decode cX4_energyBeyondEnd 39 = .ok (.aaload, 1) := by decide +kernel
theorem dX4_energyBeyondEnd_40 : decode cX4_energyBeyondEnd 40 = .ok (.iload_n 1, 1) := by decide +kernel
theorem dX4_energyBeyondEnd_41 : decode cX4_energyBeyondEnd 41 = .ok (.laload, 1) := by decide +kernel
theorem dX4_energyBeyondEnd_42 : decode cX4_energyBeyondEnd 42 = .ok (.lstore_n 2, 1) := by decide +kernel
theorem dX4_energyBeyondEnd_43 : decode cX4_energyBeyondEnd 43 = .ok (.aload_n 0, 1) := by decide +kernel
theorem dX4_energyBeyondEnd_44 : decode cX4_energyBeyondEnd 44 = .ok (.lload_n 2, 1) := by decide +kernel
theorem dX4_energyBeyondEnd_45 : decode cX4_energyBeyondEnd 45 = .ok (.lload_n 2, 1) := by decide +kernel
theorem dX4_energyBeyondEnd_46 : decode cX4_energyBeyondEnd 46 = .ok (.aload_n 0, 1) := by decide +kernel
theorem dX4_energyBeyondEnd_47 : decode cX4_energyBeyondEnd 47 = .ok (.getfield 12, 3) := by decide +kernel
theorem dX4_energyBeyondEnd_50 : decode cX4_energyBeyondEnd 50 = .ok (.getfield 110, 3) := by decide +kernel
theorem dX4_energyBeyondEnd_53 : decode cX4_energyBeyondEnd 53 = .ok (.aload_n 0, 1) := by decide +kernel
theorem dX4_energyBeyondEnd_54 : decode cX4_energyBeyondEnd 54 = .ok (.getfield 12, 3) := by decide +kernel
theorem dX4_energyBeyondEnd_57 : decode cX4_energyBeyondEnd 57 = .ok (.getfield 52, 3) := by decide +kernel
theorem dX4_energyBeyondEnd_60 : decode cX4_energyBeyondEnd 60 = .ok (.iconst 1, 1) := by decide +kernel
theorem dX4_energyBeyondEnd_61 : decode cX4_energyBeyondEnd 61 = .ok (.isub, 1) := by decide +kernel
theorem dX4_energyBeyondEnd_62 : decode cX4_energyBeyondEnd 62 = .ok (.iaload, 1) := by decide +kernel
theorem dX4_energyBeyondEnd_63 : decode cX4_energyBeyondEnd 63 = .ok (.invokestatic 113, 3) := by decide +kernel
theorem dX4_energyBeyondEnd_66 : decode cX4_energyBeyondEnd 66 = .ok (.lsub, 1) := by decide +kernel
theorem dX4_energyBeyondEnd_67 : decode cX4_energyBeyondEnd 67 = .ok (.invokevirtual 102, 3) := by decide +kernel
theorem dX4_energyBeyondEnd_70 : decode cX4_energyBeyondEnd 70 = .ok (.lreturn, 1) := by decide +kernel
theorem dX4_echoOfNewEnd_0 : decode cX4_echoOfNewEnd 0 = .ok (.aload_n 0, 1) := by decide +kernel
theorem dX4_echoOfNewEnd_1 : decode cX4_echoOfNewEnd 1 = .ok (.lload_n 1, 1) := by decide +kernel
theorem dX4_echoOfNewEnd_2 : decode cX4_echoOfNewEnd 2 = .ok (.iload_n 3, 1) := by decide +kernel
theorem dX4_echoOfNewEnd_3 : decode cX4_echoOfNewEnd 3 = .ok (.invokestatic 113, 3) := by decide +kernel
theorem dX4_echoOfNewEnd_6 : decode cX4_echoOfNewEnd 6 = .ok (.invokevirtual 102, 3) := by decide +kernel
theorem dX4_echoOfNewEnd_9 : decode cX4_echoOfNewEnd 9 = .ok (.lstore 5, 2) := by decide +kernel
theorem dX4_echoOfNewEnd_11 : decode cX4_echoOfNewEnd 11 = .ok (.iload 4, 2) := by decide +kernel
theorem dX4_echoOfNewEnd_13 : decode cX4_echoOfNewEnd 13 = .ok (.istore 7, 2) := by decide +kernel
theorem dX4_echoOfNewEnd_15 : decode cX4_echoOfNewEnd 15 = .ok (.aload_n 0, 1) := by decide +kernel
theorem dX4_echoOfNewEnd_16 : decode cX4_echoOfNewEnd 16 = .ok (.getfield 12, 3) := by decide +kernel
theorem dX4_echoOfNewEnd_19 : decode cX4_echoOfNewEnd 19 = .ok (.getfield 52, 3) := by decide +kernel
theorem dX4_echoOfNewEnd_22 : decode cX4_echoOfNewEnd 22 = .ok (.istore 8, 2) := by decide +kernel
theorem dX4_echoOfNewEnd_24 : decode cX4_echoOfNewEnd 24 = .ok (.iload 8, 2) := by decide +kernel
theorem dX4_echoOfNewEnd_26 : decode cX4_echoOfNewEnd 26 = .ok (.iconst 1, 1) := by decide +kernel
theorem dX4_echoOfNewEnd_27 : decode cX4_echoOfNewEnd 27 = .ok (.if_icmp .lt 79, 3) := by decide +kernel
theorem dX4_echoOfNewEnd_30 : decode cX4_echoOfNewEnd 30 = .ok (.aload_n 0, 1) := by decide +kernel
theorem dX4_echoOfNewEnd_31 : decode cX4_echoOfNewEnd 31 = .ok (.getfield 12, 3) := by decide +kernel
theorem dX4_echoOfNewEnd_34 : decode cX4_echoOfNewEnd 34 = .ok (.getfield 110, 3) := by decide +kernel
theorem dX4_echoOfNewEnd_37 : decode cX4_echoOfNewEnd 37 = .ok (.iload 8, 2) := by decide +kernel
theorem dX4_echoOfNewEnd_39 : decode cX4_echoOfNewEnd 39 = .ok (.iconst 1, 1) := by decide +kernel
theorem dX4_echoOfNewEnd_40 : decode cX4_echoOfNewEnd 40 = .ok (.isub, 1) := by decide +kernel
theorem dX4_echoOfNewEnd_41 : decode cX4_echoOfNewEnd 41 = .ok (.iaload, 1) := by decide +kernel
theorem dX4_echoOfNewEnd_42 : decode cX4_echoOfNewEnd 42 = .ok (.istore 9, 2) := by decide +kernel
theorem dX4_echoOfNewEnd_44 : decode cX4_echoOfNewEnd 44 = .ok (.aload_n 0, 1) := by decide +kernel
theorem dX4_echoOfNewEnd_45 : decode cX4_echoOfNewEnd 45 = .ok (.getfield 28, 3) := by decide +kernel
theorem dX4_echoOfNewEnd_48 : decode cX4_echoOfNewEnd 48 = .ok (.getfield 106, 3) := by decide +kernel
theorem dX4_echoOfNewEnd_51 : decode cX4_echoOfNewEnd 51 = .ok (.iload 8, 2) := by decide +kernel
theorem dX4_echoOfNewEnd_53 : decode cX4_echoOfNewEnd 53 = .ok (.aaload, 1) := by decide +kernel
theorem dX4_echoOfNewEnd_54 : decode cX4_echoOfNewEnd 54 = .ok (.iload 7, 2) := by decide +kernel
theorem dX4_echoOfNewEnd_56 : decode cX4_echoOfNewEnd 56 = .ok (.laload, 1) := by decide +kernel
theorem dX4_echoOfNewEnd_57 : decode cX4_echoOfNewEnd 57 = .ok (.lstore 10, 2) := by decide +kernel
theorem dX4_echoOfNewEnd_59 : decode cX4_echoOfNewEnd 59 = .ok (.aload_n 0, 1) := by decide +kernel
theorem dX4_echoOfNewEnd_60 : decode cX4_echoOfNewEnd 60 = .ok (.lload 5, 2) := by decide +kernel
theorem dX4_echoOfNewEnd_62 : decode cX4_echoOfNewEnd 62 = .ok (.lload 5, 2) := by decide +kernel
theorem dX4_echoOfNewEnd_64 : decode cX4_echoOfNewEnd 64 = .ok (.iload 9, 2) := by decide +kernel
theorem dX4_echoOfNewEnd_66 : decode cX4_echoOfNewEnd 66 = .ok (.invokestatic 113, 3) := by decide +kernel
theorem dX4_echoOfNewEnd_69 : decode cX4_echoOfNewEnd 69 = .ok (.lsub, 1) := by decide +kernel
theorem dX4_echoOfNewEnd_70 : decode cX4_echoOfNewEnd 70 = .ok (.lload 10, 2) := by decide +kernel
theorem dX4_echoOfNewEnd_72 : decode cX4_echoOfNewEnd 72 = .ok (.iload 9, 2) := by decide +kernel
theorem dX4_echoOfNewEnd_74 : decode cX4_echoOfNewEnd 74 = .ok (.invokestatic 113, 3) := by decide +kernel
theorem dX4_echoOfNewEnd_77 : decode cX4_echoOfNewEnd 77 = .ok (.ladd, 1) := by decide +kernel
theorem dX4_echoOfNewEnd_78 : decode cX4_echoOfNewEnd 78 = .ok (.invokevirtual 102, 3) := by decide +kernel
theorem dX4_echoOfNewEnd_81 : decode cX4_echoOfNewEnd 81 = .ok (.lstore 5, 2) := by decide +kernel
theorem dX4_echoOfNewEnd_83 : decode cX4_echoOfNewEnd 83 = .ok (.iload 7, 2) := by decide +kernel
theorem dX4_echoOfNewEnd_85 : decode cX4_echoOfNewEnd 85 = .ok (.aload_n 0, 1) := by decide +kernel
theorem dX4_echoOfNewEnd_86 : decode cX4_echoOfNewEnd 86 = .ok (.getfield 12, 3) := by decide +kernel
theorem dX4_echoOfNewEnd_89 : decode cX4_echoOfNewEnd 89 = .ok (.getfield 117, 3) := by decide +kernel
theorem dX4_echoOfNewEnd_92 : decode cX4_echoOfNewEnd 92 = .ok (.iload 8, 2) := by decide +kernel
theorem dX4_echoOfNewEnd_94 : decode cX4_echoOfNewEnd 94 = .ok (.iconst 1, 1) := by decide +kernel
theorem dX4_echoOfNewEnd_95 : decode cX4_echoOfNewEnd 95 = .ok (.isub, 1) := by decide +kernel
theorem dX4_echoOfNewEnd_96 : decode cX4_echoOfNewEnd 96 = .ok (.iaload, 1) := by decide +kernel
theorem dX4_echoOfNewEnd_97 : decode cX4_echoOfNewEnd 97 = .ok (.iadd, 1) := by decide +kernel
theorem dX4_echoOfNewEnd_98 : decode cX4_echoOfNewEnd 98 = .ok (.istore 7, 2) := by decide +kernel
theorem dX4_echoOfNewEnd_100 : decode cX4_echoOfNewEnd 100 = .ok (.iinc 8 (-1), 3) := by decide +kernel
theorem dX4_echoOfNewEnd_103 : decode cX4_echoOfNewEnd 103 = .ok (.goto (-79), 3) := by decide +kernel
theorem dX4_echoOfNewEnd_106 : decode cX4_echoOfNewEnd 106 = .ok (.lload 5, 2) := by decide +kernel
theorem dX4_echoOfNewEnd_108 : decode cX4_echoOfNewEnd 108 = .ok (.lload 5, 2) := by decide +kernel
theorem dX4_echoOfNewEnd_110 : decode cX4_echoOfNewEnd 110 = .ok (.aload_n 0, 1) := by decide +kernel
theorem dX4_echoOfNewEnd_111 : decode cX4_echoOfNewEnd 111 = .ok (.getfield 12, 3) := by decide +kernel
theorem dX4_echoOfNewEnd_114 : decode cX4_echoOfNewEnd 114 = .ok (.getfield 120, 3) := by decide +kernel
theorem dX4_echoOfNewEnd_117 : decode cX4_echoOfNewEnd 117 = .ok (.invokestatic 113, 3) := by decide +kernel
theorem dX4_echoOfNewEnd_120 : decode cX4_echoOfNewEnd 120 = .ok (.lsub, 1) := by decide +kernel
theorem dX4_echoOfNewEnd_121 : decode cX4_echoOfNewEnd 121 = .ok (.lreturn, 1) := by decide +kernel
theorem dX4_kept_0 : decode cX4_kept 0 = .ok (.lload_n 1, 1) := by decide +kernel
theorem dX4_kept_1 : decode cX4_kept 1 = .ok (.aload_n 0, 1) := by decide +kernel
theorem dX4_kept_2 : decode cX4_kept 2 = .ok (.getfield 12, 3) := by decide +kernel
theorem dX4_kept_5 : decode cX4_kept 5 = .ok (.getfield 123, 3) := by decide +kernel
theorem dX4_kept_8 : decode cX4_kept 8 = .ok (.i2l, 1) := by decide +kernel
theorem dX4_kept_9 : decode cX4_kept 9 = .ok (.lcmp, 1) := by decide +kernel
theorem dX4_kept_10 : decode cX4_kept 10 = .ok (.ifCond .ge 7, 3) := by decide +kernel
theorem dX4_kept_13 : decode cX4_kept 13 = .ok (.lconst 0, 1) := by decide +kernel
theorem dX4_kept_14 : decode cX4_kept 14 = .ok (.goto 4, 3) := by decide +kernel
theorem dX4_kept_17 : decode cX4_kept 17 = .ok (.lload_n 1, 1) := by decide +kernel
theorem dX4_kept_18 : decode cX4_kept 18 = .ok (.lreturn, 1) := by decide +kernel
theorem dX8_init_0 : decode cX8_init 0 = .ok (.aload_n 0, 1) := by decide +kernel
theorem dX8_init_1 : decode cX8_init 1 = .ok (.invokespecial 3, 3) := by decide +kernel
theorem dX8_init_4 : decode cX8_init 4 = .ok (.aload_n 0, 1) := by decide +kernel
theorem dX8_init_5 : decode cX8_init 5 = .ok (.bipush 9, 2) := by decide +kernel
theorem dX8_init_7 : decode cX8_init 7 = .ok (.sipush 201, 3) := by decide +kernel
theorem dX8_init_10 : decode cX8_init 10 = .ok (.multianewarray 9 2, 4) := by decide +kernel
theorem dX8_init_14 : decode cX8_init 14 = .ok (.putfield 11, 3) := by decide +kernel
theorem dX8_init_17 : decode cX8_init 17 = .ok (.aload_n 0, 1) := by decide +kernel
theorem dX8_init_18 : decode cX8_init 18 = .ok (.bipush 9, 2) := by decide +kernel
theorem dX8_init_20 : decode cX8_init 20 = .ok (.sipush 201, 3) := by decide +kernel
theorem dX8_init_23 : decode cX8_init 23 = .ok (.multianewarray 9 2, 4) := by decide +kernel
theorem dX8_init_27 : decode cX8_init 27 = .ok (.putfield 16, 3) := by decide +kernel
theorem dX8_init_30 : decode cX8_init 30 = .ok (.aload_n 0, 1) := by decide +kernel
theorem dX8_init_31 : decode cX8_init 31 = .ok (.sipush 201, 3) := by decide +kernel
theorem dX8_init_34 : decode cX8_init 34 = .ok (.newarray .long, 2) := by decide +kernel
theorem dX8_init_36 : decode cX8_init 36 = .ok (.putfield 19, 3) := by decide +kernel
theorem dX8_init_39 : decode cX8_init 39 = .ok (.aload_n 0, 1) := by decide +kernel
theorem dX8_init_40 : decode cX8_init 40 = .ok (.bipush 9, 2) := by decide +kernel
theorem dX8_init_42 : decode cX8_init 42 = .ok (.newarray .long, 2) := by decide +kernel
theorem dX8_init_44 : decode cX8_init 44 = .ok (.putfield 23, 3) := by decide +kernel
theorem dX8_init_47 : decode cX8_init 47 = .ok (.return_, 1) := by decide +kernel
theorem dX8_spread_0 : decode cX8_spread 0 = .ok (.aload_n 0, 1) := by decide +kernel
theorem dX8_spread_1 : decode cX8_spread 1 = .ok (.invokevirtual 26, 3) := by decide +kernel
theorem dX8_spread_4 : decode cX8_spread 4 = .ok (.aload_n 0, 1) := by decide +kernel
theorem dX8_spread_5 : decode cX8_spread 5 = .ok (.aload_n 1, 1) := by decide +kernel
theorem dX8_spread_6 : decode cX8_spread 6 = .ok (.invokevirtual 29, 3) := by decide +kernel
theorem dX8_spread_9 : decode cX8_spread 9 = .ok (.aload_n 1, 1) := by decide +kernel
theorem dX8_spread_10 : decode cX8_spread 10 = .ok (.getfield 33, 3) := by decide +kernel
theorem dX8_spread_13 : decode cX8_spread 13 = .ok (.ifCond .ne 16, 3) := by decide +kernel
theorem dX8_spread_16 : decode cX8_spread 16 = .ok (.aload_n 0, 1) := by decide +kernel
theorem dX8_spread_17 : decode cX8_spread 17 = .ok (.getfield 23, 3) := by decide +kernel
theorem dX8_spread_20 : decode cX8_spread 20 = .ok (.iconst 2, 1) := by decide +kernel
theorem dX8_spread_21 : decode cX8_spread 21 = .ok (.aload_n 0, 1) := by decide +kernel
theorem dX8_spread_22 : decode cX8_spread 22 = .ok (.getfield 23, 3) := by decide +kernel
theorem dX8_spread_25 : decode cX8_spread 25 = .ok (.iconst 0, 1) := by decide +kernel
theorem dX8_spread_26 : decode cX8_spread 26 = .ok (.laload, 1) := by decide +kernel
theorem dX8_spread_27 : decode cX8_spread 27 = .ok (.lastore, 1) := by decide +kernel
theorem dX8_spread_28 : decode cX8_spread 28 = .ok (.return_, 1) := by decide +kernel
theorem dX8_spread_29 : decode cX8_spread 29 = .ok (.iconst 0, 1) := by decide +kernel
theorem dX8_spread_30 : decode cX8_spread 30 = .ok (.istore_n 2, 1) := by decide +kernel
theorem dX8_spread_31 : decode cX8_spread 31 = .ok (.iload_n 2, 1) := by decide +kernel
theorem dX8_spread_32 : decode cX8_spread 32 = .ok (.aload_n 1, 1) := by decide +kernel
theorem dX8_spread_33 : decode cX8_spread 33 = .ok (.getfield 39, 3) := by decide +kernel
theorem dX8_spread_36 : decode cX8_spread 36 = .ok (.if_icmp .gt 38, 3) := by decide +kernel
theorem dX8_spread_39 : decode cX8_spread 39 = .ok (.aload_n 0, 1) := by decide +kernel
theorem dX8_spread_40 : decode cX8_spread 40 = .ok (.aload_n 1, 1) := by decide +kernel
theorem dX8_spread_41 : decode cX8_spread 41 = .ok (.iload_n 2, 1) := by decide +kernel
theorem dX8_spread_42 : decode cX8_spread 42 = .ok (.invokevirtual 42, 3) := by decide +kernel
theorem dX8_spread_45 : decode cX8_spread 45 = .ok (.iconst 1, 1) := by decide +kernel
theorem dX8_spread_46 : decode cX8_spread 46 = .ok (.istore_n 3, 1) := by decide +kernel
theorem dX8_spread_47 : decode cX8_spread 47 = .ok (.iload_n 3, 1) := by decide +kernel
theorem dX8_spread_48 : decode cX8_spread 48 = .ok (.aload_n 1, 1) := by decide +kernel
theorem dX8_spread_49 : decode cX8_spread 49 = .ok (.getfield 33, 3) := by decide +kernel
theorem dX8_spread_52 : decode cX8_spread 52 = .ok (.if_icmp .gt 16, 3) := by decide +kernel
theorem dX8_spread_55 : decode cX8_spread 55 = .ok (.aload_n 0, 1) := by decide +kernel
theorem dX8_spread_56 : decode cX8_spread 56 = .ok (.aload_n 1, 1) := by decide +kernel
theorem dX8_spread_57 : decode cX8_spread 57 = .ok (.iload_n 3, 1) := by decide +kernel
theorem dX8_spread_58 : decode cX8_spread 58 = .ok (.iload_n 2, 1) := by decide +kernel
theorem dX8_spread_59 : decode cX8_spread 59 = .ok (.invokevirtual 46, 3) := by decide +kernel
theorem dX8_spread_62 : decode cX8_spread 62 = .ok (.iinc 3 1, 3) := by decide +kernel
theorem dX8_spread_65 : decode cX8_spread 65 = .ok (.goto (-18), 3) := by decide +kernel
theorem dX8_spread_68 : decode cX8_spread 68 = .ok (.iinc 2 1, 3) := by decide +kernel
theorem dX8_spread_71 : decode cX8_spread 71 = .ok (.goto (-40), 3) := by decide +kernel
theorem dX8_spread_74 : decode cX8_spread 74 = .ok (.aload_n 0, 1) := by decide +kernel
theorem dX8_spread_75 : decode cX8_spread 75 = .ok (.invokevirtual 50, 3) := by decide +kernel
theorem dX8_spread_78 : decode cX8_spread 78 = .ok (.return_, 1) := by decide +kernel
theorem dX8_clear_0 : decode cX8_clear 0 = .ok (.iconst 0, 1) := by decide +kernel
theorem dX8_clear_1 : decode cX8_clear 1 = .ok (.istore_n 1, 1) := by decide +kernel
theorem dX8_clear_2 : decode cX8_clear 2 = .ok (.iload_n 1, 1) := by decide +kernel
theorem dX8_clear_3 : decode cX8_clear 3 = .ok (.bipush 8, 2) := by decide +kernel
theorem dX8_clear_5 : decode cX8_clear 5 = .ok (.if_icmp .gt 29, 3) := by decide +kernel
theorem dX8_clear_8 : decode cX8_clear 8 = .ok (.aload_n 0, 1) := by decide +kernel
theorem dX8_clear_9 : decode cX8_clear 9 = .ok (.getfield 11, 3) := by decide +kernel
theorem dX8_clear_12 : decode cX8_clear 12 = .ok (.iload_n 1, 1) := by decide +kernel
theorem dX8_clear_13 : decode cX8_clear 13 = .ok (.aaload, 1) := by decide +kernel
theorem dX8_clear_14 : decode cX8_clear 14 = .ok (.lconst 0, 1) := by decide +kernel
theorem dX8_clear_15 : decode cX8_clear 15 = .ok (.invokestatic 53, 3) := by decide +kernel
theorem dX8_clear_18 : decode cX8_clear 18 = .ok (.aload_n 0, 1) := by decide +kernel
theorem dX8_clear_19 : decode cX8_clear 19 = .ok (.getfield 16, 3) := by decide +kernel
theorem dX8_clear_22 : decode cX8_clear 22 = .ok (.iload_n 1, 1) := by decide +kernel
theorem dX8_clear_23 : decode cX8_clear 23 = .ok (.aaload, 1) := by decide +kernel
theorem dX8_clear_24 : decode cX8_clear 24 = .ok (.lconst 0, 1) := by decide +kernel
theorem dX8_clear_25 : decode cX8_clear 25 = .ok (.invokestatic 53, 3) := by decide +kernel
theorem dX8_clear_28 : decode cX8_clear 28 = .ok (.iinc 1 1, 3) := by decide +kernel
theorem dX8_clear_31 : decode cX8_clear 31 = .ok (.goto (-29), 3) := by decide +kernel
theorem dX8_clear_34 : decode cX8_clear 34 = .ok (.aload_n 0, 1) := by decide +kernel
theorem dX8_clear_35 : decode cX8_clear 35 = .ok (.getfield 19, 3) := by decide +kernel
theorem dX8_clear_38 : decode cX8_clear 38 = .ok (.lconst 0, 1) := by decide +kernel
theorem dX8_clear_39 : decode cX8_clear 39 = .ok (.invokestatic 53, 3) := by decide +kernel
theorem dX8_clear_42 : decode cX8_clear 42 = .ok (.aload_n 0, 1) := by decide +kernel
theorem dX8_clear_43 : decode cX8_clear 43 = .ok (.getfield 23, 3) := by decide +kernel
theorem dX8_clear_46 : decode cX8_clear 46 = .ok (.lconst 0, 1) := by decide +kernel
theorem dX8_clear_47 : decode cX8_clear 47 = .ok (.invokestatic 53, 3) := by decide +kernel
theorem dX8_clear_50 : decode cX8_clear 50 = .ok (.return_, 1) := by decide +kernel
theorem dX8_addUpPulses_0 : decode cX8_addUpPulses 0 = .ok (.iconst 0, 1) := by decide +kernel
theorem dX8_addUpPulses_1 : decode cX8_addUpPulses 1 = .ok (.istore_n 2, 1) := by decide +kernel
theorem dX8_addUpPulses_2 : decode cX8_addUpPulses 2 = .ok (.iload_n 2, 1) := by decide +kernel
theorem dX8_addUpPulses_3 : decode cX8_addUpPulses 3 = .ok (.aload_n 1, 1) := by decide +kernel
theorem dX8_addUpPulses_4 : decode cX8_addUpPulses 4 = .ok (.getfield 59, 3) := by decide +kernel
theorem dX8_addUpPulses_7 : decode cX8_addUpPulses 7 = .ok (.if_icmp .ge 38, 3) := by decide +kernel
theorem dX8_addUpPulses_10 : decode cX8_addUpPulses 10 = .ok (.aload_n 1, 1) := by decide +kernel
theorem dX8_addUpPulses_11 : decode cX8_addUpPulses 11 = .ok (.getfield 62, 3) := by decide +kernel
theorem dX8_addUpPulses_14 : decode cX8_addUpPulses 14 = .ok (.iload_n 2, 1) := by decide +kernel
theorem dX8_addUpPulses_15 : decode cX8_addUpPulses 15 = .ok (.iaload, 1) := by decide +kernel
theorem dX8_addUpPulses_16 : decode cX8_addUpPulses 16 = .ok (.aload_n 1, 1) := by decide +kernel
theorem dX8_addUpPulses_17 : decode cX8_addUpPulses 17 = .ok (.getfield 39, 3) := by decide +kernel
theorem dX8_addUpPulses_20 : decode cX8_addUpPulses 20 = .ok (.if_icmp .gt 19, 3) := by decide +kernel
theorem dX8_addUpPulses_23 : decode cX8_addUpPulses 23 = .ok (.aload_n 0, 1) := by decide +kernel
theorem dX8_addUpPulses_24 : decode cX8_addUpPulses 24 = .ok (.getfield 23, 3) := by decide +kernel
theorem dX8_addUpPulses_27 : decode cX8_addUpPulses 27 = .ok (.iconst 0, 1) := by decide +kernel
theorem dX8_addUpPulses_28 : decode cX8_addUpPulses 28 = .ok (.dup2, 1) := by decide +kernel
theorem dX8_addUpPulses_29 : decode cX8_addUpPulses 29 = .ok (.laload, 1) := by decide +kernel
theorem dX8_addUpPulses_30 : decode cX8_addUpPulses 30 = .ok (.aload_n 1, 1) := by decide +kernel
theorem dX8_addUpPulses_31 : decode cX8_addUpPulses 31 = .ok (.getfield 66, 3) := by decide +kernel
theorem dX8_addUpPulses_34 : decode cX8_addUpPulses 34 = .ok (.iload_n 2, 1) := by decide +kernel
theorem dX8_addUpPulses_35 : decode cX8_addUpPulses 35 = .ok (.iaload, 1) := by decide +kernel
theorem dX8_addUpPulses_36 : decode cX8_addUpPulses 36 = .ok (.i2l, 1) := by decide +kernel
theorem dX8_addUpPulses_37 : decode cX8_addUpPulses 37 = .ok (.ladd, 1) := by decide +kernel
theorem dX8_addUpPulses_38 : decode cX8_addUpPulses 38 = .ok (.lastore, 1) := by decide +kernel
theorem dX8_addUpPulses_39 : decode cX8_addUpPulses 39 = .ok (.iinc 2 1, 3) := by decide +kernel
theorem dX8_addUpPulses_42 : decode cX8_addUpPulses 42 = .ok (.goto (-40), 3) := by decide +kernel
theorem dX8_addUpPulses_45 : decode cX8_addUpPulses 45 = .ok (.return_, 1) := by decide +kernel
theorem dX8_addUpEchoes_0 : decode cX8_addUpEchoes 0 = .ok (.iconst 0, 1) := by decide +kernel
theorem dX8_addUpEchoes_1 : decode cX8_addUpEchoes 1 = .ok (.istore_n 1, 1) := by decide +kernel
theorem dX8_addUpEchoes_2 : decode cX8_addUpEchoes 2 = .ok (.iload_n 1, 1) := by decide +kernel
theorem dX8_addUpEchoes_3 : decode cX8_addUpEchoes 3 = .ok (.sipush 201, 3) := by decide +kernel
theorem dX8_addUpEchoes_6 : decode cX8_addUpEchoes 6 = .ok (.if_icmp .ge 69, 3) := by decide +kernel
theorem dX8_addUpEchoes_9 : decode cX8_addUpEchoes 9 = .ok (.aload_n 0, 1) := by decide +kernel
theorem dX8_addUpEchoes_10 : decode cX8_addUpEchoes 10 = .ok (.getfield 19, 3) := by decide +kernel
theorem dX8_addUpEchoes_13 : decode cX8_addUpEchoes 13 = .ok (.iload_n 1, 1) := by decide +kernel
theorem dX8_addUpEchoes_14 : decode cX8_addUpEchoes 14 = .ok (.laload, 1) := by decide +kernel
theorem dX8_addUpEchoes_15 : decode cX8_addUpEchoes 15 = .ok (.lconst 0, 1) := by decide +kernel
theorem dX8_addUpEchoes_16 : decode cX8_addUpEchoes 16 = .ok (.lcmp, 1) := by decide +kernel
theorem dX8_addUpEchoes_17 : decode cX8_addUpEchoes 17 = .ok (.ifCond .le 52, 3) := by decide +kernel
theorem dX8_addUpEchoes_20 : decode cX8_addUpEchoes 20 = .ok (.aload_n 0, 1) := by decide +kernel
theorem dX8_addUpEchoes_21 : decode cX8_addUpEchoes 21 = .ok (.getfield 23, 3) := by decide +kernel
theorem dX8_addUpEchoes_24 : decode cX8_addUpEchoes 24 = .ok (.iconst 1, 1) := by decide +kernel
theorem dX8_addUpEchoes_25 : decode cX8_addUpEchoes 25 = .ok (.dup2, 1) := by decide +kernel
theorem dX8_addUpEchoes_26 : decode cX8_addUpEchoes 26 = .ok (.laload, 1) := by decide +kernel
theorem dX8_addUpEchoes_27 : decode cX8_addUpEchoes 27 = .ok (.aload_n 0, 1) := by decide +kernel
theorem dX8_addUpEchoes_28 : decode cX8_addUpEchoes 28 = .ok (.getfield 19, 3) := by decide +kernel
theorem dX8_addUpEchoes_31 : decode cX8_addUpEchoes 31 = .ok (.iload_n 1, 1) := by decide +kernel
theorem dX8_addUpEchoes_32 : decode cX8_addUpEchoes 32 = .ok (.laload, 1) := by decide +kernel
theorem dX8_addUpEchoes_33 : decode cX8_addUpEchoes 33 = .ok (.ladd, 1) := by decide +kernel
theorem dX8_addUpEchoes_34 : decode cX8_addUpEchoes 34 = .ok (.lastore, 1) := by decide +kernel
theorem dX8_addUpEchoes_35 : decode cX8_addUpEchoes 35 = .ok (.aload_n 0, 1) := by decide +kernel
theorem dX8_addUpEchoes_36 : decode cX8_addUpEchoes 36 = .ok (.getfield 23, 3) := by decide +kernel
theorem dX8_addUpEchoes_39 : decode cX8_addUpEchoes 39 = .ok (.bipush 7, 2) := by decide +kernel
theorem dX8_addUpEchoes_41 : decode cX8_addUpEchoes 41 = .ok (.dup2, 1) := by decide +kernel
theorem dX8_addUpEchoes_42 : decode cX8_addUpEchoes 42 = .ok (.laload, 1) := by decide +kernel
theorem dX8_addUpEchoes_43 : decode cX8_addUpEchoes 43 = .ok (.lconst 1, 1) := by decide +kernel
theorem dX8_addUpEchoes_44 : decode cX8_addUpEchoes 44 = .ok (.ladd, 1) := by decide +kernel
theorem dX8_addUpEchoes_45 : decode cX8_addUpEchoes 45 = .ok (.lastore, 1) := by decide +kernel
theorem dX8_addUpEchoes_46 : decode cX8_addUpEchoes 46 = .ok (.aload_n 0, 1) := by decide +kernel
theorem dX8_addUpEchoes_47 : decode cX8_addUpEchoes 47 = .ok (.getfield 23, 3) := by decide +kernel
theorem dX8_addUpEchoes_50 : decode cX8_addUpEchoes 50 = .ok (.bipush 8, 2) := by decide +kernel
theorem dX8_addUpEchoes_52 : decode cX8_addUpEchoes 52 = .ok (.aload_n 0, 1) := by decide +kernel
theorem dX8_addUpEchoes_53 : decode cX8_addUpEchoes 53 = .ok (.getfield 23, 3) := by decide +kernel
theorem dX8_addUpEchoes_56 : decode cX8_addUpEchoes 56 = .ok (.bipush 8, 2) := by decide +kernel
theorem dX8_addUpEchoes_58 : decode cX8_addUpEchoes 58 = .ok (.laload, 1) := by decide +kernel
theorem dX8_addUpEchoes_59 : decode cX8_addUpEchoes 59 = .ok (.aload_n 0, 1) := by decide +kernel
theorem dX8_addUpEchoes_60 : decode cX8_addUpEchoes 60 = .ok (.getfield 19, 3) := by decide +kernel
theorem dX8_addUpEchoes_63 : decode cX8_addUpEchoes 63 = .ok (.iload_n 1, 1) := by decide +kernel
theorem dX8_addUpEchoes_64 : decode cX8_addUpEchoes 64 = .ok (.laload, 1) := by decide +kernel
theorem dX8_addUpEchoes_65 : decode cX8_addUpEchoes 65 = .ok (.invokestatic 69, 3) := by decide +kernel
theorem dX8_addUpEchoes_68 : decode cX8_addUpEchoes 68 = .ok (.lastore, 1) := by decide +kernel
theorem dX8_addUpEchoes_69 : decode cX8_addUpEchoes 69 = .ok (.iinc 1 1, 3) := by decide +kernel
theorem dX8_addUpEchoes_72 : decode cX8_addUpEchoes 72 = .ok (.goto (-70), 3) := by decide +kernel
theorem dX8_addUpEchoes_75 : decode cX8_addUpEchoes 75 = .ok (.return_, 1) := by decide +kernel
theorem dX8_meetFront_0 : decode cX8_meetFront 0 = .ok (.aload_n 0, 1) := by decide +kernel
theorem dX8_meetFront_1 : decode cX8_meetFront 1 = .ok (.getfield 16, 3) := by decide +kernel
theorem dX8_meetFront_4 : decode cX8_meetFront 4 = .ok (.iconst 0, 1) := by decide +kernel
theorem dX8_meetFront_5 : decode cX8_meetFront 5 = .ok (.aaload, 1) := by decide +kernel
theorem dX8_meetFront_6 : decode cX8_meetFront 6 = .ok (.iload_n 2, 1) := by decide +kernel
theorem dX8_meetFront_7 : decode cX8_meetFront 7 = .ok (.laload, 1) := by decide +kernel
theorem dX8_meetFront_8 : decode cX8_meetFront 8 = .ok (.lstore_n 3, 1) := by decide +kernel
theorem dX8_meetFront_9 : decode cX8_meetFront 9 = .ok (.lload_n 3, 1) := by decide +kernel
theorem dX8_meetFront_10 : decode cX8_meetFront 10 = .ok (.aload_n 1, 1) := by decide +kernel
theorem dX8_meetFront_11 : decode cX8_meetFront 11 = .ok (.getfield 75, 3) := by decide +kernel
theorem dX8_meetFront_14 : decode cX8_meetFront 14 = .ok (.invokestatic 78, 3) := by decide +kernel
theorem dX8_meetFront_17 : decode cX8_meetFront 17 = .ok (.lstore 5, 2) := by decide +kernel
theorem dX8_meetFront_19 : decode cX8_meetFront 19 = .ok (.lload 5, 2) := by decide +kernel
theorem dX8_meetFront_21 : decode cX8_meetFront 21 = .ok (.lconst 0, 1) := by decide +kernel
theorem dX8_meetFront_22 : decode cX8_meetFront 22 = .ok (.lcmp, 1) := by decide +kernel
theorem dX8_meetFront_23 : decode cX8_meetFront 23 = .ok (.ifCond .le 7, 3) := by decide +kernel
theorem dX8_meetFront_26 : decode cX8_meetFront 26 = .ok (.iconst 1, 1) := by decide +kernel
theorem dX8_meetFront_27 : decode cX8_meetFront 27 = .ok (.goto 4, 3) := by decide +kernel
theorem dX8_meetFront_30 : decode cX8_meetFront 30 = .ok (.iconst 0, 1) := by decide +kernel
theorem dX8_meetFront_31 : decode cX8_meetFront 31 = .ok (.istore 7, 2) := by decide +kernel
theorem dX8_meetFront_33 : decode cX8_meetFront 33 = .ok (.aload_n 0, 1) := by decide +kernel
theorem dX8_meetFront_34 : decode cX8_meetFront 34 = .ok (.getfield 19, 3) := by decide +kernel
theorem dX8_meetFront_37 : decode cX8_meetFront 37 = .ok (.iload_n 2, 1) := by decide +kernel
theorem dX8_meetFront_38 : decode cX8_meetFront 38 = .ok (.lload_n 3, 1) := by decide +kernel
theorem dX8_meetFront_39 : decode cX8_meetFront 39 = .ok (.lload 5, 2) := by decide +kernel
theorem dX8_meetFront_41 : decode cX8_meetFront 41 = .ok (.lsub, 1) := by decide +kernel
theorem dX8_meetFront_42 : decode cX8_meetFront 42 = .ok (.lastore, 1) := by decide +kernel
theorem dX8_meetFront_43 : decode cX8_meetFront 43 = .ok (.iconst 0, 1) := by decide +kernel
theorem dX8_meetFront_44 : decode cX8_meetFront 44 = .ok (.istore 8, 2) := by decide +kernel
theorem dX8_meetFront_46 : decode cX8_meetFront 46 = .ok (.iload 8, 2) := by decide +kernel
theorem dX8_meetFront_48 : decode cX8_meetFront 48 = .ok (.aload_n 1, 1) := by decide +kernel
theorem dX8_meetFront_49 : decode cX8_meetFront 49 = .ok (.getfield 59, 3) := by decide +kernel
theorem dX8_meetFront_52 : decode cX8_meetFront 52 = .ok (.if_icmp .ge 36, 3) := by decide +kernel
theorem dX8_meetFront_55 : decode cX8_meetFront 55 = .ok (.aload_n 1, 1) := by decide +kernel
theorem dX8_meetFront_56 : decode cX8_meetFront 56 = .ok (.getfield 62, 3) := by decide +kernel
theorem dX8_meetFront_59 : decode cX8_meetFront 59 = .ok (.iload 8, 2) := by decide +kernel
theorem dX8_meetFront_61 : decode cX8_meetFront 61 = .ok (.iaload, 1) := by decide +kernel
theorem dX8_meetFront_62 : decode cX8_meetFront 62 = .ok (.iload_n 2, 1) := by decide +kernel
theorem dX8_meetFront_63 : decode cX8_meetFront 63 = .ok (.if_icmp .ne 19, 3) := by decide +kernel
theorem dX8_meetFront_66 : decode cX8_meetFront 66 = .ok (.lload 5, 2) := by decide +kernel
theorem dX8_meetFront_68 : decode cX8_meetFront 68 = .ok (.aload_n 1, 1) := by decide +kernel
theorem dX8_meetFront_69 : decode cX8_meetFront 69 = .ok (.getfield 66, 3) := by decide +kernel
theorem dX8_meetFront_72 : decode cX8_meetFront 72 = .ok (.iload 8, 2) := by decide +kernel
theorem dX8_meetFront_74 : decode cX8_meetFront 74 = .ok (.iaload, 1) := by decide +kernel
theorem dX8_meetFront_75 : decode cX8_meetFront 75 = .ok (.i2l, 1) := by decide +kernel
theorem dX8_meetFront_76 : decode cX8_meetFront 76 = .ok (.ladd, 1) := by decide +kernel
theorem dX8_meetFront_77 : decode cX8_meetFront 77 = .ok (.lstore 5, 2) := by decide +kernel
theorem dX8_meetFront_79 : decode cX8_meetFront 79 = .ok (.iinc 7 1, 3) := by decide +kernel
theorem dX8_meetFront_82 : decode cX8_meetFront 82 = .ok (.iinc 8 1, 3) := by decide +kernel
theorem dX8_meetFront_85 : decode cX8_meetFront 85 = .ok (.goto (-39), 3) := by decide +kernel
theorem dX8_meetFront_88 : decode cX8_meetFront 88 = .ok (.iload 7, 2) := by decide +kernel
theorem dX8_meetFront_90 : decode cX8_meetFront 90 = .ok (.iconst 1, 1) := by decide +kernel
theorem dX8_meetFront_91 : decode cX8_meetFront 91 = .ok (.if_icmp .le 13, 3) := by decide +kernel
theorem dX8_meetFront_94 : decode cX8_meetFront 94 = .ok (.aload_n 0, 1) := by decide +kernel
theorem dX8_meetFront_95 : decode cX8_meetFront 95 = .ok (.getfield 23, 3) := by decide +kernel
theorem dX8_meetFront_98 : decode cX8_meetFront 98 = .ok (.iconst 5, 1) := by decide +kernel
theorem dX8_meetFront_99 : decode cX8_meetFront 99 = .ok (.dup2, 1) := by decide +kernel
theorem dX8_meetFront_100 : decode cX8_meetFront 100 = .ok (.laload, 1) := by decide +kernel
theorem dX8_meetFront_101 : decode cX8_meetFront 101 = .ok (.lconst 1, 1) := by decide +kernel
theorem dX8_meetFront_102 : decode cX8_meetFront 102 = .ok (.ladd, 1) := by decide +kernel
theorem dX8_meetFront_103 : decode cX8_meetFront 103 = .ok (.lastore, 1) := by decide +kernel
theorem dX8_meetFront_104 : decode cX8_meetFront 104 = .ok (.aload_n 0, 1) := by decide +kernel
theorem dX8_meetFront_105 : decode cX8_meetFront 105 = .ok (.aload_n 1, 1) := by decide +kernel
theorem dX8_meetFront_106 : decode cX8_meetFront 106 = .ok (.iconst 0, 1) := by decide +kernel
theorem dX8_meetFront_107 : decode cX8_meetFront 107 = .ok (.iconst 1, 1) := by decide +kernel
theorem dX8_meetFront_108 : decode cX8_meetFront 108 = .ok (.iload_n 2, 1) := by decide +kernel
theorem dX8_meetFront_109 : decode cX8_meetFront 109 = .ok (.lload 5, 2) := by decide +kernel
theorem dX8_meetFront_111 : decode cX8_meetFront 111 = .ok (.invokevirtual 82, 3) := by decide +kernel
theorem dX8_meetFront_114 : decode cX8_meetFront 114 = .ok (.return_, 1) := by decide +kernel
theorem dX8_meetJoint_0 : decode cX8_meetJoint 0 = .ok (.aload_n 0, 1) := by decide +kernel
theorem dX8_meetJoint_1 : decode cX8_meetJoint 1 = .ok (.getfield 11, 3) := by decide +kernel
theorem dX8_meetJoint_4 : decode cX8_meetJoint 4 = .ok (.iload_n 2, 1) := by decide +kernel
theorem dX8_meetJoint_5 : decode cX8_meetJoint 5 = .ok (.aaload, 1) := by decide +kernel
theorem dX8_meetJoint_6 : decode cX8_meetJoint 6 = .ok (.iload_n 3, 1) := by decide +kernel
theorem dX8_meetJoint_7 : decode cX8_meetJoint 7 = .ok (.laload, 1) := by decide +kernel
theorem dX8_meetJoint_8 : decode cX8_meetJoint 8 = .ok (.lstore 4, 2) := by decide +kernel
theorem dX8_meetJoint_10 : decode cX8_meetJoint 10 = .ok (.aload_n 0, 1) := by decide +kernel
theorem dX8_meetJoint_11 : decode cX8_meetJoint 11 = .ok (.getfield 16, 3) := by decide +kernel
theorem dX8_meetJoint_14 : decode cX8_meetJoint 14 = .ok (.iload_n 2, 1) := by decide +kernel
theorem dX8_meetJoint_15 : decode cX8_meetJoint 15 = .ok (.aaload, 1) := by decide +kernel
theorem dX8_meetJoint_16 : decode cX8_meetJoint 16 = .ok (.iload_n 3, 1) := by decide +kernel
theorem dX8_meetJoint_17 : decode cX8_meetJoint 17 = .ok (.laload, 1) := by decide +kernel
theorem dX8_meetJoint_18 : decode cX8_meetJoint 18 = .ok (.lstore 6, 2) := by decide +kernel
theorem dX8_meetJoint_20 : decode cX8_meetJoint 20 = .ok (.lload 4, 2) := by decide +kernel
theorem dX8_meetJoint_22 : decode cX8_meetJoint 22 = .ok (.lconst 0, 1) := by decide +kernel
theorem dX8_meetJoint_23 : decode cX8_meetJoint 23 = .ok (.lcmp, 1) := by decide +kernel
theorem dX8_meetJoint_24 : decode cX8_meetJoint 24 = .ok (.ifCond .ne 11, 3) := by decide +kernel
theorem dX8_meetJoint_27 : decode cX8_meetJoint 27 = .ok (.lload 6, 2) := by decide +kernel
theorem dX8_meetJoint_29 : decode cX8_meetJoint 29 = .ok (.lconst 0, 1) := by decide +kernel
theorem dX8_meetJoint_30 : decode cX8_meetJoint 30 = .ok (.lcmp, 1) := by decide +kernel
theorem dX8_meetJoint_31 : decode cX8_meetJoint 31 = .ok (.ifCond .ne 4, 3) := by decide +kernel
theorem dX8_meetJoint_34 : decode cX8_meetJoint 34 = .ok (.return_, 1) := by decide +kernel
theorem dX8_meetJoint_35 : decode cX8_meetJoint 35 = .ok (.aload_n 1, 1) := by decide +kernel
theorem dX8_meetJoint_36 : decode cX8_meetJoint 36 = .ok (.getfield 86, 3) := by decide +kernel
theorem dX8_meetJoint_39 : decode cX8_meetJoint 39 = .ok (.iload_n 2, 1) := by decide +kernel
theorem dX8_meetJoint_40 : decode cX8_meetJoint 40 = .ok (.iconst 1, 1) := by decide +kernel
theorem dX8_meetJoint_41 : decode cX8_meetJoint 41 = .ok (.isub, 1) := by decide +kernel
theorem dX8_meetJoint_42 : decode cX8_meetJoint 42 = .ok (.iaload, 1) := by decide +kernel
theorem dX8_meetJoint_43 : decode cX8_meetJoint 43 = .ok (.istore 8, 2) := by decide +kernel
theorem dX8_meetJoint_45 : decode cX8_meetJoint 45 = .ok (.lload 4, 2) := by decide +kernel
theorem dX8_meetJoint_47 : decode cX8_meetJoint 47 = .ok (.iload 8, 2) := by decide +kernel
theorem dX8_meetJoint_49 : decode cX8_meetJoint 49 = .ok (.invokestatic 78, 3) := by decide +kernel
theorem dX8_meetJoint_52 : decode cX8_meetJoint 52 = .ok (.lstore 9, 2) := by decide +kernel
theorem dX8_meetJoint_54 : decode cX8_meetJoint 54 = .ok (.lload 6, 2) := by decide +kernel
theorem dX8_meetJoint_56 : decode cX8_meetJoint 56 = .ok (.iload 8, 2) := by decide +kernel
theorem dX8_meetJoint_58 : decode cX8_meetJoint 58 = .ok (.invokestatic 78, 3) := by decide +kernel
theorem dX8_meetJoint_61 : decode cX8_meetJoint 61 = .ok (.lstore 11, 2) := by decide +kernel
theorem dX8_meetJoint_63 : decode cX8_meetJoint 63 = .ok (.aload_n 0, 1) := by decide +kernel
theorem dX8_meetJoint_64 : decode cX8_meetJoint 64 = .ok (.lload 9, 2) := by decide +kernel
theorem dX8_meetJoint_66 : decode cX8_meetJoint 66 = .ok (.lload 6, 2) := by decide +kernel
theorem dX8_meetJoint_68 : decode cX8_meetJoint 68 = .ok (.lload 11, 2) := by decide +kernel
theorem dX8_meetJoint_70 : decode cX8_meetJoint 70 = .ok (.lsub, 1) := by decide +kernel
theorem dX8_meetJoint_71 : decode cX8_meetJoint 71 = .ok (.invokevirtual 89, 3) := by decide +kernel
theorem dX8_meetJoint_74 : decode cX8_meetJoint 74 = .ok (.aload_n 0, 1) := by decide +kernel
theorem dX8_meetJoint_75 : decode cX8_meetJoint 75 = .ok (.aload_n 1, 1) := by decide +kernel
theorem dX8_meetJoint_76 : decode cX8_meetJoint 76 = .ok (.iload_n 2, 1) := by decide +kernel
theorem dX8_meetJoint_77 : decode cX8_meetJoint 77 = .ok (.iconst 1, 1) := by decide +kernel
theorem dX8_meetJoint_78 : decode cX8_meetJoint 78 = .ok (.isub, 1) := by decide +kernel
theorem dX8_meetJoint_79 : decode cX8_meetJoint 79 = .ok (.iconst 0, 1) := by decide +kernel
theorem dX8_meetJoint_80 : decode cX8_meetJoint 80 = .ok (.iload_n 3, 1) := by decide +kernel
theorem dX8_meetJoint_81 : decode cX8_meetJoint 81 = .ok (.lload 9, 2) := by decide +kernel
theorem dX8_meetJoint_83 : decode cX8_meetJoint 83 = .ok (.lload 6, 2) := by decide +kernel
theorem dX8_meetJoint_85 : decode cX8_meetJoint 85 = .ok (.ladd, 1) := by decide +kernel
theorem dX8_meetJoint_86 : decode cX8_meetJoint 86 = .ok (.lload 11, 2) := by decide +kernel
theorem dX8_meetJoint_88 : decode cX8_meetJoint 88 = .ok (.lsub, 1) := by decide +kernel
theorem dX8_meetJoint_89 : decode cX8_meetJoint 89 = .ok (.invokevirtual 82, 3) := by decide +kernel
theorem dX8_meetJoint_92 : decode cX8_meetJoint 92 = .ok (.iload_n 2, 1) := by decide +kernel
theorem dX8_meetJoint_93 : decode cX8_meetJoint 93 = .ok (.aload_n 1, 1) := by decide +kernel
theorem dX8_meetJoint_94 : decode cX8_meetJoint 94 = .ok (.getfield 33, 3) := by decide +kernel
theorem dX8_meetJoint_97 : decode cX8_meetJoint 97 = .ok (.if_icmp .ge 33, 3) := by decide +kernel
theorem dX8_meetJoint_100 : decode cX8_meetJoint 100 = .ok (.aload_n 0, 1) := by decide +kernel
theorem dX8_meetJoint_101 : decode cX8_meetJoint 101 = .ok (.lload 4, 2) := by decide +kernel
theorem dX8_meetJoint_103 : decode cX8_meetJoint 103 = .ok (.lload 9, 2) := by decide +kernel
theorem dX8_meetJoint_105 : decode cX8_meetJoint 105 = .ok (.lsub, 1) := by decide +kernel
theorem dX8_meetJoint_106 : decode cX8_meetJoint 106 = .ok (.lload 11, 2) := by decide +kernel
theorem dX8_meetJoint_108 : decode cX8_meetJoint 108 = .ok (.invokevirtual 89, 3) := by decide +kernel
theorem dX8_meetJoint_111 : decode cX8_meetJoint 111 = .ok (.aload_n 0, 1) := by decide +kernel
theorem dX8_meetJoint_112 : decode cX8_meetJoint 112 = .ok (.aload_n 1, 1) := by decide +kernel
theorem dX8_meetJoint_113 : decode cX8_meetJoint 113 = .ok (.iload_n 2, 1) := by decide +kernel
theorem dX8_meetJoint_114 : decode cX8_meetJoint 114 = .ok (.iconst 1, 1) := by decide +kernel
theorem dX8_meetJoint_115 : decode cX8_meetJoint 115 = .ok (.iload_n 3, 1) := by decide +kernel
theorem dX8_meetJoint_116 : decode cX8_meetJoint 116 = .ok (.lload 4, 2) := by decide +kernel
theorem dX8_meetJoint_118 : decode cX8_meetJoint 118 = .ok (.lload 9, 2) := by decide +kernel
theorem dX8_meetJoint_120 : decode cX8_meetJoint 120 = .ok (.lsub, 1) := by decide +kernel
theorem dX8_meetJoint_121 : decode cX8_meetJoint 121 = .ok (.lload 11, 2) := by decide +kernel
theorem dX8_meetJoint_123 : decode cX8_meetJoint 123 = .ok (.ladd, 1) := by decide +kernel
theorem dX8_meetJoint_124 : decode cX8_meetJoint 124 = .ok (.invokevirtual 82, 3) := by decide +kernel
theorem dX8_meetJoint_127 : decode cX8_meetJoint 127 = .ok (.goto 17, 3) := by decide +kernel
theorem dX8_meetJoint_130 : decode cX8_meetJoint 130 = .ok (.aload_n 0, 1) := by decide +kernel
theorem dX8_meetJoint_131 : decode cX8_meetJoint 131 = .ok (.getfield 23, 3) := by decide +kernel
theorem dX8_meetJoint_134 : decode cX8_meetJoint 134 = .ok (.iconst 2, 1) := by decide +kernel
theorem dX8_meetJoint_135 : decode cX8_meetJoint 135 = .ok (.dup2, 1) := by decide +kernel
theorem dX8_meetJoint_136 : decode cX8_meetJoint 136 = .ok (.laload, 1) := by decide +kernel
theorem dX8_meetJoint_137 : decode cX8_meetJoint 137 = .ok (.lload 4, 2) := by decide +kernel
theorem dX8_meetJoint_139 : decode cX8_meetJoint 139 = .ok (.lload 9, 2) := by decide +kernel
theorem dX8_meetJoint_141 : decode cX8_meetJoint 141 = .ok (.lsub, 1) := by decide +kernel
theorem dX8_meetJoint_142 : decode cX8_meetJoint 142 = .ok (.ladd, 1) := by decide +kernel
theorem dX8_meetJoint_143 : decode cX8_meetJoint 143 = .ok (.lastore, 1) := by decide +kernel
theorem dX8_meetJoint_144 : decode cX8_meetJoint 144 = .ok (.return_, 1) := by decide +kernel
theorem dX8_countMerging_0 : decode cX8_countMerging 0 = .ok (.lload_n 1, 1) := by decide +kernel
theorem dX8_countMerging_1 : decode cX8_countMerging 1 = .ok (.lconst 0, 1) := by decide +kernel
theorem dX8_countMerging_2 : decode cX8_countMerging 2 = .ok (.lcmp, 1) := by decide +kernel
theorem dX8_countMerging_3 : decode cX8_countMerging 3 = .ok (.ifCond .le 19, 3) := by decide +kernel
theorem dX8_countMerging_6 : decode cX8_countMerging 6 = .ok (.lload_n 3, 1) := by decide +kernel
theorem dX8_countMerging_7 : decode cX8_countMerging 7 = .ok (.lconst 0, 1) := by decide +kernel
theorem dX8_countMerging_8 : decode cX8_countMerging 8 = .ok (.lcmp, 1) := by decide +kernel
theorem dX8_countMerging_9 : decode cX8_countMerging 9 = .ok (.ifCond .le 13, 3) := by decide +kernel
theorem dX8_countMerging_12 : decode cX8_countMerging 12 = .ok (.aload_n 0, 1) := by decide +kernel
theorem dX8_countMerging_13 : decode cX8_countMerging 13 = .ok (.getfield 23, 3) := by decide +kernel
theorem dX8_countMerging_16 : decode cX8_countMerging 16 = .ok (.iconst 5, 1) := by decide +kernel
theorem dX8_countMerging_17 : decode cX8_countMerging 17 = .ok (.dup2, 1) := by decide +kernel
theorem dX8_countMerging_18 : decode cX8_countMerging 18 = .ok (.laload, 1) := by decide +kernel
theorem dX8_countMerging_19 : decode cX8_countMerging 19 = .ok (.lconst 1, 1) := by decide +kernel
theorem dX8_countMerging_20 : decode cX8_countMerging 20 = .ok (.ladd, 1) := by decide +kernel
theorem dX8_countMerging_21 : decode cX8_countMerging 21 = .ok (.lastore, 1) := by decide +kernel
theorem dX8_countMerging_22 : decode cX8_countMerging 22 = .ok (.return_, 1) := by decide +kernel
theorem dX8_setOut_0 : decode cX8_setOut 0 = .ok (.lload 5, 2) := by decide +kernel
theorem dX8_setOut_2 : decode cX8_setOut 2 = .ok (.lconst 0, 1) := by decide +kernel
theorem dX8_setOut_3 : decode cX8_setOut 3 = .ok (.lcmp, 1) := by decide +kernel
theorem dX8_setOut_4 : decode cX8_setOut 4 = .ok (.ifCond .ne 4, 3) := by decide +kernel
theorem dX8_setOut_7 : decode cX8_setOut 7 = .ok (.return_, 1) := by decide +kernel
theorem dX8_setOut_8 : decode cX8_setOut 8 = .ok (.iload 4, 2) := by decide +kernel
theorem dX8_setOut_10 : decode cX8_setOut 10 = .ok (.aload_n 1, 1) := by decide +kernel
theorem dX8_setOut_11 : decode cX8_setOut 11 = .ok (.getfield 93, 3) := by decide +kernel
theorem dX8_setOut_14 : decode cX8_setOut 14 = .ok (.iload_n 2, 1) := by decide +kernel
theorem dX8_setOut_15 : decode cX8_setOut 15 = .ok (.iaload, 1) := by decide +kernel
theorem dX8_setOut_16 : decode cX8_setOut 16 = .ok (.iadd, 1) := by decide +kernel
theorem dX8_setOut_17 : decode cX8_setOut 17 = .ok (.istore 7, 2) := by decide +kernel
theorem dX8_setOut_19 : decode cX8_setOut 19 = .ok (.lload 5, 2) := by decide +kernel
theorem dX8_setOut_21 : decode cX8_setOut 21 = .ok (.aload_n 1, 1) := by decide +kernel
theorem dX8_setOut_22 : decode cX8_setOut 22 = .ok (.getfield 96, 3) := by decide +kernel
theorem dX8_setOut_25 : decode cX8_setOut 25 = .ok (.i2l, 1) := by decide +kernel
theorem dX8_setOut_26 : decode cX8_setOut 26 = .ok (.lcmp, 1) := by decide +kernel
theorem dX8_setOut_27 : decode cX8_setOut 27 = .ok (.ifCond .ge 28, 3) := by decide +kernel
theorem dX8_setOut_30 : decode cX8_setOut 30 = .ok (.aload_n 0, 1) := by decide +kernel
theorem dX8_setOut_31 : decode cX8_setOut 31 = .ok (.getfield 23, 3) := by decide +kernel
theorem dX8_setOut_34 : decode cX8_setOut 34 = .ok (.iconst 3, 1) := by decide +kernel
theorem dX8_setOut_35 : decode cX8_setOut 35 = .ok (.dup2, 1) := by decide +kernel
theorem dX8_setOut_36 : decode cX8_setOut 36 = .ok (.laload, 1) := by decide +kernel
theorem dX8_setOut_37 : decode cX8_setOut 37 = .ok (.lload 5, 2) := by decide +kernel
theorem dX8_setOut_39 : decode cX8_setOut 39 = .ok (.ladd, 1) := by decide +kernel
theorem dX8_setOut_40 : decode cX8_setOut 40 = .ok (.lastore, 1) := by decide +kernel
theorem dX8_setOut_41 : decode cX8_setOut 41 = .ok (.aload_n 0, 1) := by decide +kernel
theorem dX8_setOut_42 : decode cX8_setOut 42 = .ok (.getfield 23, 3) := by decide +kernel
theorem dX8_setOut_45 : decode cX8_setOut 45 = .ok (.bipush 6, 2) := by decide +kernel
theorem dX8_setOut_47 : decode cX8_setOut 47 = .ok (.dup2, 1) := by decide +kernel
theorem dX8_setOut_48 : decode cX8_setOut 48 = .ok (.laload, 1) := by decide +kernel
theorem dX8_setOut_49 : decode cX8_setOut 49 = .ok (.lconst 1, 1) := by decide +kernel
theorem dX8_setOut_50 : decode cX8_setOut 50 = .ok (.ladd, 1) := by decide +kernel
theorem dX8_setOut_51 : decode cX8_setOut 51 = .ok (.lastore, 1) := by decide +kernel
theorem dX8_setOut_52 : decode cX8_setOut 52 = .ok (.goto 57, 3) := by decide +kernel
theorem dX8_setOut_55 : decode cX8_setOut 55 = .ok (.iload 7, 2) := by decide +kernel
theorem dX8_setOut_57 : decode cX8_setOut 57 = .ok (.aload_n 1, 1) := by decide +kernel
theorem dX8_setOut_58 : decode cX8_setOut 58 = .ok (.getfield 39, 3) := by decide +kernel
theorem dX8_setOut_61 : decode cX8_setOut 61 = .ok (.if_icmp .le 17, 3) := by decide +kernel
theorem dX8_setOut_64 : decode cX8_setOut 64 = .ok (.aload_n 0, 1) := by decide +kernel
theorem dX8_setOut_65 : decode cX8_setOut 65 = .ok (.getfield 23, 3) := by decide +kernel
theorem dX8_setOut_68 : decode cX8_setOut 68 = .ok (.iconst 4, 1) := by decide +kernel
theorem dX8_setOut_69 : decode cX8_setOut 69 = .ok (.dup2, 1) := by decide +kernel
theorem dX8_setOut_70 : decode cX8_setOut 70 = .ok (.laload, 1) := by decide +kernel
theorem dX8_setOut_71 : decode cX8_setOut 71 = .ok (.lload 5, 2) := by decide +kernel
theorem dX8_setOut_73 : decode cX8_setOut 73 = .ok (.ladd, 1) := by decide +kernel
theorem dX8_setOut_74 : decode cX8_setOut 74 = .ok (.lastore, 1) := by decide +kernel
theorem dX8_setOut_75 : decode cX8_setOut 75 = .ok (.goto 34, 3) := by decide +kernel
theorem dX8_setOut_78 : decode cX8_setOut 78 = .ok (.iload_n 3, 1) := by decide +kernel
theorem dX8_setOut_79 : decode cX8_setOut 79 = .ok (.ifCond .eq 19, 3) := by decide +kernel
theorem dX8_setOut_82 : decode cX8_setOut 82 = .ok (.aload_n 0, 1) := by decide +kernel
theorem dX8_setOut_83 : decode cX8_setOut 83 = .ok (.getfield 11, 3) := by decide +kernel
theorem dX8_setOut_86 : decode cX8_setOut 86 = .ok (.iload_n 2, 1) := by decide +kernel
theorem dX8_setOut_87 : decode cX8_setOut 87 = .ok (.iconst 1, 1) := by decide +kernel
theorem dX8_setOut_88 : decode cX8_setOut 88 = .ok (.iadd, 1) := by decide +kernel
theorem dX8_setOut_89 : decode cX8_setOut 89 = .ok (.aaload, 1) := by decide +kernel
theorem dX8_setOut_90 : decode cX8_setOut 90 = .ok (.iload 7, 2) := by decide +kernel
theorem dX8_setOut_92 : decode cX8_setOut 92 = .ok (.lload 5, 2) := by decide +kernel
theorem dX8_setOut_94 : decode cX8_setOut 94 = .ok (.lastore, 1) := by decide +kernel
theorem dX8_setOut_95 : decode cX8_setOut 95 = .ok (.goto 14, 3) := by decide +kernel
theorem dX8_setOut_98 : decode cX8_setOut 98 = .ok (.aload_n 0, 1) := by decide +kernel
theorem dX8_setOut_99 : decode cX8_setOut 99 = .ok (.getfield 16, 3) := by decide +kernel
theorem dX8_setOut_102 : decode cX8_setOut 102 = .ok (.iload_n 2, 1) := by decide +kernel
theorem dX8_setOut_103 : decode cX8_setOut 103 = .ok (.aaload, 1) := by decide +kernel
theorem dX8_setOut_104 : decode cX8_setOut 104 = .ok (.iload 7, 2) := by decide +kernel
theorem dX8_setOut_106 : decode cX8_setOut 106 = .ok (.lload 5, 2) := by decide +kernel
theorem dX8_setOut_108 : decode cX8_setOut 108 = .ok (.lastore, 1) := by decide +kernel
theorem dX8_setOut_109 : decode cX8_setOut 109 = .ok (.return_, 1) := by decide +kernel
