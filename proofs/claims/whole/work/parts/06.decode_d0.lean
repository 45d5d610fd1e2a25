theorem dX9_init_0 : decode cX9_init 0 = .ok (.aload_n 0, 1) := by decide +kernel
theorem dX9_init_1 : decode cX9_init 1 = .ok (.invokespecial 3, 3) := by decide +kernel
theorem dX9_init_4 : decode cX9_init 4 = .ok (.aload_n 0, 1) := by decide +kernel
theorem dX9_init_5 : decode cX9_init 5 = .ok (.new 9, 3) := by decide +kernel
theorem dX9_init_8 : decode cX9_init 8 = .ok (.dup, 1) := by decide +kernel
theorem dX9_init_9 : decode cX9_init 9 = .ok (.invokespecial 11, 3) := by decide +kernel
theorem dX9_init_12 : decode cX9_init 12 = .ok (.putfield 12, 3) := by decide +kernel
theorem dX9_init_15 : decode cX9_init 15 = .ok (.aload_n 0, 1) := by decide +kernel
theorem dX9_init_16 : decode cX9_init 16 = .ok (.new 16, 3) := by decide +kernel
theorem dX9_init_19 : decode cX9_init 19 = .ok (.dup, 1) := by decide +kernel
theorem dX9_init_20 : decode cX9_init 20 = .ok (.invokespecial 18, 3) := by decide +kernel
theorem dX9_init_23 : decode cX9_init 23 = .ok (.putfield 19, 3) := by decide +kernel
theorem dX9_init_26 : decode cX9_init 26 = .ok (.aload_n 0, 1) := by decide +kernel
theorem dX9_init_27 : decode cX9_init 27 = .ok (.new 23, 3) := by decide +kernel
theorem dX9_init_30 : decode cX9_init 30 = .ok (.dup, 1) := by decide +kernel
theorem dX9_init_31 : decode cX9_init 31 = .ok (.invokespecial 25, 3) := by decide +kernel
theorem dX9_init_34 : decode cX9_init 34 = .ok (.putfield 26, 3) := by decide +kernel
theorem dX9_init_37 : decode cX9_init 37 = .ok (.aload_n 0, 1) := by decide +kernel
theorem dX9_init_38 : decode cX9_init 38 = .ok (.new 30, 3) := by decide +kernel
theorem dX9_init_41 : decode cX9_init 41 = .ok (.dup, 1) := by decide +kernel
theorem dX9_init_42 : decode cX9_init 42 = .ok (.invokespecial 32, 3) := by decide +kernel
theorem dX9_init_45 : decode cX9_init 45 = .ok (.putfield 33, 3) := by decide +kernel
theorem dX9_init_48 : decode cX9_init 48 = .ok (.aload_n 0, 1) := by decide +kernel
theorem dX9_init_49 : decode cX9_init 49 = .ok (.new 37, 3) := by decide +kernel
theorem dX9_init_52 : decode cX9_init 52 = .ok (.dup, 1) := by decide +kernel
theorem dX9_init_53 : decode cX9_init 53 = .ok (.invokespecial 39, 3) := by decide +kernel
theorem dX9_init_56 : decode cX9_init 56 = .ok (.putfield 40, 3) := by decide +kernel
theorem dX9_init_59 : decode cX9_init 59 = .ok (.aload_n 0, 1) := by decide +kernel
theorem dX9_init_60 : decode cX9_init 60 = .ok (.iconst 0, 1) := by decide +kernel
theorem dX9_init_61 : decode cX9_init 61 = .ok (.putfield 44, 3) := by decide +kernel
theorem dX9_init_64 : decode cX9_init 64 = .ok (.aload_n 0, 1) := by decide +kernel
theorem dX9_init_65 : decode cX9_init 65 = .ok (.iconst 0, 1) := by decide +kernel
theorem dX9_init_66 : decode cX9_init 66 = .ok (.putfield 48, 3) := by decide +kernel
theorem dX9_init_69 : decode cX9_init 69 = .ok (.return_, 1) := by decide +kernel
theorem dX9_addPart_0 : decode cX9_addPart 0 = .ok (.aload_n 0, 1) := by decide +kernel
theorem dX9_addPart_1 : decode cX9_addPart 1 = .ok (.getstatic 51, 3) := by decide +kernel
theorem dX9_addPart_4 : decode cX9_addPart 4 = .ok (.iload_n 1, 1) := by decide +kernel
theorem dX9_addPart_5 : decode cX9_addPart 5 = .ok (.iload_n 2, 1) := by decide +kernel
theorem dX9_addPart_6 : decode cX9_addPart 6 = .ok (.iconst 0, 1) := by decide +kernel
theorem dX9_addPart_7 : decode cX9_addPart 7 = .ok (.invokevirtual 57, 3) := by decide +kernel
theorem dX9_addPart_10 : decode cX9_addPart 10 = .ok (.ireturn, 1) := by decide +kernel
theorem dX9_setPart_0 : decode cX9_setPart 0 = .ok (.aload_n 0, 1) := by decide +kernel
theorem dX9_setPart_1 : decode cX9_setPart 1 = .ok (.getstatic 61, 3) := by decide +kernel
theorem dX9_setPart_4 : decode cX9_setPart 4 = .ok (.iload_n 1, 1) := by decide +kernel
theorem dX9_setPart_5 : decode cX9_setPart 5 = .ok (.iload_n 2, 1) := by decide +kernel
theorem dX9_setPart_6 : decode cX9_setPart 6 = .ok (.iload_n 3, 1) := by decide +kernel
theorem dX9_setPart_7 : decode cX9_setPart 7 = .ok (.invokevirtual 57, 3) := by decide +kernel
theorem dX9_setPart_10 : decode cX9_setPart 10 = .ok (.ireturn, 1) := by decide +kernel
theorem dX9_removePart_0 : decode cX9_removePart 0 = .ok (.aload_n 0, 1) := by decide +kernel
theorem dX9_removePart_1 : decode cX9_removePart 1 = .ok (.getstatic 64, 3) := by decide +kernel
theorem dX9_removePart_4 : decode cX9_removePart 4 = .ok (.iload_n 1, 1) := by decide +kernel
theorem dX9_removePart_5 : decode cX9_removePart 5 = .ok (.iconst 0, 1) := by decide +kernel
theorem dX9_removePart_6 : decode cX9_removePart 6 = .ok (.iconst 0, 1) := by decide +kernel
theorem dX9_removePart_7 : decode cX9_removePart 7 = .ok (.invokevirtual 57, 3) := by decide +kernel
theorem dX9_removePart_10 : decode cX9_removePart 10 = .ok (.ireturn, 1) := by decide +kernel
theorem dX9_splitPart_0 : decode cX9_splitPart 0 = .ok (.aload_n 0, 1) := by decide +kernel
theorem dX9_splitPart_1 : decode cX9_splitPart 1 = .ok (.getstatic 67, 3) := by decide +kernel
theorem dX9_splitPart_4 : decode cX9_splitPart 4 = .ok (.iload_n 1, 1) := by decide +kernel
theorem dX9_splitPart_5 : decode cX9_splitPart 5 = .ok (.iload_n 2, 1) := by decide +kernel
theorem dX9_splitPart_6 : decode cX9_splitPart 6 = .ok (.iload_n 3, 1) := by decide +kernel
theorem dX9_splitPart_7 : decode cX9_splitPart 7 = .ok (.invokevirtual 57, 3) := by decide +kernel
theorem dX9_splitPart_10 : decode cX9_splitPart 10 = .ok (.ireturn, 1) := by decide +kernel
theorem dX9_reverse_0 : decode cX9_reverse 0 = .ok (.aload_n 0, 1) := by decide +kernel
theorem dX9_reverse_1 : decode cX9_reverse 1 = .ok (.getfield 19, 3) := by decide +kernel
theorem dX9_reverse_4 : decode cX9_reverse 4 = .ok (.aload_n 0, 1) := by decide +kernel
theorem dX9_reverse_5 : decode cX9_reverse 5 = .ok (.getfield 12, 3) := by decide +kernel
theorem dX9_reverse_8 : decode cX9_reverse 8 = .ok (.invokevirtual 70, 3) := by decide +kernel
theorem dX9_reverse_11 : decode cX9_reverse 11 = .ok (.aload_n 0, 1) := by decide +kernel
theorem dX9_reverse_12 : decode cX9_reverse 12 = .ok (.invokevirtual 74, 3) := by decide +kernel
theorem dX9_reverse_15 : decode cX9_reverse 15 = .ok (.aload_n 0, 1) := by decide +kernel
theorem dX9_reverse_16 : decode cX9_reverse 16 = .ok (.getfield 12, 3) := by decide +kernel
theorem dX9_reverse_19 : decode cX9_reverse 19 = .ok (.getfield 77, 3) := by decide +kernel
theorem dX9_reverse_22 : decode cX9_reverse 22 = .ok (.invokevirtual 81, 3) := by decide +kernel
theorem dX9_reverse_25 : decode cX9_reverse 25 = .ok (.aload_n 0, 1) := by decide +kernel
theorem dX9_reverse_26 : decode cX9_reverse 26 = .ok (.getfield 12, 3) := by decide +kernel
theorem dX9_reverse_29 : decode cX9_reverse 29 = .ok (.getfield 77, 3) := by decide +kernel
theorem dX9_reverse_32 : decode cX9_reverse 32 = .ok (.aload_n 0, 1) := by decide +kernel
theorem dX9_reverse_33 : decode cX9_reverse 33 = .ok (.getfield 12, 3) := by decide +kernel
theorem dX9_reverse_36 : decode cX9_reverse 36 = .ok (.getfield 77, 3) := by decide +kernel
theorem dX9_reverse_39 : decode cX9_reverse 39 = .ok (.getfield 86, 3) := by decide +kernel
theorem dX9_reverse_42 : decode cX9_reverse 42 = .ok (.invokevirtual 90, 3) := by decide +kernel
theorem dX9_reverse_45 : decode cX9_reverse 45 = .ok (.ireturn, 1) := by decide +kernel
theorem dX9_setBench_0 : decode cX9_setBench 0 = .ok (.iload_n 1, 1) := by decide +kernel
theorem dX9_setBench_1 : decode cX9_setBench 1 = .ok (.i2l, 1) := by decide +kernel
theorem dX9_setBench_2 : decode cX9_setBench 2 = .ok (.lconst 0, 1) := by decide +kernel
theorem dX9_setBench_3 : decode cX9_setBench 3 = .ok (.ldc2_w 94, 3) := by decide +kernel
theorem dX9_setBench_6 : decode cX9_setBench 6 = .ok (.invokestatic 96, 3) := by decide +kernel
theorem dX9_setBench_9 : decode cX9_setBench 9 = .ok (.iload_n 2, 1) := by decide +kernel
theorem dX9_setBench_10 : decode cX9_setBench 10 = .ok (.i2l, 1) := by decide +kernel
theorem dX9_setBench_11 : decode cX9_setBench 11 = .ok (.lconst 0, 1) := by decide +kernel
theorem dX9_setBench_12 : decode cX9_setBench 12 = .ok (.ldc2_w 100, 3) := by decide +kernel
theorem dX9_setBench_15 : decode cX9_setBench 15 = .ok (.invokestatic 96, 3) := by decide +kernel
theorem dX9_setBench_18 : decode cX9_setBench 18 = .ok (.iload_n 3, 1) := by decide +kernel
theorem dX9_setBench_19 : decode cX9_setBench 19 = .ok (.i2l, 1) := by decide +kernel
theorem dX9_setBench_20 : decode cX9_setBench 20 = .ok (.lconst 1, 1) := by decide +kernel
theorem dX9_setBench_21 : decode cX9_setBench 21 = .ok (.ldc2_w 102, 3) := by decide +kernel
theorem dX9_setBench_24 : decode cX9_setBench 24 = .ok (.invokestatic 96, 3) := by decide +kernel
theorem dX9_setBench_27 : decode cX9_setBench 27 = .ok (.aload_n 0, 1) := by decide +kernel
theorem dX9_setBench_28 : decode cX9_setBench 28 = .ok (.getfield 12, 3) := by decide +kernel
theorem dX9_setBench_31 : decode cX9_setBench 31 = .ok (.getfield 77, 3) := by decide +kernel
theorem dX9_setBench_34 : decode cX9_setBench 34 = .ok (.getfield 104, 3) := by decide +kernel
theorem dX9_setBench_37 : decode cX9_setBench 37 = .ok (.istore 4, 2) := by decide +kernel
theorem dX9_setBench_39 : decode cX9_setBench 39 = .ok (.aload_n 0, 1) := by decide +kernel
theorem dX9_setBench_40 : decode cX9_setBench 40 = .ok (.getfield 19, 3) := by decide +kernel
theorem dX9_setBench_43 : decode cX9_setBench 43 = .ok (.aload_n 0, 1) := by decide +kernel
theorem dX9_setBench_44 : decode cX9_setBench 44 = .ok (.getfield 12, 3) := by decide +kernel
theorem dX9_setBench_47 : decode cX9_setBench 47 = .ok (.invokevirtual 70, 3) := by decide +kernel
theorem dX9_setBench_50 : decode cX9_setBench 50 = .ok (.aload_n 0, 1) := by decide +kernel
theorem dX9_setBench_51 : decode cX9_setBench 51 = .ok (.invokevirtual 74, 3) := by decide +kernel
theorem dX9_setBench_54 : decode cX9_setBench 54 = .ok (.aload_n 0, 1) := by decide +kernel
theorem dX9_setBench_55 : decode cX9_setBench 55 = .ok (.getfield 12, 3) := by decide +kernel
theorem dX9_setBench_58 : decode cX9_setBench 58 = .ok (.getfield 77, 3) := by decide +kernel
theorem dX9_setBench_61 : decode cX9_setBench 61 = .ok (.iload_n 1, 1) := by decide +kernel
theorem dX9_setBench_62 : decode cX9_setBench 62 = .ok (.putfield 107, 3) := by decide +kernel
theorem dX9_setBench_65 : decode cX9_setBench 65 = .ok (.aload_n 0, 1) := by decide +kernel
theorem dX9_setBench_66 : decode cX9_setBench 66 = .ok (.getfield 12, 3) := by decide +kernel
theorem dX9_setBench_69 : decode cX9_setBench 69 = .ok (.getfield 77, 3) := by decide +kernel
theorem dX9_setBench_72 : decode cX9_setBench 72 = .ok (.iload_n 2, 1) := by decide +kernel
theorem dX9_setBench_73 : decode cX9_setBench 73 = .ok (.putfield 110, 3) := by decide +kernel
theorem dX9_setBench_76 : decode cX9_setBench 76 = .ok (.aload_n 0, 1) := by decide +kernel
theorem dX9_setBench_77 : decode cX9_setBench 77 = .ok (.getfield 12, 3) := by decide +kernel
theorem dX9_setBench_80 : decode cX9_setBench 80 = .ok (.getfield 77, 3) := by decide +kernel
theorem dX9_setBench_83 : decode cX9_setBench 83 = .ok (.iload_n 3, 1) := by decide +kernel
theorem dX9_setBench_84 : decode cX9_setBench 84 = .ok (.putfield 104, 3) := by decide +kernel
theorem dX9_setBench_87 : decode cX9_setBench 87 = .ok (.iload 4, 2) := by decide +kernel
theorem dX9_setBench_89 : decode cX9_setBench 89 = .ok (.ireturn, 1) := by decide +kernel
theorem dX9_addPulse_0 : decode cX9_addPulse 0 = .ok (.aload_n 0, 1) := by decide +kernel
theorem dX9_addPulse_1 : decode cX9_addPulse 1 = .ok (.getstatic 113, 3) := by decide +kernel
theorem dX9_addPulse_4 : decode cX9_addPulse 4 = .ok (.iload_n 1, 1) := by decide +kernel
theorem dX9_addPulse_5 : decode cX9_addPulse 5 = .ok (.iload_n 2, 1) := by decide +kernel
theorem dX9_addPulse_6 : decode cX9_addPulse 6 = .ok (.iconst 0, 1) := by decide +kernel
theorem dX9_addPulse_7 : decode cX9_addPulse 7 = .ok (.invokevirtual 57, 3) := by decide +kernel
theorem dX9_addPulse_10 : decode cX9_addPulse 10 = .ok (.ireturn, 1) := by decide +kernel
theorem dX9_removePulse_0 : decode cX9_removePulse 0 = .ok (.iload_n 1, 1) := by decide +kernel
theorem dX9_removePulse_1 : decode cX9_removePulse 1 = .ok (.aload_n 0, 1) := by decide +kernel
theorem dX9_removePulse_2 : decode cX9_removePulse 2 = .ok (.getfield 12, 3) := by decide +kernel
theorem dX9_removePulse_5 : decode cX9_removePulse 5 = .ok (.getfield 77, 3) := by decide +kernel
theorem dX9_removePulse_8 : decode cX9_removePulse 8 = .ok (.getfield 116, 3) := by decide +kernel
theorem dX9_removePulse_11 : decode cX9_removePulse 11 = .ok (.invokestatic 119, 3) := by decide +kernel
theorem dX9_removePulse_14 : decode cX9_removePulse 14 = .ok (.aload_n 0, 1) := by decide +kernel
theorem dX9_removePulse_15 : decode cX9_removePulse 15 = .ok (.getfield 12, 3) := by decide +kernel
theorem dX9_removePulse_18 : decode cX9_removePulse 18 = .ok (.getfield 77, 3) := by decide +kernel
theorem dX9_removePulse_21 : decode cX9_removePulse 21 = .ok (.getfield 116, 3) := by decide +kernel
theorem dX9_removePulse_24 : decode cX9_removePulse 24 = .ok (.iconst 1, 1) := by decide +kernel
theorem dX9_removePulse_25 : decode cX9_removePulse 25 = .ok (.if_icmp .ne 13, 3) := by decide +kernel
theorem dX9_removePulse_28 : decode cX9_removePulse 28 = .ok (.new 123, 3) := by decide +kernel
theorem dX9_removePulse_31 : decode cX9_removePulse 31 = .ok (.dup, 1) := by decide +kernel
theorem dX9_removePulse_32 : decode cX9_removePulse 32 = .ok (.ldc 125, 2) := by decide +kernel
theorem dX9_removePulse_34 : decode cX9_removePulse 34 = .ok (.invokespecial 127, 3) := by decide +kernel
theorem dX9_removePulse_37 : decode cX9_removePulse 37 = .ok (.athrow, 1) := by decide +kernel
theorem dX9_removePulse_38 : decode cX9_removePulse 38 = .ok (.aload_n 0, 1) := by decide +kernel
theorem dX9_removePulse_39 : decode cX9_removePulse 39 = .ok (.getfield 19, 3) := by decide +kernel
theorem dX9_removePulse_42 : decode cX9_removePulse 42 = .ok (.aload_n 0, 1) := by decide +kernel
theorem dX9_removePulse_43 : decode cX9_removePulse 43 = .ok (.getfield 12, 3) := by decide +kernel
theorem dX9_removePulse_46 : decode cX9_removePulse 46 = .ok (.invokevirtual 70, 3) := by decide +kernel
theorem dX9_removePulse_49 : decode cX9_removePulse 49 = .ok (.aload_n 0, 1) := by decide +kernel
theorem dX9_removePulse_50 : decode cX9_removePulse 50 = .ok (.invokevirtual 74, 3) := by decide +kernel
theorem dX9_removePulse_53 : decode cX9_removePulse 53 = .ok (.aload_n 0, 1) := by decide +kernel
theorem dX9_removePulse_54 : decode cX9_removePulse 54 = .ok (.getfield 12, 3) := by decide +kernel
theorem dX9_removePulse_57 : decode cX9_removePulse 57 = .ok (.getfield 77, 3) := by decide +kernel
theorem dX9_removePulse_60 : decode cX9_removePulse 60 = .ok (.iload_n 1, 1) := by decide +kernel
theorem dX9_removePulse_61 : decode cX9_removePulse 61 = .ok (.invokevirtual 130, 3) := by decide +kernel
theorem dX9_removePulse_64 : decode cX9_removePulse 64 = .ok (.ireturn, 1) := by decide +kernel
theorem dX9_part_0 : decode cX9_part 0 = .ok (.iload_n 1, 1) := by decide +kernel
theorem dX9_part_1 : decode cX9_part 1 = .ok (.aload_n 0, 1) := by decide +kernel
theorem dX9_part_2 : decode cX9_part 2 = .ok (.getfield 12, 3) := by decide +kernel
theorem dX9_part_5 : decode cX9_part 5 = .ok (.getfield 77, 3) := by decide +kernel
theorem dX9_part_8 : decode cX9_part 8 = .ok (.getfield 86, 3) := by decide +kernel
theorem dX9_part_11 : decode cX9_part 11 = .ok (.invokestatic 119, 3) := by decide +kernel
theorem dX9_part_14 : decode cX9_part 14 = .ok (.iload_n 2, 1) := by decide +kernel
theorem dX9_part_15 : decode cX9_part 15 = .ok (.i2l, 1) := by decide +kernel
theorem dX9_part_16 : decode cX9_part 16 = .ok (.lconst 0, 1) := by decide +kernel
theorem dX9_part_17 : decode cX9_part 17 = .ok (.ldc2_w 133, 3) := by decide +kernel
theorem dX9_part_20 : decode cX9_part 20 = .ok (.invokestatic 96, 3) := by decide +kernel
theorem dX9_part_23 : decode cX9_part 23 = .ok (.iload_n 2, 1) := by decide +kernel
theorem dX9_part_24 : decode cX9_part 24 = .ok (.ifCond .ne 16, 3) := by decide +kernel
theorem dX9_part_27 : decode cX9_part 27 = .ok (.aload_n 0, 1) := by decide +kernel
theorem dX9_part_28 : decode cX9_part 28 = .ok (.getfield 12, 3) := by decide +kernel
theorem dX9_part_31 : decode cX9_part 31 = .ok (.getfield 77, 3) := by decide +kernel
theorem dX9_part_34 : decode cX9_part 34 = .ok (.getfield 135, 3) := by decide +kernel
theorem dX9_part_37 : decode cX9_part 37 = .ok (.iload_n 1, 1) := by decide +kernel
theorem dX9_part_38 : decode cX9_part 38 = .ok (.iaload, 1) := by decide +kernel
theorem dX9_part_39 : decode cX9_part 39 = .ok (.ireturn, 1) := by decide +kernel
theorem dX9_part_40 : decode cX9_part 40 = .ok (.iload_n 2, 1) := by decide +kernel
theorem dX9_part_41 : decode cX9_part 41 = .ok (.iconst 1, 1) := by decide +kernel
theorem dX9_part_42 : decode cX9_part 42 = .ok (.if_icmp .ne 18, 3) := by decide +kernel
theorem dX9_part_45 : decode cX9_part 45 = .ok (.aload_n 0, 1) := by decide +kernel
theorem dX9_part_46 : decode cX9_part 46 = .ok (.getfield 12, 3) := by decide +kernel
theorem dX9_part_49 : decode cX9_part 49 = .ok (.getfield 77, 3) := by decide +kernel
theorem dX9_part_52 : decode cX9_part 52 = .ok (.getfield 139, 3) := by decide +kernel
theorem dX9_part_55 : decode cX9_part 55 = .ok (.iload_n 1, 1) := by decide +kernel
theorem dX9_part_56 : decode cX9_part 56 = .ok (.iaload, 1) := by decide +kernel
theorem dX9_part_57 : decode cX9_part 57 = .ok (.goto 16, 3) := by decide +kernel
theorem dX9_part_60 : decode cX9_part 60 = .ok (.aload_n 0, 1) := by decide +kernel
theorem dX9_part_61 : decode cX9_part 61 = .ok (.getfield 12, 3) := by decide +kernel
theorem dX9_part_64 : decode cX9_part 64 = .ok (.getfield 77, 3) := by decide +kernel
theorem dX9_part_67 : decode cX9_part 67 = .ok (.iload_n 1, 1) := by decide +kernel
theorem dX9_part_68 : decode cX9_part 68 = .ok (.iconst 1, 1) := by decide +kernel
theorem dX9_part_69 : decode cX9_part 69 = .ok (.iadd, 1) := by decide +kernel
theorem dX9_part_70 : decode cX9_part 70 = .ok (.invokevirtual 90, 3) := by decide +kernel
theorem dX9_part_73 : decode cX9_part 73 = .ok (.ireturn, 1) := by decide +kernel
theorem dX9_bench_0 : decode cX9_bench 0 = .ok (.iload_n 1, 1) := by decide +kernel
theorem dX9_bench_1 : decode cX9_bench 1 = .ok (.i2l, 1) := by decide +kernel
theorem dX9_bench_2 : decode cX9_bench 2 = .ok (.lconst 0, 1) := by decide +kernel
theorem dX9_bench_3 : decode cX9_bench 3 = .ok (.ldc2_w 142, 3) := by decide +kernel
theorem dX9_bench_6 : decode cX9_bench 6 = .ok (.invokestatic 96, 3) := by decide +kernel
theorem dX9_bench_9 : decode cX9_bench 9 = .ok (.iload_n 1, 1) := by decide +kernel
theorem dX9_bench_10 : decode cX9_bench 10 = .ok (.tableswitch 89 0 4 #[34, 45, 56, 67, 78], 34) := by decide +kernel
theorem dX9_bench_44 : decode cX9_bench 44 = .ok (.aload_n 0, 1) := by decide +kernel
theorem dX9_bench_45 : decode cX9_bench 45 = .ok (.getfield 12, 3) := by decide +kernel
theorem dX9_bench_48 : decode cX9_bench 48 = .ok (.getfield 77, 3) := by decide +kernel
theorem dX9_bench_51 : decode cX9_bench 51 = .ok (.getfield 86, 3) := by decide +kernel
theorem dX9_bench_54 : decode cX9_bench 54 = .ok (.ireturn, 1) := by decide +kernel
theorem dX9_bench_55 : decode cX9_bench 55 = .ok (.aload_n 0, 1) := by decide +kernel
theorem dX9_bench_56 : decode cX9_bench 56 = .ok (.getfield 12, 3) := by decide +kernel
theorem dX9_bench_59 : decode cX9_bench 59 = .ok (.getfield 77, 3) := by decide +kernel
theorem dX9_bench_62 : decode cX9_bench 62 = .ok (.getfield 116, 3) := by decide +kernel
theorem dX9_bench_65 : decode cX9_bench 65 = .ok (.ireturn, 1) := by decide +kernel
theorem dX9_bench_66 : decode cX9_bench 66 = .ok (.aload_n 0, 1) := by decide +kernel
theorem dX9_bench_67 : decode cX9_bench 67 = .ok (.getfield 12, 3) := by decide +kernel
theorem dX9_bench_70 : decode cX9_bench 70 = .ok (.getfield 77, 3) := by decide +kernel
theorem dX9_bench_73 : decode cX9_bench 73 = .ok (.getfield 107, 3) := by decide +kernel
theorem dX9_bench_76 : decode cX9_bench 76 = .ok (.ireturn, 1) := by decide +kernel
theorem dX9_bench_77 : decode cX9_bench 77 = .ok (.aload_n 0, 1) := by decide +kernel
theorem dX9_bench_78 : decode cX9_bench 78 = .ok (.getfield 12, 3) := by decide +kernel
theorem dX9_bench_81 : decode cX9_bench 81 = .ok (.getfield 77, 3) := by decide +kernel
theorem dX9_bench_84 : decode cX9_bench 84 = .ok (.getfield 110, 3) := by decide +kernel
theorem dX9_bench_87 : decode cX9_bench 87 = .ok (.ireturn, 1) := by decide +kernel
theorem dX9_bench_88 : decode cX9_bench 88 = .ok (.aload_n 0, 1) := by decide +kernel
theorem dX9_bench_89 : decode cX9_bench 89 = .ok (.getfield 12, 3) := by decide +kernel
theorem dX9_bench_92 : decode cX9_bench 92 = .ok (.getfield 77, 3) := by decide +kernel
theorem dX9_bench_95 : decode cX9_bench 95 = .ok (.getfield 104, 3) := by decide +kernel
theorem dX9_bench_98 : decode cX9_bench 98 = .ok (.ireturn, 1) := by decide +kernel
theorem dX9_bench_99 : decode cX9_bench 99 = .ok (.aload_n 0, 1) := by decide +kernel
theorem dX9_bench_100 : decode cX9_bench 100 = .ok (.getfield 12, 3) := by decide +kernel
theorem dX9_bench_103 : decode cX9_bench 103 = .ok (.getfield 77, 3) := by decide +kernel
theorem dX9_bench_106 : decode cX9_bench 106 = .ok (.aload_n 0, 1) := by decide +kernel
theorem dX9_bench_107 : decode cX9_bench 107 = .ok (.getfield 12, 3) := by decide +kernel
theorem dX9_bench_110 : decode cX9_bench 110 = .ok (.getfield 77, 3) := by decide +kernel
theorem dX9_bench_113 : decode cX9_bench 113 = .ok (.getfield 86, 3) := by decide +kernel
theorem dX9_bench_116 : decode cX9_bench 116 = .ok (.invokevirtual 90, 3) := by decide +kernel
theorem dX9_bench_119 : decode cX9_bench 119 = .ok (.ireturn, 1) := by decide +kernel
theorem dX9_echo_0 : decode cX9_echo 0 = .ok (.iload_n 1, 1) := by decide +kernel
theorem dX9_echo_1 : decode cX9_echo 1 = .ok (.i2l, 1) := by decide +kernel
theorem dX9_echo_2 : decode cX9_echo 2 = .ok (.lconst 0, 1) := by decide +kernel
theorem dX9_echo_3 : decode cX9_echo 3 = .ok (.aload_n 0, 1) := by decide +kernel
theorem dX9_echo_4 : decode cX9_echo 4 = .ok (.getfield 12, 3) := by decide +kernel
theorem dX9_echo_7 : decode cX9_echo 7 = .ok (.getfield 77, 3) := by decide +kernel
theorem dX9_echo_10 : decode cX9_echo 10 = .ok (.getfield 104, 3) := by decide +kernel
theorem dX9_echo_13 : decode cX9_echo 13 = .ok (.i2l, 1) := by decide +kernel
theorem dX9_echo_14 : decode cX9_echo 14 = .ok (.invokestatic 96, 3) := by decide +kernel
theorem dX9_echo_17 : decode cX9_echo 17 = .ok (.aload_n 0, 1) := by decide +kernel
theorem dX9_echo_18 : decode cX9_echo 18 = .ok (.invokevirtual 144, 3) := by decide +kernel
theorem dX9_echo_21 : decode cX9_echo 21 = .ok (.getfield 148, 3) := by decide +kernel
theorem dX9_echo_24 : decode cX9_echo 24 = .ok (.iload_n 1, 1) := by decide +kernel
theorem dX9_echo_25 : decode cX9_echo 25 = .ok (.laload, 1) := by decide +kernel
theorem dX9_echo_26 : decode cX9_echo 26 = .ok (.lreturn, 1) := by decide +kernel
theorem dX9_echoTime_0 : decode cX9_echoTime 0 = .ok (.iload_n 1, 1) := by decide +kernel
theorem dX9_echoTime_1 : decode cX9_echoTime 1 = .ok (.invokestatic 152, 3) := by decide +kernel
theorem dX9_echoTime_4 : decode cX9_echoTime 4 = .ok (.aload_n 0, 1) := by decide +kernel
theorem dX9_echoTime_5 : decode cX9_echoTime 5 = .ok (.invokevirtual 144, 3) := by decide +kernel
theorem dX9_echoTime_8 : decode cX9_echoTime 8 = .ok (.getfield 148, 3) := by decide +kernel
theorem dX9_echoTime_11 : decode cX9_echoTime 11 = .ok (.astore_n 2, 1) := by decide +kernel
theorem dX9_echoTime_12 : decode cX9_echoTime 12 = .ok (.iload_n 1, 1) := by decide +kernel
theorem dX9_echoTime_13 : decode cX9_echoTime 13 = .ok (.istore_n 3, 1) := by decide +kernel
theorem dX9_echoTime_14 : decode cX9_echoTime 14 = .ok (.iconst 0, 1) := by decide +kernel
theorem dX9_echoTime_15 : decode cX9_echoTime 15 = .ok (.istore 4, 2) := by decide +kernel
theorem dX9_echoTime_17 : decode cX9_echoTime 17 = .ok (.iload 4, 2) := by decide +kernel
theorem dX9_echoTime_19 : decode cX9_echoTime 19 = .ok (.sipush 201, 3) := by decide +kernel
theorem dX9_echoTime_22 : decode cX9_echoTime 22 = .ok (.if_icmp .ge 28, 3) := by decide +kernel
theorem dX9_echoTime_25 : decode cX9_echoTime 25 = .ok (.aload_n 2, 1) := by decide +kernel
theorem dX9_echoTime_26 : decode cX9_echoTime 26 = .ok (.iload 4, 2) := by decide +kernel
theorem dX9_echoTime_28 : decode cX9_echoTime 28 = .ok (.laload, 1) := by decide +kernel
theorem dX9_echoTime_29 : decode cX9_echoTime 29 = .ok (.lconst 0, 1) := by decide +kernel
theorem dX9_echoTime_30 : decode cX9_echoTime 30 = .ok (.lcmp, 1) := by decide +kernel
theorem dX9_echoTime_31 : decode cX9_echoTime 31 = .ok (.ifCond .le 13, 3) := by decide +kernel
theorem dX9_echoTime_34 : decode cX9_echoTime 34 = .ok (.iload_n 3, 1) := by decide +kernel
theorem dX9_echoTime_35 : decode cX9_echoTime 35 = .ok (.ifCond .ne 6, 3) := by decide +kernel
theorem dX9_echoTime_38 : decode cX9_echoTime 38 = .ok (.iload 4, 2) := by decide +kernel
theorem dX9_echoTime_40 : decode cX9_echoTime 40 = .ok (.ireturn, 1) := by decide +kernel
theorem dX9_echoTime_41 : decode cX9_echoTime 41 = .ok (.iinc 3 (-1), 3) := by decide +kernel
theorem dX9_echoTime_44 : decode cX9_echoTime 44 = .ok (.iinc 4 1, 3) := by decide +kernel
theorem dX9_echoTime_47 : decode cX9_echoTime 47 = .ok (.goto (-30), 3) := by decide +kernel
theorem dX9_echoTime_50 : decode cX9_echoTime 50 = .ok (.iconst (-1), 1) := by decide +kernel
theorem dX9_echoTime_51 : decode cX9_echoTime 51 = .ok (.ireturn, 1) := by decide +kernel
theorem dX9_total_0 : decode cX9_total 0 = .ok (.iload_n 1, 1) := by decide +kernel
theorem dX9_total_1 : decode cX9_total 1 = .ok (.i2l, 1) := by decide +kernel
theorem dX9_total_2 : decode cX9_total 2 = .ok (.lconst 0, 1) := by decide +kernel
theorem dX9_total_3 : decode cX9_total 3 = .ok (.ldc2_w 156, 3) := by decide +kernel
theorem dX9_total_6 : decode cX9_total 6 = .ok (.invokestatic 96, 3) := by decide +kernel
theorem dX9_total_9 : decode cX9_total 9 = .ok (.aload_n 0, 1) := by decide +kernel
theorem dX9_total_10 : decode cX9_total 10 = .ok (.invokevirtual 144, 3) := by decide +kernel
theorem dX9_total_13 : decode cX9_total 13 = .ok (.getfield 158, 3) := by decide +kernel
theorem dX9_total_16 : decode cX9_total 16 = .ok (.iload_n 1, 1) := by decide +kernel
theorem dX9_total_17 : decode cX9_total 17 = .ok (.laload, 1) := by decide +kernel
theorem dX9_total_18 : decode cX9_total 18 = .ok (.lreturn, 1) := by decide +kernel
theorem dX9_arrival_0 : decode cX9_arrival 0 = .ok (.iload_n 1, 1) := by decide +kernel
theorem dX9_arrival_1 : decode cX9_arrival 1 = .ok (.aload_n 0, 1) := by decide +kernel
theorem dX9_arrival_2 : decode cX9_arrival 2 = .ok (.getfield 12, 3) := by decide +kernel
theorem dX9_arrival_5 : decode cX9_arrival 5 = .ok (.getfield 77, 3) := by decide +kernel
theorem dX9_arrival_8 : decode cX9_arrival 8 = .ok (.getfield 86, 3) := by decide +kernel
theorem dX9_arrival_11 : decode cX9_arrival 11 = .ok (.iconst 1, 1) := by decide +kernel
theorem dX9_arrival_12 : decode cX9_arrival 12 = .ok (.iadd, 1) := by decide +kernel
theorem dX9_arrival_13 : decode cX9_arrival 13 = .ok (.invokestatic 119, 3) := by decide +kernel
theorem dX9_arrival_16 : decode cX9_arrival 16 = .ok (.iload_n 2, 1) := by decide +kernel
theorem dX9_arrival_17 : decode cX9_arrival 17 = .ok (.i2l, 1) := by decide +kernel
theorem dX9_arrival_18 : decode cX9_arrival 18 = .ok (.lconst 0, 1) := by decide +kernel
theorem dX9_arrival_19 : decode cX9_arrival 19 = .ok (.aload_n 0, 1) := by decide +kernel
theorem dX9_arrival_20 : decode cX9_arrival 20 = .ok (.getfield 12, 3) := by decide +kernel
theorem dX9_arrival_23 : decode cX9_arrival 23 = .ok (.getfield 77, 3) := by decide +kernel
theorem dX9_arrival_26 : decode cX9_arrival 26 = .ok (.getfield 104, 3) := by decide +kernel
theorem dX9_arrival_29 : decode cX9_arrival 29 = .ok (.i2l, 1) := by decide +kernel
theorem dX9_arrival_30 : decode cX9_arrival 30 = .ok (.invokestatic 96, 3) := by decide +kernel
theorem dX9_arrival_33 : decode cX9_arrival 33 = .ok (.aload_n 0, 1) := by decide +kernel
theorem dX9_arrival_34 : decode cX9_arrival 34 = .ok (.invokevirtual 144, 3) := by decide +kernel
theorem dX9_arrival_37 : decode cX9_arrival 37 = .ok (.astore 4, 2) := by decide +kernel
theorem dX9_arrival_39 : decode cX9_arrival 39 = .ok (.iload_n 3, 1) := by decide +kernel
theorem dX9_arrival_40 : decode cX9_arrival 40 = .ok (.ifCond .eq 15, 3) := by decide +kernel
theorem dX9_arrival_43 : decode cX9_arrival 43 = .ok (.aload 4, 2) := by decide +kernel
theorem dX9_arrival_45 : decode cX9_arrival 45 = .ok (.getfield 161, 3) := by decide +kernel
theorem dX9_arrival_48 : decode cX9_arrival 48 = .ok (.iload_n 1, 1) := by decide +kernel
theorem dX9_arrival_49 : decode cX9_arrival 49 = .ok (.aaload, 1) := by decide +kernel
theorem dX9_arrival_50 : decode cX9_arrival 50 = .ok (.iload_n 2, 1) := by decide +kernel
theorem dX9_arrival_51 : decode cX9_arrival 51 = .ok (.laload, 1) := by decide +kernel
theorem dX9_arrival_52 : decode cX9_arrival 52 = .ok (.goto 12, 3) := by decide +kernel
theorem dX9_arrival_55 : decode cX9_arrival 55 = .ok (.aload 4, 2) := by decide +kernel
theorem dX9_arrival_57 : decode cX9_arrival 57 = .ok (.getfield 165, 3) := by decide +kernel
theorem dX9_arrival_60 : decode cX9_arrival 60 = .ok (.iload_n 1, 1) := by decide +kernel
theorem dX9_arrival_61 : decode cX9_arrival 61 = .ok (.aaload, 1) := by decide +kernel
theorem dX9_arrival_62 : decode cX9_arrival 62 = .ok (.iload_n 2, 1) := by decide +kernel
theorem dX9_arrival_63 : decode cX9_arrival 63 = .ok (.laload, 1) := by decide +kernel
theorem dX9_arrival_64 : decode cX9_arrival 64 = .ok (.lreturn, 1) := by decide +kernel
theorem dX9_echoByte_0 : decode cX9_echoByte 0 = .ok (.iload_n 1, 1) := by decide +kernel
theorem dX9_echoByte_1 : decode cX9_echoByte 1 = .ok (.invokestatic 152, 3) := by decide +kernel
theorem dX9_echoByte_4 : decode cX9_echoByte 4 = .ok (.aload_n 0, 1) := by decide +kernel
theorem dX9_echoByte_5 : decode cX9_echoByte 5 = .ok (.invokevirtual 144, 3) := by decide +kernel
theorem dX9_echoByte_8 : decode cX9_echoByte 8 = .ok (.getfield 148, 3) := by decide +kernel
theorem dX9_echoByte_11 : decode cX9_echoByte 11 = .ok (.astore_n 2, 1) := by decide +kernel
theorem dX9_echoByte_12 : decode cX9_echoByte 12 = .ok (.iload_n 1, 1) := by decide +kernel
theorem dX9_echoByte_13 : decode cX9_echoByte 13 = .ok (.istore_n 3, 1) := by decide +kernel
theorem dX9_echoByte_14 : decode cX9_echoByte 14 = .ok (.iconst 0, 1) := by decide +kernel
theorem dX9_echoByte_15 : decode cX9_echoByte 15 = .ok (.istore 4, 2) := by decide +kernel
theorem dX9_echoByte_17 : decode cX9_echoByte 17 = .ok (.iload 4, 2) := by decide +kernel
theorem dX9_echoByte_19 : decode cX9_echoByte 19 = .ok (.sipush 201, 3) := by decide +kernel
theorem dX9_echoByte_22 : decode cX9_echoByte 22 = .ok (.if_icmp .ge 58, 3) := by decide +kernel
theorem dX9_echoByte_25 : decode cX9_echoByte 25 = .ok (.aload_n 2, 1) := by decide +kernel
theorem dX9_echoByte_26 : decode cX9_echoByte 26 = .ok (.iload 4, 2) := by decide +kernel
theorem dX9_echoByte_28 : decode cX9_echoByte 28 = .ok (.laload, 1) := by decide +kernel
theorem dX9_echoByte_29 : decode cX9_echoByte 29 = .ok (.lconst 0, 1) := by decide +kernel
theorem dX9_echoByte_30 : decode cX9_echoByte 30 = .ok (.lcmp, 1) := by decide +kernel
theorem dX9_echoByte_31 : decode cX9_echoByte 31 = .ok (.ifCond .le 43, 3) := by decide +kernel
theorem dX9_echoByte_34 : decode cX9_echoByte 34 = .ok (.iload 4, 2) := by decide +kernel
theorem dX9_echoByte_36 : decode cX9_echoByte 36 = .ok (.i2l, 1) := by decide +kernel
theorem dX9_echoByte_37 : decode cX9_echoByte 37 = .ok (.invokestatic 168, 3) := by decide +kernel
theorem dX9_echoByte_40 : decode cX9_echoByte 40 = .ok (.aload_n 2, 1) := by decide +kernel
theorem dX9_echoByte_41 : decode cX9_echoByte 41 = .ok (.iload 4, 2) := by decide +kernel
theorem dX9_echoByte_43 : decode cX9_echoByte 43 = .ok (.laload, 1) := by decide +kernel
theorem dX9_echoByte_44 : decode cX9_echoByte 44 = .ok (.invokestatic 168, 3) := by decide +kernel
theorem dX9_echoByte_47 : decode cX9_echoByte 47 = .ok (.iadd, 1) := by decide +kernel
theorem dX9_echoByte_48 : decode cX9_echoByte 48 = .ok (.iconst 2, 1) := by decide +kernel
theorem dX9_echoByte_49 : decode cX9_echoByte 49 = .ok (.iadd, 1) := by decide +kernel
theorem dX9_echoByte_50 : decode cX9_echoByte 50 = .ok (.istore 5, 2) := by decide +kernel
theorem dX9_echoByte_52 : decode cX9_echoByte 52 = .ok (.iload_n 3, 1) := by decide +kernel
theorem dX9_echoByte_53 : decode cX9_echoByte 53 = .ok (.iload 5, 2) := by decide +kernel
theorem dX9_echoByte_55 : decode cX9_echoByte 55 = .ok (.if_icmp .ge 14, 3) := by decide +kernel
theorem dX9_echoByte_58 : decode cX9_echoByte 58 = .ok (.iload 4, 2) := by decide +kernel
theorem dX9_echoByte_60 : decode cX9_echoByte 60 = .ok (.aload_n 2, 1) := by decide +kernel
theorem dX9_echoByte_61 : decode cX9_echoByte 61 = .ok (.iload 4, 2) := by decide +kernel
theorem dX9_echoByte_63 : decode cX9_echoByte 63 = .ok (.laload, 1) := by decide +kernel
theorem dX9_echoByte_64 : decode cX9_echoByte 64 = .ok (.iload_n 3, 1) := by decide +kernel
theorem dX9_echoByte_65 : decode cX9_echoByte 65 = .ok (.invokestatic 172, 3) := by decide +kernel
theorem dX9_echoByte_68 : decode cX9_echoByte 68 = .ok (.ireturn, 1) := by decide +kernel
theorem dX9_echoByte_69 : decode cX9_echoByte 69 = .ok (.iload_n 3, 1) := by decide +kernel
theorem dX9_echoByte_70 : decode cX9_echoByte 70 = .ok (.iload 5, 2) := by decide +kernel
theorem dX9_echoByte_72 : decode cX9_echoByte 72 = .ok (.isub, 1) := by decide +kernel
theorem dX9_echoByte_73 : decode cX9_echoByte 73 = .ok (.istore_n 3, 1) := by decide +kernel
theorem dX9_echoByte_74 : decode cX9_echoByte 74 = .ok (.iinc 4 1, 3) := by decide +kernel
theorem dX9_echoByte_77 : decode cX9_echoByte 77 = .ok (.goto (-60), 3) := by decide +kernel
theorem dX9_echoByte_80 : decode cX9_echoByte 80 = .ok (.iconst (-1), 1) := by decide +kernel
theorem dX9_echoByte_81 : decode cX9_echoByte 81 = .ok (.ireturn, 1) := by decide +kernel
theorem dX9_keepSound_0 : decode cX9_keepSound 0 = .ok (.aload_n 0, 1) := by decide +kernel
theorem dX9_keepSound_1 : decode cX9_keepSound 1 = .ok (.getfield 19, 3) := by decide +kernel
theorem dX9_keepSound_4 : decode cX9_keepSound 4 = .ok (.aload_n 0, 1) := by decide +kernel
theorem dX9_keepSound_5 : decode cX9_keepSound 5 = .ok (.getfield 12, 3) := by decide +kernel
theorem dX9_keepSound_8 : decode cX9_keepSound 8 = .ok (.invokevirtual 70, 3) := by decide +kernel
theorem dX9_keepSound_11 : decode cX9_keepSound 11 = .ok (.aload_n 0, 1) := by decide +kernel
theorem dX9_keepSound_12 : decode cX9_keepSound 12 = .ok (.getstatic 176, 3) := by decide +kernel
theorem dX9_keepSound_15 : decode cX9_keepSound 15 = .ok (.iconst 0, 1) := by decide +kernel
theorem dX9_keepSound_16 : decode cX9_keepSound 16 = .ok (.iconst 0, 1) := by decide +kernel
theorem dX9_keepSound_17 : decode cX9_keepSound 17 = .ok (.iconst 0, 1) := by decide +kernel
theorem dX9_keepSound_18 : decode cX9_keepSound 18 = .ok (.invokevirtual 179, 3) := by decide +kernel
theorem dX9_keepSound_21 : decode cX9_keepSound 21 = .ok (.ireturn, 1) := by decide +kernel
theorem dX9_differences_0 : decode cX9_differences 0 = .ok (.aload_n 0, 1) := by decide +kernel
theorem dX9_differences_1 : decode cX9_differences 1 = .ok (.invokevirtual 144, 3) := by decide +kernel
theorem dX9_differences_4 : decode cX9_differences 4 = .ok (.getfield 148, 3) := by decide +kernel
theorem dX9_differences_7 : decode cX9_differences 7 = .ok (.astore_n 1, 1) := by decide +kernel
theorem dX9_differences_8 : decode cX9_differences 8 = .ok (.iconst 0, 1) := by decide +kernel
theorem dX9_differences_9 : decode cX9_differences 9 = .ok (.istore_n 2, 1) := by decide +kernel
theorem dX9_differences_10 : decode cX9_differences 10 = .ok (.iconst 0, 1) := by decide +kernel
theorem dX9_differences_11 : decode cX9_differences 11 = .ok (.istore_n 3, 1) := by decide +kernel
theorem dX9_differences_12 : decode cX9_differences 12 = .ok (.iload_n 3, 1) := by decide +kernel
theorem dX9_differences_13 : decode cX9_differences 13 = .ok (.aload_n 0, 1) := by decide +kernel
theorem dX9_differences_14 : decode cX9_differences 14 = .ok (.getfield 12, 3) := by decide +kernel
theorem dX9_differences_17 : decode cX9_differences 17 = .ok (.getfield 77, 3) := by decide +kernel
theorem dX9_differences_20 : decode cX9_differences 20 = .ok (.getfield 104, 3) := by decide +kernel
theorem dX9_differences_23 : decode cX9_differences 23 = .ok (.if_icmp .gt 28, 3) := by decide +kernel
theorem dX9_differences_26 : decode cX9_differences 26 = .ok (.aload_n 1, 1) := by decide +kernel
theorem dX9_differences_27 : decode cX9_differences 27 = .ok (.iload_n 3, 1) := by decide +kernel
theorem dX9_differences_28 : decode cX9_differences 28 = .ok (.laload, 1) := by decide +kernel
theorem dX9_differences_29 : decode cX9_differences 29 = .ok (.aload_n 0, 1) := by decide +kernel
theorem dX9_differences_30 : decode cX9_differences 30 = .ok (.getfield 12, 3) := by decide +kernel
theorem dX9_differences_33 : decode cX9_differences 33 = .ok (.getfield 182, 3) := by decide +kernel
theorem dX9_differences_36 : decode cX9_differences 36 = .ok (.iload_n 3, 1) := by decide +kernel
theorem dX9_differences_37 : decode cX9_differences 37 = .ok (.laload, 1) := by decide +kernel
theorem dX9_differences_38 : decode cX9_differences 38 = .ok (.lcmp, 1) := by decide +kernel
theorem dX9_differences_39 : decode cX9_differences 39 = .ok (.ifCond .eq 6, 3) := by decide +kernel
theorem dX9_differences_42 : decode cX9_differences 42 = .ok (.iinc 2 1, 3) := by decide +kernel
theorem dX9_differences_45 : decode cX9_differences 45 = .ok (.iinc 3 1, 3) := by decide +kernel
theorem dX9_differences_48 : decode cX9_differences 48 = .ok (.goto (-36), 3) := by decide +kernel
theorem dX9_differences_51 : decode cX9_differences 51 = .ok (.iload_n 2, 1) := by decide +kernel
theorem dX9_differences_52 : decode cX9_differences 52 = .ok (.ireturn, 1) := by decide +kernel
theorem dX9_fault_0 : decode cX9_fault 0 = .ok (.iload_n 1, 1) := by decide +kernel
theorem dX9_fault_1 : decode cX9_fault 1 = .ok (.i2l, 1) := by decide +kernel
theorem dX9_fault_2 : decode cX9_fault 2 = .ok (.lconst 0, 1) := by decide +kernel
theorem dX9_fault_3 : decode cX9_fault 3 = .ok (.ldc2_w 185, 3) := by decide +kernel
theorem dX9_fault_6 : decode cX9_fault 6 = .ok (.invokestatic 96, 3) := by decide +kernel
theorem dX9_fault_9 : decode cX9_fault 9 = .ok (.aload_n 0, 1) := by decide +kernel
theorem dX9_fault_10 : decode cX9_fault 10 = .ok (.invokevirtual 144, 3) := by decide +kernel
theorem dX9_fault_13 : decode cX9_fault 13 = .ok (.getfield 148, 3) := by decide +kernel
theorem dX9_fault_16 : decode cX9_fault 16 = .ok (.astore_n 2, 1) := by decide +kernel
theorem dX9_fault_17 : decode cX9_fault 17 = .ok (.aload_n 2, 1) := by decide +kernel
theorem dX9_fault_18 : decode cX9_fault 18 = .ok (.aload_n 0, 1) := by decide +kernel
theorem dX9_fault_19 : decode cX9_fault 19 = .ok (.getfield 12, 3) := by decide +kernel
theorem dX9_fault_22 : decode cX9_fault 22 = .ok (.getfield 182, 3) := by decide +kernel
theorem dX9_fault_25 : decode cX9_fault 25 = .ok (.aload_n 0, 1) := by decide +kernel
theorem dX9_fault_26 : decode cX9_fault 26 = .ok (.getfield 12, 3) := by decide +kernel
theorem dX9_fault_29 : decode cX9_fault 29 = .ok (.getfield 77, 3) := by decide +kernel
theorem dX9_fault_32 : decode cX9_fault 32 = .ok (.getfield 104, 3) := by decide +kernel
theorem dX9_fault_35 : decode cX9_fault 35 = .ok (.invokestatic 187, 3) := by decide +kernel
theorem dX9_fault_38 : decode cX9_fault 38 = .ok (.istore_n 3, 1) := by decide +kernel
theorem dX9_fault_39 : decode cX9_fault 39 = .ok (.iload_n 3, 1) := by decide +kernel
theorem dX9_fault_40 : decode cX9_fault 40 = .ok (.iconst (-1), 1) := by decide +kernel
theorem dX9_fault_41 : decode cX9_fault 41 = .ok (.if_icmp .eq 7, 3) := by decide +kernel
theorem dX9_fault_44 : decode cX9_fault 44 = .ok (.iload_n 1, 1) := by decide +kernel
theorem dX9_fault_45 : decode cX9_fault 45 = .ok (.ifCond .ne 5, 3) := by decide +kernel
theorem dX9_fault_48 : decode cX9_fault 48 = .ok (.iload_n 3, 1) := by decide +kernel
theorem dX9_fault_49 : decode cX9_fault 49 = .ok (.ireturn, 1) := by decide +kernel
theorem dX9_fault_50 : decode cX9_fault 50 = .ok (.iload_n 3, 1) := by decide +kernel
theorem dX9_fault_51 : decode cX9_fault 51 = .ok (.aload_n 0, 1) := by decide +kernel
theorem dX9_fault_52 : decode cX9_fault 52 = .ok (.getfield 12, 3) := by decide +kernel
theorem dX9_fault_55 : decode cX9_fault 55 = .ok (.getfield 77, 3) := by decide +kernel
theorem dX9_fault_58 : decode cX9_fault 58 = .ok (.invokevirtual 191, 3) := by decide +kernel
theorem dX9_fault_61 : decode cX9_fault 61 = .ok (.isub, 1) := by decide +kernel
theorem dX9_fault_62 : decode cX9_fault 62 = .ok (.istore 4, 2) := by decide +kernel
theorem dX9_fault_64 : decode cX9_fault 64 = .ok (.iload_n 1, 1) := by decide +kernel
theorem dX9_fault_65 : decode cX9_fault 65 = .ok (.iconst 1, 1) := by decide +kernel
theorem dX9_fault_66 : decode cX9_fault 66 = .ok (.if_icmp .ne 6, 3) := by decide +kernel
theorem dX9_fault_69 : decode cX9_fault 69 = .ok (.iload 4, 2) := by decide +kernel
theorem dX9_fault_71 : decode cX9_fault 71 = .ok (.ireturn, 1) := by decide +kernel
theorem dX9_fault_72 : decode cX9_fault 72 = .ok (.iload_n 1, 1) := by decide +kernel
theorem dX9_fault_73 : decode cX9_fault 73 = .ok (.iconst 2, 1) := by decide +kernel
theorem dX9_fault_74 : decode cX9_fault 74 = .ok (.if_icmp .ne 16, 3) := by decide +kernel
theorem dX9_fault_77 : decode cX9_fault 77 = .ok (.aload_n 0, 1) := by decide +kernel
theorem dX9_fault_78 : decode cX9_fault 78 = .ok (.getfield 12, 3) := by decide +kernel
theorem dX9_fault_81 : decode cX9_fault 81 = .ok (.getfield 77, 3) := by decide +kernel
theorem dX9_fault_84 : decode cX9_fault 84 = .ok (.iload 4, 2) := by decide +kernel
theorem dX9_fault_86 : decode cX9_fault 86 = .ok (.invokevirtual 195, 3) := by decide +kernel
theorem dX9_fault_89 : decode cX9_fault 89 = .ok (.ireturn, 1) := by decide +kernel
theorem dX9_fault_90 : decode cX9_fault 90 = .ok (.aload_n 2, 1) := by decide +kernel
theorem dX9_fault_91 : decode cX9_fault 91 = .ok (.iload_n 3, 1) := by decide +kernel
theorem dX9_fault_92 : decode cX9_fault 92 = .ok (.laload, 1) := by decide +kernel
theorem dX9_fault_93 : decode cX9_fault 93 = .ok (.aload_n 0, 1) := by decide +kernel
theorem dX9_fault_94 : decode cX9_fault 94 = .ok (.getfield 12, 3) := by decide +kernel
theorem dX9_fault_97 : decode cX9_fault 97 = .ok (.getfield 182, 3) := by decide +kernel
theorem dX9_fault_100 : decode cX9_fault 100 = .ok (.iload_n 3, 1) := by decide +kernel
theorem dX9_fault_101 : decode cX9_fault 101 = .ok (.laload, 1) := by decide +kernel
theorem dX9_fault_102 : decode cX9_fault 102 = .ok (.lcmp, 1) := by decide +kernel
theorem dX9_fault_103 : decode cX9_fault 103 = .ok (.ifCond .le 7, 3) := by decide +kernel
theorem dX9_fault_106 : decode cX9_fault 106 = .ok (.iconst 1, 1) := by decide +kernel
theorem dX9_fault_107 : decode cX9_fault 107 = .ok (.goto 4, 3) := by decide +kernel
theorem dX9_fault_110 : decode cX9_fault 110 = .ok (.iconst (-1), 1) := by decide +kernel
theorem dX9_fault_111 : decode cX9_fault 111 = .ok (.ireturn, 1) := by decide +kernel
theorem dX9_observe_0 : decode cX9_observe 0 = .ok (.aload_n 0, 1) := by decide +kernel
theorem dX9_observe_1 : decode cX9_observe 1 = .ok (.getfield 19, 3) := by decide +kernel
theorem dX9_observe_4 : decode cX9_observe 4 = .ok (.aload_n 0, 1) := by decide +kernel
theorem dX9_observe_5 : decode cX9_observe 5 = .ok (.getfield 12, 3) := by decide +kernel
theorem dX9_observe_8 : decode cX9_observe 8 = .ok (.invokevirtual 70, 3) := by decide +kernel
theorem dX9_observe_11 : decode cX9_observe 11 = .ok (.aload_n 0, 1) := by decide +kernel
theorem dX9_observe_12 : decode cX9_observe 12 = .ok (.getstatic 198, 3) := by decide +kernel
theorem dX9_observe_15 : decode cX9_observe 15 = .ok (.iconst 0, 1) := by decide +kernel
theorem dX9_observe_16 : decode cX9_observe 16 = .ok (.iconst 0, 1) := by decide +kernel
theorem dX9_observe_17 : decode cX9_observe 17 = .ok (.iconst 0, 1) := by decide +kernel
theorem dX9_observe_18 : decode cX9_observe 18 = .ok (.invokevirtual 179, 3) := by decide +kernel
theorem dX9_observe_21 : decode cX9_observe 21 = .ok (.ireturn, 1) := by decide +kernel
theorem dX9_setObserved_0 : decode cX9_setObserved 0 = .ok (.iload_n 1, 1) := by decide +kernel
theorem dX9_setObserved_1 : decode cX9_setObserved 1 = .ok (.i2l, 1) := by decide +kernel
theorem dX9_setObserved_2 : decode cX9_setObserved 2 = .ok (.lconst 0, 1) := by decide +kernel
theorem dX9_setObserved_3 : decode cX9_setObserved 3 = .ok (.ldc2_w 102, 3) := by decide +kernel
theorem dX9_setObserved_6 : decode cX9_setObserved 6 = .ok (.invokestatic 96, 3) := by decide +kernel
theorem dX9_setObserved_9 : decode cX9_setObserved 9 = .ok (.lload_n 2, 1) := by decide +kernel
theorem dX9_setObserved_10 : decode cX9_setObserved 10 = .ok (.lconst 0, 1) := by decide +kernel
theorem dX9_setObserved_11 : decode cX9_setObserved 11 = .ok (.ldc2_w 201, 3) := by decide +kernel
theorem dX9_setObserved_14 : decode cX9_setObserved 14 = .ok (.invokestatic 96, 3) := by decide +kernel
theorem dX9_setObserved_17 : decode cX9_setObserved 17 = .ok (.aload_n 0, 1) := by decide +kernel
theorem dX9_setObserved_18 : decode cX9_setObserved 18 = .ok (.getfield 12, 3) := by decide +kernel
theorem dX9_setObserved_21 : decode cX9_setObserved 21 = .ok (.getfield 203, 3) := by decide +kernel
theorem dX9_setObserved_24 : decode cX9_setObserved 24 = .ok (.iload_n 1, 1) := by decide +kernel
theorem dX9_setObserved_25 : decode cX9_setObserved 25 = .ok (.laload, 1) := by decide +kernel
theorem dX9_setObserved_26 : decode cX9_setObserved 26 = .ok (.lstore 4, 2) := by decide +kernel
theorem dX9_setObserved_28 : decode cX9_setObserved 28 = .ok (.aload_n 0, 1) := by decide +kernel
theorem dX9_setObserved_29 : decode cX9_setObserved 29 = .ok (.getfield 19, 3) := by decide +kernel
theorem dX9_setObserved_32 : decode cX9_setObserved 32 = .ok (.aload_n 0, 1) := by decide +kernel
theorem dX9_setObserved_33 : decode cX9_setObserved 33 = .ok (.getfield 12, 3) := by decide +kernel
theorem dX9_setObserved_36 : decode cX9_setObserved 36 = .ok (.invokevirtual 70, 3) := by decide +kernel
theorem dX9_setObserved_39 : decode cX9_setObserved 39 = .ok (.aload_n 0, 1) := by decide +kernel
theorem dX9_setObserved_40 : decode cX9_setObserved 40 = .ok (.invokevirtual 74, 3) := by decide +kernel
theorem dX9_setObserved_43 : decode cX9_setObserved 43 = .ok (.aload_n 0, 1) := by decide +kernel
theorem dX9_setObserved_44 : decode cX9_setObserved 44 = .ok (.getfield 12, 3) := by decide +kernel
theorem dX9_setObserved_47 : decode cX9_setObserved 47 = .ok (.getfield 203, 3) := by decide +kernel
theorem dX9_setObserved_50 : decode cX9_setObserved 50 = .ok (.iload_n 1, 1) := by decide +kernel
theorem dX9_setObserved_51 : decode cX9_setObserved 51 = .ok (.lload_n 2, 1) := by decide +kernel
theorem dX9_setObserved_52 : decode cX9_setObserved 52 = .ok (.lastore, 1) := by decide +kernel
theorem dX9_setObserved_53 : decode cX9_setObserved 53 = .ok (.lload 4, 2) := by decide +kernel
theorem dX9_setObserved_55 : decode cX9_setObserved 55 = .ok (.lreturn, 1) := by decide +kernel
theorem dX9_observed_0 : decode cX9_observed 0 = .ok (.iload_n 1, 1) := by decide +kernel
theorem dX9_observed_1 : decode cX9_observed 1 = .ok (.i2l, 1) := by decide +kernel
theorem dX9_observed_2 : decode cX9_observed 2 = .ok (.lconst 0, 1) := by decide +kernel
theorem dX9_observed_3 : decode cX9_observed 3 = .ok (.ldc2_w 102, 3) := by decide +kernel
theorem dX9_observed_6 : decode cX9_observed 6 = .ok (.invokestatic 96, 3) := by decide +kernel
theorem dX9_observed_9 : decode cX9_observed 9 = .ok (.aload_n 0, 1) := by decide +kernel
theorem dX9_observed_10 : decode cX9_observed 10 = .ok (.getfield 12, 3) := by decide +kernel
theorem dX9_observed_13 : decode cX9_observed 13 = .ok (.getfield 203, 3) := by decide +kernel
theorem dX9_observed_16 : decode cX9_observed 16 = .ok (.iload_n 1, 1) := by decide +kernel
theorem dX9_observed_17 : decode cX9_observed 17 = .ok (.laload, 1) := by decide +kernel
theorem dX9_observed_18 : decode cX9_observed 18 = .ok (.lreturn, 1) := by decide +kernel
theorem dX9_peel_0 : decode cX9_peel 0 = .ok (.iload_n 1, 1) := by decide +kernel
theorem dX9_peel_1 : decode cX9_peel 1 = .ok (.i2l, 1) := by decide +kernel
theorem dX9_peel_2 : decode cX9_peel 2 = .ok (.lconst 0, 1) := by decide +kernel
theorem dX9_peel_3 : decode cX9_peel 3 = .ok (.ldc2_w 185, 3) := by decide +kernel
theorem dX9_peel_6 : decode cX9_peel 6 = .ok (.invokestatic 96, 3) := by decide +kernel
theorem dX9_peel_9 : decode cX9_peel 9 = .ok (.aload_n 0, 1) := by decide +kernel
theorem dX9_peel_10 : decode cX9_peel 10 = .ok (.invokevirtual 206, 3) := by decide +kernel
theorem dX9_peel_13 : decode cX9_peel 13 = .ok (.astore_n 2, 1) := by decide +kernel
theorem dX9_peel_14 : decode cX9_peel 14 = .ok (.iload_n 1, 1) := by decide +kernel
theorem dX9_peel_15 : decode cX9_peel 15 = .ok (.tableswitch 43 0 2 #[25, 30, 35], 25) := by decide +kernel
theorem dX9_peel_40 : decode cX9_peel 40 = .ok (.aload_n 2, 1) := by decide +kernel
theorem dX9_peel_41 : decode cX9_peel 41 = .ok (.getfield 210, 3) := by decide +kernel
theorem dX9_peel_44 : decode cX9_peel 44 = .ok (.ireturn, 1) := by decide +kernel
theorem dX9_peel_45 : decode cX9_peel 45 = .ok (.aload_n 2, 1) := by decide +kernel
theorem dX9_peel_46 : decode cX9_peel 46 = .ok (.getfield 213, 3) := by decide +kernel
theorem dX9_peel_49 : decode cX9_peel 49 = .ok (.ireturn, 1) := by decide +kernel
theorem dX9_peel_50 : decode cX9_peel 50 = .ok (.aload_n 2, 1) := by decide +kernel
theorem dX9_peel_51 : decode cX9_peel 51 = .ok (.getfield 216, 3) := by decide +kernel
theorem dX9_peel_54 : decode cX9_peel 54 = .ok (.getfield 86, 3) := by decide +kernel
theorem dX9_peel_57 : decode cX9_peel 57 = .ok (.ireturn, 1) := by decide +kernel
theorem dX9_peel_58 : decode cX9_peel 58 = .ok (.aload_n 2, 1) := by decide +kernel
theorem dX9_peel_59 : decode cX9_peel 59 = .ok (.getfield 216, 3) := by decide +kernel
theorem dX9_peel_62 : decode cX9_peel 62 = .ok (.aload_n 2, 1) := by decide +kernel
theorem dX9_peel_63 : decode cX9_peel 63 = .ok (.getfield 216, 3) := by decide +kernel
theorem dX9_peel_66 : decode cX9_peel 66 = .ok (.getfield 86, 3) := by decide +kernel
theorem dX9_peel_69 : decode cX9_peel 69 = .ok (.invokevirtual 90, 3) := by decide +kernel
theorem dX9_peel_72 : decode cX9_peel 72 = .ok (.ireturn, 1) := by decide +kernel
theorem dX9_found_0 : decode cX9_found 0 = .ok (.iload_n 1, 1) := by decide +kernel
theorem dX9_found_1 : decode cX9_found 1 = .ok (.invokestatic 152, 3) := by decide +kernel
theorem dX9_found_4 : decode cX9_found 4 = .ok (.iload_n 2, 1) := by decide +kernel
theorem dX9_found_5 : decode cX9_found 5 = .ok (.i2l, 1) := by decide +kernel
theorem dX9_found_6 : decode cX9_found 6 = .ok (.lconst 0, 1) := by decide +kernel
theorem dX9_found_7 : decode cX9_found 7 = .ok (.lconst 1, 1) := by decide +kernel
theorem dX9_found_8 : decode cX9_found 8 = .ok (.invokestatic 96, 3) := by decide +kernel
theorem dX9_found_11 : decode cX9_found 11 = .ok (.aload_n 0, 1) := by decide +kernel
theorem dX9_found_12 : decode cX9_found 12 = .ok (.invokevirtual 206, 3) := by decide +kernel
theorem dX9_found_15 : decode cX9_found 15 = .ok (.getfield 216, 3) := by decide +kernel
theorem dX9_found_18 : decode cX9_found 18 = .ok (.astore_n 3, 1) := by decide +kernel
theorem dX9_found_19 : decode cX9_found 19 = .ok (.iload_n 1, 1) := by decide +kernel
theorem dX9_found_20 : decode cX9_found 20 = .ok (.aload_n 3, 1) := by decide +kernel
theorem dX9_found_21 : decode cX9_found 21 = .ok (.getfield 86, 3) := by decide +kernel
theorem dX9_found_24 : decode cX9_found 24 = .ok (.if_icmp .lt 5, 3) := by decide +kernel
theorem dX9_found_27 : decode cX9_found 27 = .ok (.iconst (-1), 1) := by decide +kernel
theorem dX9_found_28 : decode cX9_found 28 = .ok (.ireturn, 1) := by decide +kernel
theorem dX9_found_29 : decode cX9_found 29 = .ok (.iload_n 2, 1) := by decide +kernel
theorem dX9_found_30 : decode cX9_found 30 = .ok (.ifCond .ne 12, 3) := by decide +kernel
theorem dX9_found_33 : decode cX9_found 33 = .ok (.aload_n 3, 1) := by decide +kernel
theorem dX9_found_34 : decode cX9_found 34 = .ok (.getfield 135, 3) := by decide +kernel
theorem dX9_found_37 : decode cX9_found 37 = .ok (.iload_n 1, 1) := by decide +kernel
theorem dX9_found_38 : decode cX9_found 38 = .ok (.iaload, 1) := by decide +kernel
theorem dX9_found_39 : decode cX9_found 39 = .ok (.goto 9, 3) := by decide +kernel
theorem dX9_found_42 : decode cX9_found 42 = .ok (.aload_n 3, 1) := by decide +kernel
theorem dX9_found_43 : decode cX9_found 43 = .ok (.getfield 139, 3) := by decide +kernel
theorem dX9_found_46 : decode cX9_found 46 = .ok (.iload_n 1, 1) := by decide +kernel
theorem dX9_found_47 : decode cX9_found 47 = .ok (.iaload, 1) := by decide +kernel
theorem dX9_found_48 : decode cX9_found 48 = .ok (.ireturn, 1) := by decide +kernel
theorem dX9_adopt_0 : decode cX9_adopt 0 = .ok (.aload_n 0, 1) := by decide +kernel
theorem dX9_adopt_1 : decode cX9_adopt 1 = .ok (.getfield 19, 3) := by decide +kernel
theorem dX9_adopt_4 : decode cX9_adopt 4 = .ok (.aload_n 0, 1) := by decide +kernel
theorem dX9_adopt_5 : decode cX9_adopt 5 = .ok (.getfield 12, 3) := by decide +kernel
theorem dX9_adopt_8 : decode cX9_adopt 8 = .ok (.invokevirtual 70, 3) := by decide +kernel
theorem dX9_adopt_11 : decode cX9_adopt 11 = .ok (.aload_n 0, 1) := by decide +kernel
theorem dX9_adopt_12 : decode cX9_adopt 12 = .ok (.getstatic 219, 3) := by decide +kernel
theorem dX9_adopt_15 : decode cX9_adopt 15 = .ok (.iconst 0, 1) := by decide +kernel
theorem dX9_adopt_16 : decode cX9_adopt 16 = .ok (.iconst 0, 1) := by decide +kernel
theorem dX9_adopt_17 : decode cX9_adopt 17 = .ok (.iconst 0, 1) := by decide +kernel
theorem dX9_adopt_18 : decode cX9_adopt 18 = .ok (.invokevirtual 179, 3) := by decide +kernel
theorem dX9_adopt_21 : decode cX9_adopt 21 = .ok (.ireturn, 1) := by decide +kernel
theorem dX9_type_0 : decode cX9_type 0 = .ok (.iload_n 1, 1) := by decide +kernel
theorem dX9_type_1 : decode cX9_type 1 = .ok (.i2l, 1) := by decide +kernel
theorem dX9_type_2 : decode cX9_type 2 = .ok (.lconst 0, 1) := by decide +kernel
theorem dX9_type_3 : decode cX9_type 3 = .ok (.ldc2_w 222, 3) := by decide +kernel
theorem dX9_type_6 : decode cX9_type 6 = .ok (.invokestatic 96, 3) := by decide +kernel
theorem dX9_type_9 : decode cX9_type 9 = .ok (.aload_n 0, 1) := by decide +kernel
theorem dX9_type_10 : decode cX9_type 10 = .ok (.getfield 26, 3) := by decide +kernel
theorem dX9_type_13 : decode cX9_type 13 = .ok (.getfield 224, 3) := by decide +kernel
theorem dX9_type_16 : decode cX9_type 16 = .ok (.bipush 120, 2) := by decide +kernel
theorem dX9_type_18 : decode cX9_type 18 = .ok (.if_icmp .lt 13, 3) := by decide +kernel
theorem dX9_type_21 : decode cX9_type 21 = .ok (.new 123, 3) := by decide +kernel
theorem dX9_type_24 : decode cX9_type 24 = .ok (.dup, 1) := by decide +kernel
theorem dX9_type_25 : decode cX9_type 25 = .ok (.ldc 227, 2) := by decide +kernel
theorem dX9_type_27 : decode cX9_type 27 = .ok (.invokespecial 127, 3) := by decide +kernel
theorem dX9_type_30 : decode cX9_type 30 = .ok (.athrow, 1) := by decide +kernel
theorem dX9_type_31 : decode cX9_type 31 = .ok (.aload_n 0, 1) := by decide +kernel
theorem dX9_type_32 : decode cX9_type 32 = .ok (.getfield 26, 3) := by decide +kernel
theorem dX9_type_35 : decode cX9_type 35 = .ok (.iload_n 1, 1) := by decide +kernel
theorem dX9_type_36 : decode cX9_type 36 = .ok (.invokevirtual 229, 3) := by decide +kernel
theorem dX9_type_39 : decode cX9_type 39 = .ok (.aload_n 0, 1) := by decide +kernel
theorem dX9_type_40 : decode cX9_type 40 = .ok (.getfield 26, 3) := by decide +kernel
theorem dX9_type_43 : decode cX9_type 43 = .ok (.getfield 224, 3) := by decide +kernel
theorem dX9_type_46 : decode cX9_type 46 = .ok (.ireturn, 1) := by decide +kernel
theorem dX9_clearScript_0 : decode cX9_clearScript 0 = .ok (.aload_n 0, 1) := by decide +kernel
theorem dX9_clearScript_1 : decode cX9_clearScript 1 = .ok (.getfield 26, 3) := by decide +kernel
theorem dX9_clearScript_4 : decode cX9_clearScript 4 = .ok (.getfield 224, 3) := by decide +kernel
theorem dX9_clearScript_7 : decode cX9_clearScript 7 = .ok (.istore_n 1, 1) := by decide +kernel
theorem dX9_clearScript_8 : decode cX9_clearScript 8 = .ok (.aload_n 0, 1) := by decide +kernel
theorem dX9_clearScript_9 : decode cX9_clearScript 9 = .ok (.getfield 26, 3) := by decide +kernel
theorem dX9_clearScript_12 : decode cX9_clearScript 12 = .ok (.iconst 0, 1) := by decide +kernel
theorem dX9_clearScript_13 : decode cX9_clearScript 13 = .ok (.putfield 224, 3) := by decide +kernel
theorem dX9_clearScript_16 : decode cX9_clearScript 16 = .ok (.iload_n 1, 1) := by decide +kernel
theorem dX9_clearScript_17 : decode cX9_clearScript 17 = .ok (.ireturn, 1) := by decide +kernel
theorem dX9_run_0 : decode cX9_run 0 = .ok (.aload_n 0, 1) := by decide +kernel
theorem dX9_run_1 : decode cX9_run 1 = .ok (.getfield 26, 3) := by decide +kernel
theorem dX9_run_4 : decode cX9_run 4 = .ok (.invokevirtual 232, 3) := by decide +kernel
theorem dX9_run_7 : decode cX9_run 7 = .ok (.istore_n 1, 1) := by decide +kernel
theorem dX9_run_8 : decode cX9_run 8 = .ok (.iload_n 1, 1) := by decide +kernel
theorem dX9_run_9 : decode cX9_run 9 = .ok (.iconst (-1), 1) := by decide +kernel
theorem dX9_run_10 : decode cX9_run 10 = .ok (.if_icmp .eq 8, 3) := by decide +kernel
theorem dX9_run_13 : decode cX9_run 13 = .ok (.bipush (-10), 2) := by decide +kernel
theorem dX9_run_15 : decode cX9_run 15 = .ok (.iload_n 1, 1) := by decide +kernel
theorem dX9_run_16 : decode cX9_run 16 = .ok (.isub, 1) := by decide +kernel
theorem dX9_run_17 : decode cX9_run 17 = .ok (.ireturn, 1) := by decide +kernel
theorem dX9_run_18 : decode cX9_run 18 = .ok (.aload_n 0, 1) := by decide +kernel
theorem dX9_run_19 : decode cX9_run 19 = .ok (.getfield 19, 3) := by decide +kernel
theorem dX9_run_22 : decode cX9_run 22 = .ok (.aload_n 0, 1) := by decide +kernel
theorem dX9_run_23 : decode cX9_run 23 = .ok (.getfield 12, 3) := by decide +kernel
theorem dX9_run_26 : decode cX9_run 26 = .ok (.invokevirtual 70, 3) := by decide +kernel
theorem dX9_run_29 : decode cX9_run 29 = .ok (.iconst 0, 1) := by decide +kernel
theorem dX9_run_30 : decode cX9_run 30 = .ok (.istore_n 2, 1) := by decide +kernel
theorem dX9_run_31 : decode cX9_run 31 = .ok (.aload_n 0, 1) := by decide +kernel
theorem dX9_run_32 : decode cX9_run 32 = .ok (.getfield 26, 3) := by decide +kernel
theorem dX9_run_35 : decode cX9_run 35 = .ok (.invokevirtual 235, 3) := by decide +kernel
theorem dX9_run_38 : decode cX9_run 38 = .ok (.iload_n 2, 1) := by decide +kernel
theorem dX9_run_39 : decode cX9_run 39 = .ok (.bipush 120, 2) := by decide +kernel
theorem dX9_run_41 : decode cX9_run 41 = .ok (.if_icmp .ge 77, 3) := by decide +kernel
theorem dX9_run_44 : decode cX9_run 44 = .ok (.aload_n 0, 1) := by decide +kernel
theorem dX9_run_45 : decode cX9_run 45 = .ok (.getfield 26, 3) := by decide +kernel
theorem dX9_run_48 : decode cX9_run 48 = .ok (.invokevirtual 238, 3) := by decide +kernel
theorem dX9_run_51 : decode cX9_run 51 = .ok (.ifCond .eq 67, 3) := by decide +kernel
theorem dX9_run_54 : decode cX9_run 54 = .ok (.aload_n 0, 1) := by decide +kernel
theorem dX9_run_55 : decode cX9_run 55 = .ok (.getfield 26, 3) := by decide +kernel
theorem dX9_run_58 : decode cX9_run 58 = .ok (.getfield 242, 3) := by decide +kernel
theorem dX9_run_61 : decode cX9_run 61 = .ok (.astore_n 3, 1) := by decide +kernel
theorem dX9_run_62 : decode cX9_run 62 = .ok (.aload_n 0, 1) := by decide +kernel
theorem dX9_run_63 : decode cX9_run 63 = .ok (.aload_n 0, 1) := by decide +kernel
theorem dX9_run_64 : decode cX9_run 64 = .ok (.getfield 26, 3) := by decide +kernel
theorem dX9_run_67 : decode cX9_run 67 = .ok (.getfield 245, 3) := by decide +kernel
theorem dX9_run_70 : decode cX9_run 70 = .ok (.aload_n 3, 1) := by decide +kernel
theorem dX9_run_71 : decode cX9_run 71 = .ok (.iconst 0, 1) := by decide +kernel
theorem dX9_run_72 : decode cX9_run 72 = .ok (.iaload, 1) := by decide +kernel
theorem dX9_run_73 : decode cX9_run 73 = .ok (.aload_n 3, 1) := by decide +kernel
theorem dX9_run_74 : decode cX9_run 74 = .ok (.iconst 1, 1) := by decide +kernel
theorem dX9_run_75 : decode cX9_run 75 = .ok (.iaload, 1) := by decide +kernel
theorem dX9_run_76 : decode cX9_run 76 = .ok (.aload_n 3, 1) := by decide +kernel
theorem dX9_run_77 : decode cX9_run 77 = .ok (.iconst 2, 1) := by decide +kernel
theorem dX9_run_78 : decode cX9_run 78 = .ok (.iaload, 1) := by decide +kernel
theorem dX9_run_79 : decode cX9_run 79 = .ok (.invokevirtual 248, 3) := by decide +kernel
theorem dX9_run_82 : decode cX9_run 82 = .ok (.getstatic 252, 3) := by decide +kernel
theorem dX9_run_85 : decode cX9_run 85 = .ok (.if_acmp .eq 6, 3) := by decide +kernel
theorem dX9_run_88 : decode cX9_run 88 = .ok (.goto 30, 3) := by decide +kernel
theorem dX9_run_91 : decode cX9_run 91 = .ok (.aload_n 0, 1) := by decide +kernel
theorem dX9_run_92 : decode cX9_run 92 = .ok (.aload_n 0, 1) := by decide +kernel
theorem dX9_run_93 : decode cX9_run 93 = .ok (.getfield 26, 3) := by decide +kernel
theorem dX9_run_96 : decode cX9_run 96 = .ok (.getfield 245, 3) := by decide +kernel
theorem dX9_run_99 : decode cX9_run 99 = .ok (.aload_n 3, 1) := by decide +kernel
theorem dX9_run_100 : decode cX9_run 100 = .ok (.iconst 0, 1) := by decide +kernel
theorem dX9_run_101 : decode cX9_run 101 = .ok (.iaload, 1) := by decide +kernel
theorem dX9_run_102 : decode cX9_run 102 = .ok (.aload_n 3, 1) := by decide +kernel
theorem dX9_run_103 : decode cX9_run 103 = .ok (.iconst 1, 1) := by decide +kernel
theorem dX9_run_104 : decode cX9_run 104 = .ok (.iaload, 1) := by decide +kernel
theorem dX9_run_105 : decode cX9_run 105 = .ok (.aload_n 3, 1) := by decide +kernel
theorem dX9_run_106 : decode cX9_run 106 = .ok (.iconst 2, 1) := by decide +kernel
theorem dX9_run_107 : decode cX9_run 107 = .ok (.iaload, 1) := by decide +kernel
theorem dX9_run_108 : decode cX9_run 108 = .ok (.invokevirtual 179, 3) := by decide +kernel
theorem dX9_run_111 : decode cX9_run 111 = .ok (.pop, 1) := by decide +kernel
theorem dX9_run_112 : decode cX9_run 112 = .ok (.iinc 2 1, 3) := by decide +kernel
theorem dX9_run_115 : decode cX9_run 115 = .ok (.goto (-77), 3) := by decide +kernel
theorem dX9_run_118 : decode cX9_run 118 = .ok (.iload_n 2, 1) := by decide +kernel
theorem dX9_run_119 : decode cX9_run 119 = .ok (.ireturn, 1) := by decide +kernel
theorem dX9_undo_0 : decode cX9_undo 0 = .ok (.aload_n 0, 1) := by decide +kernel
theorem dX9_undo_1 : decode cX9_undo 1 = .ok (.getfield 19, 3) := by decide +kernel
theorem dX9_undo_4 : decode cX9_undo 4 = .ok (.getfield 258, 3) := by decide +kernel
theorem dX9_undo_7 : decode cX9_undo 7 = .ok (.ifCond .ne 14, 3) := by decide +kernel
theorem dX9_undo_10 : decode cX9_undo 10 = .ok (.new 123, 3) := by decide +kernel
theorem dX9_undo_13 : decode cX9_undo 13 = .ok (.dup, 1) := by decide +kernel
theorem dX9_undo_14 : decode cX9_undo 14 = .ok (.ldc_w 259, 3) := by decide +kernel
theorem dX9_undo_17 : decode cX9_undo 17 = .ok (.invokespecial 127, 3) := by decide +kernel
theorem dX9_undo_20 : decode cX9_undo 20 = .ok (.athrow, 1) := by decide +kernel
theorem dX9_undo_21 : decode cX9_undo 21 = .ok (.aload_n 0, 1) := by decide +kernel
theorem dX9_undo_22 : decode cX9_undo 22 = .ok (.getfield 19, 3) := by decide +kernel
theorem dX9_undo_25 : decode cX9_undo 25 = .ok (.aload_n 0, 1) := by decide +kernel
theorem dX9_undo_26 : decode cX9_undo 26 = .ok (.getfield 12, 3) := by decide +kernel
theorem dX9_undo_29 : decode cX9_undo 29 = .ok (.invokevirtual 261, 3) := by decide +kernel
theorem dX9_undo_32 : decode cX9_undo 32 = .ok (.aload_n 0, 1) := by decide +kernel
theorem dX9_undo_33 : decode cX9_undo 33 = .ok (.invokevirtual 74, 3) := by decide +kernel
theorem dX9_undo_36 : decode cX9_undo 36 = .ok (.aload_n 0, 1) := by decide +kernel
theorem dX9_undo_37 : decode cX9_undo 37 = .ok (.getfield 19, 3) := by decide +kernel
theorem dX9_undo_40 : decode cX9_undo 40 = .ok (.getfield 258, 3) := by decide +kernel
theorem dX9_undo_43 : decode cX9_undo 43 = .ok (.ireturn, 1) := by decide +kernel
theorem dX9_digest_0 : decode cX9_digest 0 = .ok (.ldc2_w 264, 3) := by decide +kernel
theorem dX9_digest_3 : decode cX9_digest 3 = .ok (.aload_n 0, 1) := by decide +kernel
theorem dX9_digest_4 : decode cX9_digest 4 = .ok (.getfield 19, 3) := by decide +kernel
theorem dX9_digest_7 : decode cX9_digest 7 = .ok (.getfield 258, 3) := by decide +kernel
theorem dX9_digest_10 : decode cX9_digest 10 = .ok (.i2l, 1) := by decide +kernel
theorem dX9_digest_11 : decode cX9_digest 11 = .ok (.invokestatic 266, 3) := by decide +kernel
theorem dX9_digest_14 : decode cX9_digest 14 = .ok (.lstore_n 1, 1) := by decide +kernel
theorem dX9_digest_15 : decode cX9_digest 15 = .ok (.lload_n 1, 1) := by decide +kernel
theorem dX9_digest_16 : decode cX9_digest 16 = .ok (.aload_n 0, 1) := by decide +kernel
theorem dX9_digest_17 : decode cX9_digest 17 = .ok (.getfield 26, 3) := by decide +kernel
theorem dX9_digest_20 : decode cX9_digest 20 = .ok (.getfield 224, 3) := by decide +kernel
theorem dX9_digest_23 : decode cX9_digest 23 = .ok (.i2l, 1) := by decide +kernel
theorem dX9_digest_24 : decode cX9_digest 24 = .ok (.invokestatic 266, 3) := by decide +kernel
theorem dX9_digest_27 : decode cX9_digest 27 = .ok (.lstore_n 1, 1) := by decide +kernel
theorem dX9_digest_28 : decode cX9_digest 28 = .ok (.aload_n 0, 1) := by decide +kernel
theorem dX9_digest_29 : decode cX9_digest 29 = .ok (.lload_n 1, 1) := by decide +kernel
theorem dX9_digest_30 : decode cX9_digest 30 = .ok (.invokevirtual 270, 3) := by decide +kernel
theorem dX9_digest_33 : decode cX9_digest 33 = .ok (.lstore_n 1, 1) := by decide +kernel
theorem dX9_digest_34 : decode cX9_digest 34 = .ok (.iconst 0, 1) := by decide +kernel
theorem dX9_digest_35 : decode cX9_digest 35 = .ok (.istore_n 3, 1) := by decide +kernel
theorem dX9_digest_36 : decode cX9_digest 36 = .ok (.iload_n 3, 1) := by decide +kernel
theorem dX9_digest_37 : decode cX9_digest 37 = .ok (.bipush 9, 2) := by decide +kernel
theorem dX9_digest_39 : decode cX9_digest 39 = .ok (.if_icmp .ge 19, 3) := by decide +kernel
theorem dX9_digest_42 : decode cX9_digest 42 = .ok (.lload_n 1, 1) := by decide +kernel
theorem dX9_digest_43 : decode cX9_digest 43 = .ok (.aload_n 0, 1) := by decide +kernel
theorem dX9_digest_44 : decode cX9_digest 44 = .ok (.iload_n 3, 1) := by decide +kernel
theorem dX9_digest_45 : decode cX9_digest 45 = .ok (.invokevirtual 274, 3) := by decide +kernel
theorem dX9_digest_48 : decode cX9_digest 48 = .ok (.invokestatic 266, 3) := by decide +kernel
theorem dX9_digest_51 : decode cX9_digest 51 = .ok (.lstore_n 1, 1) := by decide +kernel
theorem dX9_digest_52 : decode cX9_digest 52 = .ok (.iinc 3 1, 3) := by decide +kernel
theorem dX9_digest_55 : decode cX9_digest 55 = .ok (.goto (-19), 3) := by decide +kernel
theorem dX9_digest_58 : decode cX9_digest 58 = .ok (.iconst 0, 1) := by decide +kernel
theorem dX9_digest_59 : decode cX9_digest 59 = .ok (.istore_n 3, 1) := by decide +kernel
theorem dX9_digest_60 : decode cX9_digest 60 = .ok (.iload_n 3, 1) := by decide +kernel
theorem dX9_digest_61 : decode cX9_digest 61 = .ok (.aload_n 0, 1) := by decide +kernel
theorem dX9_digest_62 : decode cX9_digest 62 = .ok (.getfield 12, 3) := by decide +kernel
theorem dX9_digest_65 : decode cX9_digest 65 = .ok (.getfield 77, 3) := by decide +kernel
theorem dX9_digest_68 : decode cX9_digest 68 = .ok (.getfield 104, 3) := by decide +kernel
theorem dX9_digest_71 : decode cX9_digest 71 = .ok (.if_icmp .gt 19, 3) := by decide +kernel
theorem dX9_digest_74 : decode cX9_digest 74 = .ok (.lload_n 1, 1) := by decide +kernel
theorem dX9_digest_75 : decode cX9_digest 75 = .ok (.aload_n 0, 1) := by decide +kernel
theorem dX9_digest_76 : decode cX9_digest 76 = .ok (.iload_n 3, 1) := by decide +kernel
theorem dX9_digest_77 : decode cX9_digest 77 = .ok (.invokevirtual 278, 3) := by decide +kernel
theorem dX9_digest_80 : decode cX9_digest 80 = .ok (.invokestatic 266, 3) := by decide +kernel
theorem dX9_digest_83 : decode cX9_digest 83 = .ok (.lstore_n 1, 1) := by decide +kernel
theorem dX9_digest_84 : decode cX9_digest 84 = .ok (.iinc 3 1, 3) := by decide +kernel
theorem dX9_digest_87 : decode cX9_digest 87 = .ok (.goto (-27), 3) := by decide +kernel
theorem dX9_digest_90 : decode cX9_digest 90 = .ok (.lload_n 1, 1) := by decide +kernel
theorem dX9_digest_91 : decode cX9_digest 91 = .ok (.aload_n 0, 1) := by decide +kernel
theorem dX9_digest_92 : decode cX9_digest 92 = .ok (.invokevirtual 281, 3) := by decide +kernel
theorem dX9_digest_95 : decode cX9_digest 95 = .ok (.i2l, 1) := by decide +kernel
theorem dX9_digest_96 : decode cX9_digest 96 = .ok (.invokestatic 266, 3) := by decide +kernel
theorem dX9_digest_99 : decode cX9_digest 99 = .ok (.lstore_n 1, 1) := by decide +kernel
theorem dX9_digest_100 : decode cX9_digest 100 = .ok (.iconst 0, 1) := by decide +kernel
theorem dX9_digest_101 : decode cX9_digest 101 = .ok (.istore_n 3, 1) := by decide +kernel
theorem dX9_digest_102 : decode cX9_digest 102 = .ok (.iload_n 3, 1) := by decide +kernel
theorem dX9_digest_103 : decode cX9_digest 103 = .ok (.iconst 3, 1) := by decide +kernel
theorem dX9_digest_104 : decode cX9_digest 104 = .ok (.if_icmp .gt 20, 3) := by decide +kernel
theorem dX9_digest_107 : decode cX9_digest 107 = .ok (.lload_n 1, 1) := by decide +kernel
theorem dX9_digest_108 : decode cX9_digest 108 = .ok (.aload_n 0, 1) := by decide +kernel
theorem dX9_digest_109 : decode cX9_digest 109 = .ok (.iload_n 3, 1) := by decide +kernel
theorem dX9_digest_110 : decode cX9_digest 110 = .ok (.invokevirtual 284, 3) := by decide +kernel
theorem dX9_digest_113 : decode cX9_digest 113 = .ok (.i2l, 1) := by decide +kernel
theorem dX9_digest_114 : decode cX9_digest 114 = .ok (.invokestatic 266, 3) := by decide +kernel
theorem dX9_digest_117 : decode cX9_digest 117 = .ok (.lstore_n 1, 1) := by decide +kernel
theorem dX9_digest_118 : decode cX9_digest 118 = .ok (.iinc 3 1, 3) := by decide +kernel
theorem dX9_digest_121 : decode cX9_digest 121 = .ok (.goto (-19), 3) := by decide +kernel
theorem dX9_digest_124 : decode cX9_digest 124 = .ok (.iconst 0, 1) := by decide +kernel
theorem dX9_digest_125 : decode cX9_digest 125 = .ok (.istore_n 3, 1) := by decide +kernel
theorem dX9_digest_126 : decode cX9_digest 126 = .ok (.iload_n 3, 1) := by decide +kernel
theorem dX9_digest_127 : decode cX9_digest 127 = .ok (.sipush 201, 3) := by decide +kernel
theorem dX9_digest_130 : decode cX9_digest 130 = .ok (.if_icmp .ge 23, 3) := by decide +kernel
theorem dX9_digest_133 : decode cX9_digest 133 = .ok (.lload_n 1, 1) := by decide +kernel
theorem dX9_digest_134 : decode cX9_digest 134 = .ok (.aload_n 0, 1) := by decide +kernel
theorem dX9_digest_135 : decode cX9_digest 135 = .ok (.getfield 12, 3) := by decide +kernel
theorem dX9_digest_138 : decode cX9_digest 138 = .ok (.getfield 203, 3) := by decide +kernel
theorem dX9_digest_141 : decode cX9_digest 141 = .ok (.iload_n 3, 1) := by decide +kernel
theorem dX9_digest_142 : decode cX9_digest 142 = .ok (.laload, 1) := by decide +kernel
theorem dX9_digest_143 : decode cX9_digest 143 = .ok (.invokestatic 266, 3) := by decide +kernel
theorem dX9_digest_146 : decode cX9_digest 146 = .ok (.lstore_n 1, 1) := by decide +kernel
theorem dX9_digest_147 : decode cX9_digest 147 = .ok (.iinc 3 1, 3) := by decide +kernel
theorem dX9_digest_150 : decode cX9_digest 150 = .ok (.goto (-24), 3) := by decide +kernel
theorem dX9_digest_153 : decode cX9_digest 153 = .ok (.iconst 0, 1) := by decide +kernel
theorem dX9_digest_154 : decode cX9_digest 154 = .ok (.istore_n 3, 1) := by decide +kernel
theorem dX9_digest_155 : decode cX9_digest 155 = .ok (.iload_n 3, 1) := by decide +kernel
theorem dX9_digest_156 : decode cX9_digest 156 = .ok (.iconst 3, 1) := by decide +kernel
theorem dX9_digest_157 : decode cX9_digest 157 = .ok (.if_icmp .gt 20, 3) := by decide +kernel
theorem dX9_digest_160 : decode cX9_digest 160 = .ok (.lload_n 1, 1) := by decide +kernel
theorem dX9_digest_161 : decode cX9_digest 161 = .ok (.aload_n 0, 1) := by decide +kernel
theorem dX9_digest_162 : decode cX9_digest 162 = .ok (.iload_n 3, 1) := by decide +kernel
theorem dX9_digest_163 : decode cX9_digest 163 = .ok (.invokevirtual 287, 3) := by decide +kernel
theorem dX9_digest_166 : decode cX9_digest 166 = .ok (.i2l, 1) := by decide +kernel
theorem dX9_digest_167 : decode cX9_digest 167 = .ok (.invokestatic 266, 3) := by decide +kernel
theorem dX9_digest_170 : decode cX9_digest 170 = .ok (.lstore_n 1, 1) := by decide +kernel
theorem dX9_digest_171 : decode cX9_digest 171 = .ok (.iinc 3 1, 3) := by decide +kernel
theorem dX9_digest_174 : decode cX9_digest 174 = .ok (.goto (-19), 3) := by decide +kernel
theorem dX9_digest_177 : decode cX9_digest 177 = .ok (.lload_n 1, 1) := by decide +kernel
theorem dX9_digest_178 : decode cX9_digest 178 = .ok (.aload_n 0, 1) := by decide +kernel
theorem dX9_digest_179 : decode cX9_digest 179 = .ok (.invokevirtual 206, 3) := by decide +kernel
theorem dX9_digest_182 : decode cX9_digest 182 = .ok (.getfield 216, 3) := by decide +kernel
theorem dX9_digest_185 : decode cX9_digest 185 = .ok (.invokestatic 290, 3) := by decide +kernel
theorem dX9_digest_188 : decode cX9_digest 188 = .ok (.lreturn, 1) := by decide +kernel
theorem dX9_change_0 : decode cX9_change 0 = .ok (.aload_n 0, 1) := by decide +kernel
theorem dX9_change_1 : decode cX9_change 1 = .ok (.aload_n 1, 1) := by decide +kernel
theorem dX9_change_2 : decode cX9_change 2 = .ok (.iload_n 2, 1) := by decide +kernel
theorem dX9_change_3 : decode cX9_change 3 = .ok (.iload_n 3, 1) := by decide +kernel
theorem dX9_change_4 : decode cX9_change 4 = .ok (.iload 4, 2) := by decide +kernel
theorem dX9_change_6 : decode cX9_change 6 = .ok (.invokevirtual 248, 3) := by decide +kernel
theorem dX9_change_9 : decode cX9_change 9 = .ok (.invokestatic 294, 3) := by decide +kernel
theorem dX9_change_12 : decode cX9_change 12 = .ok (.aload_n 0, 1) := by decide +kernel
theorem dX9_change_13 : decode cX9_change 13 = .ok (.getfield 19, 3) := by decide +kernel
theorem dX9_change_16 : decode cX9_change 16 = .ok (.aload_n 0, 1) := by decide +kernel
theorem dX9_change_17 : decode cX9_change 17 = .ok (.getfield 12, 3) := by decide +kernel
theorem dX9_change_20 : decode cX9_change 20 = .ok (.invokevirtual 70, 3) := by decide +kernel
theorem dX9_change_23 : decode cX9_change 23 = .ok (.aload_n 0, 1) := by decide +kernel
theorem dX9_change_24 : decode cX9_change 24 = .ok (.aload_n 1, 1) := by decide +kernel
theorem dX9_change_25 : decode cX9_change 25 = .ok (.iload_n 2, 1) := by decide +kernel
theorem dX9_change_26 : decode cX9_change 26 = .ok (.iload_n 3, 1) := by decide +kernel
theorem dX9_change_27 : decode cX9_change 27 = .ok (.iload 4, 2) := by decide +kernel
theorem dX9_change_29 : decode cX9_change 29 = .ok (.invokevirtual 298, 3) := by decide +kernel
theorem dX9_change_32 : decode cX9_change 32 = .ok (.ireturn, 1) := by decide +kernel
theorem dX9_verdictOn_0 : decode cX9_verdictOn 0 = .ok (.getstatic 301, 3) := by decide +kernel
theorem dX9_verdictOn_3 : decode cX9_verdictOn 3 = .ok (.aload_n 1, 1) := by decide +kernel
theorem dX9_verdictOn_4 : decode cX9_verdictOn 4 = .ok (.invokevirtual 306, 3) := by decide +kernel
theorem dX9_verdictOn_7 : decode cX9_verdictOn 7 = .ok (.iaload, 1) := by decide +kernel
theorem dX9_verdictOn_8 : decode cX9_verdictOn 8 = .ok (.tableswitch 104 1 5 #[36, 49, 64, 76, 91], 36) := by decide +kernel
theorem dX9_verdictOn_44 : decode cX9_verdictOn 44 = .ok (.aload_n 0, 1) := by decide +kernel
theorem dX9_verdictOn_45 : decode cX9_verdictOn 45 = .ok (.getfield 12, 3) := by decide +kernel
theorem dX9_verdictOn_48 : decode cX9_verdictOn 48 = .ok (.getfield 77, 3) := by decide +kernel
theorem dX9_verdictOn_51 : decode cX9_verdictOn 51 = .ok (.iload_n 2, 1) := by decide +kernel
theorem dX9_verdictOn_52 : decode cX9_verdictOn 52 = .ok (.iload_n 3, 1) := by decide +kernel
theorem dX9_verdictOn_53 : decode cX9_verdictOn 53 = .ok (.invokevirtual 309, 3) := by decide +kernel
theorem dX9_verdictOn_56 : decode cX9_verdictOn 56 = .ok (.areturn, 1) := by decide +kernel
theorem dX9_verdictOn_57 : decode cX9_verdictOn 57 = .ok (.aload_n 0, 1) := by decide +kernel
theorem dX9_verdictOn_58 : decode cX9_verdictOn 58 = .ok (.getfield 12, 3) := by decide +kernel
theorem dX9_verdictOn_61 : decode cX9_verdictOn 61 = .ok (.getfield 77, 3) := by decide +kernel
theorem dX9_verdictOn_64 : decode cX9_verdictOn 64 = .ok (.iload_n 2, 1) := by decide +kernel
theorem dX9_verdictOn_65 : decode cX9_verdictOn 65 = .ok (.iload_n 3, 1) := by decide +kernel
theorem dX9_verdictOn_66 : decode cX9_verdictOn 66 = .ok (.iload 4, 2) := by decide +kernel
theorem dX9_verdictOn_68 : decode cX9_verdictOn 68 = .ok (.invokevirtual 313, 3) := by decide +kernel
theorem dX9_verdictOn_71 : decode cX9_verdictOn 71 = .ok (.areturn, 1) := by decide +kernel
theorem dX9_verdictOn_72 : decode cX9_verdictOn 72 = .ok (.aload_n 0, 1) := by decide +kernel
theorem dX9_verdictOn_73 : decode cX9_verdictOn 73 = .ok (.getfield 12, 3) := by decide +kernel
theorem dX9_verdictOn_76 : decode cX9_verdictOn 76 = .ok (.getfield 77, 3) := by decide +kernel
theorem dX9_verdictOn_79 : decode cX9_verdictOn 79 = .ok (.iload_n 2, 1) := by decide +kernel
theorem dX9_verdictOn_80 : decode cX9_verdictOn 80 = .ok (.invokevirtual 317, 3) := by decide +kernel
theorem dX9_verdictOn_83 : decode cX9_verdictOn 83 = .ok (.areturn, 1) := by decide +kernel
theorem dX9_verdictOn_84 : decode cX9_verdictOn 84 = .ok (.aload_n 0, 1) := by decide +kernel
theorem dX9_verdictOn_85 : decode cX9_verdictOn 85 = .ok (.getfield 12, 3) := by decide +kernel
theorem dX9_verdictOn_88 : decode cX9_verdictOn 88 = .ok (.getfield 77, 3) := by decide +kernel
theorem dX9_verdictOn_91 : decode cX9_verdictOn 91 = .ok (.iload_n 2, 1) := by decide +kernel
theorem dX9_verdictOn_92 : decode cX9_verdictOn 92 = .ok (.iload_n 3, 1) := by decide +kernel
theorem dX9_verdictOn_93 : decode cX9_verdictOn 93 = .ok (.iload 4, 2) := by decide +kernel
theorem dX9_verdictOn_95 : decode cX9_verdictOn 95 = .ok (.invokevirtual 321, 3) := by decide +kernel
theorem dX9_verdictOn_98 : decode cX9_verdictOn 98 = .ok (.areturn, 1) := by decide +kernel
theorem dX9_verdictOn_99 : decode cX9_verdictOn 99 = .ok (.aload_n 0, 1) := by decide +kernel
theorem dX9_verdictOn_100 : decode cX9_verdictOn 100 = .ok (.getfield 12, 3) := by decide +kernel
theorem dX9_verdictOn_103 : decode cX9_verdictOn 103 = .ok (.getfield 77, 3) := by decide +kernel
theorem dX9_verdictOn_106 : decode cX9_verdictOn 106 = .ok (.iload_n 2, 1) := by decide +kernel
theorem dX9_verdictOn_107 : decode cX9_verdictOn 107 = .ok (.iload_n 3, 1) := by decide +kernel
theorem dX9_verdictOn_108 : decode cX9_verdictOn 108 = .ok (.invokevirtual 324, 3) := by decide +kernel
theorem dX9_verdictOn_111 : decode cX9_verdictOn 111 = .ok (.areturn, 1) := by decide +kernel
theorem dX9_verdictOn_112 : decode cX9_verdictOn 112 = .ok (.getstatic 252, 3) := by decide +kernel
theorem dX9_verdictOn_115 : decode cX9_verdictOn 115 = .ok (.areturn, 1) := by decide +kernel
theorem dX9_carryOut_0 : decode cX9_carryOut 0 = .ok (.getstatic 301, 3) := by decide +kernel
theorem dX9_carryOut_3 : decode cX9_carryOut 3 = .ok (.aload_n 1, 1) := by decide +kernel
theorem dX9_carryOut_4 : decode cX9_carryOut 4 = .ok (.invokevirtual 306, 3) := by decide +kernel
theorem dX9_carryOut_7 : decode cX9_carryOut 7 = .ok (.iaload, 1) := by decide +kernel
theorem dX9_carryOut_8 : decode cX9_carryOut 8 = .ok (.tableswitch 92 6 8 #[28, 40, 60], 28) := by decide +kernel
theorem dX9_carryOut_36 : decode cX9_carryOut 36 = .ok (.aload_n 0, 1) := by decide +kernel
theorem dX9_carryOut_37 : decode cX9_carryOut 37 = .ok (.aload_n 0, 1) := by decide +kernel
theorem dX9_carryOut_38 : decode cX9_carryOut 38 = .ok (.getfield 12, 3) := by decide +kernel
theorem dX9_carryOut_41 : decode cX9_carryOut 41 = .ok (.getfield 182, 3) := by decide +kernel
theorem dX9_carryOut_44 : decode cX9_carryOut 44 = .ok (.invokevirtual 327, 3) := by decide +kernel
theorem dX9_carryOut_47 : decode cX9_carryOut 47 = .ok (.ireturn, 1) := by decide +kernel
theorem dX9_carryOut_48 : decode cX9_carryOut 48 = .ok (.aload_n 0, 1) := by decide +kernel
theorem dX9_carryOut_49 : decode cX9_carryOut 49 = .ok (.aload_n 0, 1) := by decide +kernel
theorem dX9_carryOut_50 : decode cX9_carryOut 50 = .ok (.getfield 12, 3) := by decide +kernel
theorem dX9_carryOut_53 : decode cX9_carryOut 53 = .ok (.getfield 203, 3) := by decide +kernel
theorem dX9_carryOut_56 : decode cX9_carryOut 56 = .ok (.invokevirtual 327, 3) := by decide +kernel
theorem dX9_carryOut_59 : decode cX9_carryOut 59 = .ok (.istore 5, 2) := by decide +kernel
theorem dX9_carryOut_61 : decode cX9_carryOut 61 = .ok (.aload_n 0, 1) := by decide +kernel
theorem dX9_carryOut_62 : decode cX9_carryOut 62 = .ok (.invokevirtual 74, 3) := by decide +kernel
theorem dX9_carryOut_65 : decode cX9_carryOut 65 = .ok (.iload 5, 2) := by decide +kernel
theorem dX9_carryOut_67 : decode cX9_carryOut 67 = .ok (.ireturn, 1) := by decide +kernel
theorem dX9_carryOut_68 : decode cX9_carryOut 68 = .ok (.aload_n 0, 1) := by decide +kernel
theorem dX9_carryOut_69 : decode cX9_carryOut 69 = .ok (.getfield 12, 3) := by decide +kernel
theorem dX9_carryOut_72 : decode cX9_carryOut 72 = .ok (.getfield 77, 3) := by decide +kernel
theorem dX9_carryOut_75 : decode cX9_carryOut 75 = .ok (.aload_n 0, 1) := by decide +kernel
theorem dX9_carryOut_76 : decode cX9_carryOut 76 = .ok (.invokevirtual 206, 3) := by decide +kernel
theorem dX9_carryOut_79 : decode cX9_carryOut 79 = .ok (.getfield 216, 3) := by decide +kernel
theorem dX9_carryOut_82 : decode cX9_carryOut 82 = .ok (.invokevirtual 331, 3) := by decide +kernel
theorem dX9_carryOut_85 : decode cX9_carryOut 85 = .ok (.aload_n 0, 1) := by decide +kernel
theorem dX9_carryOut_86 : decode cX9_carryOut 86 = .ok (.invokevirtual 74, 3) := by decide +kernel
theorem dX9_carryOut_89 : decode cX9_carryOut 89 = .ok (.aload_n 0, 1) := by decide +kernel
theorem dX9_carryOut_90 : decode cX9_carryOut 90 = .ok (.getfield 12, 3) := by decide +kernel
theorem dX9_carryOut_93 : decode cX9_carryOut 93 = .ok (.getfield 77, 3) := by decide +kernel
theorem dX9_carryOut_96 : decode cX9_carryOut 96 = .ok (.getfield 86, 3) := by decide +kernel
theorem dX9_carryOut_99 : decode cX9_carryOut 99 = .ok (.ireturn, 1) := by decide +kernel
theorem dX9_carryOut_100 : decode cX9_carryOut 100 = .ok (.aload_n 0, 1) := by decide +kernel
theorem dX9_carryOut_101 : decode cX9_carryOut 101 = .ok (.aload_n 1, 1) := by decide +kernel
theorem dX9_carryOut_102 : decode cX9_carryOut 102 = .ok (.iload_n 2, 1) := by decide +kernel
theorem dX9_carryOut_103 : decode cX9_carryOut 103 = .ok (.iload_n 3, 1) := by decide +kernel
theorem dX9_carryOut_104 : decode cX9_carryOut 104 = .ok (.iload 4, 2) := by decide +kernel
theorem dX9_carryOut_106 : decode cX9_carryOut 106 = .ok (.invokevirtual 298, 3) := by decide +kernel
theorem dX9_carryOut_109 : decode cX9_carryOut 109 = .ok (.ireturn, 1) := by decide +kernel
theorem dX9_changeBench_0 : decode cX9_changeBench 0 = .ok (.aload_n 0, 1) := by decide +kernel
theorem dX9_changeBench_1 : decode cX9_changeBench 1 = .ok (.invokevirtual 74, 3) := by decide +kernel
theorem dX9_changeBench_4 : decode cX9_changeBench 4 = .ok (.getstatic 301, 3) := by decide +kernel
theorem dX9_changeBench_7 : decode cX9_changeBench 7 = .ok (.aload_n 1, 1) := by decide +kernel
theorem dX9_changeBench_8 : decode cX9_changeBench 8 = .ok (.invokevirtual 306, 3) := by decide +kernel
theorem dX9_changeBench_11 : decode cX9_changeBench 11 = .ok (.iaload, 1) := by decide +kernel
theorem dX9_changeBench_12 : decode cX9_changeBench 12 = .ok (.tableswitch 87 1 4 #[32, 45, 60, 72], 32) := by decide +kernel
theorem dX9_changeBench_44 : decode cX9_changeBench 44 = .ok (.aload_n 0, 1) := by decide +kernel
theorem dX9_changeBench_45 : decode cX9_changeBench 45 = .ok (.getfield 12, 3) := by decide +kernel
theorem dX9_changeBench_48 : decode cX9_changeBench 48 = .ok (.getfield 77, 3) := by decide +kernel
theorem dX9_changeBench_51 : decode cX9_changeBench 51 = .ok (.iload_n 2, 1) := by decide +kernel
theorem dX9_changeBench_52 : decode cX9_changeBench 52 = .ok (.iload_n 3, 1) := by decide +kernel
theorem dX9_changeBench_53 : decode cX9_changeBench 53 = .ok (.invokevirtual 335, 3) := by decide +kernel
theorem dX9_changeBench_56 : decode cX9_changeBench 56 = .ok (.ireturn, 1) := by decide +kernel
theorem dX9_changeBench_57 : decode cX9_changeBench 57 = .ok (.aload_n 0, 1) := by decide +kernel
theorem dX9_changeBench_58 : decode cX9_changeBench 58 = .ok (.getfield 12, 3) := by decide +kernel
theorem dX9_changeBench_61 : decode cX9_changeBench 61 = .ok (.getfield 77, 3) := by decide +kernel
theorem dX9_changeBench_64 : decode cX9_changeBench 64 = .ok (.iload_n 2, 1) := by decide +kernel
theorem dX9_changeBench_65 : decode cX9_changeBench 65 = .ok (.iload_n 3, 1) := by decide +kernel
theorem dX9_changeBench_66 : decode cX9_changeBench 66 = .ok (.iload 4, 2) := by decide +kernel
theorem dX9_changeBench_68 : decode cX9_changeBench 68 = .ok (.invokevirtual 338, 3) := by decide +kernel
theorem dX9_changeBench_71 : decode cX9_changeBench 71 = .ok (.ireturn, 1) := by decide +kernel
theorem dX9_changeBench_72 : decode cX9_changeBench 72 = .ok (.aload_n 0, 1) := by decide +kernel
theorem dX9_changeBench_73 : decode cX9_changeBench 73 = .ok (.getfield 12, 3) := by decide +kernel
theorem dX9_changeBench_76 : decode cX9_changeBench 76 = .ok (.getfield 77, 3) := by decide +kernel
theorem dX9_changeBench_79 : decode cX9_changeBench 79 = .ok (.iload_n 2, 1) := by decide +kernel
theorem dX9_changeBench_80 : decode cX9_changeBench 80 = .ok (.invokevirtual 342, 3) := by decide +kernel
theorem dX9_changeBench_83 : decode cX9_changeBench 83 = .ok (.ireturn, 1) := by decide +kernel
theorem dX9_changeBench_84 : decode cX9_changeBench 84 = .ok (.aload_n 0, 1) := by decide +kernel
theorem dX9_changeBench_85 : decode cX9_changeBench 85 = .ok (.getfield 12, 3) := by decide +kernel
theorem dX9_changeBench_88 : decode cX9_changeBench 88 = .ok (.getfield 77, 3) := by decide +kernel
theorem dX9_changeBench_91 : decode cX9_changeBench 91 = .ok (.iload_n 2, 1) := by decide +kernel
theorem dX9_changeBench_92 : decode cX9_changeBench 92 = .ok (.iload_n 3, 1) := by decide +kernel
theorem dX9_changeBench_93 : decode cX9_changeBench 93 = .ok (.iload 4, 2) := by decide +kernel
theorem dX9_changeBench_95 : decode cX9_changeBench 95 = .ok (.invokevirtual 345, 3) := by decide +kernel
theorem dX9_changeBench_98 : decode cX9_changeBench 98 = .ok (.ireturn, 1) := by decide +kernel
theorem dX9_changeBench_99 : decode cX9_changeBench 99 = .ok (.aload_n 0, 1) := by decide +kernel
theorem dX9_changeBench_100 : decode cX9_changeBench 100 = .ok (.getfield 12, 3) := by decide +kernel
theorem dX9_changeBench_103 : decode cX9_changeBench 103 = .ok (.getfield 77, 3) := by decide +kernel
theorem dX9_changeBench_106 : decode cX9_changeBench 106 = .ok (.iload_n 2, 1) := by decide +kernel
theorem dX9_changeBench_107 : decode cX9_changeBench 107 = .ok (.iload_n 3, 1) := by decide +kernel
theorem dX9_changeBench_108 : decode cX9_changeBench 108 = .ok (.invokevirtual 348, 3) := by decide +kernel
theorem dX9_changeBench_111 : decode cX9_changeBench 111 = .ok (.ireturn, 1) := by decide +kernel
theorem dX9_copyEchoes_0 : decode cX9_copyEchoes 0 = .ok (.aload_n 0, 1) := by decide +kernel
theorem dX9_copyEchoes_1 : decode cX9_copyEchoes 1 = .ok (.invokevirtual 144, 3) := by decide +kernel
theorem dX9_copyEchoes_4 : decode cX9_copyEchoes 4 = .ok (.astore_n 2, 1) := by decide +kernel
theorem dX9_copyEchoes_5 : decode cX9_copyEchoes 5 = .ok (.aload_n 2, 1) := by decide +kernel
theorem dX9_copyEchoes_6 : decode cX9_copyEchoes 6 = .ok (.getfield 148, 3) := by decide +kernel
theorem dX9_copyEchoes_9 : decode cX9_copyEchoes 9 = .ok (.iconst 0, 1) := by decide +kernel
theorem dX9_copyEchoes_10 : decode cX9_copyEchoes 10 = .ok (.aload_n 1, 1) := by decide +kernel
theorem dX9_copyEchoes_11 : decode cX9_copyEchoes 11 = .ok (.iconst 0, 1) := by decide +kernel
theorem dX9_copyEchoes_12 : decode cX9_copyEchoes 12 = .ok (.sipush 201, 3) := by decide +kernel
theorem dX9_copyEchoes_15 : decode cX9_copyEchoes 15 = .ok (.invokestatic 351, 3) := by decide +kernel
theorem dX9_copyEchoes_18 : decode cX9_copyEchoes 18 = .ok (.aload_n 2, 1) := by decide +kernel
theorem dX9_copyEchoes_19 : decode cX9_copyEchoes 19 = .ok (.getfield 158, 3) := by decide +kernel
theorem dX9_copyEchoes_22 : decode cX9_copyEchoes 22 = .ok (.bipush 7, 2) := by decide +kernel
theorem dX9_copyEchoes_24 : decode cX9_copyEchoes 24 = .ok (.laload, 1) := by decide +kernel
theorem dX9_copyEchoes_25 : decode cX9_copyEchoes 25 = .ok (.l2i, 1) := by decide +kernel
theorem dX9_copyEchoes_26 : decode cX9_copyEchoes 26 = .ok (.ireturn, 1) := by decide +kernel
theorem dX9_forgetResults_0 : decode cX9_forgetResults 0 = .ok (.aload_n 0, 1) := by decide +kernel
theorem dX9_forgetResults_1 : decode cX9_forgetResults 1 = .ok (.iconst 0, 1) := by decide +kernel
theorem dX9_forgetResults_2 : decode cX9_forgetResults 2 = .ok (.putfield 44, 3) := by decide +kernel
theorem dX9_forgetResults_5 : decode cX9_forgetResults 5 = .ok (.aload_n 0, 1) := by decide +kernel
theorem dX9_forgetResults_6 : decode cX9_forgetResults 6 = .ok (.iconst 0, 1) := by decide +kernel
theorem dX9_forgetResults_7 : decode cX9_forgetResults 7 = .ok (.putfield 48, 3) := by decide +kernel
theorem dX9_forgetResults_10 : decode cX9_forgetResults 10 = .ok (.return_, 1) := by decide +kernel
theorem dX9_presentWave_0 : decode cX9_presentWave 0 = .ok (.aload_n 0, 1) := by decide +kernel
theorem dX9_presentWave_1 : decode cX9_presentWave 1 = .ok (.getfield 44, 3) := by decide +kernel
theorem dX9_presentWave_4 : decode cX9_presentWave 4 = .ok (.ifCond .ne 22, 3) := by decide +kernel
theorem dX9_presentWave_7 : decode cX9_presentWave 7 = .ok (.aload_n 0, 1) := by decide +kernel
theorem dX9_presentWave_8 : decode cX9_presentWave 8 = .ok (.getfield 33, 3) := by decide +kernel
theorem dX9_presentWave_11 : decode cX9_presentWave 11 = .ok (.aload_n 0, 1) := by decide +kernel
theorem dX9_presentWave_12 : decode cX9_presentWave 12 = .ok (.getfield 12, 3) := by decide +kernel
theorem dX9_presentWave_15 : decode cX9_presentWave 15 = .ok (.getfield 77, 3) := by decide +kernel
theorem dX9_presentWave_18 : decode cX9_presentWave 18 = .ok (.invokevirtual 357, 3) := by decide +kernel
theorem dX9_presentWave_21 : decode cX9_presentWave 21 = .ok (.aload_n 0, 1) := by decide +kernel
theorem dX9_presentWave_22 : decode cX9_presentWave 22 = .ok (.iconst 1, 1) := by decide +kernel
theorem dX9_presentWave_23 : decode cX9_presentWave 23 = .ok (.putfield 44, 3) := by decide +kernel
theorem dX9_presentWave_26 : decode cX9_presentWave 26 = .ok (.aload_n 0, 1) := by decide +kernel
theorem dX9_presentWave_27 : decode cX9_presentWave 27 = .ok (.getfield 33, 3) := by decide +kernel
theorem dX9_presentWave_30 : decode cX9_presentWave 30 = .ok (.areturn, 1) := by decide +kernel
theorem dX9_presentPeeling_0 : decode cX9_presentPeeling 0 = .ok (.aload_n 0, 1) := by decide +kernel
theorem dX9_presentPeeling_1 : decode cX9_presentPeeling 1 = .ok (.getfield 48, 3) := by decide +kernel
theorem dX9_presentPeeling_4 : decode cX9_presentPeeling 4 = .ok (.ifCond .ne 19, 3) := by decide +kernel
theorem dX9_presentPeeling_7 : decode cX9_presentPeeling 7 = .ok (.aload_n 0, 1) := by decide +kernel
theorem dX9_presentPeeling_8 : decode cX9_presentPeeling 8 = .ok (.getfield 40, 3) := by decide +kernel
theorem dX9_presentPeeling_11 : decode cX9_presentPeeling 11 = .ok (.aload_n 0, 1) := by decide +kernel
theorem dX9_presentPeeling_12 : decode cX9_presentPeeling 12 = .ok (.getfield 12, 3) := by decide +kernel
theorem dX9_presentPeeling_15 : decode cX9_presentPeeling 15 = .ok (.invokevirtual 360, 3) := by decide +kernel
theorem dX9_presentPeeling_18 : decode cX9_presentPeeling 18 = .ok (.aload_n 0, 1) := by decide +kernel
theorem dX9_presentPeeling_19 : decode cX9_presentPeeling 19 = .ok (.iconst 1, 1) := by decide +kernel
theorem dX9_presentPeeling_20 : decode cX9_presentPeeling 20 = .ok (.putfield 48, 3) := by decide +kernel
theorem dX9_presentPeeling_23 : decode cX9_presentPeeling 23 = .ok (.aload_n 0, 1) := by decide +kernel
theorem dX9_presentPeeling_24 : decode cX9_presentPeeling 24 = .ok (.getfield 40, 3) := by decide +kernel
theorem dX9_presentPeeling_27 : decode cX9_presentPeeling 27 = .ok (.areturn, 1) := by decide +kernel
theorem dX9_refuseUnlessFine_0 : decode cX9_refuseUnlessFine 0 = .ok (.aload_n 0, 1) := by decide +kernel
theorem dX9_refuseUnlessFine_1 : decode cX9_refuseUnlessFine 1 = .ok (.getstatic 363, 3) := by decide +kernel
theorem dX9_refuseUnlessFine_4 : decode cX9_refuseUnlessFine 4 = .ok (.if_acmp .ne 14, 3) := by decide +kernel
theorem dX9_refuseUnlessFine_7 : decode cX9_refuseUnlessFine 7 = .ok (.new 366, 3) := by decide +kernel
theorem dX9_refuseUnlessFine_10 : decode cX9_refuseUnlessFine 10 = .ok (.dup, 1) := by decide +kernel
theorem dX9_refuseUnlessFine_11 : decode cX9_refuseUnlessFine 11 = .ok (.ldc_w 368, 3) := by decide +kernel
theorem dX9_refuseUnlessFine_14 : decode cX9_refuseUnlessFine 14 = .ok (.invokespecial 370, 3) := by decide +kernel
theorem dX9_refuseUnlessFine_17 : decode cX9_refuseUnlessFine 17 = .ok (.athrow, 1) := by decide +kernel
theorem dX9_refuseUnlessFine_18 : decode cX9_refuseUnlessFine 18 = .ok (.aload_n 0, 1) := by decide +kernel
theorem dX9_refuseUnlessFine_19 : decode cX9_refuseUnlessFine 19 = .ok (.getstatic 371, 3) := by decide +kernel
theorem dX9_refuseUnlessFine_22 : decode cX9_refuseUnlessFine 22 = .ok (.if_acmp .ne 14, 3) := by decide +kernel
theorem dX9_refuseUnlessFine_25 : decode cX9_refuseUnlessFine 25 = .ok (.new 374, 3) := by decide +kernel
theorem dX9_refuseUnlessFine_28 : decode cX9_refuseUnlessFine 28 = .ok (.dup, 1) := by decide +kernel
theorem dX9_refuseUnlessFine_29 : decode cX9_refuseUnlessFine 29 = .ok (.ldc_w 376, 3) := by decide +kernel
theorem dX9_refuseUnlessFine_32 : decode cX9_refuseUnlessFine 32 = .ok (.invokespecial 378, 3) := by decide +kernel
theorem dX9_refuseUnlessFine_35 : decode cX9_refuseUnlessFine 35 = .ok (.athrow, 1) := by decide +kernel
theorem dX9_refuseUnlessFine_36 : decode cX9_refuseUnlessFine 36 = .ok (.aload_n 0, 1) := by decide +kernel
theorem dX9_refuseUnlessFine_37 : decode cX9_refuseUnlessFine 37 = .ok (.getstatic 379, 3) := by decide +kernel
theorem dX9_refuseUnlessFine_40 : decode cX9_refuseUnlessFine 40 = .ok (.if_acmp .ne 14, 3) := by decide +kernel
theorem dX9_refuseUnlessFine_43 : decode cX9_refuseUnlessFine 43 = .ok (.new 123, 3) := by decide +kernel
theorem dX9_refuseUnlessFine_46 : decode cX9_refuseUnlessFine 46 = .ok (.dup, 1) := by decide +kernel
theorem dX9_refuseUnlessFine_47 : decode cX9_refuseUnlessFine 47 = .ok (.ldc_w 382, 3) := by decide +kernel
theorem dX9_refuseUnlessFine_50 : decode cX9_refuseUnlessFine 50 = .ok (.invokespecial 127, 3) := by decide +kernel
theorem dX9_refuseUnlessFine_53 : decode cX9_refuseUnlessFine 53 = .ok (.athrow, 1) := by decide +kernel
theorem dX9_refuseUnlessFine_54 : decode cX9_refuseUnlessFine 54 = .ok (.return_, 1) := by decide +kernel
theorem dX9_requireNumber_0 : decode cX9_requireNumber 0 = .ok (.iload_n 0, 1) := by decide +kernel
theorem dX9_requireNumber_1 : decode cX9_requireNumber 1 = .ok (.ifCond .lt 8, 3) := by decide +kernel
theorem dX9_requireNumber_4 : decode cX9_requireNumber 4 = .ok (.iload_n 0, 1) := by decide +kernel
theorem dX9_requireNumber_5 : decode cX9_requireNumber 5 = .ok (.iload_n 1, 1) := by decide +kernel
theorem dX9_requireNumber_6 : decode cX9_requireNumber 6 = .ok (.if_icmp .lt 14, 3) := by decide +kernel
theorem dX9_requireNumber_9 : decode cX9_requireNumber 9 = .ok (.new 366, 3) := by decide +kernel
theorem dX9_requireNumber_12 : decode cX9_requireNumber 12 = .ok (.dup, 1) := by decide +kernel
theorem dX9_requireNumber_13 : decode cX9_requireNumber 13 = .ok (.ldc_w 368, 3) := by decide +kernel
theorem dX9_requireNumber_16 : decode cX9_requireNumber 16 = .ok (.invokespecial 370, 3) := by decide +kernel
theorem dX9_requireNumber_19 : decode cX9_requireNumber 19 = .ok (.athrow, 1) := by decide +kernel
theorem dX9_requireNumber_20 : decode cX9_requireNumber 20 = .ok (.return_, 1) := by decide +kernel
theorem dX9_requireRange_0 : decode cX9_requireRange 0 = .ok (.lload_n 0, 1) := by decide +kernel
theorem dX9_requireRange_1 : decode cX9_requireRange 1 = .ok (.lload_n 2, 1) := by decide +kernel
theorem dX9_requireRange_2 : decode cX9_requireRange 2 = .ok (.lload 4, 2) := by decide +kernel
theorem dX9_requireRange_4 : decode cX9_requireRange 4 = .ok (.invokestatic 384, 3) := by decide +kernel
theorem dX9_requireRange_7 : decode cX9_requireRange 7 = .ok (.ifCond .ne 14, 3) := by decide +kernel
theorem dX9_requireRange_10 : decode cX9_requireRange 10 = .ok (.new 374, 3) := by decide +kernel
theorem dX9_requireRange_13 : decode cX9_requireRange 13 = .ok (.dup, 1) := by decide +kernel
theorem dX9_requireRange_14 : decode cX9_requireRange 14 = .ok (.ldc_w 376, 3) := by decide +kernel
theorem dX9_requireRange_17 : decode cX9_requireRange 17 = .ok (.invokespecial 378, 3) := by decide +kernel
theorem dX9_requireRange_20 : decode cX9_requireRange 20 = .ok (.athrow, 1) := by decide +kernel
theorem dX9_requireRange_21 : decode cX9_requireRange 21 = .ok (.return_, 1) := by decide +kernel
theorem dX9_requireNotNegative_0 : decode cX9_requireNotNegative 0 = .ok (.iload_n 0, 1) := by decide +kernel
theorem dX9_requireNotNegative_1 : decode cX9_requireNotNegative 1 = .ok (.ifCond .ge 14, 3) := by decide +kernel
theorem dX9_requireNotNegative_4 : decode cX9_requireNotNegative 4 = .ok (.new 374, 3) := by decide +kernel
theorem dX9_requireNotNegative_7 : decode cX9_requireNotNegative 7 = .ok (.dup, 1) := by decide +kernel
theorem dX9_requireNotNegative_8 : decode cX9_requireNotNegative 8 = .ok (.ldc_w 388, 3) := by decide +kernel
theorem dX9_requireNotNegative_11 : decode cX9_requireNotNegative 11 = .ok (.invokespecial 378, 3) := by decide +kernel
theorem dX9_requireNotNegative_14 : decode cX9_requireNotNegative 14 = .ok (.athrow, 1) := by decide +kernel
theorem dX9_requireNotNegative_15 : decode cX9_requireNotNegative 15 = .ok (.return_, 1) := by decide +kernel
theorem dX9_isWithin_0 : decode cX9_isWithin 0 = .ok (.lload_n 0, 1) := by decide +kernel
theorem dX9_isWithin_1 : decode cX9_isWithin 1 = .ok (.lload_n 2, 1) := by decide +kernel
theorem dX9_isWithin_2 : decode cX9_isWithin 2 = .ok (.lcmp, 1) := by decide +kernel
theorem dX9_isWithin_3 : decode cX9_isWithin 3 = .ok (.ifCond .lt 14, 3) := by decide +kernel
theorem dX9_isWithin_6 : decode cX9_isWithin 6 = .ok (.lload_n 0, 1) := by decide +kernel
theorem dX9_isWithin_7 : decode cX9_isWithin 7 = .ok (.lload 4, 2) := by decide +kernel
theorem dX9_isWithin_9 : decode cX9_isWithin 9 = .ok (.lcmp, 1) := by decide +kernel
theorem dX9_isWithin_10 : decode cX9_isWithin 10 = .ok (.ifCond .gt 7, 3) := by decide +kernel
theorem dX9_isWithin_13 : decode cX9_isWithin 13 = .ok (.iconst 1, 1) := by decide +kernel
theorem dX9_isWithin_14 : decode cX9_isWithin 14 = .ok (.goto 4, 3) := by decide +kernel
theorem dX9_isWithin_17 : decode cX9_isWithin 17 = .ok (.iconst 0, 1) := by decide +kernel
theorem dX9_isWithin_18 : decode cX9_isWithin 18 = .ok (.ireturn, 1) := by decide +kernel
theorem dX9_turnedBack_0 : decode cX9_turnedBack 0 = .ok (.lload_n 0, 1) := by decide +kernel
theorem dX9_turnedBack_1 : decode cX9_turnedBack 1 = .ok (.iload_n 2, 1) := by decide +kernel
theorem dX9_turnedBack_2 : decode cX9_turnedBack 2 = .ok (.i2l, 1) := by decide +kernel
theorem dX9_turnedBack_3 : decode cX9_turnedBack 3 = .ok (.lmul, 1) := by decide +kernel
theorem dX9_turnedBack_4 : decode cX9_turnedBack 4 = .ok (.ldc2_w 100, 3) := by decide +kernel
theorem dX9_turnedBack_7 : decode cX9_turnedBack 7 = .ok (.ldiv, 1) := by decide +kernel
theorem dX9_turnedBack_8 : decode cX9_turnedBack 8 = .ok (.lreturn, 1) := by decide +kernel
theorem dX9_firstUnequal_0 : decode cX9_firstUnequal 0 = .ok (.iconst 0, 1) := by decide +kernel
theorem dX9_firstUnequal_1 : decode cX9_firstUnequal 1 = .ok (.istore_n 3, 1) := by decide +kernel
theorem dX9_firstUnequal_2 : decode cX9_firstUnequal 2 = .ok (.iload_n 3, 1) := by decide +kernel
theorem dX9_firstUnequal_3 : decode cX9_firstUnequal 3 = .ok (.iload_n 2, 1) := by decide +kernel
theorem dX9_firstUnequal_4 : decode cX9_firstUnequal 4 = .ok (.if_icmp .gt 28, 3) := by decide +kernel
theorem dX9_firstUnequal_7 : decode cX9_firstUnequal 7 = .ok (.iload_n 3, 1) := by decide +kernel
theorem dX9_firstUnequal_8 : decode cX9_firstUnequal 8 = .ok (.sipush 201, 3) := by decide +kernel
theorem dX9_firstUnequal_11 : decode cX9_firstUnequal 11 = .ok (.if_icmp .ge 21, 3) := by decide +kernel
theorem dX9_firstUnequal_14 : decode cX9_firstUnequal 14 = .ok (.aload_n 0, 1) := by decide +kernel
theorem dX9_firstUnequal_15 : decode cX9_firstUnequal 15 = .ok (.iload_n 3, 1) := by decide +kernel
theorem dX9_firstUnequal_16 : decode cX9_firstUnequal 16 = .ok (.laload, 1) := by decide +kernel
theorem dX9_firstUnequal_17 : decode cX9_firstUnequal 17 = .ok (.aload_n 1, 1) := by decide +kernel
theorem dX9_firstUnequal_18 : decode cX9_firstUnequal 18 = .ok (.iload_n 3, 1) := by decide +kernel
theorem dX9_firstUnequal_19 : decode cX9_firstUnequal 19 = .ok (.laload, 1) := by decide +kernel
theorem dX9_firstUnequal_20 : decode cX9_firstUnequal 20 = .ok (.lcmp, 1) := by decide +kernel
theorem dX9_firstUnequal_21 : decode cX9_firstUnequal 21 = .ok (.ifCond .eq 5, 3) := by decide +kernel
theorem dX9_firstUnequal_24 : decode cX9_firstUnequal 24 = .ok (.iload_n 3, 1) := by decide +kernel
theorem dX9_firstUnequal_25 : decode cX9_firstUnequal 25 = .ok (.ireturn, 1) := by decide +kernel
theorem dX9_firstUnequal_26 : decode cX9_firstUnequal 26 = .ok (.iinc 3 1, 3) := by decide +kernel
theorem dX9_firstUnequal_29 : decode cX9_firstUnequal 29 = .ok (.goto (-27), 3) := by decide +kernel
theorem dX9_firstUnequal_32 : decode cX9_firstUnequal 32 = .ok (.iconst (-1), 1) := by decide +kernel
theorem dX9_firstUnequal_33 : decode cX9_firstUnequal 33 = .ok (.ireturn, 1) := by decide +kernel
theorem dX9_digitCount_0 : decode cX9_digitCount 0 = .ok (.iconst 1, 1) := by decide +kernel
theorem dX9_digitCount_1 : decode cX9_digitCount 1 = .ok (.istore_n 2, 1) := by decide +kernel
theorem dX9_digitCount_2 : decode cX9_digitCount 2 = .ok (.lload_n 0, 1) := by decide +kernel
theorem dX9_digitCount_3 : decode cX9_digitCount 3 = .ok (.ldc2_w 390, 3) := by decide +kernel
theorem dX9_digitCount_6 : decode cX9_digitCount 6 = .ok (.ldiv, 1) := by decide +kernel
theorem dX9_digitCount_7 : decode cX9_digitCount 7 = .ok (.lstore_n 3, 1) := by decide +kernel
theorem dX9_digitCount_8 : decode cX9_digitCount 8 = .ok (.lload_n 3, 1) := by decide +kernel
theorem dX9_digitCount_9 : decode cX9_digitCount 9 = .ok (.lconst 0, 1) := by decide +kernel
theorem dX9_digitCount_10 : decode cX9_digitCount 10 = .ok (.lcmp, 1) := by decide +kernel
theorem dX9_digitCount_11 : decode cX9_digitCount 11 = .ok (.ifCond .le 15, 3) := by decide +kernel
theorem dX9_digitCount_14 : decode cX9_digitCount 14 = .ok (.iinc 2 1, 3) := by decide +kernel
theorem dX9_digitCount_17 : decode cX9_digitCount 17 = .ok (.lload_n 3, 1) := by decide +kernel
theorem dX9_digitCount_18 : decode cX9_digitCount 18 = .ok (.ldc2_w 390, 3) := by decide +kernel
theorem dX9_digitCount_21 : decode cX9_digitCount 21 = .ok (.ldiv, 1) := by decide +kernel
theorem dX9_digitCount_22 : decode cX9_digitCount 22 = .ok (.lstore_n 3, 1) := by decide +kernel
theorem dX9_digitCount_23 : decode cX9_digitCount 23 = .ok (.goto (-15), 3) := by decide +kernel
theorem dX9_digitCount_26 : decode cX9_digitCount 26 = .ok (.iload_n 2, 1) := by decide +kernel
theorem dX9_digitCount_27 : decode cX9_digitCount 27 = .ok (.ireturn, 1) := by decide +kernel
theorem dX9_digitByte_0 : decode cX9_digitByte 0 = .ok (.lload_n 0, 1) := by decide +kernel
theorem dX9_digitByte_1 : decode cX9_digitByte 1 = .ok (.lstore_n 3, 1) := by decide +kernel
theorem dX9_digitByte_2 : decode cX9_digitByte 2 = .ok (.iconst 0, 1) := by decide +kernel
theorem dX9_digitByte_3 : decode cX9_digitByte 3 = .ok (.istore 5, 2) := by decide +kernel
theorem dX9_digitByte_5 : decode cX9_digitByte 5 = .ok (.iload 5, 2) := by decide +kernel
theorem dX9_digitByte_7 : decode cX9_digitByte 7 = .ok (.iload_n 2, 1) := by decide +kernel
theorem dX9_digitByte_8 : decode cX9_digitByte 8 = .ok (.if_icmp .ge 15, 3) := by decide +kernel
theorem dX9_digitByte_11 : decode cX9_digitByte 11 = .ok (.lload_n 3, 1) := by decide +kernel
theorem dX9_digitByte_12 : decode cX9_digitByte 12 = .ok (.ldc2_w 390, 3) := by decide +kernel
theorem dX9_digitByte_15 : decode cX9_digitByte 15 = .ok (.ldiv, 1) := by decide +kernel
theorem dX9_digitByte_16 : decode cX9_digitByte 16 = .ok (.lstore_n 3, 1) := by decide +kernel
theorem dX9_digitByte_17 : decode cX9_digitByte 17 = .ok (.iinc 5 1, 3) := by decide +kernel
theorem dX9_digitByte_20 : decode cX9_digitByte 20 = .ok (.goto (-15), 3) := by decide +kernel
theorem dX9_digitByte_23 : decode cX9_digitByte 23 = .ok (.bipush 48, 2) := by decide +kernel
theorem dX9_digitByte_25 : decode cX9_digitByte 25 = .ok (.lload_n 3, 1) := by decide +kernel
theorem dX9_digitByte_26 : decode cX9_digitByte 26 = .ok (.ldc2_w 390, 3) := by decide +kernel
theorem dX9_digitByte_29 : decode cX9_digitByte 29 = .ok (.lrem, 1) := by decide +kernel
theorem dX9_digitByte_30 : decode cX9_digitByte 30 = .ok (.l2i, 1) := by decide +kernel
theorem dX9_digitByte_31 : decode cX9_digitByte 31 = .ok (.iadd, 1) := by decide +kernel
theorem dX9_digitByte_32 : decode cX9_digitByte 32 = .ok (.ireturn, 1) := by decide +kernel
theorem dX9_entryByte_0 : decode cX9_entryByte 0 = .ok (.iload_n 0, 1) := by decide +kernel
theorem dX9_entryByte_1 : decode cX9_entryByte 1 = .ok (.i2l, 1) := by decide +kernel
theorem dX9_entryByte_2 : decode cX9_entryByte 2 = .ok (.invokestatic 168, 3) := by decide +kernel
theorem dX9_entryByte_5 : decode cX9_entryByte 5 = .ok (.istore 4, 2) := by decide +kernel
theorem dX9_entryByte_7 : decode cX9_entryByte 7 = .ok (.iload_n 3, 1) := by decide +kernel
theorem dX9_entryByte_8 : decode cX9_entryByte 8 = .ok (.iload 4, 2) := by decide +kernel
theorem dX9_entryByte_10 : decode cX9_entryByte 10 = .ok (.if_icmp .ge 15, 3) := by decide +kernel
theorem dX9_entryByte_13 : decode cX9_entryByte 13 = .ok (.iload_n 0, 1) := by decide +kernel
theorem dX9_entryByte_14 : decode cX9_entryByte 14 = .ok (.i2l, 1) := by decide +kernel
theorem dX9_entryByte_15 : decode cX9_entryByte 15 = .ok (.iload 4, 2) := by decide +kernel
theorem dX9_entryByte_17 : decode cX9_entryByte 17 = .ok (.iconst 1, 1) := by decide +kernel
theorem dX9_entryByte_18 : decode cX9_entryByte 18 = .ok (.isub, 1) := by decide +kernel
theorem dX9_entryByte_19 : decode cX9_entryByte 19 = .ok (.iload_n 3, 1) := by decide +kernel
theorem dX9_entryByte_20 : decode cX9_entryByte 20 = .ok (.isub, 1) := by decide +kernel
theorem dX9_entryByte_21 : decode cX9_entryByte 21 = .ok (.invokestatic 392, 3) := by decide +kernel
theorem dX9_entryByte_24 : decode cX9_entryByte 24 = .ok (.ireturn, 1) := by decide +kernel
theorem dX9_entryByte_25 : decode cX9_entryByte 25 = .ok (.iload_n 3, 1) := by decide +kernel
theorem dX9_entryByte_26 : decode cX9_entryByte 26 = .ok (.iload 4, 2) := by decide +kernel
theorem dX9_entryByte_28 : decode cX9_entryByte 28 = .ok (.if_icmp .ne 6, 3) := by decide +kernel
theorem dX9_entryByte_31 : decode cX9_entryByte 31 = .ok (.bipush 58, 2) := by decide +kernel
theorem dX9_entryByte_33 : decode cX9_entryByte 33 = .ok (.ireturn, 1) := by decide +kernel
theorem dX9_entryByte_34 : decode cX9_entryByte 34 = .ok (.iload 4, 2) := by decide +kernel
theorem dX9_entryByte_36 : decode cX9_entryByte 36 = .ok (.lload_n 1, 1) := by decide +kernel
theorem dX9_entryByte_37 : decode cX9_entryByte 37 = .ok (.invokestatic 168, 3) := by decide +kernel
theorem dX9_entryByte_40 : decode cX9_entryByte 40 = .ok (.iadd, 1) := by decide +kernel
theorem dX9_entryByte_41 : decode cX9_entryByte 41 = .ok (.iload_n 3, 1) := by decide +kernel
theorem dX9_entryByte_42 : decode cX9_entryByte 42 = .ok (.isub, 1) := by decide +kernel
theorem dX9_entryByte_43 : decode cX9_entryByte 43 = .ok (.istore 5, 2) := by decide +kernel
theorem dX9_entryByte_45 : decode cX9_entryByte 45 = .ok (.iload 5, 2) := by decide +kernel
theorem dX9_entryByte_47 : decode cX9_entryByte 47 = .ok (.ifCond .lt 12, 3) := by decide +kernel
theorem dX9_entryByte_50 : decode cX9_entryByte 50 = .ok (.lload_n 1, 1) := by decide +kernel
theorem dX9_entryByte_51 : decode cX9_entryByte 51 = .ok (.iload 5, 2) := by decide +kernel
theorem dX9_entryByte_53 : decode cX9_entryByte 53 = .ok (.invokestatic 392, 3) := by decide +kernel
theorem dX9_entryByte_56 : decode cX9_entryByte 56 = .ok (.goto 5, 3) := by decide +kernel
theorem dX9_entryByte_59 : decode cX9_entryByte 59 = .ok (.bipush 59, 2) := by decide +kernel
theorem dX9_entryByte_61 : decode cX9_entryByte 61 = .ok (.ireturn, 1) := by decide +kernel
theorem dX9_mixed_0 : decode cX9_mixed 0 = .ok (.ldc2_w 396, 3) := by decide +kernel
theorem dX9_mixed_3 : decode cX9_mixed 3 = .ok (.lload_n 0, 1) := by decide +kernel
theorem dX9_mixed_4 : decode cX9_mixed 4 = .ok (.lmul, 1) := by decide +kernel
theorem dX9_mixed_5 : decode cX9_mixed 5 = .ok (.lload_n 2, 1) := by decide +kernel
theorem dX9_mixed_6 : decode cX9_mixed 6 = .ok (.ladd, 1) := by decide +kernel
theorem dX9_mixed_7 : decode cX9_mixed 7 = .ok (.lreturn, 1) := by decide +kernel
theorem dX9_mixedWithParts_0 : decode cX9_mixedWithParts 0 = .ok (.lload_n 0, 1) := by decide +kernel
theorem dX9_mixedWithParts_1 : decode cX9_mixedWithParts 1 = .ok (.lstore_n 3, 1) := by decide +kernel
theorem dX9_mixedWithParts_2 : decode cX9_mixedWithParts 2 = .ok (.iconst 0, 1) := by decide +kernel
theorem dX9_mixedWithParts_3 : decode cX9_mixedWithParts 3 = .ok (.istore 5, 2) := by decide +kernel
theorem dX9_mixedWithParts_5 : decode cX9_mixedWithParts 5 = .ok (.iload 5, 2) := by decide +kernel
theorem dX9_mixedWithParts_7 : decode cX9_mixedWithParts 7 = .ok (.aload_n 2, 1) := by decide +kernel
theorem dX9_mixedWithParts_8 : decode cX9_mixedWithParts 8 = .ok (.getfield 86, 3) := by decide +kernel
theorem dX9_mixedWithParts_11 : decode cX9_mixedWithParts 11 = .ok (.if_icmp .ge 35, 3) := by decide +kernel
theorem dX9_mixedWithParts_14 : decode cX9_mixedWithParts 14 = .ok (.lload_n 3, 1) := by decide +kernel
theorem dX9_mixedWithParts_15 : decode cX9_mixedWithParts 15 = .ok (.aload_n 2, 1) := by decide +kernel
theorem dX9_mixedWithParts_16 : decode cX9_mixedWithParts 16 = .ok (.getfield 135, 3) := by decide +kernel
theorem dX9_mixedWithParts_19 : decode cX9_mixedWithParts 19 = .ok (.iload 5, 2) := by decide +kernel
theorem dX9_mixedWithParts_21 : decode cX9_mixedWithParts 21 = .ok (.iaload, 1) := by decide +kernel
theorem dX9_mixedWithParts_22 : decode cX9_mixedWithParts 22 = .ok (.i2l, 1) := by decide +kernel
theorem dX9_mixedWithParts_23 : decode cX9_mixedWithParts 23 = .ok (.invokestatic 266, 3) := by decide +kernel
theorem dX9_mixedWithParts_26 : decode cX9_mixedWithParts 26 = .ok (.lstore_n 3, 1) := by decide +kernel
theorem dX9_mixedWithParts_27 : decode cX9_mixedWithParts 27 = .ok (.lload_n 3, 1) := by decide +kernel
theorem dX9_mixedWithParts_28 : decode cX9_mixedWithParts 28 = .ok (.aload_n 2, 1) := by decide +kernel
theorem dX9_mixedWithParts_29 : decode cX9_mixedWithParts 29 = .ok (.getfield 139, 3) := by decide +kernel
theorem dX9_mixedWithParts_32 : decode cX9_mixedWithParts 32 = .ok (.iload 5, 2) := by decide +kernel
theorem dX9_mixedWithParts_34 : decode cX9_mixedWithParts 34 = .ok (.iaload, 1) := by decide +kernel
theorem dX9_mixedWithParts_35 : decode cX9_mixedWithParts 35 = .ok (.i2l, 1) := by decide +kernel
theorem dX9_mixedWithParts_36 : decode cX9_mixedWithParts 36 = .ok (.invokestatic 266, 3) := by decide +kernel
theorem dX9_mixedWithParts_39 : decode cX9_mixedWithParts 39 = .ok (.lstore_n 3, 1) := by decide +kernel
theorem dX9_mixedWithParts_40 : decode cX9_mixedWithParts 40 = .ok (.iinc 5 1, 3) := by decide +kernel
theorem dX9_mixedWithParts_43 : decode cX9_mixedWithParts 43 = .ok (.goto (-38), 3) := by decide +kernel
theorem dX9_mixedWithParts_46 : decode cX9_mixedWithParts 46 = .ok (.lload_n 3, 1) := by decide +kernel
theorem dX9_mixedWithParts_47 : decode cX9_mixedWithParts 47 = .ok (.lreturn, 1) := by decide +kernel
theorem dX9_mixedWithBench_0 : decode cX9_mixedWithBench 0 = .ok (.lload_n 1, 1) := by decide +kernel
theorem dX9_mixedWithBench_1 : decode cX9_mixedWithBench 1 = .ok (.lstore_n 3, 1) := by decide +kernel
theorem dX9_mixedWithBench_2 : decode cX9_mixedWithBench 2 = .ok (.iconst 0, 1) := by decide +kernel
theorem dX9_mixedWithBench_3 : decode cX9_mixedWithBench 3 = .ok (.istore 5, 2) := by decide +kernel
theorem dX9_mixedWithBench_5 : decode cX9_mixedWithBench 5 = .ok (.iload 5, 2) := by decide +kernel
theorem dX9_mixedWithBench_7 : decode cX9_mixedWithBench 7 = .ok (.iconst 5, 1) := by decide +kernel
theorem dX9_mixedWithBench_8 : decode cX9_mixedWithBench 8 = .ok (.if_icmp .gt 21, 3) := by decide +kernel
theorem dX9_mixedWithBench_11 : decode cX9_mixedWithBench 11 = .ok (.lload_n 3, 1) := by decide +kernel
theorem dX9_mixedWithBench_12 : decode cX9_mixedWithBench 12 = .ok (.aload_n 0, 1) := by decide +kernel
theorem dX9_mixedWithBench_13 : decode cX9_mixedWithBench 13 = .ok (.iload 5, 2) := by decide +kernel
theorem dX9_mixedWithBench_15 : decode cX9_mixedWithBench 15 = .ok (.invokevirtual 398, 3) := by decide +kernel
theorem dX9_mixedWithBench_18 : decode cX9_mixedWithBench 18 = .ok (.i2l, 1) := by decide +kernel
theorem dX9_mixedWithBench_19 : decode cX9_mixedWithBench 19 = .ok (.invokestatic 266, 3) := by decide +kernel
theorem dX9_mixedWithBench_22 : decode cX9_mixedWithBench 22 = .ok (.lstore_n 3, 1) := by decide +kernel
theorem dX9_mixedWithBench_23 : decode cX9_mixedWithBench 23 = .ok (.iinc 5 1, 3) := by decide +kernel
theorem dX9_mixedWithBench_26 : decode cX9_mixedWithBench 26 = .ok (.goto (-21), 3) := by decide +kernel
theorem dX9_mixedWithBench_29 : decode cX9_mixedWithBench 29 = .ok (.lload_n 3, 1) := by decide +kernel
theorem dX9_mixedWithBench_30 : decode cX9_mixedWithBench 30 = .ok (.aload_n 0, 1) := by decide +kernel
theorem dX9_mixedWithBench_31 : decode cX9_mixedWithBench 31 = .ok (.getfield 12, 3) := by decide +kernel
theorem dX9_mixedWithBench_34 : decode cX9_mixedWithBench 34 = .ok (.getfield 77, 3) := by decide +kernel
theorem dX9_mixedWithBench_37 : decode cX9_mixedWithBench 37 = .ok (.invokestatic 290, 3) := by decide +kernel
theorem dX9_mixedWithBench_40 : decode cX9_mixedWithBench 40 = .ok (.lstore_n 3, 1) := by decide +kernel
theorem dX9_mixedWithBench_41 : decode cX9_mixedWithBench 41 = .ok (.iconst 0, 1) := by decide +kernel
theorem dX9_mixedWithBench_42 : decode cX9_mixedWithBench 42 = .ok (.istore 5, 2) := by decide +kernel
theorem dX9_mixedWithBench_44 : decode cX9_mixedWithBench 44 = .ok (.iload 5, 2) := by decide +kernel
theorem dX9_mixedWithBench_46 : decode cX9_mixedWithBench 46 = .ok (.aload_n 0, 1) := by decide +kernel
theorem dX9_mixedWithBench_47 : decode cX9_mixedWithBench 47 = .ok (.getfield 12, 3) := by decide +kernel
theorem dX9_mixedWithBench_50 : decode cX9_mixedWithBench 50 = .ok (.getfield 77, 3) := by decide +kernel
theorem dX9_mixedWithBench_53 : decode cX9_mixedWithBench 53 = .ok (.getfield 116, 3) := by decide +kernel
theorem dX9_mixedWithBench_56 : decode cX9_mixedWithBench 56 = .ok (.if_icmp .ge 47, 3) := by decide +kernel
theorem dX9_mixedWithBench_59 : decode cX9_mixedWithBench 59 = .ok (.lload_n 3, 1) := by decide +kernel
theorem dX9_mixedWithBench_60 : decode cX9_mixedWithBench 60 = .ok (.aload_n 0, 1) := by decide +kernel
theorem dX9_mixedWithBench_61 : decode cX9_mixedWithBench 61 = .ok (.getfield 12, 3) := by decide +kernel
theorem dX9_mixedWithBench_64 : decode cX9_mixedWithBench 64 = .ok (.getfield 77, 3) := by decide +kernel
theorem dX9_mixedWithBench_67 : decode cX9_mixedWithBench 67 = .ok (.getfield 400, 3) := by decide +kernel
theorem dX9_mixedWithBench_70 : decode cX9_mixedWithBench 70 = .ok (.iload 5, 2) := by decide +kernel
theorem dX9_mixedWithBench_72 : decode cX9_mixedWithBench 72 = .ok (.iaload, 1) := by decide +kernel
theorem dX9_mixedWithBench_73 : decode cX9_mixedWithBench 73 = .ok (.i2l, 1) := by decide +kernel
theorem dX9_mixedWithBench_74 : decode cX9_mixedWithBench 74 = .ok (.invokestatic 266, 3) := by decide +kernel
theorem dX9_mixedWithBench_77 : decode cX9_mixedWithBench 77 = .ok (.lstore_n 3, 1) := by decide +kernel
theorem dX9_mixedWithBench_78 : decode cX9_mixedWithBench 78 = .ok (.lload_n 3, 1) := by decide +kernel
theorem dX9_mixedWithBench_79 : decode cX9_mixedWithBench 79 = .ok (.aload_n 0, 1) := by decide +kernel
theorem dX9_mixedWithBench_80 : decode cX9_mixedWithBench 80 = .ok (.getfield 12, 3) := by decide +kernel
theorem dX9_mixedWithBench_83 : decode cX9_mixedWithBench 83 = .ok (.getfield 77, 3) := by decide +kernel
theorem dX9_mixedWithBench_86 : decode cX9_mixedWithBench 86 = .ok (.getfield 403, 3) := by decide +kernel
theorem dX9_mixedWithBench_89 : decode cX9_mixedWithBench 89 = .ok (.iload 5, 2) := by decide +kernel
theorem dX9_mixedWithBench_91 : decode cX9_mixedWithBench 91 = .ok (.iaload, 1) := by decide +kernel
theorem dX9_mixedWithBench_92 : decode cX9_mixedWithBench 92 = .ok (.i2l, 1) := by decide +kernel
theorem dX9_mixedWithBench_93 : decode cX9_mixedWithBench 93 = .ok (.invokestatic 266, 3) := by decide +kernel
theorem dX9_mixedWithBench_96 : decode cX9_mixedWithBench 96 = .ok (.lstore_n 3, 1) := by decide +kernel
theorem dX9_mixedWithBench_97 : decode cX9_mixedWithBench 97 = .ok (.iinc 5 1, 3) := by decide +kernel
theorem dX9_mixedWithBench_100 : decode cX9_mixedWithBench 100 = .ok (.goto (-56), 3) := by decide +kernel
theorem dX9_mixedWithBench_103 : decode cX9_mixedWithBench 103 = .ok (.lload_n 3, 1) := by decide +kernel
theorem dX9_mixedWithBench_104 : decode cX9_mixedWithBench 104 = .ok (.lreturn, 1) := by decide +kernel
