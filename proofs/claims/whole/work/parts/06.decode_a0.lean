theorem dX10_init_0 : decode cX10_init 0 = .ok (.aload_n 0, 1) := by decide +kernel
theorem dX10_init_1 : decode cX10_init 1 = .ok (.invokespecial 1, 3) := by decide +kernel
theorem dX10_init_4 : decode cX10_init 4 = .ok (.aload_n 0, 1) := by decide +kernel
theorem dX10_init_5 : decode cX10_init 5 = .ok (.sipush 431, 3) := by decide +kernel
theorem dX10_init_8 : decode cX10_init 8 = .ok (.newarray .long, 2) := by decide +kernel
theorem dX10_init_10 : decode cX10_init 10 = .ok (.putfield 7, 3) := by decide +kernel
theorem dX10_init_13 : decode cX10_init 13 = .ok (.aload_n 0, 1) := by decide +kernel
theorem dX10_init_14 : decode cX10_init 14 = .ok (.sipush 1293, 3) := by decide +kernel
theorem dX10_init_17 : decode cX10_init 17 = .ok (.newarray .long, 2) := by decide +kernel
theorem dX10_init_19 : decode cX10_init 19 = .ok (.putfield 13, 3) := by decide +kernel
theorem dX10_init_22 : decode cX10_init 22 = .ok (.aload_n 0, 1) := by decide +kernel
theorem dX10_init_23 : decode cX10_init 23 = .ok (.bipush 120, 2) := by decide +kernel
theorem dX10_init_25 : decode cX10_init 25 = .ok (.newarray .int, 2) := by decide +kernel
theorem dX10_init_27 : decode cX10_init 27 = .ok (.putfield 16, 3) := by decide +kernel
theorem dX10_init_30 : decode cX10_init 30 = .ok (.aload_n 0, 1) := by decide +kernel
theorem dX10_init_31 : decode cX10_init 31 = .ok (.bipush 8, 2) := by decide +kernel
theorem dX10_init_33 : decode cX10_init 33 = .ok (.newarray .int, 2) := by decide +kernel
theorem dX10_init_35 : decode cX10_init 35 = .ok (.putfield 20, 3) := by decide +kernel
theorem dX10_init_38 : decode cX10_init 38 = .ok (.aload_n 0, 1) := by decide +kernel
theorem dX10_init_39 : decode cX10_init 39 = .ok (.bipush 9, 2) := by decide +kernel
theorem dX10_init_41 : decode cX10_init 41 = .ok (.newarray .int, 2) := by decide +kernel
theorem dX10_init_43 : decode cX10_init 43 = .ok (.putfield 23, 3) := by decide +kernel
theorem dX10_init_46 : decode cX10_init 46 = .ok (.aload_n 0, 1) := by decide +kernel
theorem dX10_init_47 : decode cX10_init 47 = .ok (.iconst 4, 1) := by decide +kernel
theorem dX10_init_48 : decode cX10_init 48 = .ok (.newarray .int, 2) := by decide +kernel
theorem dX10_init_50 : decode cX10_init 50 = .ok (.putfield 26, 3) := by decide +kernel
theorem dX10_init_53 : decode cX10_init 53 = .ok (.aload_n 0, 1) := by decide +kernel
theorem dX10_init_54 : decode cX10_init 54 = .ok (.iconst 4, 1) := by decide +kernel
theorem dX10_init_55 : decode cX10_init 55 = .ok (.newarray .long, 2) := by decide +kernel
theorem dX10_init_57 : decode cX10_init 57 = .ok (.putfield 29, 3) := by decide +kernel
theorem dX10_init_60 : decode cX10_init 60 = .ok (.aload_n 0, 1) := by decide +kernel
theorem dX10_init_61 : decode cX10_init 61 = .ok (.sipush 1809, 3) := by decide +kernel
theorem dX10_init_64 : decode cX10_init 64 = .ok (.newarray .long, 2) := by decide +kernel
theorem dX10_init_66 : decode cX10_init 66 = .ok (.putfield 32, 3) := by decide +kernel
theorem dX10_init_69 : decode cX10_init 69 = .ok (.aload_n 0, 1) := by decide +kernel
theorem dX10_init_70 : decode cX10_init 70 = .ok (.sipush 1809, 3) := by decide +kernel
theorem dX10_init_73 : decode cX10_init 73 = .ok (.newarray .long, 2) := by decide +kernel
theorem dX10_init_75 : decode cX10_init 75 = .ok (.putfield 35, 3) := by decide +kernel
theorem dX10_init_78 : decode cX10_init 78 = .ok (.aload_n 0, 1) := by decide +kernel
theorem dX10_init_79 : decode cX10_init 79 = .ok (.sipush 201, 3) := by decide +kernel
theorem dX10_init_82 : decode cX10_init 82 = .ok (.newarray .long, 2) := by decide +kernel
theorem dX10_init_84 : decode cX10_init 84 = .ok (.putfield 38, 3) := by decide +kernel
theorem dX10_init_87 : decode cX10_init 87 = .ok (.aload_n 0, 1) := by decide +kernel
theorem dX10_init_88 : decode cX10_init 88 = .ok (.bipush 120, 2) := by decide +kernel
theorem dX10_init_90 : decode cX10_init 90 = .ok (.newarray .int, 2) := by decide +kernel
theorem dX10_init_92 : decode cX10_init 92 = .ok (.putfield 41, 3) := by decide +kernel
theorem dX10_init_95 : decode cX10_init 95 = .ok (.aload_n 0, 1) := by decide +kernel
theorem dX10_init_96 : decode cX10_init 96 = .ok (.getfield 7, 3) := by decide +kernel
theorem dX10_init_99 : decode cX10_init 99 = .ok (.bipush 18, 2) := by decide +kernel
theorem dX10_init_101 : decode cX10_init 101 = .ok (.lconst 1, 1) := by decide +kernel
theorem dX10_init_102 : decode cX10_init 102 = .ok (.lastore, 1) := by decide +kernel
theorem dX10_init_103 : decode cX10_init 103 = .ok (.aload_n 0, 1) := by decide +kernel
theorem dX10_init_104 : decode cX10_init 104 = .ok (.getfield 7, 3) := by decide +kernel
theorem dX10_init_107 : decode cX10_init 107 = .ok (.bipush 19, 2) := by decide +kernel
theorem dX10_init_109 : decode cX10_init 109 = .ok (.ldc2_w 44, 3) := by decide +kernel
theorem dX10_init_112 : decode cX10_init 112 = .ok (.lastore, 1) := by decide +kernel
theorem dX10_init_113 : decode cX10_init 113 = .ok (.aload_n 0, 1) := by decide +kernel
theorem dX10_init_114 : decode cX10_init 114 = .ok (.getfield 7, 3) := by decide +kernel
theorem dX10_init_117 : decode cX10_init 117 = .ok (.bipush 20, 2) := by decide +kernel
theorem dX10_init_119 : decode cX10_init 119 = .ok (.lconst 1, 1) := by decide +kernel
theorem dX10_init_120 : decode cX10_init 120 = .ok (.lastore, 1) := by decide +kernel
theorem dX10_init_121 : decode cX10_init 121 = .ok (.aload_n 0, 1) := by decide +kernel
theorem dX10_init_122 : decode cX10_init 122 = .ok (.getfield 7, 3) := by decide +kernel
theorem dX10_init_125 : decode cX10_init 125 = .ok (.bipush 22, 2) := by decide +kernel
theorem dX10_init_127 : decode cX10_init 127 = .ok (.ldc2_w 46, 3) := by decide +kernel
theorem dX10_init_130 : decode cX10_init 130 = .ok (.lastore, 1) := by decide +kernel
theorem dX10_init_131 : decode cX10_init 131 = .ok (.return_, 1) := by decide +kernel
theorem dX10_thrown_0 : decode cX10_thrown 0 = .ok (.aload_n 0, 1) := by decide +kernel
theorem dX10_thrown_1 : decode cX10_thrown 1 = .ok (.getfield 48, 3) := by decide +kernel
theorem dX10_thrown_4 : decode cX10_thrown 4 = .ok (.ireturn, 1) := by decide +kernel
theorem dX10_in_0 : decode cX10_in 0 = .ok (.lload_n 0, 1) := by decide +kernel
theorem dX10_in_1 : decode cX10_in 1 = .ok (.lload_n 2, 1) := by decide +kernel
theorem dX10_in_2 : decode cX10_in 2 = .ok (.lcmp, 1) := by decide +kernel
theorem dX10_in_3 : decode cX10_in 3 = .ok (.ifCond .lt 14, 3) := by decide +kernel
theorem dX10_in_6 : decode cX10_in 6 = .ok (.lload_n 0, 1) := by decide +kernel
theorem dX10_in_7 : decode cX10_in 7 = .ok (.lload 4, 2) := by decide +kernel
theorem dX10_in_9 : decode cX10_in 9 = .ok (.lcmp, 1) := by decide +kernel
theorem dX10_in_10 : decode cX10_in 10 = .ok (.ifCond .gt 7, 3) := by decide +kernel
theorem dX10_in_13 : decode cX10_in 13 = .ok (.iconst 1, 1) := by decide +kernel
theorem dX10_in_14 : decode cX10_in 14 = .ok (.goto 4, 3) := by decide +kernel
theorem dX10_in_17 : decode cX10_in 17 = .ok (.iconst 0, 1) := by decide +kernel
theorem dX10_in_18 : decode cX10_in 18 = .ok (.ireturn, 1) := by decide +kernel
theorem dX10_keep_0 : decode cX10_keep 0 = .ok (.aload_n 0, 1) := by decide +kernel
theorem dX10_keep_1 : decode cX10_keep 1 = .ok (.getfield 52, 3) := by decide +kernel
theorem dX10_keep_4 : decode cX10_keep 4 = .ok (.iconst 3, 1) := by decide +kernel
theorem dX10_keep_5 : decode cX10_keep 5 = .ok (.if_icmp .ne 44, 3) := by decide +kernel
theorem dX10_keep_8 : decode cX10_keep 8 = .ok (.iconst 0, 1) := by decide +kernel
theorem dX10_keep_9 : decode cX10_keep 9 = .ok (.istore_n 1, 1) := by decide +kernel
theorem dX10_keep_10 : decode cX10_keep 10 = .ok (.iload_n 1, 1) := by decide +kernel
theorem dX10_keep_11 : decode cX10_keep 11 = .ok (.sipush 862, 3) := by decide +kernel
theorem dX10_keep_14 : decode cX10_keep 14 = .ok (.if_icmp .ge 25, 3) := by decide +kernel
theorem dX10_keep_17 : decode cX10_keep 17 = .ok (.aload_n 0, 1) := by decide +kernel
theorem dX10_keep_18 : decode cX10_keep 18 = .ok (.getfield 13, 3) := by decide +kernel
theorem dX10_keep_21 : decode cX10_keep 21 = .ok (.iload_n 1, 1) := by decide +kernel
theorem dX10_keep_22 : decode cX10_keep 22 = .ok (.aload_n 0, 1) := by decide +kernel
theorem dX10_keep_23 : decode cX10_keep 23 = .ok (.getfield 13, 3) := by decide +kernel
theorem dX10_keep_26 : decode cX10_keep 26 = .ok (.iload_n 1, 1) := by decide +kernel
theorem dX10_keep_27 : decode cX10_keep 27 = .ok (.sipush 431, 3) := by decide +kernel
theorem dX10_keep_30 : decode cX10_keep 30 = .ok (.iadd, 1) := by decide +kernel
theorem dX10_keep_31 : decode cX10_keep 31 = .ok (.laload, 1) := by decide +kernel
theorem dX10_keep_32 : decode cX10_keep 32 = .ok (.lastore, 1) := by decide +kernel
theorem dX10_keep_33 : decode cX10_keep 33 = .ok (.iinc 1 1, 3) := by decide +kernel
theorem dX10_keep_36 : decode cX10_keep 36 = .ok (.goto (-26), 3) := by decide +kernel
theorem dX10_keep_39 : decode cX10_keep 39 = .ok (.aload_n 0, 1) := by decide +kernel
theorem dX10_keep_40 : decode cX10_keep 40 = .ok (.dup, 1) := by decide +kernel
theorem dX10_keep_41 : decode cX10_keep 41 = .ok (.getfield 52, 3) := by decide +kernel
theorem dX10_keep_44 : decode cX10_keep 44 = .ok (.iconst 1, 1) := by decide +kernel
theorem dX10_keep_45 : decode cX10_keep 45 = .ok (.isub, 1) := by decide +kernel
theorem dX10_keep_46 : decode cX10_keep 46 = .ok (.putfield 52, 3) := by decide +kernel
theorem dX10_keep_49 : decode cX10_keep 49 = .ok (.iconst 0, 1) := by decide +kernel
theorem dX10_keep_50 : decode cX10_keep 50 = .ok (.istore_n 1, 1) := by decide +kernel
theorem dX10_keep_51 : decode cX10_keep 51 = .ok (.iload_n 1, 1) := by decide +kernel
theorem dX10_keep_52 : decode cX10_keep 52 = .ok (.sipush 431, 3) := by decide +kernel
theorem dX10_keep_55 : decode cX10_keep 55 = .ok (.if_icmp .ge 30, 3) := by decide +kernel
theorem dX10_keep_58 : decode cX10_keep 58 = .ok (.aload_n 0, 1) := by decide +kernel
theorem dX10_keep_59 : decode cX10_keep 59 = .ok (.getfield 13, 3) := by decide +kernel
theorem dX10_keep_62 : decode cX10_keep 62 = .ok (.sipush 431, 3) := by decide +kernel
theorem dX10_keep_65 : decode cX10_keep 65 = .ok (.aload_n 0, 1) := by decide +kernel
theorem dX10_keep_66 : decode cX10_keep 66 = .ok (.getfield 52, 3) := by decide +kernel
theorem dX10_keep_69 : decode cX10_keep 69 = .ok (.imul, 1) := by decide +kernel
theorem dX10_keep_70 : decode cX10_keep 70 = .ok (.iload_n 1, 1) := by decide +kernel
theorem dX10_keep_71 : decode cX10_keep 71 = .ok (.iadd, 1) := by decide +kernel
theorem dX10_keep_72 : decode cX10_keep 72 = .ok (.aload_n 0, 1) := by decide +kernel
theorem dX10_keep_73 : decode cX10_keep 73 = .ok (.getfield 7, 3) := by decide +kernel
theorem dX10_keep_76 : decode cX10_keep 76 = .ok (.iload_n 1, 1) := by decide +kernel
theorem dX10_keep_77 : decode cX10_keep 77 = .ok (.laload, 1) := by decide +kernel
theorem dX10_keep_78 : decode cX10_keep 78 = .ok (.lastore, 1) := by decide +kernel
theorem dX10_keep_79 : decode cX10_keep 79 = .ok (.iinc 1 1, 3) := by decide +kernel
theorem dX10_keep_82 : decode cX10_keep 82 = .ok (.goto (-31), 3) := by decide +kernel
theorem dX10_keep_85 : decode cX10_keep 85 = .ok (.aload_n 0, 1) := by decide +kernel
theorem dX10_keep_86 : decode cX10_keep 86 = .ok (.dup, 1) := by decide +kernel
theorem dX10_keep_87 : decode cX10_keep 87 = .ok (.getfield 52, 3) := by decide +kernel
theorem dX10_keep_90 : decode cX10_keep 90 = .ok (.iconst 1, 1) := by decide +kernel
theorem dX10_keep_91 : decode cX10_keep 91 = .ok (.iadd, 1) := by decide +kernel
theorem dX10_keep_92 : decode cX10_keep 92 = .ok (.putfield 52, 3) := by decide +kernel
theorem dX10_keep_95 : decode cX10_keep 95 = .ok (.return_, 1) := by decide +kernel
theorem dX10_parts_0 : decode cX10_parts 0 = .ok (.aload_n 0, 1) := by decide +kernel
theorem dX10_parts_1 : decode cX10_parts 1 = .ok (.getfield 7, 3) := by decide +kernel
theorem dX10_parts_4 : decode cX10_parts 4 = .ok (.iconst 0, 1) := by decide +kernel
theorem dX10_parts_5 : decode cX10_parts 5 = .ok (.laload, 1) := by decide +kernel
theorem dX10_parts_6 : decode cX10_parts 6 = .ok (.l2i, 1) := by decide +kernel
theorem dX10_parts_7 : decode cX10_parts 7 = .ok (.ireturn, 1) := by decide +kernel
theorem dX10_isPart_0 : decode cX10_isPart 0 = .ok (.iload_n 1, 1) := by decide +kernel
theorem dX10_isPart_1 : decode cX10_isPart 1 = .ok (.i2l, 1) := by decide +kernel
theorem dX10_isPart_2 : decode cX10_isPart 2 = .ok (.lconst 0, 1) := by decide +kernel
theorem dX10_isPart_3 : decode cX10_isPart 3 = .ok (.aload_n 0, 1) := by decide +kernel
theorem dX10_isPart_4 : decode cX10_isPart 4 = .ok (.invokevirtual 55, 3) := by decide +kernel
theorem dX10_isPart_7 : decode cX10_isPart 7 = .ok (.iconst 1, 1) := by decide +kernel
theorem dX10_isPart_8 : decode cX10_isPart 8 = .ok (.isub, 1) := by decide +kernel
theorem dX10_isPart_9 : decode cX10_isPart 9 = .ok (.i2l, 1) := by decide +kernel
theorem dX10_isPart_10 : decode cX10_isPart 10 = .ok (.invokestatic 59, 3) := by decide +kernel
theorem dX10_isPart_13 : decode cX10_isPart 13 = .ok (.ireturn, 1) := by decide +kernel
theorem dX10_window_0 : decode cX10_window 0 = .ok (.aload_n 0, 1) := by decide +kernel
theorem dX10_window_1 : decode cX10_window 1 = .ok (.getfield 7, 3) := by decide +kernel
theorem dX10_window_4 : decode cX10_window 4 = .ok (.bipush 19, 2) := by decide +kernel
theorem dX10_window_6 : decode cX10_window 6 = .ok (.laload, 1) := by decide +kernel
theorem dX10_window_7 : decode cX10_window 7 = .ok (.l2i, 1) := by decide +kernel
theorem dX10_window_8 : decode cX10_window 8 = .ok (.ireturn, 1) := by decide +kernel
theorem dX10_contribute_0 : decode cX10_contribute 0 = .ok (.aload_n 0, 1) := by decide +kernel
theorem dX10_contribute_1 : decode cX10_contribute 1 = .ok (.dup, 1) := by decide +kernel
theorem dX10_contribute_2 : decode cX10_contribute 2 = .ok (.getfield 63, 3) := by decide +kernel
theorem dX10_contribute_5 : decode cX10_contribute 5 = .ok (.lload_n 1, 1) := by decide +kernel
theorem dX10_contribute_6 : decode cX10_contribute 6 = .ok (.lconst 0, 1) := by decide +kernel
theorem dX10_contribute_7 : decode cX10_contribute 7 = .ok (.lcmp, 1) := by decide +kernel
theorem dX10_contribute_8 : decode cX10_contribute 8 = .ok (.ifCond .le 7, 3) := by decide +kernel
theorem dX10_contribute_11 : decode cX10_contribute 11 = .ok (.iconst 1, 1) := by decide +kernel
theorem dX10_contribute_12 : decode cX10_contribute 12 = .ok (.goto 4, 3) := by decide +kernel
theorem dX10_contribute_15 : decode cX10_contribute 15 = .ok (.iconst 0, 1) := by decide +kernel
theorem dX10_contribute_16 : decode cX10_contribute 16 = .ok (.iadd, 1) := by decide +kernel
theorem dX10_contribute_17 : decode cX10_contribute 17 = .ok (.putfield 63, 3) := by decide +kernel
theorem dX10_contribute_20 : decode cX10_contribute 20 = .ok (.aload_n 0, 1) := by decide +kernel
theorem dX10_contribute_21 : decode cX10_contribute 21 = .ok (.dup, 1) := by decide +kernel
theorem dX10_contribute_22 : decode cX10_contribute 22 = .ok (.getfield 66, 3) := by decide +kernel
theorem dX10_contribute_25 : decode cX10_contribute 25 = .ok (.lload_n 1, 1) := by decide +kernel
theorem dX10_contribute_26 : decode cX10_contribute 26 = .ok (.ladd, 1) := by decide +kernel
theorem dX10_contribute_27 : decode cX10_contribute 27 = .ok (.putfield 66, 3) := by decide +kernel
theorem dX10_contribute_30 : decode cX10_contribute 30 = .ok (.return_, 1) := by decide +kernel
theorem dX10_setsOut_0 : decode cX10_setsOut 0 = .ok (.aload_n 0, 1) := by decide +kernel
theorem dX10_setsOut_1 : decode cX10_setsOut 1 = .ok (.dup, 1) := by decide +kernel
theorem dX10_setsOut_2 : decode cX10_setsOut 2 = .ok (.getfield 70, 3) := by decide +kernel
theorem dX10_setsOut_5 : decode cX10_setsOut 5 = .ok (.aload_n 0, 1) := by decide +kernel
theorem dX10_setsOut_6 : decode cX10_setsOut 6 = .ok (.getfield 63, 3) := by decide +kernel
theorem dX10_setsOut_9 : decode cX10_setsOut 9 = .ok (.iconst 1, 1) := by decide +kernel
theorem dX10_setsOut_10 : decode cX10_setsOut 10 = .ok (.if_icmp .le 7, 3) := by decide +kernel
theorem dX10_setsOut_13 : decode cX10_setsOut 13 = .ok (.iconst 1, 1) := by decide +kernel
theorem dX10_setsOut_14 : decode cX10_setsOut 14 = .ok (.goto 4, 3) := by decide +kernel
theorem dX10_setsOut_17 : decode cX10_setsOut 17 = .ok (.iconst 0, 1) := by decide +kernel
theorem dX10_setsOut_18 : decode cX10_setsOut 18 = .ok (.iadd, 1) := by decide +kernel
theorem dX10_setsOut_19 : decode cX10_setsOut 19 = .ok (.putfield 70, 3) := by decide +kernel
theorem dX10_setsOut_22 : decode cX10_setsOut 22 = .ok (.aload_n 0, 1) := by decide +kernel
theorem dX10_setsOut_23 : decode cX10_setsOut 23 = .ok (.getfield 66, 3) := by decide +kernel
theorem dX10_setsOut_26 : decode cX10_setsOut 26 = .ok (.lstore_n 1, 1) := by decide +kernel
theorem dX10_setsOut_27 : decode cX10_setsOut 27 = .ok (.lload_n 1, 1) := by decide +kernel
theorem dX10_setsOut_28 : decode cX10_setsOut 28 = .ok (.lconst 0, 1) := by decide +kernel
theorem dX10_setsOut_29 : decode cX10_setsOut 29 = .ok (.lcmp, 1) := by decide +kernel
theorem dX10_setsOut_30 : decode cX10_setsOut 30 = .ok (.ifCond .le 37, 3) := by decide +kernel
theorem dX10_setsOut_33 : decode cX10_setsOut 33 = .ok (.lload_n 1, 1) := by decide +kernel
theorem dX10_setsOut_34 : decode cX10_setsOut 34 = .ok (.aload_n 0, 1) := by decide +kernel
theorem dX10_setsOut_35 : decode cX10_setsOut 35 = .ok (.getfield 7, 3) := by decide +kernel
theorem dX10_setsOut_38 : decode cX10_setsOut 38 = .ok (.bipush 18, 2) := by decide +kernel
theorem dX10_setsOut_40 : decode cX10_setsOut 40 = .ok (.laload, 1) := by decide +kernel
theorem dX10_setsOut_41 : decode cX10_setsOut 41 = .ok (.lcmp, 1) := by decide +kernel
theorem dX10_setsOut_42 : decode cX10_setsOut 42 = .ok (.ifCond .ge 25, 3) := by decide +kernel
theorem dX10_setsOut_45 : decode cX10_setsOut 45 = .ok (.aload_n 0, 1) := by decide +kernel
theorem dX10_setsOut_46 : decode cX10_setsOut 46 = .ok (.dup, 1) := by decide +kernel
theorem dX10_setsOut_47 : decode cX10_setsOut 47 = .ok (.getfield 73, 3) := by decide +kernel
theorem dX10_setsOut_50 : decode cX10_setsOut 50 = .ok (.iconst 1, 1) := by decide +kernel
theorem dX10_setsOut_51 : decode cX10_setsOut 51 = .ok (.iadd, 1) := by decide +kernel
theorem dX10_setsOut_52 : decode cX10_setsOut 52 = .ok (.putfield 73, 3) := by decide +kernel
theorem dX10_setsOut_55 : decode cX10_setsOut 55 = .ok (.aload_n 0, 1) := by decide +kernel
theorem dX10_setsOut_56 : decode cX10_setsOut 56 = .ok (.dup, 1) := by decide +kernel
theorem dX10_setsOut_57 : decode cX10_setsOut 57 = .ok (.getfield 76, 3) := by decide +kernel
theorem dX10_setsOut_60 : decode cX10_setsOut 60 = .ok (.lload_n 1, 1) := by decide +kernel
theorem dX10_setsOut_61 : decode cX10_setsOut 61 = .ok (.ladd, 1) := by decide +kernel
theorem dX10_setsOut_62 : decode cX10_setsOut 62 = .ok (.putfield 76, 3) := by decide +kernel
theorem dX10_setsOut_65 : decode cX10_setsOut 65 = .ok (.lconst 0, 1) := by decide +kernel
theorem dX10_setsOut_66 : decode cX10_setsOut 66 = .ok (.lstore_n 1, 1) := by decide +kernel
theorem dX10_setsOut_67 : decode cX10_setsOut 67 = .ok (.aload_n 0, 1) := by decide +kernel
theorem dX10_setsOut_68 : decode cX10_setsOut 68 = .ok (.iconst 0, 1) := by decide +kernel
theorem dX10_setsOut_69 : decode cX10_setsOut 69 = .ok (.putfield 63, 3) := by decide +kernel
theorem dX10_setsOut_72 : decode cX10_setsOut 72 = .ok (.aload_n 0, 1) := by decide +kernel
theorem dX10_setsOut_73 : decode cX10_setsOut 73 = .ok (.lconst 0, 1) := by decide +kernel
theorem dX10_setsOut_74 : decode cX10_setsOut 74 = .ok (.putfield 66, 3) := by decide +kernel
theorem dX10_setsOut_77 : decode cX10_setsOut 77 = .ok (.lload_n 1, 1) := by decide +kernel
theorem dX10_setsOut_78 : decode cX10_setsOut 78 = .ok (.lreturn, 1) := by decide +kernel
theorem dX10_arrives_0 : decode cX10_arrives 0 = .ok (.iload_n 3, 1) := by decide +kernel
theorem dX10_arrives_1 : decode cX10_arrives 1 = .ok (.ifCond .eq 7, 3) := by decide +kernel
theorem dX10_arrives_4 : decode cX10_arrives 4 = .ok (.iload_n 1, 1) := by decide +kernel
theorem dX10_arrives_5 : decode cX10_arrives 5 = .ok (.goto 6, 3) := by decide +kernel
theorem dX10_arrives_8 : decode cX10_arrives 8 = .ok (.iload_n 1, 1) := by decide +kernel
theorem dX10_arrives_9 : decode cX10_arrives 9 = .ok (.iconst 1, 1) := by decide +kernel
theorem dX10_arrives_10 : decode cX10_arrives 10 = .ok (.isub, 1) := by decide +kernel
theorem dX10_arrives_11 : decode cX10_arrives 11 = .ok (.istore 4, 2) := by decide +kernel
theorem dX10_arrives_13 : decode cX10_arrives 13 = .ok (.iload 4, 2) := by decide +kernel
theorem dX10_arrives_15 : decode cX10_arrives 15 = .ok (.ifCond .lt 23, 3) := by decide +kernel
theorem dX10_arrives_18 : decode cX10_arrives 18 = .ok (.iload 4, 2) := by decide +kernel
theorem dX10_arrives_20 : decode cX10_arrives 20 = .ok (.aload_n 0, 1) := by decide +kernel
theorem dX10_arrives_21 : decode cX10_arrives 21 = .ok (.getfield 79, 3) := by decide +kernel
theorem dX10_arrives_24 : decode cX10_arrives 24 = .ok (.if_icmp .ge 14, 3) := by decide +kernel
theorem dX10_arrives_27 : decode cX10_arrives 27 = .ok (.iload_n 2, 1) := by decide +kernel
theorem dX10_arrives_28 : decode cX10_arrives 28 = .ok (.aload_n 0, 1) := by decide +kernel
theorem dX10_arrives_29 : decode cX10_arrives 29 = .ok (.getfield 20, 3) := by decide +kernel
theorem dX10_arrives_32 : decode cX10_arrives 32 = .ok (.iload 4, 2) := by decide +kernel
theorem dX10_arrives_34 : decode cX10_arrives 34 = .ok (.iaload, 1) := by decide +kernel
theorem dX10_arrives_35 : decode cX10_arrives 35 = .ok (.if_icmp .ge 5, 3) := by decide +kernel
theorem dX10_arrives_38 : decode cX10_arrives 38 = .ok (.lconst 0, 1) := by decide +kernel
theorem dX10_arrives_39 : decode cX10_arrives 39 = .ok (.lreturn, 1) := by decide +kernel
theorem dX10_arrives_40 : decode cX10_arrives 40 = .ok (.iload_n 2, 1) := by decide +kernel
theorem dX10_arrives_41 : decode cX10_arrives 41 = .ok (.aload_n 0, 1) := by decide +kernel
theorem dX10_arrives_42 : decode cX10_arrives 42 = .ok (.getfield 20, 3) := by decide +kernel
theorem dX10_arrives_45 : decode cX10_arrives 45 = .ok (.iload 4, 2) := by decide +kernel
theorem dX10_arrives_47 : decode cX10_arrives 47 = .ok (.iaload, 1) := by decide +kernel
theorem dX10_arrives_48 : decode cX10_arrives 48 = .ok (.isub, 1) := by decide +kernel
theorem dX10_arrives_49 : decode cX10_arrives 49 = .ok (.istore 5, 2) := by decide +kernel
theorem dX10_arrives_51 : decode cX10_arrives 51 = .ok (.iload_n 3, 1) := by decide +kernel
theorem dX10_arrives_52 : decode cX10_arrives 52 = .ok (.ifCond .eq 21, 3) := by decide +kernel
theorem dX10_arrives_55 : decode cX10_arrives 55 = .ok (.aload_n 0, 1) := by decide +kernel
theorem dX10_arrives_56 : decode cX10_arrives 56 = .ok (.getfield 35, 3) := by decide +kernel
theorem dX10_arrives_59 : decode cX10_arrives 59 = .ok (.sipush 201, 3) := by decide +kernel
theorem dX10_arrives_62 : decode cX10_arrives 62 = .ok (.iload_n 1, 1) := by decide +kernel
theorem dX10_arrives_63 : decode cX10_arrives 63 = .ok (.iconst 1, 1) := by decide +kernel
theorem dX10_arrives_64 : decode cX10_arrives 64 = .ok (.iadd, 1) := by decide +kernel
theorem dX10_arrives_65 : decode cX10_arrives 65 = .ok (.imul, 1) := by decide +kernel
theorem dX10_arrives_66 : decode cX10_arrives 66 = .ok (.iload 5, 2) := by decide +kernel
theorem dX10_arrives_68 : decode cX10_arrives 68 = .ok (.iadd, 1) := by decide +kernel
theorem dX10_arrives_69 : decode cX10_arrives 69 = .ok (.laload, 1) := by decide +kernel
theorem dX10_arrives_70 : decode cX10_arrives 70 = .ok (.goto 18, 3) := by decide +kernel
theorem dX10_arrives_73 : decode cX10_arrives 73 = .ok (.aload_n 0, 1) := by decide +kernel
theorem dX10_arrives_74 : decode cX10_arrives 74 = .ok (.getfield 32, 3) := by decide +kernel
theorem dX10_arrives_77 : decode cX10_arrives 77 = .ok (.sipush 201, 3) := by decide +kernel
theorem dX10_arrives_80 : decode cX10_arrives 80 = .ok (.iload_n 1, 1) := by decide +kernel
theorem dX10_arrives_81 : decode cX10_arrives 81 = .ok (.iconst 1, 1) := by decide +kernel
theorem dX10_arrives_82 : decode cX10_arrives 82 = .ok (.isub, 1) := by decide +kernel
theorem dX10_arrives_83 : decode cX10_arrives 83 = .ok (.imul, 1) := by decide +kernel
theorem dX10_arrives_84 : decode cX10_arrives 84 = .ok (.iload 5, 2) := by decide +kernel
theorem dX10_arrives_86 : decode cX10_arrives 86 = .ok (.iadd, 1) := by decide +kernel
theorem dX10_arrives_87 : decode cX10_arrives 87 = .ok (.laload, 1) := by decide +kernel
theorem dX10_arrives_88 : decode cX10_arrives 88 = .ok (.lreturn, 1) := by decide +kernel
theorem dX10_back_0 : decode cX10_back 0 = .ok (.lload_n 1, 1) := by decide +kernel
theorem dX10_back_1 : decode cX10_back 1 = .ok (.aload_n 0, 1) := by decide +kernel
theorem dX10_back_2 : decode cX10_back 2 = .ok (.getfield 23, 3) := by decide +kernel
theorem dX10_back_5 : decode cX10_back 5 = .ok (.iload_n 3, 1) := by decide +kernel
theorem dX10_back_6 : decode cX10_back 6 = .ok (.iaload, 1) := by decide +kernel
theorem dX10_back_7 : decode cX10_back 7 = .ok (.i2l, 1) := by decide +kernel
theorem dX10_back_8 : decode cX10_back 8 = .ok (.lmul, 1) := by decide +kernel
theorem dX10_back_9 : decode cX10_back 9 = .ok (.ldc2_w 82, 3) := by decide +kernel
theorem dX10_back_12 : decode cX10_back 12 = .ok (.ldiv, 1) := by decide +kernel
theorem dX10_back_13 : decode cX10_back 13 = .ok (.lreturn, 1) := by decide +kernel
theorem dX10_passPulses_0 : decode cX10_passPulses 0 = .ok (.iconst 0, 1) := by decide +kernel
theorem dX10_passPulses_1 : decode cX10_passPulses 1 = .ok (.istore_n 2, 1) := by decide +kernel
theorem dX10_passPulses_2 : decode cX10_passPulses 2 = .ok (.iload_n 2, 1) := by decide +kernel
theorem dX10_passPulses_3 : decode cX10_passPulses 3 = .ok (.aload_n 0, 1) := by decide +kernel
theorem dX10_passPulses_4 : decode cX10_passPulses 4 = .ok (.getfield 84, 3) := by decide +kernel
theorem dX10_passPulses_7 : decode cX10_passPulses 7 = .ok (.if_icmp .ge 33, 3) := by decide +kernel
theorem dX10_passPulses_10 : decode cX10_passPulses 10 = .ok (.aload_n 0, 1) := by decide +kernel
theorem dX10_passPulses_11 : decode cX10_passPulses 11 = .ok (.aload_n 0, 1) := by decide +kernel
theorem dX10_passPulses_12 : decode cX10_passPulses 12 = .ok (.getfield 26, 3) := by decide +kernel
theorem dX10_passPulses_15 : decode cX10_passPulses 15 = .ok (.iload_n 2, 1) := by decide +kernel
theorem dX10_passPulses_16 : decode cX10_passPulses 16 = .ok (.iaload, 1) := by decide +kernel
theorem dX10_passPulses_17 : decode cX10_passPulses 17 = .ok (.iload_n 1, 1) := by decide +kernel
theorem dX10_passPulses_18 : decode cX10_passPulses 18 = .ok (.if_icmp .ne 12, 3) := by decide +kernel
theorem dX10_passPulses_21 : decode cX10_passPulses 21 = .ok (.aload_n 0, 1) := by decide +kernel
theorem dX10_passPulses_22 : decode cX10_passPulses 22 = .ok (.getfield 29, 3) := by decide +kernel
theorem dX10_passPulses_25 : decode cX10_passPulses 25 = .ok (.iload_n 2, 1) := by decide +kernel
theorem dX10_passPulses_26 : decode cX10_passPulses 26 = .ok (.laload, 1) := by decide +kernel
theorem dX10_passPulses_27 : decode cX10_passPulses 27 = .ok (.goto 4, 3) := by decide +kernel
theorem dX10_passPulses_30 : decode cX10_passPulses 30 = .ok (.lconst 0, 1) := by decide +kernel
theorem dX10_passPulses_31 : decode cX10_passPulses 31 = .ok (.invokevirtual 87, 3) := by decide +kernel
theorem dX10_passPulses_34 : decode cX10_passPulses 34 = .ok (.iinc 2 1, 3) := by decide +kernel
theorem dX10_passPulses_37 : decode cX10_passPulses 37 = .ok (.goto (-35), 3) := by decide +kernel
theorem dX10_passPulses_40 : decode cX10_passPulses 40 = .ok (.return_, 1) := by decide +kernel
theorem dX10_runAt_0 : decode cX10_runAt 0 = .ok (.aload_n 0, 1) := by decide +kernel
theorem dX10_runAt_1 : decode cX10_runAt 1 = .ok (.iload_n 1, 1) := by decide +kernel
theorem dX10_runAt_2 : decode cX10_runAt 2 = .ok (.iload_n 2, 1) := by decide +kernel
theorem dX10_runAt_3 : decode cX10_runAt 3 = .ok (.iconst 0, 1) := by decide +kernel
theorem dX10_runAt_4 : decode cX10_runAt 4 = .ok (.invokevirtual 91, 3) := by decide +kernel
theorem dX10_runAt_7 : decode cX10_runAt 7 = .ok (.lstore_n 3, 1) := by decide +kernel
theorem dX10_runAt_8 : decode cX10_runAt 8 = .ok (.aload_n 0, 1) := by decide +kernel
theorem dX10_runAt_9 : decode cX10_runAt 9 = .ok (.iload_n 1, 1) := by decide +kernel
theorem dX10_runAt_10 : decode cX10_runAt 10 = .ok (.iload_n 2, 1) := by decide +kernel
theorem dX10_runAt_11 : decode cX10_runAt 11 = .ok (.iconst 1, 1) := by decide +kernel
theorem dX10_runAt_12 : decode cX10_runAt 12 = .ok (.invokevirtual 91, 3) := by decide +kernel
theorem dX10_runAt_15 : decode cX10_runAt 15 = .ok (.lstore 5, 2) := by decide +kernel
theorem dX10_runAt_17 : decode cX10_runAt 17 = .ok (.aload_n 0, 1) := by decide +kernel
theorem dX10_runAt_18 : decode cX10_runAt 18 = .ok (.lload_n 3, 1) := by decide +kernel
theorem dX10_runAt_19 : decode cX10_runAt 19 = .ok (.iload_n 1, 1) := by decide +kernel
theorem dX10_runAt_20 : decode cX10_runAt 20 = .ok (.invokevirtual 95, 3) := by decide +kernel
theorem dX10_runAt_23 : decode cX10_runAt 23 = .ok (.lstore 7, 2) := by decide +kernel
theorem dX10_runAt_25 : decode cX10_runAt 25 = .ok (.aload_n 0, 1) := by decide +kernel
theorem dX10_runAt_26 : decode cX10_runAt 26 = .ok (.lload 5, 2) := by decide +kernel
theorem dX10_runAt_28 : decode cX10_runAt 28 = .ok (.iload_n 1, 1) := by decide +kernel
theorem dX10_runAt_29 : decode cX10_runAt 29 = .ok (.invokevirtual 95, 3) := by decide +kernel
theorem dX10_runAt_32 : decode cX10_runAt 32 = .ok (.lstore 9, 2) := by decide +kernel
theorem dX10_runAt_34 : decode cX10_runAt 34 = .ok (.iload_n 1, 1) := by decide +kernel
theorem dX10_runAt_35 : decode cX10_runAt 35 = .ok (.aload_n 0, 1) := by decide +kernel
theorem dX10_runAt_36 : decode cX10_runAt 36 = .ok (.getfield 79, 3) := by decide +kernel
theorem dX10_runAt_39 : decode cX10_runAt 39 = .ok (.if_icmp .ge 45, 3) := by decide +kernel
theorem dX10_runAt_42 : decode cX10_runAt 42 = .ok (.aload_n 0, 1) := by decide +kernel
theorem dX10_runAt_43 : decode cX10_runAt 43 = .ok (.lload 9, 2) := by decide +kernel
theorem dX10_runAt_45 : decode cX10_runAt 45 = .ok (.invokevirtual 87, 3) := by decide +kernel
theorem dX10_runAt_48 : decode cX10_runAt 48 = .ok (.aload_n 0, 1) := by decide +kernel
theorem dX10_runAt_49 : decode cX10_runAt 49 = .ok (.lload_n 3, 1) := by decide +kernel
theorem dX10_runAt_50 : decode cX10_runAt 50 = .ok (.lload 7, 2) := by decide +kernel
theorem dX10_runAt_52 : decode cX10_runAt 52 = .ok (.lsub, 1) := by decide +kernel
theorem dX10_runAt_53 : decode cX10_runAt 53 = .ok (.invokevirtual 87, 3) := by decide +kernel
theorem dX10_runAt_56 : decode cX10_runAt 56 = .ok (.iload_n 1, 1) := by decide +kernel
theorem dX10_runAt_57 : decode cX10_runAt 57 = .ok (.ifCond .ne 8, 3) := by decide +kernel
theorem dX10_runAt_60 : decode cX10_runAt 60 = .ok (.aload_n 0, 1) := by decide +kernel
theorem dX10_runAt_61 : decode cX10_runAt 61 = .ok (.iload_n 2, 1) := by decide +kernel
theorem dX10_runAt_62 : decode cX10_runAt 62 = .ok (.invokevirtual 99, 3) := by decide +kernel
theorem dX10_runAt_65 : decode cX10_runAt 65 = .ok (.aload_n 0, 1) := by decide +kernel
theorem dX10_runAt_66 : decode cX10_runAt 66 = .ok (.getfield 32, 3) := by decide +kernel
theorem dX10_runAt_69 : decode cX10_runAt 69 = .ok (.sipush 201, 3) := by decide +kernel
theorem dX10_runAt_72 : decode cX10_runAt 72 = .ok (.iload_n 1, 1) := by decide +kernel
theorem dX10_runAt_73 : decode cX10_runAt 73 = .ok (.imul, 1) := by decide +kernel
theorem dX10_runAt_74 : decode cX10_runAt 74 = .ok (.iload_n 2, 1) := by decide +kernel
theorem dX10_runAt_75 : decode cX10_runAt 75 = .ok (.iadd, 1) := by decide +kernel
theorem dX10_runAt_76 : decode cX10_runAt 76 = .ok (.aload_n 0, 1) := by decide +kernel
theorem dX10_runAt_77 : decode cX10_runAt 77 = .ok (.invokevirtual 103, 3) := by decide +kernel
theorem dX10_runAt_80 : decode cX10_runAt 80 = .ok (.lastore, 1) := by decide +kernel
theorem dX10_runAt_81 : decode cX10_runAt 81 = .ok (.goto 16, 3) := by decide +kernel
theorem dX10_runAt_84 : decode cX10_runAt 84 = .ok (.aload_n 0, 1) := by decide +kernel
theorem dX10_runAt_85 : decode cX10_runAt 85 = .ok (.dup, 1) := by decide +kernel
theorem dX10_runAt_86 : decode cX10_runAt 86 = .ok (.getfield 107, 3) := by decide +kernel
theorem dX10_runAt_89 : decode cX10_runAt 89 = .ok (.lload_n 3, 1) := by decide +kernel
theorem dX10_runAt_90 : decode cX10_runAt 90 = .ok (.lload 7, 2) := by decide +kernel
theorem dX10_runAt_92 : decode cX10_runAt 92 = .ok (.lsub, 1) := by decide +kernel
theorem dX10_runAt_93 : decode cX10_runAt 93 = .ok (.ladd, 1) := by decide +kernel
theorem dX10_runAt_94 : decode cX10_runAt 94 = .ok (.putfield 107, 3) := by decide +kernel
theorem dX10_runAt_97 : decode cX10_runAt 97 = .ok (.iload_n 1, 1) := by decide +kernel
theorem dX10_runAt_98 : decode cX10_runAt 98 = .ok (.ifCond .le 37, 3) := by decide +kernel
theorem dX10_runAt_101 : decode cX10_runAt 101 = .ok (.aload_n 0, 1) := by decide +kernel
theorem dX10_runAt_102 : decode cX10_runAt 102 = .ok (.lload 7, 2) := by decide +kernel
theorem dX10_runAt_104 : decode cX10_runAt 104 = .ok (.invokevirtual 87, 3) := by decide +kernel
theorem dX10_runAt_107 : decode cX10_runAt 107 = .ok (.aload_n 0, 1) := by decide +kernel
theorem dX10_runAt_108 : decode cX10_runAt 108 = .ok (.lload 5, 2) := by decide +kernel
theorem dX10_runAt_110 : decode cX10_runAt 110 = .ok (.lload 9, 2) := by decide +kernel
theorem dX10_runAt_112 : decode cX10_runAt 112 = .ok (.lsub, 1) := by decide +kernel
theorem dX10_runAt_113 : decode cX10_runAt 113 = .ok (.invokevirtual 87, 3) := by decide +kernel
theorem dX10_runAt_116 : decode cX10_runAt 116 = .ok (.aload_n 0, 1) := by decide +kernel
theorem dX10_runAt_117 : decode cX10_runAt 117 = .ok (.getfield 35, 3) := by decide +kernel
theorem dX10_runAt_120 : decode cX10_runAt 120 = .ok (.sipush 201, 3) := by decide +kernel
theorem dX10_runAt_123 : decode cX10_runAt 123 = .ok (.iload_n 1, 1) := by decide +kernel
theorem dX10_runAt_124 : decode cX10_runAt 124 = .ok (.imul, 1) := by decide +kernel
theorem dX10_runAt_125 : decode cX10_runAt 125 = .ok (.iload_n 2, 1) := by decide +kernel
theorem dX10_runAt_126 : decode cX10_runAt 126 = .ok (.iadd, 1) := by decide +kernel
theorem dX10_runAt_127 : decode cX10_runAt 127 = .ok (.aload_n 0, 1) := by decide +kernel
theorem dX10_runAt_128 : decode cX10_runAt 128 = .ok (.invokevirtual 103, 3) := by decide +kernel
theorem dX10_runAt_131 : decode cX10_runAt 131 = .ok (.lastore, 1) := by decide +kernel
theorem dX10_runAt_132 : decode cX10_runAt 132 = .ok (.goto 14, 3) := by decide +kernel
theorem dX10_runAt_135 : decode cX10_runAt 135 = .ok (.aload_n 0, 1) := by decide +kernel
theorem dX10_runAt_136 : decode cX10_runAt 136 = .ok (.getfield 38, 3) := by decide +kernel
theorem dX10_runAt_139 : decode cX10_runAt 139 = .ok (.iload_n 2, 1) := by decide +kernel
theorem dX10_runAt_140 : decode cX10_runAt 140 = .ok (.lload 5, 2) := by decide +kernel
theorem dX10_runAt_142 : decode cX10_runAt 142 = .ok (.lload 9, 2) := by decide +kernel
theorem dX10_runAt_144 : decode cX10_runAt 144 = .ok (.lsub, 1) := by decide +kernel
theorem dX10_runAt_145 : decode cX10_runAt 145 = .ok (.lastore, 1) := by decide +kernel
theorem dX10_runAt_146 : decode cX10_runAt 146 = .ok (.return_, 1) := by decide +kernel
theorem dX10_runLine_0 : decode cX10_runLine 0 = .ok (.aload_n 0, 1) := by decide +kernel
theorem dX10_runLine_1 : decode cX10_runLine 1 = .ok (.lconst 0, 1) := by decide +kernel
theorem dX10_runLine_2 : decode cX10_runLine 2 = .ok (.putfield 107, 3) := by decide +kernel
theorem dX10_runLine_5 : decode cX10_runLine 5 = .ok (.aload_n 0, 1) := by decide +kernel
theorem dX10_runLine_6 : decode cX10_runLine 6 = .ok (.lconst 0, 1) := by decide +kernel
theorem dX10_runLine_7 : decode cX10_runLine 7 = .ok (.putfield 76, 3) := by decide +kernel
theorem dX10_runLine_10 : decode cX10_runLine 10 = .ok (.aload_n 0, 1) := by decide +kernel
theorem dX10_runLine_11 : decode cX10_runLine 11 = .ok (.iconst 0, 1) := by decide +kernel
theorem dX10_runLine_12 : decode cX10_runLine 12 = .ok (.putfield 70, 3) := by decide +kernel
theorem dX10_runLine_15 : decode cX10_runLine 15 = .ok (.aload_n 0, 1) := by decide +kernel
theorem dX10_runLine_16 : decode cX10_runLine 16 = .ok (.iconst 0, 1) := by decide +kernel
theorem dX10_runLine_17 : decode cX10_runLine 17 = .ok (.putfield 73, 3) := by decide +kernel
theorem dX10_runLine_20 : decode cX10_runLine 20 = .ok (.aload_n 0, 1) := by decide +kernel
theorem dX10_runLine_21 : decode cX10_runLine 21 = .ok (.iconst 0, 1) := by decide +kernel
theorem dX10_runLine_22 : decode cX10_runLine 22 = .ok (.putfield 63, 3) := by decide +kernel
theorem dX10_runLine_25 : decode cX10_runLine 25 = .ok (.aload_n 0, 1) := by decide +kernel
theorem dX10_runLine_26 : decode cX10_runLine 26 = .ok (.lconst 0, 1) := by decide +kernel
theorem dX10_runLine_27 : decode cX10_runLine 27 = .ok (.putfield 66, 3) := by decide +kernel
theorem dX10_runLine_30 : decode cX10_runLine 30 = .ok (.iconst 0, 1) := by decide +kernel
theorem dX10_runLine_31 : decode cX10_runLine 31 = .ok (.istore_n 1, 1) := by decide +kernel
theorem dX10_runLine_32 : decode cX10_runLine 32 = .ok (.iload_n 1, 1) := by decide +kernel
theorem dX10_runLine_33 : decode cX10_runLine 33 = .ok (.sipush 201, 3) := by decide +kernel
theorem dX10_runLine_36 : decode cX10_runLine 36 = .ok (.if_icmp .ge 16, 3) := by decide +kernel
theorem dX10_runLine_39 : decode cX10_runLine 39 = .ok (.aload_n 0, 1) := by decide +kernel
theorem dX10_runLine_40 : decode cX10_runLine 40 = .ok (.getfield 38, 3) := by decide +kernel
theorem dX10_runLine_43 : decode cX10_runLine 43 = .ok (.iload_n 1, 1) := by decide +kernel
theorem dX10_runLine_44 : decode cX10_runLine 44 = .ok (.lconst 0, 1) := by decide +kernel
theorem dX10_runLine_45 : decode cX10_runLine 45 = .ok (.lastore, 1) := by decide +kernel
theorem dX10_runLine_46 : decode cX10_runLine 46 = .ok (.iinc 1 1, 3) := by decide +kernel
theorem dX10_runLine_49 : decode cX10_runLine 49 = .ok (.goto (-17), 3) := by decide +kernel
theorem dX10_runLine_52 : decode cX10_runLine 52 = .ok (.iconst 0, 1) := by decide +kernel
theorem dX10_runLine_53 : decode cX10_runLine 53 = .ok (.istore_n 1, 1) := by decide +kernel
theorem dX10_runLine_54 : decode cX10_runLine 54 = .ok (.iload_n 1, 1) := by decide +kernel
theorem dX10_runLine_55 : decode cX10_runLine 55 = .ok (.aload_n 0, 1) := by decide +kernel
theorem dX10_runLine_56 : decode cX10_runLine 56 = .ok (.invokevirtual 110, 3) := by decide +kernel
theorem dX10_runLine_59 : decode cX10_runLine 59 = .ok (.if_icmp .gt 73, 3) := by decide +kernel
theorem dX10_runLine_62 : decode cX10_runLine 62 = .ok (.aload_n 0, 1) := by decide +kernel
theorem dX10_runLine_63 : decode cX10_runLine 63 = .ok (.getfield 79, 3) := by decide +kernel
theorem dX10_runLine_66 : decode cX10_runLine 66 = .ok (.ifCond .ne 31, 3) := by decide +kernel
theorem dX10_runLine_69 : decode cX10_runLine 69 = .ok (.aload_n 0, 1) := by decide +kernel
theorem dX10_runLine_70 : decode cX10_runLine 70 = .ok (.iload_n 1, 1) := by decide +kernel
theorem dX10_runLine_71 : decode cX10_runLine 71 = .ok (.invokevirtual 99, 3) := by decide +kernel
theorem dX10_runLine_74 : decode cX10_runLine 74 = .ok (.aload_n 0, 1) := by decide +kernel
theorem dX10_runLine_75 : decode cX10_runLine 75 = .ok (.dup, 1) := by decide +kernel
theorem dX10_runLine_76 : decode cX10_runLine 76 = .ok (.getfield 107, 3) := by decide +kernel
theorem dX10_runLine_79 : decode cX10_runLine 79 = .ok (.aload_n 0, 1) := by decide +kernel
theorem dX10_runLine_80 : decode cX10_runLine 80 = .ok (.getfield 66, 3) := by decide +kernel
theorem dX10_runLine_83 : decode cX10_runLine 83 = .ok (.ladd, 1) := by decide +kernel
theorem dX10_runLine_84 : decode cX10_runLine 84 = .ok (.putfield 107, 3) := by decide +kernel
theorem dX10_runLine_87 : decode cX10_runLine 87 = .ok (.aload_n 0, 1) := by decide +kernel
theorem dX10_runLine_88 : decode cX10_runLine 88 = .ok (.lconst 0, 1) := by decide +kernel
theorem dX10_runLine_89 : decode cX10_runLine 89 = .ok (.putfield 66, 3) := by decide +kernel
theorem dX10_runLine_92 : decode cX10_runLine 92 = .ok (.aload_n 0, 1) := by decide +kernel
theorem dX10_runLine_93 : decode cX10_runLine 93 = .ok (.iconst 0, 1) := by decide +kernel
theorem dX10_runLine_94 : decode cX10_runLine 94 = .ok (.putfield 63, 3) := by decide +kernel
theorem dX10_runLine_97 : decode cX10_runLine 97 = .ok (.iconst 0, 1) := by decide +kernel
theorem dX10_runLine_98 : decode cX10_runLine 98 = .ok (.istore_n 2, 1) := by decide +kernel
theorem dX10_runLine_99 : decode cX10_runLine 99 = .ok (.iload_n 2, 1) := by decide +kernel
theorem dX10_runLine_100 : decode cX10_runLine 100 = .ok (.aload_n 0, 1) := by decide +kernel
theorem dX10_runLine_101 : decode cX10_runLine 101 = .ok (.getfield 79, 3) := by decide +kernel
theorem dX10_runLine_104 : decode cX10_runLine 104 = .ok (.if_icmp .gt 22, 3) := by decide +kernel
theorem dX10_runLine_107 : decode cX10_runLine 107 = .ok (.aload_n 0, 1) := by decide +kernel
theorem dX10_runLine_108 : decode cX10_runLine 108 = .ok (.getfield 79, 3) := by decide +kernel
theorem dX10_runLine_111 : decode cX10_runLine 111 = .ok (.ifCond .le 15, 3) := by decide +kernel
theorem dX10_runLine_114 : decode cX10_runLine 114 = .ok (.aload_n 0, 1) := by decide +kernel
theorem dX10_runLine_115 : decode cX10_runLine 115 = .ok (.iload_n 2, 1) := by decide +kernel
theorem dX10_runLine_116 : decode cX10_runLine 116 = .ok (.iload_n 1, 1) := by decide +kernel
theorem dX10_runLine_117 : decode cX10_runLine 117 = .ok (.invokevirtual 113, 3) := by decide +kernel
theorem dX10_runLine_120 : decode cX10_runLine 120 = .ok (.iinc 2 1, 3) := by decide +kernel
theorem dX10_runLine_123 : decode cX10_runLine 123 = .ok (.goto (-24), 3) := by decide +kernel
theorem dX10_runLine_126 : decode cX10_runLine 126 = .ok (.iinc 1 1, 3) := by decide +kernel
theorem dX10_runLine_129 : decode cX10_runLine 129 = .ok (.goto (-75), 3) := by decide +kernel
theorem dX10_runLine_132 : decode cX10_runLine 132 = .ok (.return_, 1) := by decide +kernel
theorem dX10_runPresent_0 : decode cX10_runPresent 0 = .ok (.aload_n 0, 1) := by decide +kernel
theorem dX10_runPresent_1 : decode cX10_runPresent 1 = .ok (.aload_n 0, 1) := by decide +kernel
theorem dX10_runPresent_2 : decode cX10_runPresent 2 = .ok (.invokevirtual 55, 3) := by decide +kernel
theorem dX10_runPresent_5 : decode cX10_runPresent 5 = .ok (.putfield 79, 3) := by decide +kernel
theorem dX10_runPresent_8 : decode cX10_runPresent 8 = .ok (.aload_n 0, 1) := by decide +kernel
theorem dX10_runPresent_9 : decode cX10_runPresent 9 = .ok (.getfield 23, 3) := by decide +kernel
theorem dX10_runPresent_12 : decode cX10_runPresent 12 = .ok (.iconst 0, 1) := by decide +kernel
theorem dX10_runPresent_13 : decode cX10_runPresent 13 = .ok (.aload_n 0, 1) := by decide +kernel
theorem dX10_runPresent_14 : decode cX10_runPresent 14 = .ok (.getfield 7, 3) := by decide +kernel
theorem dX10_runPresent_17 : decode cX10_runPresent 17 = .ok (.bipush 17, 2) := by decide +kernel
theorem dX10_runPresent_19 : decode cX10_runPresent 19 = .ok (.laload, 1) := by decide +kernel
theorem dX10_runPresent_20 : decode cX10_runPresent 20 = .ok (.l2i, 1) := by decide +kernel
theorem dX10_runPresent_21 : decode cX10_runPresent 21 = .ok (.iastore, 1) := by decide +kernel
theorem dX10_runPresent_22 : decode cX10_runPresent 22 = .ok (.iconst 0, 1) := by decide +kernel
theorem dX10_runPresent_23 : decode cX10_runPresent 23 = .ok (.istore_n 1, 1) := by decide +kernel
theorem dX10_runPresent_24 : decode cX10_runPresent 24 = .ok (.iload_n 1, 1) := by decide +kernel
theorem dX10_runPresent_25 : decode cX10_runPresent 25 = .ok (.aload_n 0, 1) := by decide +kernel
theorem dX10_runPresent_26 : decode cX10_runPresent 26 = .ok (.getfield 79, 3) := by decide +kernel
theorem dX10_runPresent_29 : decode cX10_runPresent 29 = .ok (.if_icmp .ge 42, 3) := by decide +kernel
theorem dX10_runPresent_32 : decode cX10_runPresent 32 = .ok (.aload_n 0, 1) := by decide +kernel
theorem dX10_runPresent_33 : decode cX10_runPresent 33 = .ok (.getfield 20, 3) := by decide +kernel
theorem dX10_runPresent_36 : decode cX10_runPresent 36 = .ok (.iload_n 1, 1) := by decide +kernel
theorem dX10_runPresent_37 : decode cX10_runPresent 37 = .ok (.aload_n 0, 1) := by decide +kernel
theorem dX10_runPresent_38 : decode cX10_runPresent 38 = .ok (.getfield 7, 3) := by decide +kernel
theorem dX10_runPresent_41 : decode cX10_runPresent 41 = .ok (.iconst 1, 1) := by decide +kernel
theorem dX10_runPresent_42 : decode cX10_runPresent 42 = .ok (.iload_n 1, 1) := by decide +kernel
theorem dX10_runPresent_43 : decode cX10_runPresent 43 = .ok (.iadd, 1) := by decide +kernel
theorem dX10_runPresent_44 : decode cX10_runPresent 44 = .ok (.laload, 1) := by decide +kernel
theorem dX10_runPresent_45 : decode cX10_runPresent 45 = .ok (.l2i, 1) := by decide +kernel
theorem dX10_runPresent_46 : decode cX10_runPresent 46 = .ok (.iastore, 1) := by decide +kernel
theorem dX10_runPresent_47 : decode cX10_runPresent 47 = .ok (.aload_n 0, 1) := by decide +kernel
theorem dX10_runPresent_48 : decode cX10_runPresent 48 = .ok (.getfield 23, 3) := by decide +kernel
theorem dX10_runPresent_51 : decode cX10_runPresent 51 = .ok (.iload_n 1, 1) := by decide +kernel
theorem dX10_runPresent_52 : decode cX10_runPresent 52 = .ok (.iconst 1, 1) := by decide +kernel
theorem dX10_runPresent_53 : decode cX10_runPresent 53 = .ok (.iadd, 1) := by decide +kernel
theorem dX10_runPresent_54 : decode cX10_runPresent 54 = .ok (.aload_n 0, 1) := by decide +kernel
theorem dX10_runPresent_55 : decode cX10_runPresent 55 = .ok (.getfield 7, 3) := by decide +kernel
theorem dX10_runPresent_58 : decode cX10_runPresent 58 = .ok (.bipush 9, 2) := by decide +kernel
theorem dX10_runPresent_60 : decode cX10_runPresent 60 = .ok (.iload_n 1, 1) := by decide +kernel
theorem dX10_runPresent_61 : decode cX10_runPresent 61 = .ok (.iadd, 1) := by decide +kernel
theorem dX10_runPresent_62 : decode cX10_runPresent 62 = .ok (.laload, 1) := by decide +kernel
theorem dX10_runPresent_63 : decode cX10_runPresent 63 = .ok (.l2i, 1) := by decide +kernel
theorem dX10_runPresent_64 : decode cX10_runPresent 64 = .ok (.iastore, 1) := by decide +kernel
theorem dX10_runPresent_65 : decode cX10_runPresent 65 = .ok (.iinc 1 1, 3) := by decide +kernel
theorem dX10_runPresent_68 : decode cX10_runPresent 68 = .ok (.goto (-44), 3) := by decide +kernel
theorem dX10_runPresent_71 : decode cX10_runPresent 71 = .ok (.aload_n 0, 1) := by decide +kernel
theorem dX10_runPresent_72 : decode cX10_runPresent 72 = .ok (.aload_n 0, 1) := by decide +kernel
theorem dX10_runPresent_73 : decode cX10_runPresent 73 = .ok (.getfield 7, 3) := by decide +kernel
theorem dX10_runPresent_76 : decode cX10_runPresent 76 = .ok (.bipush 20, 2) := by decide +kernel
theorem dX10_runPresent_78 : decode cX10_runPresent 78 = .ok (.laload, 1) := by decide +kernel
theorem dX10_runPresent_79 : decode cX10_runPresent 79 = .ok (.l2i, 1) := by decide +kernel
theorem dX10_runPresent_80 : decode cX10_runPresent 80 = .ok (.putfield 84, 3) := by decide +kernel
theorem dX10_runPresent_83 : decode cX10_runPresent 83 = .ok (.iconst 0, 1) := by decide +kernel
theorem dX10_runPresent_84 : decode cX10_runPresent 84 = .ok (.istore_n 1, 1) := by decide +kernel
theorem dX10_runPresent_85 : decode cX10_runPresent 85 = .ok (.iload_n 1, 1) := by decide +kernel
theorem dX10_runPresent_86 : decode cX10_runPresent 86 = .ok (.aload_n 0, 1) := by decide +kernel
theorem dX10_runPresent_87 : decode cX10_runPresent 87 = .ok (.getfield 84, 3) := by decide +kernel
theorem dX10_runPresent_90 : decode cX10_runPresent 90 = .ok (.if_icmp .ge 46, 3) := by decide +kernel
theorem dX10_runPresent_93 : decode cX10_runPresent 93 = .ok (.aload_n 0, 1) := by decide +kernel
theorem dX10_runPresent_94 : decode cX10_runPresent 94 = .ok (.getfield 26, 3) := by decide +kernel
theorem dX10_runPresent_97 : decode cX10_runPresent 97 = .ok (.iload_n 1, 1) := by decide +kernel
theorem dX10_runPresent_98 : decode cX10_runPresent 98 = .ok (.aload_n 0, 1) := by decide +kernel
theorem dX10_runPresent_99 : decode cX10_runPresent 99 = .ok (.getfield 7, 3) := by decide +kernel
theorem dX10_runPresent_102 : decode cX10_runPresent 102 = .ok (.bipush 21, 2) := by decide +kernel
theorem dX10_runPresent_104 : decode cX10_runPresent 104 = .ok (.iconst 2, 1) := by decide +kernel
theorem dX10_runPresent_105 : decode cX10_runPresent 105 = .ok (.iload_n 1, 1) := by decide +kernel
theorem dX10_runPresent_106 : decode cX10_runPresent 106 = .ok (.imul, 1) := by decide +kernel
theorem dX10_runPresent_107 : decode cX10_runPresent 107 = .ok (.iadd, 1) := by decide +kernel
theorem dX10_runPresent_108 : decode cX10_runPresent 108 = .ok (.laload, 1) := by decide +kernel
theorem dX10_runPresent_109 : decode cX10_runPresent 109 = .ok (.l2i, 1) := by decide +kernel
theorem dX10_runPresent_110 : decode cX10_runPresent 110 = .ok (.iastore, 1) := by decide +kernel
theorem dX10_runPresent_111 : decode cX10_runPresent 111 = .ok (.aload_n 0, 1) := by decide +kernel
theorem dX10_runPresent_112 : decode cX10_runPresent 112 = .ok (.getfield 29, 3) := by decide +kernel
theorem dX10_runPresent_115 : decode cX10_runPresent 115 = .ok (.iload_n 1, 1) := by decide +kernel
theorem dX10_runPresent_116 : decode cX10_runPresent 116 = .ok (.aload_n 0, 1) := by decide +kernel
theorem dX10_runPresent_117 : decode cX10_runPresent 117 = .ok (.getfield 7, 3) := by decide +kernel
theorem dX10_runPresent_120 : decode cX10_runPresent 120 = .ok (.bipush 21, 2) := by decide +kernel
theorem dX10_runPresent_122 : decode cX10_runPresent 122 = .ok (.iconst 2, 1) := by decide +kernel
theorem dX10_runPresent_123 : decode cX10_runPresent 123 = .ok (.iload_n 1, 1) := by decide +kernel
theorem dX10_runPresent_124 : decode cX10_runPresent 124 = .ok (.imul, 1) := by decide +kernel
theorem dX10_runPresent_125 : decode cX10_runPresent 125 = .ok (.iadd, 1) := by decide +kernel
theorem dX10_runPresent_126 : decode cX10_runPresent 126 = .ok (.iconst 1, 1) := by decide +kernel
theorem dX10_runPresent_127 : decode cX10_runPresent 127 = .ok (.iadd, 1) := by decide +kernel
theorem dX10_runPresent_128 : decode cX10_runPresent 128 = .ok (.laload, 1) := by decide +kernel
theorem dX10_runPresent_129 : decode cX10_runPresent 129 = .ok (.lastore, 1) := by decide +kernel
theorem dX10_runPresent_130 : decode cX10_runPresent 130 = .ok (.iinc 1 1, 3) := by decide +kernel
theorem dX10_runPresent_133 : decode cX10_runPresent 133 = .ok (.goto (-48), 3) := by decide +kernel
theorem dX10_runPresent_136 : decode cX10_runPresent 136 = .ok (.aload_n 0, 1) := by decide +kernel
theorem dX10_runPresent_137 : decode cX10_runPresent 137 = .ok (.invokevirtual 117, 3) := by decide +kernel
theorem dX10_runPresent_140 : decode cX10_runPresent 140 = .ok (.return_, 1) := by decide +kernel
theorem dX10_underWay_0 : decode cX10_underWay 0 = .ok (.lconst 0, 1) := by decide +kernel
theorem dX10_underWay_1 : decode cX10_underWay 1 = .ok (.lstore_n 1, 1) := by decide +kernel
theorem dX10_underWay_2 : decode cX10_underWay 2 = .ok (.iconst 0, 1) := by decide +kernel
theorem dX10_underWay_3 : decode cX10_underWay 3 = .ok (.istore_n 3, 1) := by decide +kernel
theorem dX10_underWay_4 : decode cX10_underWay 4 = .ok (.iload_n 3, 1) := by decide +kernel
theorem dX10_underWay_5 : decode cX10_underWay 5 = .ok (.aload_n 0, 1) := by decide +kernel
theorem dX10_underWay_6 : decode cX10_underWay 6 = .ok (.getfield 79, 3) := by decide +kernel
theorem dX10_underWay_9 : decode cX10_underWay 9 = .ok (.if_icmp .ge 91, 3) := by decide +kernel
theorem dX10_underWay_12 : decode cX10_underWay 12 = .ok (.iconst 0, 1) := by decide +kernel
theorem dX10_underWay_13 : decode cX10_underWay 13 = .ok (.istore 4, 2) := by decide +kernel
theorem dX10_underWay_15 : decode cX10_underWay 15 = .ok (.iload 4, 2) := by decide +kernel
theorem dX10_underWay_17 : decode cX10_underWay 17 = .ok (.aload_n 0, 1) := by decide +kernel
theorem dX10_underWay_18 : decode cX10_underWay 18 = .ok (.invokevirtual 110, 3) := by decide +kernel
theorem dX10_underWay_21 : decode cX10_underWay 21 = .ok (.if_icmp .gt 73, 3) := by decide +kernel
theorem dX10_underWay_24 : decode cX10_underWay 24 = .ok (.iload 4, 2) := by decide +kernel
theorem dX10_underWay_26 : decode cX10_underWay 26 = .ok (.aload_n 0, 1) := by decide +kernel
theorem dX10_underWay_27 : decode cX10_underWay 27 = .ok (.getfield 20, 3) := by decide +kernel
theorem dX10_underWay_30 : decode cX10_underWay 30 = .ok (.iload_n 3, 1) := by decide +kernel
theorem dX10_underWay_31 : decode cX10_underWay 31 = .ok (.iaload, 1) := by decide +kernel
theorem dX10_underWay_32 : decode cX10_underWay 32 = .ok (.iadd, 1) := by decide +kernel
theorem dX10_underWay_33 : decode cX10_underWay 33 = .ok (.aload_n 0, 1) := by decide +kernel
theorem dX10_underWay_34 : decode cX10_underWay 34 = .ok (.invokevirtual 110, 3) := by decide +kernel
theorem dX10_underWay_37 : decode cX10_underWay 37 = .ok (.if_icmp .le 7, 3) := by decide +kernel
theorem dX10_underWay_40 : decode cX10_underWay 40 = .ok (.iconst 1, 1) := by decide +kernel
theorem dX10_underWay_41 : decode cX10_underWay 41 = .ok (.goto 4, 3) := by decide +kernel
theorem dX10_underWay_44 : decode cX10_underWay 44 = .ok (.iconst 0, 1) := by decide +kernel
theorem dX10_underWay_45 : decode cX10_underWay 45 = .ok (.istore 5, 2) := by decide +kernel
theorem dX10_underWay_47 : decode cX10_underWay 47 = .ok (.lload_n 1, 1) := by decide +kernel
theorem dX10_underWay_48 : decode cX10_underWay 48 = .ok (.iload 5, 2) := by decide +kernel
theorem dX10_underWay_50 : decode cX10_underWay 50 = .ok (.ifCond .eq 35, 3) := by decide +kernel
theorem dX10_underWay_53 : decode cX10_underWay 53 = .ok (.aload_n 0, 1) := by decide +kernel
theorem dX10_underWay_54 : decode cX10_underWay 54 = .ok (.getfield 32, 3) := by decide +kernel
theorem dX10_underWay_57 : decode cX10_underWay 57 = .ok (.sipush 201, 3) := by decide +kernel
theorem dX10_underWay_60 : decode cX10_underWay 60 = .ok (.iload_n 3, 1) := by decide +kernel
theorem dX10_underWay_61 : decode cX10_underWay 61 = .ok (.imul, 1) := by decide +kernel
theorem dX10_underWay_62 : decode cX10_underWay 62 = .ok (.iload 4, 2) := by decide +kernel
theorem dX10_underWay_64 : decode cX10_underWay 64 = .ok (.iadd, 1) := by decide +kernel
theorem dX10_underWay_65 : decode cX10_underWay 65 = .ok (.laload, 1) := by decide +kernel
theorem dX10_underWay_66 : decode cX10_underWay 66 = .ok (.aload_n 0, 1) := by decide +kernel
theorem dX10_underWay_67 : decode cX10_underWay 67 = .ok (.getfield 35, 3) := by decide +kernel
theorem dX10_underWay_70 : decode cX10_underWay 70 = .ok (.sipush 201, 3) := by decide +kernel
theorem dX10_underWay_73 : decode cX10_underWay 73 = .ok (.iload_n 3, 1) := by decide +kernel
theorem dX10_underWay_74 : decode cX10_underWay 74 = .ok (.iconst 1, 1) := by decide +kernel
theorem dX10_underWay_75 : decode cX10_underWay 75 = .ok (.iadd, 1) := by decide +kernel
theorem dX10_underWay_76 : decode cX10_underWay 76 = .ok (.imul, 1) := by decide +kernel
theorem dX10_underWay_77 : decode cX10_underWay 77 = .ok (.iload 4, 2) := by decide +kernel
theorem dX10_underWay_79 : decode cX10_underWay 79 = .ok (.iadd, 1) := by decide +kernel
theorem dX10_underWay_80 : decode cX10_underWay 80 = .ok (.laload, 1) := by decide +kernel
theorem dX10_underWay_81 : decode cX10_underWay 81 = .ok (.ladd, 1) := by decide +kernel
theorem dX10_underWay_82 : decode cX10_underWay 82 = .ok (.goto 4, 3) := by decide +kernel
theorem dX10_underWay_85 : decode cX10_underWay 85 = .ok (.lconst 0, 1) := by decide +kernel
theorem dX10_underWay_86 : decode cX10_underWay 86 = .ok (.ladd, 1) := by decide +kernel
theorem dX10_underWay_87 : decode cX10_underWay 87 = .ok (.lstore_n 1, 1) := by decide +kernel
theorem dX10_underWay_88 : decode cX10_underWay 88 = .ok (.iinc 4 1, 3) := by decide +kernel
theorem dX10_underWay_91 : decode cX10_underWay 91 = .ok (.goto (-76), 3) := by decide +kernel
theorem dX10_underWay_94 : decode cX10_underWay 94 = .ok (.iinc 3 1, 3) := by decide +kernel
theorem dX10_underWay_97 : decode cX10_underWay 97 = .ok (.goto (-93), 3) := by decide +kernel
theorem dX10_underWay_100 : decode cX10_underWay 100 = .ok (.lload_n 1, 1) := by decide +kernel
theorem dX10_underWay_101 : decode cX10_underWay 101 = .ok (.lreturn, 1) := by decide +kernel
theorem dX10_arePartNumbers_0 : decode cX10_arePartNumbers 0 = .ok (.iload_n 0, 1) := by decide +kernel
theorem dX10_arePartNumbers_1 : decode cX10_arePartNumbers 1 = .ok (.i2l, 1) := by decide +kernel
theorem dX10_arePartNumbers_2 : decode cX10_arePartNumbers 2 = .ok (.lconst 1, 1) := by decide +kernel
theorem dX10_arePartNumbers_3 : decode cX10_arePartNumbers 3 = .ok (.ldc2_w 120, 3) := by decide +kernel
theorem dX10_arePartNumbers_6 : decode cX10_arePartNumbers 6 = .ok (.invokestatic 59, 3) := by decide +kernel
theorem dX10_arePartNumbers_9 : decode cX10_arePartNumbers 9 = .ok (.ifCond .eq 19, 3) := by decide +kernel
theorem dX10_arePartNumbers_12 : decode cX10_arePartNumbers 12 = .ok (.iload_n 1, 1) := by decide +kernel
theorem dX10_arePartNumbers_13 : decode cX10_arePartNumbers 13 = .ok (.i2l, 1) := by decide +kernel
theorem dX10_arePartNumbers_14 : decode cX10_arePartNumbers 14 = .ok (.lconst 0, 1) := by decide +kernel
theorem dX10_arePartNumbers_15 : decode cX10_arePartNumbers 15 = .ok (.ldc2_w 82, 3) := by decide +kernel
theorem dX10_arePartNumbers_18 : decode cX10_arePartNumbers 18 = .ok (.invokestatic 59, 3) := by decide +kernel
theorem dX10_arePartNumbers_21 : decode cX10_arePartNumbers 21 = .ok (.ifCond .eq 7, 3) := by decide +kernel
theorem dX10_arePartNumbers_24 : decode cX10_arePartNumbers 24 = .ok (.iconst 1, 1) := by decide +kernel
theorem dX10_arePartNumbers_25 : decode cX10_arePartNumbers 25 = .ok (.goto 4, 3) := by decide +kernel
theorem dX10_arePartNumbers_28 : decode cX10_arePartNumbers 28 = .ok (.iconst 0, 1) := by decide +kernel
theorem dX10_arePartNumbers_29 : decode cX10_arePartNumbers 29 = .ok (.ireturn, 1) := by decide +kernel
theorem dX10_laysPart_0 : decode cX10_laysPart 0 = .ok (.aload_n 0, 1) := by decide +kernel
theorem dX10_laysPart_1 : decode cX10_laysPart 1 = .ok (.getfield 7, 3) := by decide +kernel
theorem dX10_laysPart_4 : decode cX10_laysPart 4 = .ok (.iconst 1, 1) := by decide +kernel
theorem dX10_laysPart_5 : decode cX10_laysPart 5 = .ok (.iload_n 1, 1) := by decide +kernel
theorem dX10_laysPart_6 : decode cX10_laysPart 6 = .ok (.iadd, 1) := by decide +kernel
theorem dX10_laysPart_7 : decode cX10_laysPart 7 = .ok (.iload_n 2, 1) := by decide +kernel
theorem dX10_laysPart_8 : decode cX10_laysPart 8 = .ok (.i2l, 1) := by decide +kernel
theorem dX10_laysPart_9 : decode cX10_laysPart 9 = .ok (.lastore, 1) := by decide +kernel
theorem dX10_laysPart_10 : decode cX10_laysPart 10 = .ok (.aload_n 0, 1) := by decide +kernel
theorem dX10_laysPart_11 : decode cX10_laysPart 11 = .ok (.getfield 7, 3) := by decide +kernel
theorem dX10_laysPart_14 : decode cX10_laysPart 14 = .ok (.bipush 9, 2) := by decide +kernel
theorem dX10_laysPart_16 : decode cX10_laysPart 16 = .ok (.iload_n 1, 1) := by decide +kernel
theorem dX10_laysPart_17 : decode cX10_laysPart 17 = .ok (.iadd, 1) := by decide +kernel
theorem dX10_laysPart_18 : decode cX10_laysPart 18 = .ok (.iload_n 3, 1) := by decide +kernel
theorem dX10_laysPart_19 : decode cX10_laysPart 19 = .ok (.i2l, 1) := by decide +kernel
theorem dX10_laysPart_20 : decode cX10_laysPart 20 = .ok (.lastore, 1) := by decide +kernel
theorem dX10_laysPart_21 : decode cX10_laysPart 21 = .ok (.return_, 1) := by decide +kernel
theorem dX10_whyNoPart_0 : decode cX10_whyNoPart 0 = .ok (.iload_n 1, 1) := by decide +kernel
theorem dX10_whyNoPart_1 : decode cX10_whyNoPart 1 = .ok (.iload_n 2, 1) := by decide +kernel
theorem dX10_whyNoPart_2 : decode cX10_whyNoPart 2 = .ok (.invokestatic 122, 3) := by decide +kernel
theorem dX10_whyNoPart_5 : decode cX10_whyNoPart 5 = .ok (.ifCond .ne 7, 3) := by decide +kernel
theorem dX10_whyNoPart_8 : decode cX10_whyNoPart 8 = .ok (.iconst 1, 1) := by decide +kernel
theorem dX10_whyNoPart_9 : decode cX10_whyNoPart 9 = .ok (.goto 17, 3) := by decide +kernel
theorem dX10_whyNoPart_12 : decode cX10_whyNoPart 12 = .ok (.aload_n 0, 1) := by decide +kernel
theorem dX10_whyNoPart_13 : decode cX10_whyNoPart 13 = .ok (.invokevirtual 55, 3) := by decide +kernel
theorem dX10_whyNoPart_16 : decode cX10_whyNoPart 16 = .ok (.bipush 8, 2) := by decide +kernel
theorem dX10_whyNoPart_18 : decode cX10_whyNoPart 18 = .ok (.if_icmp .ne 7, 3) := by decide +kernel
theorem dX10_whyNoPart_21 : decode cX10_whyNoPart 21 = .ok (.iconst 2, 1) := by decide +kernel
theorem dX10_whyNoPart_22 : decode cX10_whyNoPart 22 = .ok (.goto 4, 3) := by decide +kernel
theorem dX10_whyNoPart_25 : decode cX10_whyNoPart 25 = .ok (.iconst 0, 1) := by decide +kernel
theorem dX10_whyNoPart_26 : decode cX10_whyNoPart 26 = .ok (.ireturn, 1) := by decide +kernel
theorem dX10_addsPart_0 : decode cX10_addsPart 0 = .ok (.aload_n 0, 1) := by decide +kernel
theorem dX10_addsPart_1 : decode cX10_addsPart 1 = .ok (.aload_n 0, 1) := by decide +kernel
theorem dX10_addsPart_2 : decode cX10_addsPart 2 = .ok (.invokevirtual 55, 3) := by decide +kernel
theorem dX10_addsPart_5 : decode cX10_addsPart 5 = .ok (.iload_n 1, 1) := by decide +kernel
theorem dX10_addsPart_6 : decode cX10_addsPart 6 = .ok (.iload_n 2, 1) := by decide +kernel
theorem dX10_addsPart_7 : decode cX10_addsPart 7 = .ok (.invokevirtual 126, 3) := by decide +kernel
theorem dX10_addsPart_10 : decode cX10_addsPart 10 = .ok (.aload_n 0, 1) := by decide +kernel
theorem dX10_addsPart_11 : decode cX10_addsPart 11 = .ok (.getfield 7, 3) := by decide +kernel
theorem dX10_addsPart_14 : decode cX10_addsPart 14 = .ok (.iconst 0, 1) := by decide +kernel
theorem dX10_addsPart_15 : decode cX10_addsPart 15 = .ok (.dup2, 1) := by decide +kernel
theorem dX10_addsPart_16 : decode cX10_addsPart 16 = .ok (.laload, 1) := by decide +kernel
theorem dX10_addsPart_17 : decode cX10_addsPart 17 = .ok (.lconst 1, 1) := by decide +kernel
theorem dX10_addsPart_18 : decode cX10_addsPart 18 = .ok (.ladd, 1) := by decide +kernel
theorem dX10_addsPart_19 : decode cX10_addsPart 19 = .ok (.lastore, 1) := by decide +kernel
theorem dX10_addsPart_20 : decode cX10_addsPart 20 = .ok (.aload_n 0, 1) := by decide +kernel
theorem dX10_addsPart_21 : decode cX10_addsPart 21 = .ok (.invokevirtual 55, 3) := by decide +kernel
theorem dX10_addsPart_24 : decode cX10_addsPart 24 = .ok (.ireturn, 1) := by decide +kernel
theorem dX10_addPart_0 : decode cX10_addPart 0 = .ok (.aload_n 0, 1) := by decide +kernel
theorem dX10_addPart_1 : decode cX10_addPart 1 = .ok (.aload_n 0, 1) := by decide +kernel
theorem dX10_addPart_2 : decode cX10_addPart 2 = .ok (.iload_n 1, 1) := by decide +kernel
theorem dX10_addPart_3 : decode cX10_addPart 3 = .ok (.iload_n 2, 1) := by decide +kernel
theorem dX10_addPart_4 : decode cX10_addPart 4 = .ok (.invokevirtual 130, 3) := by decide +kernel
theorem dX10_addPart_7 : decode cX10_addPart 7 = .ok (.putfield 48, 3) := by decide +kernel
theorem dX10_addPart_10 : decode cX10_addPart 10 = .ok (.aload_n 0, 1) := by decide +kernel
theorem dX10_addPart_11 : decode cX10_addPart 11 = .ok (.getfield 48, 3) := by decide +kernel
theorem dX10_addPart_14 : decode cX10_addPart 14 = .ok (.ifCond .eq 5, 3) := by decide +kernel
theorem dX10_addPart_17 : decode cX10_addPart 17 = .ok (.iconst 0, 1) := by decide +kernel
theorem dX10_addPart_18 : decode cX10_addPart 18 = .ok (.ireturn, 1) := by decide +kernel
theorem dX10_addPart_19 : decode cX10_addPart 19 = .ok (.aload_n 0, 1) := by decide +kernel
theorem dX10_addPart_20 : decode cX10_addPart 20 = .ok (.invokevirtual 134, 3) := by decide +kernel
theorem dX10_addPart_23 : decode cX10_addPart 23 = .ok (.aload_n 0, 1) := by decide +kernel
theorem dX10_addPart_24 : decode cX10_addPart 24 = .ok (.iload_n 1, 1) := by decide +kernel
theorem dX10_addPart_25 : decode cX10_addPart 25 = .ok (.iload_n 2, 1) := by decide +kernel
theorem dX10_addPart_26 : decode cX10_addPart 26 = .ok (.invokevirtual 137, 3) := by decide +kernel
theorem dX10_addPart_29 : decode cX10_addPart 29 = .ok (.ireturn, 1) := by decide +kernel
theorem dX10_whyNotSet_0 : decode cX10_whyNotSet 0 = .ok (.aload_n 0, 1) := by decide +kernel
theorem dX10_whyNotSet_1 : decode cX10_whyNotSet 1 = .ok (.iload_n 1, 1) := by decide +kernel
theorem dX10_whyNotSet_2 : decode cX10_whyNotSet 2 = .ok (.invokevirtual 140, 3) := by decide +kernel
theorem dX10_whyNotSet_5 : decode cX10_whyNotSet 5 = .ok (.ifCond .ne 7, 3) := by decide +kernel
theorem dX10_whyNotSet_8 : decode cX10_whyNotSet 8 = .ok (.iconst 1, 1) := by decide +kernel
theorem dX10_whyNotSet_9 : decode cX10_whyNotSet 9 = .ok (.goto 16, 3) := by decide +kernel
theorem dX10_whyNotSet_12 : decode cX10_whyNotSet 12 = .ok (.iload_n 2, 1) := by decide +kernel
theorem dX10_whyNotSet_13 : decode cX10_whyNotSet 13 = .ok (.iload_n 3, 1) := by decide +kernel
theorem dX10_whyNotSet_14 : decode cX10_whyNotSet 14 = .ok (.invokestatic 122, 3) := by decide +kernel
theorem dX10_whyNotSet_17 : decode cX10_whyNotSet 17 = .ok (.ifCond .eq 7, 3) := by decide +kernel
theorem dX10_whyNotSet_20 : decode cX10_whyNotSet 20 = .ok (.iconst 0, 1) := by decide +kernel
theorem dX10_whyNotSet_21 : decode cX10_whyNotSet 21 = .ok (.goto 4, 3) := by decide +kernel
theorem dX10_whyNotSet_24 : decode cX10_whyNotSet 24 = .ok (.iconst 2, 1) := by decide +kernel
theorem dX10_whyNotSet_25 : decode cX10_whyNotSet 25 = .ok (.ireturn, 1) := by decide +kernel
theorem dX10_setsPart_0 : decode cX10_setsPart 0 = .ok (.aload_n 0, 1) := by decide +kernel
theorem dX10_setsPart_1 : decode cX10_setsPart 1 = .ok (.getfield 7, 3) := by decide +kernel
theorem dX10_setsPart_4 : decode cX10_setsPart 4 = .ok (.bipush 9, 2) := by decide +kernel
theorem dX10_setsPart_6 : decode cX10_setsPart 6 = .ok (.iload_n 1, 1) := by decide +kernel
theorem dX10_setsPart_7 : decode cX10_setsPart 7 = .ok (.iadd, 1) := by decide +kernel
theorem dX10_setsPart_8 : decode cX10_setsPart 8 = .ok (.laload, 1) := by decide +kernel
theorem dX10_setsPart_9 : decode cX10_setsPart 9 = .ok (.l2i, 1) := by decide +kernel
theorem dX10_setsPart_10 : decode cX10_setsPart 10 = .ok (.istore 4, 2) := by decide +kernel
theorem dX10_setsPart_12 : decode cX10_setsPart 12 = .ok (.aload_n 0, 1) := by decide +kernel
theorem dX10_setsPart_13 : decode cX10_setsPart 13 = .ok (.iload_n 1, 1) := by decide +kernel
theorem dX10_setsPart_14 : decode cX10_setsPart 14 = .ok (.iload_n 2, 1) := by decide +kernel
theorem dX10_setsPart_15 : decode cX10_setsPart 15 = .ok (.iload_n 3, 1) := by decide +kernel
theorem dX10_setsPart_16 : decode cX10_setsPart 16 = .ok (.invokevirtual 126, 3) := by decide +kernel
theorem dX10_setsPart_19 : decode cX10_setsPart 19 = .ok (.iload 4, 2) := by decide +kernel
theorem dX10_setsPart_21 : decode cX10_setsPart 21 = .ok (.ireturn, 1) := by decide +kernel
theorem dX10_setPart_0 : decode cX10_setPart 0 = .ok (.aload_n 0, 1) := by decide +kernel
theorem dX10_setPart_1 : decode cX10_setPart 1 = .ok (.aload_n 0, 1) := by decide +kernel
theorem dX10_setPart_2 : decode cX10_setPart 2 = .ok (.iload_n 1, 1) := by decide +kernel
theorem dX10_setPart_3 : decode cX10_setPart 3 = .ok (.iload_n 2, 1) := by decide +kernel
theorem dX10_setPart_4 : decode cX10_setPart 4 = .ok (.iload_n 3, 1) := by decide +kernel
theorem dX10_setPart_5 : decode cX10_setPart 5 = .ok (.invokevirtual 144, 3) := by decide +kernel
theorem dX10_setPart_8 : decode cX10_setPart 8 = .ok (.putfield 48, 3) := by decide +kernel
theorem dX10_setPart_11 : decode cX10_setPart 11 = .ok (.aload_n 0, 1) := by decide +kernel
theorem dX10_setPart_12 : decode cX10_setPart 12 = .ok (.getfield 48, 3) := by decide +kernel
theorem dX10_setPart_15 : decode cX10_setPart 15 = .ok (.ifCond .eq 5, 3) := by decide +kernel
theorem dX10_setPart_18 : decode cX10_setPart 18 = .ok (.iconst 0, 1) := by decide +kernel
theorem dX10_setPart_19 : decode cX10_setPart 19 = .ok (.ireturn, 1) := by decide +kernel
theorem dX10_setPart_20 : decode cX10_setPart 20 = .ok (.aload_n 0, 1) := by decide +kernel
theorem dX10_setPart_21 : decode cX10_setPart 21 = .ok (.invokevirtual 134, 3) := by decide +kernel
theorem dX10_setPart_24 : decode cX10_setPart 24 = .ok (.aload_n 0, 1) := by decide +kernel
theorem dX10_setPart_25 : decode cX10_setPart 25 = .ok (.iload_n 1, 1) := by decide +kernel
theorem dX10_setPart_26 : decode cX10_setPart 26 = .ok (.iload_n 2, 1) := by decide +kernel
theorem dX10_setPart_27 : decode cX10_setPart 27 = .ok (.iload_n 3, 1) := by decide +kernel
theorem dX10_setPart_28 : decode cX10_setPart 28 = .ok (.invokevirtual 148, 3) := by decide +kernel
theorem dX10_setPart_31 : decode cX10_setPart 31 = .ok (.ireturn, 1) := by decide +kernel
theorem dX10_removesPart_0 : decode cX10_removesPart 0 = .ok (.aload_n 0, 1) := by decide +kernel
theorem dX10_removesPart_1 : decode cX10_removesPart 1 = .ok (.getfield 7, 3) := by decide +kernel
theorem dX10_removesPart_4 : decode cX10_removesPart 4 = .ok (.iconst 0, 1) := by decide +kernel
theorem dX10_removesPart_5 : decode cX10_removesPart 5 = .ok (.dup2, 1) := by decide +kernel
theorem dX10_removesPart_6 : decode cX10_removesPart 6 = .ok (.laload, 1) := by decide +kernel
theorem dX10_removesPart_7 : decode cX10_removesPart 7 = .ok (.lconst 1, 1) := by decide +kernel
theorem dX10_removesPart_8 : decode cX10_removesPart 8 = .ok (.lsub, 1) := by decide +kernel
theorem dX10_removesPart_9 : decode cX10_removesPart 9 = .ok (.lastore, 1) := by decide +kernel
theorem dX10_removesPart_10 : decode cX10_removesPart 10 = .ok (.iload_n 1, 1) := by decide +kernel
theorem dX10_removesPart_11 : decode cX10_removesPart 11 = .ok (.istore_n 2, 1) := by decide +kernel
theorem dX10_removesPart_12 : decode cX10_removesPart 12 = .ok (.iload_n 2, 1) := by decide +kernel
theorem dX10_removesPart_13 : decode cX10_removesPart 13 = .ok (.aload_n 0, 1) := by decide +kernel
theorem dX10_removesPart_14 : decode cX10_removesPart 14 = .ok (.invokevirtual 55, 3) := by decide +kernel
theorem dX10_removesPart_17 : decode cX10_removesPart 17 = .ok (.if_icmp .ge 47, 3) := by decide +kernel
theorem dX10_removesPart_20 : decode cX10_removesPart 20 = .ok (.aload_n 0, 1) := by decide +kernel
theorem dX10_removesPart_21 : decode cX10_removesPart 21 = .ok (.getfield 7, 3) := by decide +kernel
theorem dX10_removesPart_24 : decode cX10_removesPart 24 = .ok (.iconst 1, 1) := by decide +kernel
theorem dX10_removesPart_25 : decode cX10_removesPart 25 = .ok (.iload_n 2, 1) := by decide +kernel
theorem dX10_removesPart_26 : decode cX10_removesPart 26 = .ok (.iadd, 1) := by decide +kernel
theorem dX10_removesPart_27 : decode cX10_removesPart 27 = .ok (.aload_n 0, 1) := by decide +kernel
theorem dX10_removesPart_28 : decode cX10_removesPart 28 = .ok (.getfield 7, 3) := by decide +kernel
theorem dX10_removesPart_31 : decode cX10_removesPart 31 = .ok (.iconst 1, 1) := by decide +kernel
theorem dX10_removesPart_32 : decode cX10_removesPart 32 = .ok (.iload_n 2, 1) := by decide +kernel
theorem dX10_removesPart_33 : decode cX10_removesPart 33 = .ok (.iadd, 1) := by decide +kernel
theorem dX10_removesPart_34 : decode cX10_removesPart 34 = .ok (.iconst 1, 1) := by decide +kernel
theorem dX10_removesPart_35 : decode cX10_removesPart 35 = .ok (.iadd, 1) := by decide +kernel
theorem dX10_removesPart_36 : decode cX10_removesPart 36 = .ok (.laload, 1) := by decide +kernel
theorem dX10_removesPart_37 : decode cX10_removesPart 37 = .ok (.lastore, 1) := by decide +kernel
theorem dX10_removesPart_38 : decode cX10_removesPart 38 = .ok (.aload_n 0, 1) := by decide +kernel
theorem dX10_removesPart_39 : decode cX10_removesPart 39 = .ok (.getfield 7, 3) := by decide +kernel
theorem dX10_removesPart_42 : decode cX10_removesPart 42 = .ok (.bipush 9, 2) := by decide +kernel
theorem dX10_removesPart_44 : decode cX10_removesPart 44 = .ok (.iload_n 2, 1) := by decide +kernel
theorem dX10_removesPart_45 : decode cX10_removesPart 45 = .ok (.iadd, 1) := by decide +kernel
theorem dX10_removesPart_46 : decode cX10_removesPart 46 = .ok (.aload_n 0, 1) := by decide +kernel
theorem dX10_removesPart_47 : decode cX10_removesPart 47 = .ok (.getfield 7, 3) := by decide +kernel
theorem dX10_removesPart_50 : decode cX10_removesPart 50 = .ok (.bipush 9, 2) := by decide +kernel
theorem dX10_removesPart_52 : decode cX10_removesPart 52 = .ok (.iload_n 2, 1) := by decide +kernel
theorem dX10_removesPart_53 : decode cX10_removesPart 53 = .ok (.iadd, 1) := by decide +kernel
theorem dX10_removesPart_54 : decode cX10_removesPart 54 = .ok (.iconst 1, 1) := by decide +kernel
theorem dX10_removesPart_55 : decode cX10_removesPart 55 = .ok (.iadd, 1) := by decide +kernel
theorem dX10_removesPart_56 : decode cX10_removesPart 56 = .ok (.laload, 1) := by decide +kernel
theorem dX10_removesPart_57 : decode cX10_removesPart 57 = .ok (.lastore, 1) := by decide +kernel
theorem dX10_removesPart_58 : decode cX10_removesPart 58 = .ok (.iinc 2 1, 3) := by decide +kernel
theorem dX10_removesPart_61 : decode cX10_removesPart 61 = .ok (.goto (-49), 3) := by decide +kernel
theorem dX10_removesPart_64 : decode cX10_removesPart 64 = .ok (.aload_n 0, 1) := by decide +kernel
theorem dX10_removesPart_65 : decode cX10_removesPart 65 = .ok (.invokevirtual 55, 3) := by decide +kernel
theorem dX10_removesPart_68 : decode cX10_removesPart 68 = .ok (.ireturn, 1) := by decide +kernel
theorem dX10_removePart_0 : decode cX10_removePart 0 = .ok (.aload_n 0, 1) := by decide +kernel
theorem dX10_removePart_1 : decode cX10_removePart 1 = .ok (.aload_n 0, 1) := by decide +kernel
theorem dX10_removePart_2 : decode cX10_removePart 2 = .ok (.iload_n 1, 1) := by decide +kernel
theorem dX10_removePart_3 : decode cX10_removePart 3 = .ok (.invokevirtual 140, 3) := by decide +kernel
theorem dX10_removePart_6 : decode cX10_removePart 6 = .ok (.ifCond .eq 7, 3) := by decide +kernel
theorem dX10_removePart_9 : decode cX10_removePart 9 = .ok (.iconst 0, 1) := by decide +kernel
theorem dX10_removePart_10 : decode cX10_removePart 10 = .ok (.goto 4, 3) := by decide +kernel
theorem dX10_removePart_13 : decode cX10_removePart 13 = .ok (.iconst 1, 1) := by decide +kernel
theorem dX10_removePart_14 : decode cX10_removePart 14 = .ok (.putfield 48, 3) := by decide +kernel
theorem dX10_removePart_17 : decode cX10_removePart 17 = .ok (.aload_n 0, 1) := by decide +kernel
theorem dX10_removePart_18 : decode cX10_removePart 18 = .ok (.getfield 48, 3) := by decide +kernel
theorem dX10_removePart_21 : decode cX10_removePart 21 = .ok (.ifCond .eq 5, 3) := by decide +kernel
theorem dX10_removePart_24 : decode cX10_removePart 24 = .ok (.iconst 0, 1) := by decide +kernel
theorem dX10_removePart_25 : decode cX10_removePart 25 = .ok (.ireturn, 1) := by decide +kernel
theorem dX10_removePart_26 : decode cX10_removePart 26 = .ok (.aload_n 0, 1) := by decide +kernel
theorem dX10_removePart_27 : decode cX10_removePart 27 = .ok (.invokevirtual 134, 3) := by decide +kernel
theorem dX10_removePart_30 : decode cX10_removePart 30 = .ok (.aload_n 0, 1) := by decide +kernel
theorem dX10_removePart_31 : decode cX10_removePart 31 = .ok (.iload_n 1, 1) := by decide +kernel
theorem dX10_removePart_32 : decode cX10_removePart 32 = .ok (.invokevirtual 151, 3) := by decide +kernel
theorem dX10_removePart_35 : decode cX10_removePart 35 = .ok (.ireturn, 1) := by decide +kernel
theorem dX10_whyNotSplit_0 : decode cX10_whyNotSplit 0 = .ok (.aload_n 0, 1) := by decide +kernel
theorem dX10_whyNotSplit_1 : decode cX10_whyNotSplit 1 = .ok (.iload_n 1, 1) := by decide +kernel
theorem dX10_whyNotSplit_2 : decode cX10_whyNotSplit 2 = .ok (.invokevirtual 140, 3) := by decide +kernel
theorem dX10_whyNotSplit_5 : decode cX10_whyNotSplit 5 = .ok (.ifCond .ne 5, 3) := by decide +kernel
theorem dX10_whyNotSplit_8 : decode cX10_whyNotSplit 8 = .ok (.iconst 1, 1) := by decide +kernel
theorem dX10_whyNotSplit_9 : decode cX10_whyNotSplit 9 = .ok (.ireturn, 1) := by decide +kernel
theorem dX10_whyNotSplit_10 : decode cX10_whyNotSplit 10 = .ok (.iload_n 2, 1) := by decide +kernel
theorem dX10_whyNotSplit_11 : decode cX10_whyNotSplit 11 = .ok (.i2l, 1) := by decide +kernel
theorem dX10_whyNotSplit_12 : decode cX10_whyNotSplit 12 = .ok (.lconst 1, 1) := by decide +kernel
theorem dX10_whyNotSplit_13 : decode cX10_whyNotSplit 13 = .ok (.aload_n 0, 1) := by decide +kernel
theorem dX10_whyNotSplit_14 : decode cX10_whyNotSplit 14 = .ok (.getfield 7, 3) := by decide +kernel
theorem dX10_whyNotSplit_17 : decode cX10_whyNotSplit 17 = .ok (.iconst 1, 1) := by decide +kernel
theorem dX10_whyNotSplit_18 : decode cX10_whyNotSplit 18 = .ok (.iload_n 1, 1) := by decide +kernel
theorem dX10_whyNotSplit_19 : decode cX10_whyNotSplit 19 = .ok (.iadd, 1) := by decide +kernel
theorem dX10_whyNotSplit_20 : decode cX10_whyNotSplit 20 = .ok (.laload, 1) := by decide +kernel
theorem dX10_whyNotSplit_21 : decode cX10_whyNotSplit 21 = .ok (.lconst 1, 1) := by decide +kernel
theorem dX10_whyNotSplit_22 : decode cX10_whyNotSplit 22 = .ok (.lsub, 1) := by decide +kernel
theorem dX10_whyNotSplit_23 : decode cX10_whyNotSplit 23 = .ok (.invokestatic 59, 3) := by decide +kernel
theorem dX10_whyNotSplit_26 : decode cX10_whyNotSplit 26 = .ok (.ifCond .eq 15, 3) := by decide +kernel
theorem dX10_whyNotSplit_29 : decode cX10_whyNotSplit 29 = .ok (.iload_n 3, 1) := by decide +kernel
theorem dX10_whyNotSplit_30 : decode cX10_whyNotSplit 30 = .ok (.i2l, 1) := by decide +kernel
theorem dX10_whyNotSplit_31 : decode cX10_whyNotSplit 31 = .ok (.lconst 0, 1) := by decide +kernel
theorem dX10_whyNotSplit_32 : decode cX10_whyNotSplit 32 = .ok (.ldc2_w 82, 3) := by decide +kernel
theorem dX10_whyNotSplit_35 : decode cX10_whyNotSplit 35 = .ok (.invokestatic 59, 3) := by decide +kernel
theorem dX10_whyNotSplit_38 : decode cX10_whyNotSplit 38 = .ok (.ifCond .ne 7, 3) := by decide +kernel
theorem dX10_whyNotSplit_41 : decode cX10_whyNotSplit 41 = .ok (.iconst 2, 1) := by decide +kernel
theorem dX10_whyNotSplit_42 : decode cX10_whyNotSplit 42 = .ok (.goto 17, 3) := by decide +kernel
theorem dX10_whyNotSplit_45 : decode cX10_whyNotSplit 45 = .ok (.aload_n 0, 1) := by decide +kernel
theorem dX10_whyNotSplit_46 : decode cX10_whyNotSplit 46 = .ok (.invokevirtual 55, 3) := by decide +kernel
theorem dX10_whyNotSplit_49 : decode cX10_whyNotSplit 49 = .ok (.bipush 8, 2) := by decide +kernel
theorem dX10_whyNotSplit_51 : decode cX10_whyNotSplit 51 = .ok (.if_icmp .ne 7, 3) := by decide +kernel
theorem dX10_whyNotSplit_54 : decode cX10_whyNotSplit 54 = .ok (.iconst 3, 1) := by decide +kernel
theorem dX10_whyNotSplit_55 : decode cX10_whyNotSplit 55 = .ok (.goto 4, 3) := by decide +kernel
theorem dX10_whyNotSplit_58 : decode cX10_whyNotSplit 58 = .ok (.iconst 0, 1) := by decide +kernel
theorem dX10_whyNotSplit_59 : decode cX10_whyNotSplit 59 = .ok (.ireturn, 1) := by decide +kernel
theorem dX10_splitsPart_0 : decode cX10_splitsPart 0 = .ok (.aload_n 0, 1) := by decide +kernel
theorem dX10_splitsPart_1 : decode cX10_splitsPart 1 = .ok (.invokevirtual 55, 3) := by decide +kernel
theorem dX10_splitsPart_4 : decode cX10_splitsPart 4 = .ok (.istore 4, 2) := by decide +kernel
theorem dX10_splitsPart_6 : decode cX10_splitsPart 6 = .ok (.iload 4, 2) := by decide +kernel
theorem dX10_splitsPart_8 : decode cX10_splitsPart 8 = .ok (.iload_n 1, 1) := by decide +kernel
theorem dX10_splitsPart_9 : decode cX10_splitsPart 9 = .ok (.if_icmp .le 51, 3) := by decide +kernel
theorem dX10_splitsPart_12 : decode cX10_splitsPart 12 = .ok (.aload_n 0, 1) := by decide +kernel
theorem dX10_splitsPart_13 : decode cX10_splitsPart 13 = .ok (.getfield 7, 3) := by decide +kernel
theorem dX10_splitsPart_16 : decode cX10_splitsPart 16 = .ok (.iconst 1, 1) := by decide +kernel
theorem dX10_splitsPart_17 : decode cX10_splitsPart 17 = .ok (.iload 4, 2) := by decide +kernel
theorem dX10_splitsPart_19 : decode cX10_splitsPart 19 = .ok (.iadd, 1) := by decide +kernel
theorem dX10_splitsPart_20 : decode cX10_splitsPart 20 = .ok (.aload_n 0, 1) := by decide +kernel
theorem dX10_splitsPart_21 : decode cX10_splitsPart 21 = .ok (.getfield 7, 3) := by decide +kernel
theorem dX10_splitsPart_24 : decode cX10_splitsPart 24 = .ok (.iconst 1, 1) := by decide +kernel
theorem dX10_splitsPart_25 : decode cX10_splitsPart 25 = .ok (.iload 4, 2) := by decide +kernel
theorem dX10_splitsPart_27 : decode cX10_splitsPart 27 = .ok (.iadd, 1) := by decide +kernel
theorem dX10_splitsPart_28 : decode cX10_splitsPart 28 = .ok (.iconst 1, 1) := by decide +kernel
theorem dX10_splitsPart_29 : decode cX10_splitsPart 29 = .ok (.isub, 1) := by decide +kernel
theorem dX10_splitsPart_30 : decode cX10_splitsPart 30 = .ok (.laload, 1) := by decide +kernel
theorem dX10_splitsPart_31 : decode cX10_splitsPart 31 = .ok (.lastore, 1) := by decide +kernel
theorem dX10_splitsPart_32 : decode cX10_splitsPart 32 = .ok (.aload_n 0, 1) := by decide +kernel
theorem dX10_splitsPart_33 : decode cX10_splitsPart 33 = .ok (.getfield 7, 3) := by decide +kernel
theorem dX10_splitsPart_36 : decode cX10_splitsPart 36 = .ok (.bipush 9, 2) := by decide +kernel
theorem dX10_splitsPart_38 : decode cX10_splitsPart 38 = .ok (.iload 4, 2) := by decide +kernel
theorem dX10_splitsPart_40 : decode cX10_splitsPart 40 = .ok (.iadd, 1) := by decide +kernel
theorem dX10_splitsPart_41 : decode cX10_splitsPart 41 = .ok (.aload_n 0, 1) := by decide +kernel
theorem dX10_splitsPart_42 : decode cX10_splitsPart 42 = .ok (.getfield 7, 3) := by decide +kernel
theorem dX10_splitsPart_45 : decode cX10_splitsPart 45 = .ok (.bipush 9, 2) := by decide +kernel
theorem dX10_splitsPart_47 : decode cX10_splitsPart 47 = .ok (.iload 4, 2) := by decide +kernel
theorem dX10_splitsPart_49 : decode cX10_splitsPart 49 = .ok (.iadd, 1) := by decide +kernel
theorem dX10_splitsPart_50 : decode cX10_splitsPart 50 = .ok (.iconst 1, 1) := by decide +kernel
theorem dX10_splitsPart_51 : decode cX10_splitsPart 51 = .ok (.isub, 1) := by decide +kernel
theorem dX10_splitsPart_52 : decode cX10_splitsPart 52 = .ok (.laload, 1) := by decide +kernel
theorem dX10_splitsPart_53 : decode cX10_splitsPart 53 = .ok (.lastore, 1) := by decide +kernel
theorem dX10_splitsPart_54 : decode cX10_splitsPart 54 = .ok (.iinc 4 (-1), 3) := by decide +kernel
theorem dX10_splitsPart_57 : decode cX10_splitsPart 57 = .ok (.goto (-51), 3) := by decide +kernel
theorem dX10_splitsPart_60 : decode cX10_splitsPart 60 = .ok (.aload_n 0, 1) := by decide +kernel
theorem dX10_splitsPart_61 : decode cX10_splitsPart 61 = .ok (.getfield 7, 3) := by decide +kernel
theorem dX10_splitsPart_64 : decode cX10_splitsPart 64 = .ok (.iconst 0, 1) := by decide +kernel
theorem dX10_splitsPart_65 : decode cX10_splitsPart 65 = .ok (.dup2, 1) := by decide +kernel
theorem dX10_splitsPart_66 : decode cX10_splitsPart 66 = .ok (.laload, 1) := by decide +kernel
theorem dX10_splitsPart_67 : decode cX10_splitsPart 67 = .ok (.lconst 1, 1) := by decide +kernel
theorem dX10_splitsPart_68 : decode cX10_splitsPart 68 = .ok (.ladd, 1) := by decide +kernel
theorem dX10_splitsPart_69 : decode cX10_splitsPart 69 = .ok (.lastore, 1) := by decide +kernel
theorem dX10_splitsPart_70 : decode cX10_splitsPart 70 = .ok (.aload_n 0, 1) := by decide +kernel
theorem dX10_splitsPart_71 : decode cX10_splitsPart 71 = .ok (.getfield 7, 3) := by decide +kernel
theorem dX10_splitsPart_74 : decode cX10_splitsPart 74 = .ok (.iconst 1, 1) := by decide +kernel
theorem dX10_splitsPart_75 : decode cX10_splitsPart 75 = .ok (.iload_n 1, 1) := by decide +kernel
theorem dX10_splitsPart_76 : decode cX10_splitsPart 76 = .ok (.iadd, 1) := by decide +kernel
theorem dX10_splitsPart_77 : decode cX10_splitsPart 77 = .ok (.iconst 1, 1) := by decide +kernel
theorem dX10_splitsPart_78 : decode cX10_splitsPart 78 = .ok (.iadd, 1) := by decide +kernel
theorem dX10_splitsPart_79 : decode cX10_splitsPart 79 = .ok (.dup2, 1) := by decide +kernel
theorem dX10_splitsPart_80 : decode cX10_splitsPart 80 = .ok (.laload, 1) := by decide +kernel
theorem dX10_splitsPart_81 : decode cX10_splitsPart 81 = .ok (.iload_n 2, 1) := by decide +kernel
theorem dX10_splitsPart_82 : decode cX10_splitsPart 82 = .ok (.i2l, 1) := by decide +kernel
theorem dX10_splitsPart_83 : decode cX10_splitsPart 83 = .ok (.lsub, 1) := by decide +kernel
theorem dX10_splitsPart_84 : decode cX10_splitsPart 84 = .ok (.lastore, 1) := by decide +kernel
theorem dX10_splitsPart_85 : decode cX10_splitsPart 85 = .ok (.aload_n 0, 1) := by decide +kernel
theorem dX10_splitsPart_86 : decode cX10_splitsPart 86 = .ok (.iload_n 1, 1) := by decide +kernel
theorem dX10_splitsPart_87 : decode cX10_splitsPart 87 = .ok (.iload_n 2, 1) := by decide +kernel
theorem dX10_splitsPart_88 : decode cX10_splitsPart 88 = .ok (.iload_n 3, 1) := by decide +kernel
theorem dX10_splitsPart_89 : decode cX10_splitsPart 89 = .ok (.invokevirtual 126, 3) := by decide +kernel
theorem dX10_splitsPart_92 : decode cX10_splitsPart 92 = .ok (.aload_n 0, 1) := by decide +kernel
theorem dX10_splitsPart_93 : decode cX10_splitsPart 93 = .ok (.invokevirtual 55, 3) := by decide +kernel
theorem dX10_splitsPart_96 : decode cX10_splitsPart 96 = .ok (.ireturn, 1) := by decide +kernel
theorem dX10_splitPart_0 : decode cX10_splitPart 0 = .ok (.aload_n 0, 1) := by decide +kernel
theorem dX10_splitPart_1 : decode cX10_splitPart 1 = .ok (.aload_n 0, 1) := by decide +kernel
theorem dX10_splitPart_2 : decode cX10_splitPart 2 = .ok (.iload_n 1, 1) := by decide +kernel
theorem dX10_splitPart_3 : decode cX10_splitPart 3 = .ok (.iload_n 2, 1) := by decide +kernel
theorem dX10_splitPart_4 : decode cX10_splitPart 4 = .ok (.iload_n 3, 1) := by decide +kernel
theorem dX10_splitPart_5 : decode cX10_splitPart 5 = .ok (.invokevirtual 155, 3) := by decide +kernel
theorem dX10_splitPart_8 : decode cX10_splitPart 8 = .ok (.putfield 48, 3) := by decide +kernel
theorem dX10_splitPart_11 : decode cX10_splitPart 11 = .ok (.aload_n 0, 1) := by decide +kernel
theorem dX10_splitPart_12 : decode cX10_splitPart 12 = .ok (.getfield 48, 3) := by decide +kernel
theorem dX10_splitPart_15 : decode cX10_splitPart 15 = .ok (.ifCond .eq 5, 3) := by decide +kernel
theorem dX10_splitPart_18 : decode cX10_splitPart 18 = .ok (.iconst 0, 1) := by decide +kernel
theorem dX10_splitPart_19 : decode cX10_splitPart 19 = .ok (.ireturn, 1) := by decide +kernel
theorem dX10_splitPart_20 : decode cX10_splitPart 20 = .ok (.aload_n 0, 1) := by decide +kernel
theorem dX10_splitPart_21 : decode cX10_splitPart 21 = .ok (.invokevirtual 134, 3) := by decide +kernel
theorem dX10_splitPart_24 : decode cX10_splitPart 24 = .ok (.aload_n 0, 1) := by decide +kernel
theorem dX10_splitPart_25 : decode cX10_splitPart 25 = .ok (.iload_n 1, 1) := by decide +kernel
theorem dX10_splitPart_26 : decode cX10_splitPart 26 = .ok (.iload_n 2, 1) := by decide +kernel
theorem dX10_splitPart_27 : decode cX10_splitPart 27 = .ok (.iload_n 3, 1) := by decide +kernel
theorem dX10_splitPart_28 : decode cX10_splitPart 28 = .ok (.invokevirtual 158, 3) := by decide +kernel
theorem dX10_splitPart_31 : decode cX10_splitPart 31 = .ok (.ireturn, 1) := by decide +kernel
theorem dX10_sumOfLengths_0 : decode cX10_sumOfLengths 0 = .ok (.iconst 0, 1) := by decide +kernel
theorem dX10_sumOfLengths_1 : decode cX10_sumOfLengths 1 = .ok (.istore_n 1, 1) := by decide +kernel
theorem dX10_sumOfLengths_2 : decode cX10_sumOfLengths 2 = .ok (.iconst 0, 1) := by decide +kernel
theorem dX10_sumOfLengths_3 : decode cX10_sumOfLengths 3 = .ok (.istore_n 2, 1) := by decide +kernel
theorem dX10_sumOfLengths_4 : decode cX10_sumOfLengths 4 = .ok (.iload_n 2, 1) := by decide +kernel
theorem dX10_sumOfLengths_5 : decode cX10_sumOfLengths 5 = .ok (.aload_n 0, 1) := by decide +kernel
theorem dX10_sumOfLengths_6 : decode cX10_sumOfLengths 6 = .ok (.invokevirtual 55, 3) := by decide +kernel
theorem dX10_sumOfLengths_9 : decode cX10_sumOfLengths 9 = .ok (.if_icmp .ge 21, 3) := by decide +kernel
theorem dX10_sumOfLengths_12 : decode cX10_sumOfLengths 12 = .ok (.iload_n 1, 1) := by decide +kernel
theorem dX10_sumOfLengths_13 : decode cX10_sumOfLengths 13 = .ok (.aload_n 0, 1) := by decide +kernel
theorem dX10_sumOfLengths_14 : decode cX10_sumOfLengths 14 = .ok (.getfield 7, 3) := by decide +kernel
theorem dX10_sumOfLengths_17 : decode cX10_sumOfLengths 17 = .ok (.iconst 1, 1) := by decide +kernel
theorem dX10_sumOfLengths_18 : decode cX10_sumOfLengths 18 = .ok (.iload_n 2, 1) := by decide +kernel
theorem dX10_sumOfLengths_19 : decode cX10_sumOfLengths 19 = .ok (.iadd, 1) := by decide +kernel
theorem dX10_sumOfLengths_20 : decode cX10_sumOfLengths 20 = .ok (.laload, 1) := by decide +kernel
theorem dX10_sumOfLengths_21 : decode cX10_sumOfLengths 21 = .ok (.l2i, 1) := by decide +kernel
theorem dX10_sumOfLengths_22 : decode cX10_sumOfLengths 22 = .ok (.iadd, 1) := by decide +kernel
theorem dX10_sumOfLengths_23 : decode cX10_sumOfLengths 23 = .ok (.istore_n 1, 1) := by decide +kernel
theorem dX10_sumOfLengths_24 : decode cX10_sumOfLengths 24 = .ok (.iinc 2 1, 3) := by decide +kernel
theorem dX10_sumOfLengths_27 : decode cX10_sumOfLengths 27 = .ok (.goto (-23), 3) := by decide +kernel
theorem dX10_sumOfLengths_30 : decode cX10_sumOfLengths 30 = .ok (.iload_n 1, 1) := by decide +kernel
theorem dX10_sumOfLengths_31 : decode cX10_sumOfLengths 31 = .ok (.ireturn, 1) := by decide +kernel
theorem dX10_exchange_0 : decode cX10_exchange 0 = .ok (.aload_n 0, 1) := by decide +kernel
theorem dX10_exchange_1 : decode cX10_exchange 1 = .ok (.getfield 7, 3) := by decide +kernel
theorem dX10_exchange_4 : decode cX10_exchange 4 = .ok (.iload_n 1, 1) := by decide +kernel
theorem dX10_exchange_5 : decode cX10_exchange 5 = .ok (.laload, 1) := by decide +kernel
theorem dX10_exchange_6 : decode cX10_exchange 6 = .ok (.lstore_n 3, 1) := by decide +kernel
theorem dX10_exchange_7 : decode cX10_exchange 7 = .ok (.aload_n 0, 1) := by decide +kernel
theorem dX10_exchange_8 : decode cX10_exchange 8 = .ok (.getfield 7, 3) := by decide +kernel
theorem dX10_exchange_11 : decode cX10_exchange 11 = .ok (.iload_n 1, 1) := by decide +kernel
theorem dX10_exchange_12 : decode cX10_exchange 12 = .ok (.aload_n 0, 1) := by decide +kernel
theorem dX10_exchange_13 : decode cX10_exchange 13 = .ok (.getfield 7, 3) := by decide +kernel
theorem dX10_exchange_16 : decode cX10_exchange 16 = .ok (.iload_n 2, 1) := by decide +kernel
theorem dX10_exchange_17 : decode cX10_exchange 17 = .ok (.laload, 1) := by decide +kernel
theorem dX10_exchange_18 : decode cX10_exchange 18 = .ok (.lastore, 1) := by decide +kernel
theorem dX10_exchange_19 : decode cX10_exchange 19 = .ok (.aload_n 0, 1) := by decide +kernel
theorem dX10_exchange_20 : decode cX10_exchange 20 = .ok (.getfield 7, 3) := by decide +kernel
theorem dX10_exchange_23 : decode cX10_exchange 23 = .ok (.iload_n 2, 1) := by decide +kernel
theorem dX10_exchange_24 : decode cX10_exchange 24 = .ok (.lload_n 3, 1) := by decide +kernel
theorem dX10_exchange_25 : decode cX10_exchange 25 = .ok (.lastore, 1) := by decide +kernel
theorem dX10_exchange_26 : decode cX10_exchange 26 = .ok (.return_, 1) := by decide +kernel
theorem dX10_reverse_0 : decode cX10_reverse 0 = .ok (.aload_n 0, 1) := by decide +kernel
theorem dX10_reverse_1 : decode cX10_reverse 1 = .ok (.iconst 0, 1) := by decide +kernel
theorem dX10_reverse_2 : decode cX10_reverse 2 = .ok (.putfield 48, 3) := by decide +kernel
theorem dX10_reverse_5 : decode cX10_reverse 5 = .ok (.aload_n 0, 1) := by decide +kernel
theorem dX10_reverse_6 : decode cX10_reverse 6 = .ok (.invokevirtual 134, 3) := by decide +kernel
theorem dX10_reverse_9 : decode cX10_reverse 9 = .ok (.aload_n 0, 1) := by decide +kernel
theorem dX10_reverse_10 : decode cX10_reverse 10 = .ok (.invokevirtual 55, 3) := by decide +kernel
theorem dX10_reverse_13 : decode cX10_reverse 13 = .ok (.istore_n 1, 1) := by decide +kernel
theorem dX10_reverse_14 : decode cX10_reverse 14 = .ok (.iconst 0, 1) := by decide +kernel
theorem dX10_reverse_15 : decode cX10_reverse 15 = .ok (.istore_n 2, 1) := by decide +kernel
theorem dX10_reverse_16 : decode cX10_reverse 16 = .ok (.iconst 2, 1) := by decide +kernel
theorem dX10_reverse_17 : decode cX10_reverse 17 = .ok (.iload_n 2, 1) := by decide +kernel
theorem dX10_reverse_18 : decode cX10_reverse 18 = .ok (.imul, 1) := by decide +kernel
theorem dX10_reverse_19 : decode cX10_reverse 19 = .ok (.iload_n 1, 1) := by decide +kernel
theorem dX10_reverse_20 : decode cX10_reverse 20 = .ok (.iconst 1, 1) := by decide +kernel
theorem dX10_reverse_21 : decode cX10_reverse 21 = .ok (.isub, 1) := by decide +kernel
theorem dX10_reverse_22 : decode cX10_reverse 22 = .ok (.if_icmp .ge 23, 3) := by decide +kernel
theorem dX10_reverse_25 : decode cX10_reverse 25 = .ok (.aload_n 0, 1) := by decide +kernel
theorem dX10_reverse_26 : decode cX10_reverse 26 = .ok (.iconst 1, 1) := by decide +kernel
theorem dX10_reverse_27 : decode cX10_reverse 27 = .ok (.iload_n 2, 1) := by decide +kernel
theorem dX10_reverse_28 : decode cX10_reverse 28 = .ok (.iadd, 1) := by decide +kernel
theorem dX10_reverse_29 : decode cX10_reverse 29 = .ok (.iconst 1, 1) := by decide +kernel
theorem dX10_reverse_30 : decode cX10_reverse 30 = .ok (.iload_n 1, 1) := by decide +kernel
theorem dX10_reverse_31 : decode cX10_reverse 31 = .ok (.iadd, 1) := by decide +kernel
theorem dX10_reverse_32 : decode cX10_reverse 32 = .ok (.iconst 1, 1) := by decide +kernel
theorem dX10_reverse_33 : decode cX10_reverse 33 = .ok (.isub, 1) := by decide +kernel
theorem dX10_reverse_34 : decode cX10_reverse 34 = .ok (.iload_n 2, 1) := by decide +kernel
theorem dX10_reverse_35 : decode cX10_reverse 35 = .ok (.isub, 1) := by decide +kernel
theorem dX10_reverse_36 : decode cX10_reverse 36 = .ok (.invokevirtual 161, 3) := by decide +kernel
theorem dX10_reverse_39 : decode cX10_reverse 39 = .ok (.iinc 2 1, 3) := by decide +kernel
theorem dX10_reverse_42 : decode cX10_reverse 42 = .ok (.goto (-26), 3) := by decide +kernel
theorem dX10_reverse_45 : decode cX10_reverse 45 = .ok (.iconst 0, 1) := by decide +kernel
theorem dX10_reverse_46 : decode cX10_reverse 46 = .ok (.istore_n 2, 1) := by decide +kernel
theorem dX10_reverse_47 : decode cX10_reverse 47 = .ok (.iconst 2, 1) := by decide +kernel
theorem dX10_reverse_48 : decode cX10_reverse 48 = .ok (.iload_n 2, 1) := by decide +kernel
theorem dX10_reverse_49 : decode cX10_reverse 49 = .ok (.imul, 1) := by decide +kernel
theorem dX10_reverse_50 : decode cX10_reverse 50 = .ok (.iload_n 1, 1) := by decide +kernel
theorem dX10_reverse_51 : decode cX10_reverse 51 = .ok (.iconst 2, 1) := by decide +kernel
theorem dX10_reverse_52 : decode cX10_reverse 52 = .ok (.isub, 1) := by decide +kernel
theorem dX10_reverse_53 : decode cX10_reverse 53 = .ok (.if_icmp .ge 25, 3) := by decide +kernel
theorem dX10_reverse_56 : decode cX10_reverse 56 = .ok (.aload_n 0, 1) := by decide +kernel
theorem dX10_reverse_57 : decode cX10_reverse 57 = .ok (.bipush 9, 2) := by decide +kernel
theorem dX10_reverse_59 : decode cX10_reverse 59 = .ok (.iload_n 2, 1) := by decide +kernel
theorem dX10_reverse_60 : decode cX10_reverse 60 = .ok (.iadd, 1) := by decide +kernel
theorem dX10_reverse_61 : decode cX10_reverse 61 = .ok (.bipush 9, 2) := by decide +kernel
theorem dX10_reverse_63 : decode cX10_reverse 63 = .ok (.iload_n 1, 1) := by decide +kernel
theorem dX10_reverse_64 : decode cX10_reverse 64 = .ok (.iadd, 1) := by decide +kernel
theorem dX10_reverse_65 : decode cX10_reverse 65 = .ok (.iconst 2, 1) := by decide +kernel
theorem dX10_reverse_66 : decode cX10_reverse 66 = .ok (.isub, 1) := by decide +kernel
theorem dX10_reverse_67 : decode cX10_reverse 67 = .ok (.iload_n 2, 1) := by decide +kernel
theorem dX10_reverse_68 : decode cX10_reverse 68 = .ok (.isub, 1) := by decide +kernel
theorem dX10_reverse_69 : decode cX10_reverse 69 = .ok (.invokevirtual 161, 3) := by decide +kernel
theorem dX10_reverse_72 : decode cX10_reverse 72 = .ok (.iinc 2 1, 3) := by decide +kernel
theorem dX10_reverse_75 : decode cX10_reverse 75 = .ok (.goto (-28), 3) := by decide +kernel
theorem dX10_reverse_78 : decode cX10_reverse 78 = .ok (.aload_n 0, 1) := by decide +kernel
theorem dX10_reverse_79 : decode cX10_reverse 79 = .ok (.invokevirtual 164, 3) := by decide +kernel
theorem dX10_reverse_82 : decode cX10_reverse 82 = .ok (.ireturn, 1) := by decide +kernel
theorem dX10_setBench_0 : decode cX10_setBench 0 = .ok (.aload_n 0, 1) := by decide +kernel
theorem dX10_setBench_1 : decode cX10_setBench 1 = .ok (.iload_n 1, 1) := by decide +kernel
theorem dX10_setBench_2 : decode cX10_setBench 2 = .ok (.i2l, 1) := by decide +kernel
theorem dX10_setBench_3 : decode cX10_setBench 3 = .ok (.lconst 0, 1) := by decide +kernel
theorem dX10_setBench_4 : decode cX10_setBench 4 = .ok (.ldc2_w 167, 3) := by decide +kernel
theorem dX10_setBench_7 : decode cX10_setBench 7 = .ok (.invokestatic 59, 3) := by decide +kernel
theorem dX10_setBench_10 : decode cX10_setBench 10 = .ok (.ifCond .eq 31, 3) := by decide +kernel
theorem dX10_setBench_13 : decode cX10_setBench 13 = .ok (.iload_n 2, 1) := by decide +kernel
theorem dX10_setBench_14 : decode cX10_setBench 14 = .ok (.i2l, 1) := by decide +kernel
theorem dX10_setBench_15 : decode cX10_setBench 15 = .ok (.lconst 0, 1) := by decide +kernel
theorem dX10_setBench_16 : decode cX10_setBench 16 = .ok (.ldc2_w 82, 3) := by decide +kernel
theorem dX10_setBench_19 : decode cX10_setBench 19 = .ok (.invokestatic 59, 3) := by decide +kernel
theorem dX10_setBench_22 : decode cX10_setBench 22 = .ok (.ifCond .eq 19, 3) := by decide +kernel
theorem dX10_setBench_25 : decode cX10_setBench 25 = .ok (.iload_n 3, 1) := by decide +kernel
theorem dX10_setBench_26 : decode cX10_setBench 26 = .ok (.i2l, 1) := by decide +kernel
theorem dX10_setBench_27 : decode cX10_setBench 27 = .ok (.lconst 1, 1) := by decide +kernel
theorem dX10_setBench_28 : decode cX10_setBench 28 = .ok (.ldc2_w 169, 3) := by decide +kernel
theorem dX10_setBench_31 : decode cX10_setBench 31 = .ok (.invokestatic 59, 3) := by decide +kernel
theorem dX10_setBench_34 : decode cX10_setBench 34 = .ok (.ifCond .eq 7, 3) := by decide +kernel
theorem dX10_setBench_37 : decode cX10_setBench 37 = .ok (.iconst 0, 1) := by decide +kernel
theorem dX10_setBench_38 : decode cX10_setBench 38 = .ok (.goto 4, 3) := by decide +kernel
theorem dX10_setBench_41 : decode cX10_setBench 41 = .ok (.iconst 1, 1) := by decide +kernel
theorem dX10_setBench_42 : decode cX10_setBench 42 = .ok (.putfield 48, 3) := by decide +kernel
theorem dX10_setBench_45 : decode cX10_setBench 45 = .ok (.aload_n 0, 1) := by decide +kernel
theorem dX10_setBench_46 : decode cX10_setBench 46 = .ok (.getfield 48, 3) := by decide +kernel
theorem dX10_setBench_49 : decode cX10_setBench 49 = .ok (.ifCond .eq 5, 3) := by decide +kernel
theorem dX10_setBench_52 : decode cX10_setBench 52 = .ok (.iconst 0, 1) := by decide +kernel
theorem dX10_setBench_53 : decode cX10_setBench 53 = .ok (.ireturn, 1) := by decide +kernel
theorem dX10_setBench_54 : decode cX10_setBench 54 = .ok (.aload_n 0, 1) := by decide +kernel
theorem dX10_setBench_55 : decode cX10_setBench 55 = .ok (.invokevirtual 134, 3) := by decide +kernel
theorem dX10_setBench_58 : decode cX10_setBench 58 = .ok (.aload_n 0, 1) := by decide +kernel
theorem dX10_setBench_59 : decode cX10_setBench 59 = .ok (.invokevirtual 110, 3) := by decide +kernel
theorem dX10_setBench_62 : decode cX10_setBench 62 = .ok (.istore 4, 2) := by decide +kernel
theorem dX10_setBench_64 : decode cX10_setBench 64 = .ok (.aload_n 0, 1) := by decide +kernel
theorem dX10_setBench_65 : decode cX10_setBench 65 = .ok (.getfield 7, 3) := by decide +kernel
theorem dX10_setBench_68 : decode cX10_setBench 68 = .ok (.bipush 17, 2) := by decide +kernel
theorem dX10_setBench_70 : decode cX10_setBench 70 = .ok (.iload_n 1, 1) := by decide +kernel
theorem dX10_setBench_71 : decode cX10_setBench 71 = .ok (.i2l, 1) := by decide +kernel
theorem dX10_setBench_72 : decode cX10_setBench 72 = .ok (.lastore, 1) := by decide +kernel
theorem dX10_setBench_73 : decode cX10_setBench 73 = .ok (.aload_n 0, 1) := by decide +kernel
theorem dX10_setBench_74 : decode cX10_setBench 74 = .ok (.getfield 7, 3) := by decide +kernel
theorem dX10_setBench_77 : decode cX10_setBench 77 = .ok (.bipush 18, 2) := by decide +kernel
theorem dX10_setBench_79 : decode cX10_setBench 79 = .ok (.iload_n 2, 1) := by decide +kernel
theorem dX10_setBench_80 : decode cX10_setBench 80 = .ok (.i2l, 1) := by decide +kernel
theorem dX10_setBench_81 : decode cX10_setBench 81 = .ok (.lastore, 1) := by decide +kernel
theorem dX10_setBench_82 : decode cX10_setBench 82 = .ok (.aload_n 0, 1) := by decide +kernel
theorem dX10_setBench_83 : decode cX10_setBench 83 = .ok (.getfield 7, 3) := by decide +kernel
theorem dX10_setBench_86 : decode cX10_setBench 86 = .ok (.bipush 19, 2) := by decide +kernel
theorem dX10_setBench_88 : decode cX10_setBench 88 = .ok (.iload_n 3, 1) := by decide +kernel
theorem dX10_setBench_89 : decode cX10_setBench 89 = .ok (.i2l, 1) := by decide +kernel
theorem dX10_setBench_90 : decode cX10_setBench 90 = .ok (.lastore, 1) := by decide +kernel
theorem dX10_setBench_91 : decode cX10_setBench 91 = .ok (.iload 4, 2) := by decide +kernel
theorem dX10_setBench_93 : decode cX10_setBench 93 = .ok (.ireturn, 1) := by decide +kernel
theorem dX10_whyNoPulse_0 : decode cX10_whyNoPulse 0 = .ok (.iload_n 1, 1) := by decide +kernel
theorem dX10_whyNoPulse_1 : decode cX10_whyNoPulse 1 = .ok (.i2l, 1) := by decide +kernel
theorem dX10_whyNoPulse_2 : decode cX10_whyNoPulse 2 = .ok (.lconst 0, 1) := by decide +kernel
theorem dX10_whyNoPulse_3 : decode cX10_whyNoPulse 3 = .ok (.ldc2_w 44, 3) := by decide +kernel
theorem dX10_whyNoPulse_6 : decode cX10_whyNoPulse 6 = .ok (.invokestatic 59, 3) := by decide +kernel
theorem dX10_whyNoPulse_9 : decode cX10_whyNoPulse 9 = .ok (.ifCond .eq 15, 3) := by decide +kernel
theorem dX10_whyNoPulse_12 : decode cX10_whyNoPulse 12 = .ok (.iload_n 2, 1) := by decide +kernel
theorem dX10_whyNoPulse_13 : decode cX10_whyNoPulse 13 = .ok (.i2l, 1) := by decide +kernel
theorem dX10_whyNoPulse_14 : decode cX10_whyNoPulse 14 = .ok (.lconst 1, 1) := by decide +kernel
theorem dX10_whyNoPulse_15 : decode cX10_whyNoPulse 15 = .ok (.ldc2_w 171, 3) := by decide +kernel
theorem dX10_whyNoPulse_18 : decode cX10_whyNoPulse 18 = .ok (.invokestatic 59, 3) := by decide +kernel
theorem dX10_whyNoPulse_21 : decode cX10_whyNoPulse 21 = .ok (.ifCond .ne 7, 3) := by decide +kernel
theorem dX10_whyNoPulse_24 : decode cX10_whyNoPulse 24 = .ok (.iconst 1, 1) := by decide +kernel
theorem dX10_whyNoPulse_25 : decode cX10_whyNoPulse 25 = .ok (.goto 22, 3) := by decide +kernel
theorem dX10_whyNoPulse_28 : decode cX10_whyNoPulse 28 = .ok (.aload_n 0, 1) := by decide +kernel
theorem dX10_whyNoPulse_29 : decode cX10_whyNoPulse 29 = .ok (.getfield 7, 3) := by decide +kernel
theorem dX10_whyNoPulse_32 : decode cX10_whyNoPulse 32 = .ok (.bipush 20, 2) := by decide +kernel
theorem dX10_whyNoPulse_34 : decode cX10_whyNoPulse 34 = .ok (.laload, 1) := by decide +kernel
theorem dX10_whyNoPulse_35 : decode cX10_whyNoPulse 35 = .ok (.ldc2_w 173, 3) := by decide +kernel
theorem dX10_whyNoPulse_38 : decode cX10_whyNoPulse 38 = .ok (.lcmp, 1) := by decide +kernel
theorem dX10_whyNoPulse_39 : decode cX10_whyNoPulse 39 = .ok (.ifCond .ne 7, 3) := by decide +kernel
theorem dX10_whyNoPulse_42 : decode cX10_whyNoPulse 42 = .ok (.iconst 2, 1) := by decide +kernel
theorem dX10_whyNoPulse_43 : decode cX10_whyNoPulse 43 = .ok (.goto 4, 3) := by decide +kernel
theorem dX10_whyNoPulse_46 : decode cX10_whyNoPulse 46 = .ok (.iconst 0, 1) := by decide +kernel
theorem dX10_whyNoPulse_47 : decode cX10_whyNoPulse 47 = .ok (.ireturn, 1) := by decide +kernel
theorem dX10_addsPulse_0 : decode cX10_addsPulse 0 = .ok (.bipush 21, 2) := by decide +kernel
theorem dX10_addsPulse_2 : decode cX10_addsPulse 2 = .ok (.iconst 2, 1) := by decide +kernel
theorem dX10_addsPulse_3 : decode cX10_addsPulse 3 = .ok (.aload_n 0, 1) := by decide +kernel
theorem dX10_addsPulse_4 : decode cX10_addsPulse 4 = .ok (.getfield 7, 3) := by decide +kernel
theorem dX10_addsPulse_7 : decode cX10_addsPulse 7 = .ok (.bipush 20, 2) := by decide +kernel
theorem dX10_addsPulse_9 : decode cX10_addsPulse 9 = .ok (.laload, 1) := by decide +kernel
theorem dX10_addsPulse_10 : decode cX10_addsPulse 10 = .ok (.l2i, 1) := by decide +kernel
theorem dX10_addsPulse_11 : decode cX10_addsPulse 11 = .ok (.imul, 1) := by decide +kernel
theorem dX10_addsPulse_12 : decode cX10_addsPulse 12 = .ok (.iadd, 1) := by decide +kernel
theorem dX10_addsPulse_13 : decode cX10_addsPulse 13 = .ok (.istore_n 3, 1) := by decide +kernel
theorem dX10_addsPulse_14 : decode cX10_addsPulse 14 = .ok (.aload_n 0, 1) := by decide +kernel
theorem dX10_addsPulse_15 : decode cX10_addsPulse 15 = .ok (.getfield 7, 3) := by decide +kernel
theorem dX10_addsPulse_18 : decode cX10_addsPulse 18 = .ok (.iload_n 3, 1) := by decide +kernel
theorem dX10_addsPulse_19 : decode cX10_addsPulse 19 = .ok (.iload_n 1, 1) := by decide +kernel
theorem dX10_addsPulse_20 : decode cX10_addsPulse 20 = .ok (.i2l, 1) := by decide +kernel
theorem dX10_addsPulse_21 : decode cX10_addsPulse 21 = .ok (.lastore, 1) := by decide +kernel
theorem dX10_addsPulse_22 : decode cX10_addsPulse 22 = .ok (.aload_n 0, 1) := by decide +kernel
theorem dX10_addsPulse_23 : decode cX10_addsPulse 23 = .ok (.getfield 7, 3) := by decide +kernel
theorem dX10_addsPulse_26 : decode cX10_addsPulse 26 = .ok (.iload_n 3, 1) := by decide +kernel
theorem dX10_addsPulse_27 : decode cX10_addsPulse 27 = .ok (.iconst 1, 1) := by decide +kernel
theorem dX10_addsPulse_28 : decode cX10_addsPulse 28 = .ok (.iadd, 1) := by decide +kernel
theorem dX10_addsPulse_29 : decode cX10_addsPulse 29 = .ok (.iload_n 2, 1) := by decide +kernel
theorem dX10_addsPulse_30 : decode cX10_addsPulse 30 = .ok (.i2l, 1) := by decide +kernel
theorem dX10_addsPulse_31 : decode cX10_addsPulse 31 = .ok (.lastore, 1) := by decide +kernel
theorem dX10_addsPulse_32 : decode cX10_addsPulse 32 = .ok (.aload_n 0, 1) := by decide +kernel
theorem dX10_addsPulse_33 : decode cX10_addsPulse 33 = .ok (.getfield 7, 3) := by decide +kernel
theorem dX10_addsPulse_36 : decode cX10_addsPulse 36 = .ok (.bipush 20, 2) := by decide +kernel
theorem dX10_addsPulse_38 : decode cX10_addsPulse 38 = .ok (.dup2, 1) := by decide +kernel
theorem dX10_addsPulse_39 : decode cX10_addsPulse 39 = .ok (.laload, 1) := by decide +kernel
theorem dX10_addsPulse_40 : decode cX10_addsPulse 40 = .ok (.lconst 1, 1) := by decide +kernel
theorem dX10_addsPulse_41 : decode cX10_addsPulse 41 = .ok (.ladd, 1) := by decide +kernel
theorem dX10_addsPulse_42 : decode cX10_addsPulse 42 = .ok (.lastore, 1) := by decide +kernel
theorem dX10_addsPulse_43 : decode cX10_addsPulse 43 = .ok (.aload_n 0, 1) := by decide +kernel
theorem dX10_addsPulse_44 : decode cX10_addsPulse 44 = .ok (.getfield 7, 3) := by decide +kernel
theorem dX10_addsPulse_47 : decode cX10_addsPulse 47 = .ok (.bipush 20, 2) := by decide +kernel
theorem dX10_addsPulse_49 : decode cX10_addsPulse 49 = .ok (.laload, 1) := by decide +kernel
theorem dX10_addsPulse_50 : decode cX10_addsPulse 50 = .ok (.l2i, 1) := by decide +kernel
theorem dX10_addsPulse_51 : decode cX10_addsPulse 51 = .ok (.ireturn, 1) := by decide +kernel
theorem dX10_addPulse_0 : decode cX10_addPulse 0 = .ok (.aload_n 0, 1) := by decide +kernel
theorem dX10_addPulse_1 : decode cX10_addPulse 1 = .ok (.aload_n 0, 1) := by decide +kernel
theorem dX10_addPulse_2 : decode cX10_addPulse 2 = .ok (.iload_n 1, 1) := by decide +kernel
theorem dX10_addPulse_3 : decode cX10_addPulse 3 = .ok (.iload_n 2, 1) := by decide +kernel
theorem dX10_addPulse_4 : decode cX10_addPulse 4 = .ok (.invokevirtual 175, 3) := by decide +kernel
theorem dX10_addPulse_7 : decode cX10_addPulse 7 = .ok (.putfield 48, 3) := by decide +kernel
theorem dX10_addPulse_10 : decode cX10_addPulse 10 = .ok (.aload_n 0, 1) := by decide +kernel
theorem dX10_addPulse_11 : decode cX10_addPulse 11 = .ok (.getfield 48, 3) := by decide +kernel
theorem dX10_addPulse_14 : decode cX10_addPulse 14 = .ok (.ifCond .eq 5, 3) := by decide +kernel
theorem dX10_addPulse_17 : decode cX10_addPulse 17 = .ok (.iconst 0, 1) := by decide +kernel
theorem dX10_addPulse_18 : decode cX10_addPulse 18 = .ok (.ireturn, 1) := by decide +kernel
theorem dX10_addPulse_19 : decode cX10_addPulse 19 = .ok (.aload_n 0, 1) := by decide +kernel
theorem dX10_addPulse_20 : decode cX10_addPulse 20 = .ok (.invokevirtual 134, 3) := by decide +kernel
theorem dX10_addPulse_23 : decode cX10_addPulse 23 = .ok (.aload_n 0, 1) := by decide +kernel
theorem dX10_addPulse_24 : decode cX10_addPulse 24 = .ok (.iload_n 1, 1) := by decide +kernel
theorem dX10_addPulse_25 : decode cX10_addPulse 25 = .ok (.iload_n 2, 1) := by decide +kernel
theorem dX10_addPulse_26 : decode cX10_addPulse 26 = .ok (.invokevirtual 178, 3) := by decide +kernel
theorem dX10_addPulse_29 : decode cX10_addPulse 29 = .ok (.ireturn, 1) := by decide +kernel
theorem dX10_removePulse_0 : decode cX10_removePulse 0 = .ok (.aload_n 0, 1) := by decide +kernel
theorem dX10_removePulse_1 : decode cX10_removePulse 1 = .ok (.iload_n 1, 1) := by decide +kernel
theorem dX10_removePulse_2 : decode cX10_removePulse 2 = .ok (.i2l, 1) := by decide +kernel
theorem dX10_removePulse_3 : decode cX10_removePulse 3 = .ok (.lconst 0, 1) := by decide +kernel
theorem dX10_removePulse_4 : decode cX10_removePulse 4 = .ok (.aload_n 0, 1) := by decide +kernel
theorem dX10_removePulse_5 : decode cX10_removePulse 5 = .ok (.getfield 7, 3) := by decide +kernel
theorem dX10_removePulse_8 : decode cX10_removePulse 8 = .ok (.bipush 20, 2) := by decide +kernel
theorem dX10_removePulse_10 : decode cX10_removePulse 10 = .ok (.laload, 1) := by decide +kernel
theorem dX10_removePulse_11 : decode cX10_removePulse 11 = .ok (.lconst 1, 1) := by decide +kernel
theorem dX10_removePulse_12 : decode cX10_removePulse 12 = .ok (.lsub, 1) := by decide +kernel
theorem dX10_removePulse_13 : decode cX10_removePulse 13 = .ok (.invokestatic 59, 3) := by decide +kernel
theorem dX10_removePulse_16 : decode cX10_removePulse 16 = .ok (.ifCond .ne 7, 3) := by decide +kernel
theorem dX10_removePulse_19 : decode cX10_removePulse 19 = .ok (.iconst 1, 1) := by decide +kernel
theorem dX10_removePulse_20 : decode cX10_removePulse 20 = .ok (.goto 20, 3) := by decide +kernel
theorem dX10_removePulse_23 : decode cX10_removePulse 23 = .ok (.aload_n 0, 1) := by decide +kernel
theorem dX10_removePulse_24 : decode cX10_removePulse 24 = .ok (.getfield 7, 3) := by decide +kernel
theorem dX10_removePulse_27 : decode cX10_removePulse 27 = .ok (.bipush 20, 2) := by decide +kernel
theorem dX10_removePulse_29 : decode cX10_removePulse 29 = .ok (.laload, 1) := by decide +kernel
theorem dX10_removePulse_30 : decode cX10_removePulse 30 = .ok (.lconst 1, 1) := by decide +kernel
theorem dX10_removePulse_31 : decode cX10_removePulse 31 = .ok (.lcmp, 1) := by decide +kernel
theorem dX10_removePulse_32 : decode cX10_removePulse 32 = .ok (.ifCond .ne 7, 3) := by decide +kernel
theorem dX10_removePulse_35 : decode cX10_removePulse 35 = .ok (.iconst 2, 1) := by decide +kernel
theorem dX10_removePulse_36 : decode cX10_removePulse 36 = .ok (.goto 4, 3) := by decide +kernel
theorem dX10_removePulse_39 : decode cX10_removePulse 39 = .ok (.iconst 0, 1) := by decide +kernel
theorem dX10_removePulse_40 : decode cX10_removePulse 40 = .ok (.putfield 48, 3) := by decide +kernel
theorem dX10_removePulse_43 : decode cX10_removePulse 43 = .ok (.aload_n 0, 1) := by decide +kernel
theorem dX10_removePulse_44 : decode cX10_removePulse 44 = .ok (.getfield 48, 3) := by decide +kernel
theorem dX10_removePulse_47 : decode cX10_removePulse 47 = .ok (.ifCond .eq 5, 3) := by decide +kernel
theorem dX10_removePulse_50 : decode cX10_removePulse 50 = .ok (.iconst 0, 1) := by decide +kernel
theorem dX10_removePulse_51 : decode cX10_removePulse 51 = .ok (.ireturn, 1) := by decide +kernel
theorem dX10_removePulse_52 : decode cX10_removePulse 52 = .ok (.aload_n 0, 1) := by decide +kernel
theorem dX10_removePulse_53 : decode cX10_removePulse 53 = .ok (.invokevirtual 134, 3) := by decide +kernel
theorem dX10_removePulse_56 : decode cX10_removePulse 56 = .ok (.aload_n 0, 1) := by decide +kernel
theorem dX10_removePulse_57 : decode cX10_removePulse 57 = .ok (.getfield 7, 3) := by decide +kernel
theorem dX10_removePulse_60 : decode cX10_removePulse 60 = .ok (.bipush 20, 2) := by decide +kernel
theorem dX10_removePulse_62 : decode cX10_removePulse 62 = .ok (.dup2, 1) := by decide +kernel
theorem dX10_removePulse_63 : decode cX10_removePulse 63 = .ok (.laload, 1) := by decide +kernel
theorem dX10_removePulse_64 : decode cX10_removePulse 64 = .ok (.lconst 1, 1) := by decide +kernel
theorem dX10_removePulse_65 : decode cX10_removePulse 65 = .ok (.lsub, 1) := by decide +kernel
theorem dX10_removePulse_66 : decode cX10_removePulse 66 = .ok (.lastore, 1) := by decide +kernel
theorem dX10_removePulse_67 : decode cX10_removePulse 67 = .ok (.bipush 21, 2) := by decide +kernel
theorem dX10_removePulse_69 : decode cX10_removePulse 69 = .ok (.iconst 2, 1) := by decide +kernel
theorem dX10_removePulse_70 : decode cX10_removePulse 70 = .ok (.iload_n 1, 1) := by decide +kernel
theorem dX10_removePulse_71 : decode cX10_removePulse 71 = .ok (.imul, 1) := by decide +kernel
theorem dX10_removePulse_72 : decode cX10_removePulse 72 = .ok (.iadd, 1) := by decide +kernel
theorem dX10_removePulse_73 : decode cX10_removePulse 73 = .ok (.istore_n 2, 1) := by decide +kernel
theorem dX10_removePulse_74 : decode cX10_removePulse 74 = .ok (.iload_n 2, 1) := by decide +kernel
theorem dX10_removePulse_75 : decode cX10_removePulse 75 = .ok (.i2l, 1) := by decide +kernel
theorem dX10_removePulse_76 : decode cX10_removePulse 76 = .ok (.ldc2_w 181, 3) := by decide +kernel
theorem dX10_removePulse_79 : decode cX10_removePulse 79 = .ok (.ldc2_w 183, 3) := by decide +kernel
theorem dX10_removePulse_82 : decode cX10_removePulse 82 = .ok (.aload_n 0, 1) := by decide +kernel
theorem dX10_removePulse_83 : decode cX10_removePulse 83 = .ok (.getfield 7, 3) := by decide +kernel
theorem dX10_removePulse_86 : decode cX10_removePulse 86 = .ok (.bipush 20, 2) := by decide +kernel
theorem dX10_removePulse_88 : decode cX10_removePulse 88 = .ok (.laload, 1) := by decide +kernel
theorem dX10_removePulse_89 : decode cX10_removePulse 89 = .ok (.lmul, 1) := by decide +kernel
theorem dX10_removePulse_90 : decode cX10_removePulse 90 = .ok (.ladd, 1) := by decide +kernel
theorem dX10_removePulse_91 : decode cX10_removePulse 91 = .ok (.lcmp, 1) := by decide +kernel
theorem dX10_removePulse_92 : decode cX10_removePulse 92 = .ok (.ifCond .ge 23, 3) := by decide +kernel
theorem dX10_removePulse_95 : decode cX10_removePulse 95 = .ok (.aload_n 0, 1) := by decide +kernel
theorem dX10_removePulse_96 : decode cX10_removePulse 96 = .ok (.getfield 7, 3) := by decide +kernel
theorem dX10_removePulse_99 : decode cX10_removePulse 99 = .ok (.iload_n 2, 1) := by decide +kernel
theorem dX10_removePulse_100 : decode cX10_removePulse 100 = .ok (.aload_n 0, 1) := by decide +kernel
theorem dX10_removePulse_101 : decode cX10_removePulse 101 = .ok (.getfield 7, 3) := by decide +kernel
theorem dX10_removePulse_104 : decode cX10_removePulse 104 = .ok (.iload_n 2, 1) := by decide +kernel
theorem dX10_removePulse_105 : decode cX10_removePulse 105 = .ok (.iconst 2, 1) := by decide +kernel
theorem dX10_removePulse_106 : decode cX10_removePulse 106 = .ok (.iadd, 1) := by decide +kernel
theorem dX10_removePulse_107 : decode cX10_removePulse 107 = .ok (.laload, 1) := by decide +kernel
theorem dX10_removePulse_108 : decode cX10_removePulse 108 = .ok (.lastore, 1) := by decide +kernel
theorem dX10_removePulse_109 : decode cX10_removePulse 109 = .ok (.iinc 2 1, 3) := by decide +kernel
theorem dX10_removePulse_112 : decode cX10_removePulse 112 = .ok (.goto (-38), 3) := by decide +kernel
theorem dX10_removePulse_115 : decode cX10_removePulse 115 = .ok (.aload_n 0, 1) := by decide +kernel
theorem dX10_removePulse_116 : decode cX10_removePulse 116 = .ok (.getfield 7, 3) := by decide +kernel
theorem dX10_removePulse_119 : decode cX10_removePulse 119 = .ok (.bipush 20, 2) := by decide +kernel
theorem dX10_removePulse_121 : decode cX10_removePulse 121 = .ok (.laload, 1) := by decide +kernel
theorem dX10_removePulse_122 : decode cX10_removePulse 122 = .ok (.l2i, 1) := by decide +kernel
theorem dX10_removePulse_123 : decode cX10_removePulse 123 = .ok (.ireturn, 1) := by decide +kernel
theorem dX10_upTo_0 : decode cX10_upTo 0 = .ok (.iconst 0, 1) := by decide +kernel
theorem dX10_upTo_1 : decode cX10_upTo 1 = .ok (.istore_n 2, 1) := by decide +kernel
theorem dX10_upTo_2 : decode cX10_upTo 2 = .ok (.iconst 0, 1) := by decide +kernel
theorem dX10_upTo_3 : decode cX10_upTo 3 = .ok (.istore_n 3, 1) := by decide +kernel
theorem dX10_upTo_4 : decode cX10_upTo 4 = .ok (.iload_n 3, 1) := by decide +kernel
theorem dX10_upTo_5 : decode cX10_upTo 5 = .ok (.iload_n 1, 1) := by decide +kernel
theorem dX10_upTo_6 : decode cX10_upTo 6 = .ok (.if_icmp .gt 21, 3) := by decide +kernel
theorem dX10_upTo_9 : decode cX10_upTo 9 = .ok (.iload_n 2, 1) := by decide +kernel
theorem dX10_upTo_10 : decode cX10_upTo 10 = .ok (.aload_n 0, 1) := by decide +kernel
theorem dX10_upTo_11 : decode cX10_upTo 11 = .ok (.getfield 7, 3) := by decide +kernel
theorem dX10_upTo_14 : decode cX10_upTo 14 = .ok (.iconst 1, 1) := by decide +kernel
theorem dX10_upTo_15 : decode cX10_upTo 15 = .ok (.iload_n 3, 1) := by decide +kernel
theorem dX10_upTo_16 : decode cX10_upTo 16 = .ok (.iadd, 1) := by decide +kernel
theorem dX10_upTo_17 : decode cX10_upTo 17 = .ok (.laload, 1) := by decide +kernel
theorem dX10_upTo_18 : decode cX10_upTo 18 = .ok (.l2i, 1) := by decide +kernel
theorem dX10_upTo_19 : decode cX10_upTo 19 = .ok (.iadd, 1) := by decide +kernel
theorem dX10_upTo_20 : decode cX10_upTo 20 = .ok (.istore_n 2, 1) := by decide +kernel
theorem dX10_upTo_21 : decode cX10_upTo 21 = .ok (.iinc 3 1, 3) := by decide +kernel
theorem dX10_upTo_24 : decode cX10_upTo 24 = .ok (.goto (-20), 3) := by decide +kernel
theorem dX10_upTo_27 : decode cX10_upTo 27 = .ok (.iload_n 2, 1) := by decide +kernel
theorem dX10_upTo_28 : decode cX10_upTo 28 = .ok (.ireturn, 1) := by decide +kernel
theorem dX10_part_0 : decode cX10_part 0 = .ok (.aload_n 0, 1) := by decide +kernel
theorem dX10_part_1 : decode cX10_part 1 = .ok (.aload_n 0, 1) := by decide +kernel
theorem dX10_part_2 : decode cX10_part 2 = .ok (.iload_n 1, 1) := by decide +kernel
theorem dX10_part_3 : decode cX10_part 3 = .ok (.invokevirtual 140, 3) := by decide +kernel
theorem dX10_part_6 : decode cX10_part 6 = .ok (.ifCond .ne 7, 3) := by decide +kernel
theorem dX10_part_9 : decode cX10_part 9 = .ok (.iconst 1, 1) := by decide +kernel
theorem dX10_part_10 : decode cX10_part 10 = .ok (.goto 20, 3) := by decide +kernel
theorem dX10_part_13 : decode cX10_part 13 = .ok (.iload_n 2, 1) := by decide +kernel
theorem dX10_part_14 : decode cX10_part 14 = .ok (.i2l, 1) := by decide +kernel
theorem dX10_part_15 : decode cX10_part 15 = .ok (.lconst 0, 1) := by decide +kernel
theorem dX10_part_16 : decode cX10_part 16 = .ok (.ldc2_w 183, 3) := by decide +kernel
theorem dX10_part_19 : decode cX10_part 19 = .ok (.invokestatic 59, 3) := by decide +kernel
theorem dX10_part_22 : decode cX10_part 22 = .ok (.ifCond .eq 7, 3) := by decide +kernel
theorem dX10_part_25 : decode cX10_part 25 = .ok (.iconst 0, 1) := by decide +kernel
theorem dX10_part_26 : decode cX10_part 26 = .ok (.goto 4, 3) := by decide +kernel
theorem dX10_part_29 : decode cX10_part 29 = .ok (.iconst 2, 1) := by decide +kernel
theorem dX10_part_30 : decode cX10_part 30 = .ok (.putfield 48, 3) := by decide +kernel
theorem dX10_part_33 : decode cX10_part 33 = .ok (.aload_n 0, 1) := by decide +kernel
theorem dX10_part_34 : decode cX10_part 34 = .ok (.getfield 48, 3) := by decide +kernel
theorem dX10_part_37 : decode cX10_part 37 = .ok (.ifCond .eq 5, 3) := by decide +kernel
theorem dX10_part_40 : decode cX10_part 40 = .ok (.iconst 0, 1) := by decide +kernel
theorem dX10_part_41 : decode cX10_part 41 = .ok (.ireturn, 1) := by decide +kernel
theorem dX10_part_42 : decode cX10_part 42 = .ok (.iload_n 2, 1) := by decide +kernel
theorem dX10_part_43 : decode cX10_part 43 = .ok (.iconst 2, 1) := by decide +kernel
theorem dX10_part_44 : decode cX10_part 44 = .ok (.if_icmp .ne 11, 3) := by decide +kernel
theorem dX10_part_47 : decode cX10_part 47 = .ok (.aload_n 0, 1) := by decide +kernel
theorem dX10_part_48 : decode cX10_part 48 = .ok (.iload_n 1, 1) := by decide +kernel
theorem dX10_part_49 : decode cX10_part 49 = .ok (.invokevirtual 185, 3) := by decide +kernel
theorem dX10_part_52 : decode cX10_part 52 = .ok (.goto 21, 3) := by decide +kernel
theorem dX10_part_55 : decode cX10_part 55 = .ok (.aload_n 0, 1) := by decide +kernel
theorem dX10_part_56 : decode cX10_part 56 = .ok (.getfield 7, 3) := by decide +kernel
theorem dX10_part_59 : decode cX10_part 59 = .ok (.iload_n 2, 1) := by decide +kernel
theorem dX10_part_60 : decode cX10_part 60 = .ok (.ifCond .ne 7, 3) := by decide +kernel
theorem dX10_part_63 : decode cX10_part 63 = .ok (.iconst 1, 1) := by decide +kernel
theorem dX10_part_64 : decode cX10_part 64 = .ok (.goto 5, 3) := by decide +kernel
theorem dX10_part_67 : decode cX10_part 67 = .ok (.bipush 9, 2) := by decide +kernel
theorem dX10_part_69 : decode cX10_part 69 = .ok (.iload_n 1, 1) := by decide +kernel
theorem dX10_part_70 : decode cX10_part 70 = .ok (.iadd, 1) := by decide +kernel
theorem dX10_part_71 : decode cX10_part 71 = .ok (.laload, 1) := by decide +kernel
theorem dX10_part_72 : decode cX10_part 72 = .ok (.l2i, 1) := by decide +kernel
theorem dX10_part_73 : decode cX10_part 73 = .ok (.ireturn, 1) := by decide +kernel
theorem dX10_benchOf_0 : decode cX10_benchOf 0 = .ok (.iload_n 1, 1) := by decide +kernel
theorem dX10_benchOf_1 : decode cX10_benchOf 1 = .ok (.lookupswitch 54 #[(0, 35), (1, 40), (5, 49)], 35) := by decide +kernel
theorem dX10_benchOf_36 : decode cX10_benchOf 36 = .ok (.aload_n 0, 1) := by decide +kernel
theorem dX10_benchOf_37 : decode cX10_benchOf 37 = .ok (.invokevirtual 55, 3) := by decide +kernel
theorem dX10_benchOf_40 : decode cX10_benchOf 40 = .ok (.ireturn, 1) := by decide +kernel
theorem dX10_benchOf_41 : decode cX10_benchOf 41 = .ok (.aload_n 0, 1) := by decide +kernel
theorem dX10_benchOf_42 : decode cX10_benchOf 42 = .ok (.getfield 7, 3) := by decide +kernel
theorem dX10_benchOf_45 : decode cX10_benchOf 45 = .ok (.bipush 20, 2) := by decide +kernel
theorem dX10_benchOf_47 : decode cX10_benchOf 47 = .ok (.laload, 1) := by decide +kernel
theorem dX10_benchOf_48 : decode cX10_benchOf 48 = .ok (.l2i, 1) := by decide +kernel
theorem dX10_benchOf_49 : decode cX10_benchOf 49 = .ok (.ireturn, 1) := by decide +kernel
theorem dX10_benchOf_50 : decode cX10_benchOf 50 = .ok (.aload_n 0, 1) := by decide +kernel
theorem dX10_benchOf_51 : decode cX10_benchOf 51 = .ok (.invokevirtual 164, 3) := by decide +kernel
theorem dX10_benchOf_54 : decode cX10_benchOf 54 = .ok (.ireturn, 1) := by decide +kernel
theorem dX10_benchOf_55 : decode cX10_benchOf 55 = .ok (.aload_n 0, 1) := by decide +kernel
theorem dX10_benchOf_56 : decode cX10_benchOf 56 = .ok (.getfield 7, 3) := by decide +kernel
theorem dX10_benchOf_59 : decode cX10_benchOf 59 = .ok (.bipush 17, 2) := by decide +kernel
theorem dX10_benchOf_61 : decode cX10_benchOf 61 = .ok (.iload_n 1, 1) := by decide +kernel
theorem dX10_benchOf_62 : decode cX10_benchOf 62 = .ok (.iadd, 1) := by decide +kernel
theorem dX10_benchOf_63 : decode cX10_benchOf 63 = .ok (.iconst 2, 1) := by decide +kernel
theorem dX10_benchOf_64 : decode cX10_benchOf 64 = .ok (.isub, 1) := by decide +kernel
theorem dX10_benchOf_65 : decode cX10_benchOf 65 = .ok (.laload, 1) := by decide +kernel
theorem dX10_benchOf_66 : decode cX10_benchOf 66 = .ok (.l2i, 1) := by decide +kernel
theorem dX10_benchOf_67 : decode cX10_benchOf 67 = .ok (.ireturn, 1) := by decide +kernel
theorem dX10_bench_0 : decode cX10_bench 0 = .ok (.aload_n 0, 1) := by decide +kernel
theorem dX10_bench_1 : decode cX10_bench 1 = .ok (.iload_n 1, 1) := by decide +kernel
theorem dX10_bench_2 : decode cX10_bench 2 = .ok (.i2l, 1) := by decide +kernel
theorem dX10_bench_3 : decode cX10_bench 3 = .ok (.lconst 0, 1) := by decide +kernel
theorem dX10_bench_4 : decode cX10_bench 4 = .ok (.ldc2_w 188, 3) := by decide +kernel
theorem dX10_bench_7 : decode cX10_bench 7 = .ok (.invokestatic 59, 3) := by decide +kernel
theorem dX10_bench_10 : decode cX10_bench 10 = .ok (.ifCond .eq 7, 3) := by decide +kernel
theorem dX10_bench_13 : decode cX10_bench 13 = .ok (.iconst 0, 1) := by decide +kernel
theorem dX10_bench_14 : decode cX10_bench 14 = .ok (.goto 4, 3) := by decide +kernel
theorem dX10_bench_17 : decode cX10_bench 17 = .ok (.iconst 1, 1) := by decide +kernel
theorem dX10_bench_18 : decode cX10_bench 18 = .ok (.putfield 48, 3) := by decide +kernel
theorem dX10_bench_21 : decode cX10_bench 21 = .ok (.aload_n 0, 1) := by decide +kernel
theorem dX10_bench_22 : decode cX10_bench 22 = .ok (.getfield 48, 3) := by decide +kernel
theorem dX10_bench_25 : decode cX10_bench 25 = .ok (.ifCond .eq 7, 3) := by decide +kernel
theorem dX10_bench_28 : decode cX10_bench 28 = .ok (.iconst 0, 1) := by decide +kernel
theorem dX10_bench_29 : decode cX10_bench 29 = .ok (.goto 8, 3) := by decide +kernel
theorem dX10_bench_32 : decode cX10_bench 32 = .ok (.aload_n 0, 1) := by decide +kernel
theorem dX10_bench_33 : decode cX10_bench 33 = .ok (.iload_n 1, 1) := by decide +kernel
theorem dX10_bench_34 : decode cX10_bench 34 = .ok (.invokevirtual 190, 3) := by decide +kernel
theorem dX10_bench_37 : decode cX10_bench 37 = .ok (.ireturn, 1) := by decide +kernel
theorem dX10_echo_0 : decode cX10_echo 0 = .ok (.aload_n 0, 1) := by decide +kernel
theorem dX10_echo_1 : decode cX10_echo 1 = .ok (.iload_n 1, 1) := by decide +kernel
theorem dX10_echo_2 : decode cX10_echo 2 = .ok (.i2l, 1) := by decide +kernel
theorem dX10_echo_3 : decode cX10_echo 3 = .ok (.lconst 0, 1) := by decide +kernel
theorem dX10_echo_4 : decode cX10_echo 4 = .ok (.aload_n 0, 1) := by decide +kernel
theorem dX10_echo_5 : decode cX10_echo 5 = .ok (.invokevirtual 110, 3) := by decide +kernel
theorem dX10_echo_8 : decode cX10_echo 8 = .ok (.i2l, 1) := by decide +kernel
theorem dX10_echo_9 : decode cX10_echo 9 = .ok (.invokestatic 59, 3) := by decide +kernel
theorem dX10_echo_12 : decode cX10_echo 12 = .ok (.ifCond .eq 7, 3) := by decide +kernel
theorem dX10_echo_15 : decode cX10_echo 15 = .ok (.iconst 0, 1) := by decide +kernel
theorem dX10_echo_16 : decode cX10_echo 16 = .ok (.goto 4, 3) := by decide +kernel
theorem dX10_echo_19 : decode cX10_echo 19 = .ok (.iconst 1, 1) := by decide +kernel
theorem dX10_echo_20 : decode cX10_echo 20 = .ok (.putfield 48, 3) := by decide +kernel
theorem dX10_echo_23 : decode cX10_echo 23 = .ok (.aload_n 0, 1) := by decide +kernel
theorem dX10_echo_24 : decode cX10_echo 24 = .ok (.getfield 48, 3) := by decide +kernel
theorem dX10_echo_27 : decode cX10_echo 27 = .ok (.ifCond .eq 5, 3) := by decide +kernel
theorem dX10_echo_30 : decode cX10_echo 30 = .ok (.lconst 0, 1) := by decide +kernel
theorem dX10_echo_31 : decode cX10_echo 31 = .ok (.lreturn, 1) := by decide +kernel
theorem dX10_echo_32 : decode cX10_echo 32 = .ok (.aload_n 0, 1) := by decide +kernel
theorem dX10_echo_33 : decode cX10_echo 33 = .ok (.invokevirtual 193, 3) := by decide +kernel
theorem dX10_echo_36 : decode cX10_echo 36 = .ok (.aload_n 0, 1) := by decide +kernel
theorem dX10_echo_37 : decode cX10_echo 37 = .ok (.getfield 38, 3) := by decide +kernel
theorem dX10_echo_40 : decode cX10_echo 40 = .ok (.iload_n 1, 1) := by decide +kernel
theorem dX10_echo_41 : decode cX10_echo 41 = .ok (.laload, 1) := by decide +kernel
theorem dX10_echo_42 : decode cX10_echo 42 = .ok (.lreturn, 1) := by decide +kernel
theorem dX10_echoTime_0 : decode cX10_echoTime 0 = .ok (.aload_n 0, 1) := by decide +kernel
theorem dX10_echoTime_1 : decode cX10_echoTime 1 = .ok (.iload_n 1, 1) := by decide +kernel
theorem dX10_echoTime_2 : decode cX10_echoTime 2 = .ok (.ifCond .ge 7, 3) := by decide +kernel
theorem dX10_echoTime_5 : decode cX10_echoTime 5 = .ok (.iconst 1, 1) := by decide +kernel
theorem dX10_echoTime_6 : decode cX10_echoTime 6 = .ok (.goto 4, 3) := by decide +kernel
theorem dX10_echoTime_9 : decode cX10_echoTime 9 = .ok (.iconst 0, 1) := by decide +kernel
theorem dX10_echoTime_10 : decode cX10_echoTime 10 = .ok (.putfield 48, 3) := by decide +kernel
theorem dX10_echoTime_13 : decode cX10_echoTime 13 = .ok (.aload_n 0, 1) := by decide +kernel
theorem dX10_echoTime_14 : decode cX10_echoTime 14 = .ok (.getfield 48, 3) := by decide +kernel
theorem dX10_echoTime_17 : decode cX10_echoTime 17 = .ok (.ifCond .eq 5, 3) := by decide +kernel
theorem dX10_echoTime_20 : decode cX10_echoTime 20 = .ok (.iconst 0, 1) := by decide +kernel
theorem dX10_echoTime_21 : decode cX10_echoTime 21 = .ok (.ireturn, 1) := by decide +kernel
theorem dX10_echoTime_22 : decode cX10_echoTime 22 = .ok (.aload_n 0, 1) := by decide +kernel
theorem dX10_echoTime_23 : decode cX10_echoTime 23 = .ok (.invokevirtual 193, 3) := by decide +kernel
theorem dX10_echoTime_26 : decode cX10_echoTime 26 = .ok (.iload_n 1, 1) := by decide +kernel
theorem dX10_echoTime_27 : decode cX10_echoTime 27 = .ok (.istore_n 2, 1) := by decide +kernel
theorem dX10_echoTime_28 : decode cX10_echoTime 28 = .ok (.iconst 0, 1) := by decide +kernel
theorem dX10_echoTime_29 : decode cX10_echoTime 29 = .ok (.istore_n 3, 1) := by decide +kernel
theorem dX10_echoTime_30 : decode cX10_echoTime 30 = .ok (.iload_n 3, 1) := by decide +kernel
theorem dX10_echoTime_31 : decode cX10_echoTime 31 = .ok (.sipush 201, 3) := by decide +kernel
theorem dX10_echoTime_34 : decode cX10_echoTime 34 = .ok (.if_icmp .ge 29, 3) := by decide +kernel
theorem dX10_echoTime_37 : decode cX10_echoTime 37 = .ok (.aload_n 0, 1) := by decide +kernel
theorem dX10_echoTime_38 : decode cX10_echoTime 38 = .ok (.getfield 38, 3) := by decide +kernel
theorem dX10_echoTime_41 : decode cX10_echoTime 41 = .ok (.iload_n 3, 1) := by decide +kernel
theorem dX10_echoTime_42 : decode cX10_echoTime 42 = .ok (.laload, 1) := by decide +kernel
theorem dX10_echoTime_43 : decode cX10_echoTime 43 = .ok (.lconst 0, 1) := by decide +kernel
theorem dX10_echoTime_44 : decode cX10_echoTime 44 = .ok (.lcmp, 1) := by decide +kernel
theorem dX10_echoTime_45 : decode cX10_echoTime 45 = .ok (.ifCond .le 12, 3) := by decide +kernel
theorem dX10_echoTime_48 : decode cX10_echoTime 48 = .ok (.iload_n 2, 1) := by decide +kernel
theorem dX10_echoTime_49 : decode cX10_echoTime 49 = .ok (.ifCond .ne 5, 3) := by decide +kernel
theorem dX10_echoTime_52 : decode cX10_echoTime 52 = .ok (.iload_n 3, 1) := by decide +kernel
theorem dX10_echoTime_53 : decode cX10_echoTime 53 = .ok (.ireturn, 1) := by decide +kernel
theorem dX10_echoTime_54 : decode cX10_echoTime 54 = .ok (.iinc 2 (-1), 3) := by decide +kernel
theorem dX10_echoTime_57 : decode cX10_echoTime 57 = .ok (.iinc 3 1, 3) := by decide +kernel
theorem dX10_echoTime_60 : decode cX10_echoTime 60 = .ok (.goto (-30), 3) := by decide +kernel
theorem dX10_echoTime_63 : decode cX10_echoTime 63 = .ok (.iconst (-1), 1) := by decide +kernel
theorem dX10_echoTime_64 : decode cX10_echoTime 64 = .ok (.ireturn, 1) := by decide +kernel
theorem dX10_totalOf_0 : decode cX10_totalOf 0 = .ok (.lconst 0, 1) := by decide +kernel
theorem dX10_totalOf_1 : decode cX10_totalOf 1 = .ok (.lstore_n 2, 1) := by decide +kernel
theorem dX10_totalOf_2 : decode cX10_totalOf 2 = .ok (.lconst 0, 1) := by decide +kernel
theorem dX10_totalOf_3 : decode cX10_totalOf 3 = .ok (.lstore 4, 2) := by decide +kernel
theorem dX10_totalOf_5 : decode cX10_totalOf 5 = .ok (.iconst 0, 1) := by decide +kernel
theorem dX10_totalOf_6 : decode cX10_totalOf 6 = .ok (.istore 6, 2) := by decide +kernel
theorem dX10_totalOf_8 : decode cX10_totalOf 8 = .ok (.iconst 0, 1) := by decide +kernel
theorem dX10_totalOf_9 : decode cX10_totalOf 9 = .ok (.istore 7, 2) := by decide +kernel
theorem dX10_totalOf_11 : decode cX10_totalOf 11 = .ok (.iload 7, 2) := by decide +kernel
theorem dX10_totalOf_13 : decode cX10_totalOf 13 = .ok (.sipush 201, 3) := by decide +kernel
theorem dX10_totalOf_16 : decode cX10_totalOf 16 = .ok (.if_icmp .ge 68, 3) := by decide +kernel
theorem dX10_totalOf_19 : decode cX10_totalOf 19 = .ok (.lload_n 2, 1) := by decide +kernel
theorem dX10_totalOf_20 : decode cX10_totalOf 20 = .ok (.aload_n 0, 1) := by decide +kernel
theorem dX10_totalOf_21 : decode cX10_totalOf 21 = .ok (.getfield 38, 3) := by decide +kernel
theorem dX10_totalOf_24 : decode cX10_totalOf 24 = .ok (.iload 7, 2) := by decide +kernel
theorem dX10_totalOf_26 : decode cX10_totalOf 26 = .ok (.laload, 1) := by decide +kernel
theorem dX10_totalOf_27 : decode cX10_totalOf 27 = .ok (.ladd, 1) := by decide +kernel
theorem dX10_totalOf_28 : decode cX10_totalOf 28 = .ok (.lstore_n 2, 1) := by decide +kernel
theorem dX10_totalOf_29 : decode cX10_totalOf 29 = .ok (.aload_n 0, 1) := by decide +kernel
theorem dX10_totalOf_30 : decode cX10_totalOf 30 = .ok (.getfield 38, 3) := by decide +kernel
theorem dX10_totalOf_33 : decode cX10_totalOf 33 = .ok (.iload 7, 2) := by decide +kernel
theorem dX10_totalOf_35 : decode cX10_totalOf 35 = .ok (.laload, 1) := by decide +kernel
theorem dX10_totalOf_36 : decode cX10_totalOf 36 = .ok (.lload 4, 2) := by decide +kernel
theorem dX10_totalOf_38 : decode cX10_totalOf 38 = .ok (.lcmp, 1) := by decide +kernel
theorem dX10_totalOf_39 : decode cX10_totalOf 39 = .ok (.ifCond .le 13, 3) := by decide +kernel
theorem dX10_totalOf_42 : decode cX10_totalOf 42 = .ok (.aload_n 0, 1) := by decide +kernel
theorem dX10_totalOf_43 : decode cX10_totalOf 43 = .ok (.getfield 38, 3) := by decide +kernel
theorem dX10_totalOf_46 : decode cX10_totalOf 46 = .ok (.iload 7, 2) := by decide +kernel
theorem dX10_totalOf_48 : decode cX10_totalOf 48 = .ok (.laload, 1) := by decide +kernel
theorem dX10_totalOf_49 : decode cX10_totalOf 49 = .ok (.goto 5, 3) := by decide +kernel
theorem dX10_totalOf_52 : decode cX10_totalOf 52 = .ok (.lload 4, 2) := by decide +kernel
theorem dX10_totalOf_54 : decode cX10_totalOf 54 = .ok (.lstore 4, 2) := by decide +kernel
theorem dX10_totalOf_56 : decode cX10_totalOf 56 = .ok (.iload 6, 2) := by decide +kernel
theorem dX10_totalOf_58 : decode cX10_totalOf 58 = .ok (.aload_n 0, 1) := by decide +kernel
theorem dX10_totalOf_59 : decode cX10_totalOf 59 = .ok (.getfield 38, 3) := by decide +kernel
theorem dX10_totalOf_62 : decode cX10_totalOf 62 = .ok (.iload 7, 2) := by decide +kernel
theorem dX10_totalOf_64 : decode cX10_totalOf 64 = .ok (.laload, 1) := by decide +kernel
theorem dX10_totalOf_65 : decode cX10_totalOf 65 = .ok (.lconst 0, 1) := by decide +kernel
theorem dX10_totalOf_66 : decode cX10_totalOf 66 = .ok (.lcmp, 1) := by decide +kernel
theorem dX10_totalOf_67 : decode cX10_totalOf 67 = .ok (.ifCond .le 7, 3) := by decide +kernel
theorem dX10_totalOf_70 : decode cX10_totalOf 70 = .ok (.iconst 1, 1) := by decide +kernel
theorem dX10_totalOf_71 : decode cX10_totalOf 71 = .ok (.goto 4, 3) := by decide +kernel
theorem dX10_totalOf_74 : decode cX10_totalOf 74 = .ok (.iconst 0, 1) := by decide +kernel
theorem dX10_totalOf_75 : decode cX10_totalOf 75 = .ok (.iadd, 1) := by decide +kernel
theorem dX10_totalOf_76 : decode cX10_totalOf 76 = .ok (.istore 6, 2) := by decide +kernel
theorem dX10_totalOf_78 : decode cX10_totalOf 78 = .ok (.iinc 7 1, 3) := by decide +kernel
theorem dX10_totalOf_81 : decode cX10_totalOf 81 = .ok (.goto (-70), 3) := by decide +kernel
theorem dX10_totalOf_84 : decode cX10_totalOf 84 = .ok (.lconst 0, 1) := by decide +kernel
theorem dX10_totalOf_85 : decode cX10_totalOf 85 = .ok (.lstore 7, 2) := by decide +kernel
theorem dX10_totalOf_87 : decode cX10_totalOf 87 = .ok (.iconst 0, 1) := by decide +kernel
theorem dX10_totalOf_88 : decode cX10_totalOf 88 = .ok (.istore 9, 2) := by decide +kernel
theorem dX10_totalOf_90 : decode cX10_totalOf 90 = .ok (.iload 9, 2) := by decide +kernel
theorem dX10_totalOf_92 : decode cX10_totalOf 92 = .ok (.aload_n 0, 1) := by decide +kernel
theorem dX10_totalOf_93 : decode cX10_totalOf 93 = .ok (.getfield 84, 3) := by decide +kernel
theorem dX10_totalOf_96 : decode cX10_totalOf 96 = .ok (.if_icmp .ge 39, 3) := by decide +kernel
theorem dX10_totalOf_99 : decode cX10_totalOf 99 = .ok (.lload 7, 2) := by decide +kernel
theorem dX10_totalOf_101 : decode cX10_totalOf 101 = .ok (.aload_n 0, 1) := by decide +kernel
theorem dX10_totalOf_102 : decode cX10_totalOf 102 = .ok (.getfield 26, 3) := by decide +kernel
theorem dX10_totalOf_105 : decode cX10_totalOf 105 = .ok (.iload 9, 2) := by decide +kernel
theorem dX10_totalOf_107 : decode cX10_totalOf 107 = .ok (.iaload, 1) := by decide +kernel
theorem dX10_totalOf_108 : decode cX10_totalOf 108 = .ok (.aload_n 0, 1) := by decide +kernel
theorem dX10_totalOf_109 : decode cX10_totalOf 109 = .ok (.invokevirtual 110, 3) := by decide +kernel
theorem dX10_totalOf_112 : decode cX10_totalOf 112 = .ok (.if_icmp .gt 13, 3) := by decide +kernel
theorem dX10_totalOf_115 : decode cX10_totalOf 115 = .ok (.aload_n 0, 1) := by decide +kernel
theorem dX10_totalOf_116 : decode cX10_totalOf 116 = .ok (.getfield 29, 3) := by decide +kernel
theorem dX10_totalOf_119 : decode cX10_totalOf 119 = .ok (.iload 9, 2) := by decide +kernel
theorem dX10_totalOf_121 : decode cX10_totalOf 121 = .ok (.laload, 1) := by decide +kernel
theorem dX10_totalOf_122 : decode cX10_totalOf 122 = .ok (.goto 4, 3) := by decide +kernel
theorem dX10_totalOf_125 : decode cX10_totalOf 125 = .ok (.lconst 0, 1) := by decide +kernel
theorem dX10_totalOf_126 : decode cX10_totalOf 126 = .ok (.ladd, 1) := by decide +kernel
theorem dX10_totalOf_127 : decode cX10_totalOf 127 = .ok (.lstore 7, 2) := by decide +kernel
theorem dX10_totalOf_129 : decode cX10_totalOf 129 = .ok (.iinc 9 1, 3) := by decide +kernel
theorem dX10_totalOf_132 : decode cX10_totalOf 132 = .ok (.goto (-42), 3) := by decide +kernel
theorem dX10_totalOf_135 : decode cX10_totalOf 135 = .ok (.iload_n 1, 1) := by decide +kernel
theorem dX10_totalOf_136 : decode cX10_totalOf 136 = .ok (.tableswitch 84 0 7 #[48, 51, 53, 58, 63, 68, 74, 80], 48) := by decide +kernel
theorem dX10_totalOf_184 : decode cX10_totalOf 184 = .ok (.lload 7, 2) := by decide +kernel
theorem dX10_totalOf_186 : decode cX10_totalOf 186 = .ok (.lreturn, 1) := by decide +kernel
theorem dX10_totalOf_187 : decode cX10_totalOf 187 = .ok (.lload_n 2, 1) := by decide +kernel
theorem dX10_totalOf_188 : decode cX10_totalOf 188 = .ok (.lreturn, 1) := by decide +kernel
theorem dX10_totalOf_189 : decode cX10_totalOf 189 = .ok (.aload_n 0, 1) := by decide +kernel
theorem dX10_totalOf_190 : decode cX10_totalOf 190 = .ok (.getfield 107, 3) := by decide +kernel
theorem dX10_totalOf_193 : decode cX10_totalOf 193 = .ok (.lreturn, 1) := by decide +kernel
theorem dX10_totalOf_194 : decode cX10_totalOf 194 = .ok (.aload_n 0, 1) := by decide +kernel
theorem dX10_totalOf_195 : decode cX10_totalOf 195 = .ok (.getfield 76, 3) := by decide +kernel
theorem dX10_totalOf_198 : decode cX10_totalOf 198 = .ok (.lreturn, 1) := by decide +kernel
theorem dX10_totalOf_199 : decode cX10_totalOf 199 = .ok (.aload_n 0, 1) := by decide +kernel
theorem dX10_totalOf_200 : decode cX10_totalOf 200 = .ok (.invokevirtual 196, 3) := by decide +kernel
theorem dX10_totalOf_203 : decode cX10_totalOf 203 = .ok (.lreturn, 1) := by decide +kernel
theorem dX10_totalOf_204 : decode cX10_totalOf 204 = .ok (.aload_n 0, 1) := by decide +kernel
theorem dX10_totalOf_205 : decode cX10_totalOf 205 = .ok (.getfield 70, 3) := by decide +kernel
theorem dX10_totalOf_208 : decode cX10_totalOf 208 = .ok (.i2l, 1) := by decide +kernel
theorem dX10_totalOf_209 : decode cX10_totalOf 209 = .ok (.lreturn, 1) := by decide +kernel
theorem dX10_totalOf_210 : decode cX10_totalOf 210 = .ok (.aload_n 0, 1) := by decide +kernel
theorem dX10_totalOf_211 : decode cX10_totalOf 211 = .ok (.getfield 73, 3) := by decide +kernel
theorem dX10_totalOf_214 : decode cX10_totalOf 214 = .ok (.i2l, 1) := by decide +kernel
theorem dX10_totalOf_215 : decode cX10_totalOf 215 = .ok (.lreturn, 1) := by decide +kernel
theorem dX10_totalOf_216 : decode cX10_totalOf 216 = .ok (.iload 6, 2) := by decide +kernel
theorem dX10_totalOf_218 : decode cX10_totalOf 218 = .ok (.i2l, 1) := by decide +kernel
theorem dX10_totalOf_219 : decode cX10_totalOf 219 = .ok (.lreturn, 1) := by decide +kernel
theorem dX10_totalOf_220 : decode cX10_totalOf 220 = .ok (.lload 4, 2) := by decide +kernel
theorem dX10_totalOf_222 : decode cX10_totalOf 222 = .ok (.lreturn, 1) := by decide +kernel
theorem dX10_total_0 : decode cX10_total 0 = .ok (.aload_n 0, 1) := by decide +kernel
theorem dX10_total_1 : decode cX10_total 1 = .ok (.iload_n 1, 1) := by decide +kernel
theorem dX10_total_2 : decode cX10_total 2 = .ok (.i2l, 1) := by decide +kernel
theorem dX10_total_3 : decode cX10_total 3 = .ok (.lconst 0, 1) := by decide +kernel
theorem dX10_total_4 : decode cX10_total 4 = .ok (.ldc2_w 199, 3) := by decide +kernel
theorem dX10_total_7 : decode cX10_total 7 = .ok (.invokestatic 59, 3) := by decide +kernel
theorem dX10_total_10 : decode cX10_total 10 = .ok (.ifCond .eq 7, 3) := by decide +kernel
theorem dX10_total_13 : decode cX10_total 13 = .ok (.iconst 0, 1) := by decide +kernel
theorem dX10_total_14 : decode cX10_total 14 = .ok (.goto 4, 3) := by decide +kernel
theorem dX10_total_17 : decode cX10_total 17 = .ok (.iconst 1, 1) := by decide +kernel
theorem dX10_total_18 : decode cX10_total 18 = .ok (.putfield 48, 3) := by decide +kernel
theorem dX10_total_21 : decode cX10_total 21 = .ok (.aload_n 0, 1) := by decide +kernel
theorem dX10_total_22 : decode cX10_total 22 = .ok (.getfield 48, 3) := by decide +kernel
theorem dX10_total_25 : decode cX10_total 25 = .ok (.ifCond .eq 5, 3) := by decide +kernel
theorem dX10_total_28 : decode cX10_total 28 = .ok (.lconst 0, 1) := by decide +kernel
theorem dX10_total_29 : decode cX10_total 29 = .ok (.lreturn, 1) := by decide +kernel
theorem dX10_total_30 : decode cX10_total 30 = .ok (.aload_n 0, 1) := by decide +kernel
theorem dX10_total_31 : decode cX10_total 31 = .ok (.invokevirtual 193, 3) := by decide +kernel
theorem dX10_total_34 : decode cX10_total 34 = .ok (.aload_n 0, 1) := by decide +kernel
theorem dX10_total_35 : decode cX10_total 35 = .ok (.iload_n 1, 1) := by decide +kernel
theorem dX10_total_36 : decode cX10_total 36 = .ok (.invokevirtual 201, 3) := by decide +kernel
theorem dX10_total_39 : decode cX10_total 39 = .ok (.lreturn, 1) := by decide +kernel
theorem dX10_arrival_0 : decode cX10_arrival 0 = .ok (.aload_n 0, 1) := by decide +kernel
theorem dX10_arrival_1 : decode cX10_arrival 1 = .ok (.iload_n 1, 1) := by decide +kernel
theorem dX10_arrival_2 : decode cX10_arrival 2 = .ok (.i2l, 1) := by decide +kernel
theorem dX10_arrival_3 : decode cX10_arrival 3 = .ok (.lconst 0, 1) := by decide +kernel
theorem dX10_arrival_4 : decode cX10_arrival 4 = .ok (.aload_n 0, 1) := by decide +kernel
theorem dX10_arrival_5 : decode cX10_arrival 5 = .ok (.invokevirtual 55, 3) := by decide +kernel
theorem dX10_arrival_8 : decode cX10_arrival 8 = .ok (.i2l, 1) := by decide +kernel
theorem dX10_arrival_9 : decode cX10_arrival 9 = .ok (.invokestatic 59, 3) := by decide +kernel
theorem dX10_arrival_12 : decode cX10_arrival 12 = .ok (.ifCond .ne 7, 3) := by decide +kernel
theorem dX10_arrival_15 : decode cX10_arrival 15 = .ok (.iconst 1, 1) := by decide +kernel
theorem dX10_arrival_16 : decode cX10_arrival 16 = .ok (.goto 22, 3) := by decide +kernel
theorem dX10_arrival_19 : decode cX10_arrival 19 = .ok (.iload_n 2, 1) := by decide +kernel
theorem dX10_arrival_20 : decode cX10_arrival 20 = .ok (.i2l, 1) := by decide +kernel
theorem dX10_arrival_21 : decode cX10_arrival 21 = .ok (.lconst 0, 1) := by decide +kernel
theorem dX10_arrival_22 : decode cX10_arrival 22 = .ok (.aload_n 0, 1) := by decide +kernel
theorem dX10_arrival_23 : decode cX10_arrival 23 = .ok (.invokevirtual 110, 3) := by decide +kernel
theorem dX10_arrival_26 : decode cX10_arrival 26 = .ok (.i2l, 1) := by decide +kernel
theorem dX10_arrival_27 : decode cX10_arrival 27 = .ok (.invokestatic 59, 3) := by decide +kernel
theorem dX10_arrival_30 : decode cX10_arrival 30 = .ok (.ifCond .eq 7, 3) := by decide +kernel
theorem dX10_arrival_33 : decode cX10_arrival 33 = .ok (.iconst 0, 1) := by decide +kernel
theorem dX10_arrival_34 : decode cX10_arrival 34 = .ok (.goto 4, 3) := by decide +kernel
theorem dX10_arrival_37 : decode cX10_arrival 37 = .ok (.iconst 2, 1) := by decide +kernel
theorem dX10_arrival_38 : decode cX10_arrival 38 = .ok (.putfield 48, 3) := by decide +kernel
theorem dX10_arrival_41 : decode cX10_arrival 41 = .ok (.aload_n 0, 1) := by decide +kernel
theorem dX10_arrival_42 : decode cX10_arrival 42 = .ok (.getfield 48, 3) := by decide +kernel
theorem dX10_arrival_45 : decode cX10_arrival 45 = .ok (.ifCond .eq 5, 3) := by decide +kernel
theorem dX10_arrival_48 : decode cX10_arrival 48 = .ok (.lconst 0, 1) := by decide +kernel
theorem dX10_arrival_49 : decode cX10_arrival 49 = .ok (.lreturn, 1) := by decide +kernel
theorem dX10_arrival_50 : decode cX10_arrival 50 = .ok (.aload_n 0, 1) := by decide +kernel
theorem dX10_arrival_51 : decode cX10_arrival 51 = .ok (.invokevirtual 193, 3) := by decide +kernel
theorem dX10_arrival_54 : decode cX10_arrival 54 = .ok (.aload_n 0, 1) := by decide +kernel
theorem dX10_arrival_55 : decode cX10_arrival 55 = .ok (.iload_n 1, 1) := by decide +kernel
theorem dX10_arrival_56 : decode cX10_arrival 56 = .ok (.iload_n 2, 1) := by decide +kernel
theorem dX10_arrival_57 : decode cX10_arrival 57 = .ok (.iload_n 3, 1) := by decide +kernel
theorem dX10_arrival_58 : decode cX10_arrival 58 = .ok (.invokevirtual 91, 3) := by decide +kernel
theorem dX10_arrival_61 : decode cX10_arrival 61 = .ok (.lreturn, 1) := by decide +kernel
theorem dX10_digits_0 : decode cX10_digits 0 = .ok (.iconst 1, 1) := by decide +kernel
theorem dX10_digits_1 : decode cX10_digits 1 = .ok (.istore_n 2, 1) := by decide +kernel
theorem dX10_digits_2 : decode cX10_digits 2 = .ok (.lload_n 0, 1) := by decide +kernel
theorem dX10_digits_3 : decode cX10_digits 3 = .ok (.ldc2_w 205, 3) := by decide +kernel
theorem dX10_digits_6 : decode cX10_digits 6 = .ok (.ldiv, 1) := by decide +kernel
theorem dX10_digits_7 : decode cX10_digits 7 = .ok (.lstore_n 3, 1) := by decide +kernel
theorem dX10_digits_8 : decode cX10_digits 8 = .ok (.lload_n 3, 1) := by decide +kernel
theorem dX10_digits_9 : decode cX10_digits 9 = .ok (.lconst 0, 1) := by decide +kernel
theorem dX10_digits_10 : decode cX10_digits 10 = .ok (.lcmp, 1) := by decide +kernel
theorem dX10_digits_11 : decode cX10_digits 11 = .ok (.ifCond .le 15, 3) := by decide +kernel
theorem dX10_digits_14 : decode cX10_digits 14 = .ok (.iinc 2 1, 3) := by decide +kernel
theorem dX10_digits_17 : decode cX10_digits 17 = .ok (.lload_n 3, 1) := by decide +kernel
theorem dX10_digits_18 : decode cX10_digits 18 = .ok (.ldc2_w 205, 3) := by decide +kernel
theorem dX10_digits_21 : decode cX10_digits 21 = .ok (.ldiv, 1) := by decide +kernel
theorem dX10_digits_22 : decode cX10_digits 22 = .ok (.lstore_n 3, 1) := by decide +kernel
theorem dX10_digits_23 : decode cX10_digits 23 = .ok (.goto (-15), 3) := by decide +kernel
theorem dX10_digits_26 : decode cX10_digits 26 = .ok (.iload_n 2, 1) := by decide +kernel
theorem dX10_digits_27 : decode cX10_digits 27 = .ok (.ireturn, 1) := by decide +kernel
theorem dX10_digitOf_0 : decode cX10_digitOf 0 = .ok (.lload_n 0, 1) := by decide +kernel
theorem dX10_digitOf_1 : decode cX10_digitOf 1 = .ok (.lstore_n 3, 1) := by decide +kernel
theorem dX10_digitOf_2 : decode cX10_digitOf 2 = .ok (.lload_n 0, 1) := by decide +kernel
theorem dX10_digitOf_3 : decode cX10_digitOf 3 = .ok (.invokestatic 207, 3) := by decide +kernel
theorem dX10_digitOf_6 : decode cX10_digitOf 6 = .ok (.iconst 1, 1) := by decide +kernel
theorem dX10_digitOf_7 : decode cX10_digitOf 7 = .ok (.isub, 1) := by decide +kernel
theorem dX10_digitOf_8 : decode cX10_digitOf 8 = .ok (.istore 5, 2) := by decide +kernel
theorem dX10_digitOf_10 : decode cX10_digitOf 10 = .ok (.iload 5, 2) := by decide +kernel
theorem dX10_digitOf_12 : decode cX10_digitOf 12 = .ok (.iload_n 2, 1) := by decide +kernel
