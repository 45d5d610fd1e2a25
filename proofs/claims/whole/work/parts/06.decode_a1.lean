theorem dX10_digitOf_13 : decode cX10_digitOf 13 = .ok (.if_icmp .le 15, 3) := by decide +kernel
theorem dX10_digitOf_16 : decode cX10_digitOf 16 = .ok (.lload_n 3, 1) := by decide +kernel
theorem dX10_digitOf_17 : decode cX10_digitOf 17 = .ok (.ldc2_w 205, 3) := by decide +kernel
theorem dX10_digitOf_20 : decode cX10_digitOf 20 = .ok (.ldiv, 1) := by decide +kernel
theorem dX10_digitOf_21 : decode cX10_digitOf 21 = .ok (.lstore_n 3, 1) := by decide +kernel
theorem dX10_digitOf_22 : decode cX10_digitOf 22 = .ok (.iinc 5 (-1), 3) := by decide +kernel
theorem dX10_digitOf_25 : decode cX10_digitOf 25 = .ok (.goto (-15), 3) := by decide +kernel
theorem dX10_digitOf_28 : decode cX10_digitOf 28 = .ok (.lload_n 3, 1) := by decide +kernel
theorem dX10_digitOf_29 : decode cX10_digitOf 29 = .ok (.ldc2_w 205, 3) := by decide +kernel
theorem dX10_digitOf_32 : decode cX10_digitOf 32 = .ok (.lrem, 1) := by decide +kernel
theorem dX10_digitOf_33 : decode cX10_digitOf 33 = .ok (.l2i, 1) := by decide +kernel
theorem dX10_digitOf_34 : decode cX10_digitOf 34 = .ok (.bipush 48, 2) := by decide +kernel
theorem dX10_digitOf_36 : decode cX10_digitOf 36 = .ok (.iadd, 1) := by decide +kernel
theorem dX10_digitOf_37 : decode cX10_digitOf 37 = .ok (.ireturn, 1) := by decide +kernel
theorem dX10_echoByte_0 : decode cX10_echoByte 0 = .ok (.aload_n 0, 1) := by decide +kernel
theorem dX10_echoByte_1 : decode cX10_echoByte 1 = .ok (.iload_n 1, 1) := by decide +kernel
theorem dX10_echoByte_2 : decode cX10_echoByte 2 = .ok (.ifCond .ge 7, 3) := by decide +kernel
theorem dX10_echoByte_5 : decode cX10_echoByte 5 = .ok (.iconst 1, 1) := by decide +kernel
theorem dX10_echoByte_6 : decode cX10_echoByte 6 = .ok (.goto 4, 3) := by decide +kernel
theorem dX10_echoByte_9 : decode cX10_echoByte 9 = .ok (.iconst 0, 1) := by decide +kernel
theorem dX10_echoByte_10 : decode cX10_echoByte 10 = .ok (.putfield 48, 3) := by decide +kernel
theorem dX10_echoByte_13 : decode cX10_echoByte 13 = .ok (.aload_n 0, 1) := by decide +kernel
theorem dX10_echoByte_14 : decode cX10_echoByte 14 = .ok (.getfield 48, 3) := by decide +kernel
theorem dX10_echoByte_17 : decode cX10_echoByte 17 = .ok (.ifCond .eq 5, 3) := by decide +kernel
theorem dX10_echoByte_20 : decode cX10_echoByte 20 = .ok (.iconst 0, 1) := by decide +kernel
theorem dX10_echoByte_21 : decode cX10_echoByte 21 = .ok (.ireturn, 1) := by decide +kernel
theorem dX10_echoByte_22 : decode cX10_echoByte 22 = .ok (.aload_n 0, 1) := by decide +kernel
theorem dX10_echoByte_23 : decode cX10_echoByte 23 = .ok (.invokevirtual 193, 3) := by decide +kernel
theorem dX10_echoByte_26 : decode cX10_echoByte 26 = .ok (.iload_n 1, 1) := by decide +kernel
theorem dX10_echoByte_27 : decode cX10_echoByte 27 = .ok (.istore_n 2, 1) := by decide +kernel
theorem dX10_echoByte_28 : decode cX10_echoByte 28 = .ok (.iconst 0, 1) := by decide +kernel
theorem dX10_echoByte_29 : decode cX10_echoByte 29 = .ok (.istore_n 3, 1) := by decide +kernel
theorem dX10_echoByte_30 : decode cX10_echoByte 30 = .ok (.iload_n 3, 1) := by decide +kernel
theorem dX10_echoByte_31 : decode cX10_echoByte 31 = .ok (.sipush 201, 3) := by decide +kernel
theorem dX10_echoByte_34 : decode cX10_echoByte 34 = .ok (.if_icmp .ge 111, 3) := by decide +kernel
theorem dX10_echoByte_37 : decode cX10_echoByte 37 = .ok (.aload_n 0, 1) := by decide +kernel
theorem dX10_echoByte_38 : decode cX10_echoByte 38 = .ok (.getfield 38, 3) := by decide +kernel
theorem dX10_echoByte_41 : decode cX10_echoByte 41 = .ok (.iload_n 3, 1) := by decide +kernel
theorem dX10_echoByte_42 : decode cX10_echoByte 42 = .ok (.laload, 1) := by decide +kernel
theorem dX10_echoByte_43 : decode cX10_echoByte 43 = .ok (.lconst 0, 1) := by decide +kernel
theorem dX10_echoByte_44 : decode cX10_echoByte 44 = .ok (.lcmp, 1) := by decide +kernel
theorem dX10_echoByte_45 : decode cX10_echoByte 45 = .ok (.ifCond .le 94, 3) := by decide +kernel
theorem dX10_echoByte_48 : decode cX10_echoByte 48 = .ok (.iload_n 3, 1) := by decide +kernel
theorem dX10_echoByte_49 : decode cX10_echoByte 49 = .ok (.i2l, 1) := by decide +kernel
theorem dX10_echoByte_50 : decode cX10_echoByte 50 = .ok (.invokestatic 207, 3) := by decide +kernel
theorem dX10_echoByte_53 : decode cX10_echoByte 53 = .ok (.istore 4, 2) := by decide +kernel
theorem dX10_echoByte_55 : decode cX10_echoByte 55 = .ok (.aload_n 0, 1) := by decide +kernel
theorem dX10_echoByte_56 : decode cX10_echoByte 56 = .ok (.getfield 38, 3) := by decide +kernel
theorem dX10_echoByte_59 : decode cX10_echoByte 59 = .ok (.iload_n 3, 1) := by decide +kernel
theorem dX10_echoByte_60 : decode cX10_echoByte 60 = .ok (.laload, 1) := by decide +kernel
theorem dX10_echoByte_61 : decode cX10_echoByte 61 = .ok (.invokestatic 207, 3) := by decide +kernel
theorem dX10_echoByte_64 : decode cX10_echoByte 64 = .ok (.istore 5, 2) := by decide +kernel
theorem dX10_echoByte_66 : decode cX10_echoByte 66 = .ok (.iload_n 2, 1) := by decide +kernel
theorem dX10_echoByte_67 : decode cX10_echoByte 67 = .ok (.iload 4, 2) := by decide +kernel
theorem dX10_echoByte_69 : decode cX10_echoByte 69 = .ok (.if_icmp .ge 10, 3) := by decide +kernel
theorem dX10_echoByte_72 : decode cX10_echoByte 72 = .ok (.iload_n 3, 1) := by decide +kernel
theorem dX10_echoByte_73 : decode cX10_echoByte 73 = .ok (.i2l, 1) := by decide +kernel
theorem dX10_echoByte_74 : decode cX10_echoByte 74 = .ok (.iload_n 2, 1) := by decide +kernel
theorem dX10_echoByte_75 : decode cX10_echoByte 75 = .ok (.invokestatic 211, 3) := by decide +kernel
theorem dX10_echoByte_78 : decode cX10_echoByte 78 = .ok (.ireturn, 1) := by decide +kernel
theorem dX10_echoByte_79 : decode cX10_echoByte 79 = .ok (.iload_n 2, 1) := by decide +kernel
theorem dX10_echoByte_80 : decode cX10_echoByte 80 = .ok (.iload 4, 2) := by decide +kernel
theorem dX10_echoByte_82 : decode cX10_echoByte 82 = .ok (.if_icmp .ne 6, 3) := by decide +kernel
theorem dX10_echoByte_85 : decode cX10_echoByte 85 = .ok (.bipush 58, 2) := by decide +kernel
theorem dX10_echoByte_87 : decode cX10_echoByte 87 = .ok (.ireturn, 1) := by decide +kernel
theorem dX10_echoByte_88 : decode cX10_echoByte 88 = .ok (.iload_n 2, 1) := by decide +kernel
theorem dX10_echoByte_89 : decode cX10_echoByte 89 = .ok (.iload 4, 2) := by decide +kernel
theorem dX10_echoByte_91 : decode cX10_echoByte 91 = .ok (.iconst 1, 1) := by decide +kernel
theorem dX10_echoByte_92 : decode cX10_echoByte 92 = .ok (.iadd, 1) := by decide +kernel
theorem dX10_echoByte_93 : decode cX10_echoByte 93 = .ok (.iload 5, 2) := by decide +kernel
theorem dX10_echoByte_95 : decode cX10_echoByte 95 = .ok (.iadd, 1) := by decide +kernel
theorem dX10_echoByte_96 : decode cX10_echoByte 96 = .ok (.if_icmp .ge 19, 3) := by decide +kernel
theorem dX10_echoByte_99 : decode cX10_echoByte 99 = .ok (.aload_n 0, 1) := by decide +kernel
theorem dX10_echoByte_100 : decode cX10_echoByte 100 = .ok (.getfield 38, 3) := by decide +kernel
theorem dX10_echoByte_103 : decode cX10_echoByte 103 = .ok (.iload_n 3, 1) := by decide +kernel
theorem dX10_echoByte_104 : decode cX10_echoByte 104 = .ok (.laload, 1) := by decide +kernel
theorem dX10_echoByte_105 : decode cX10_echoByte 105 = .ok (.iload_n 2, 1) := by decide +kernel
theorem dX10_echoByte_106 : decode cX10_echoByte 106 = .ok (.iload 4, 2) := by decide +kernel
theorem dX10_echoByte_108 : decode cX10_echoByte 108 = .ok (.isub, 1) := by decide +kernel
theorem dX10_echoByte_109 : decode cX10_echoByte 109 = .ok (.iconst 1, 1) := by decide +kernel
theorem dX10_echoByte_110 : decode cX10_echoByte 110 = .ok (.isub, 1) := by decide +kernel
theorem dX10_echoByte_111 : decode cX10_echoByte 111 = .ok (.invokestatic 211, 3) := by decide +kernel
theorem dX10_echoByte_114 : decode cX10_echoByte 114 = .ok (.ireturn, 1) := by decide +kernel
theorem dX10_echoByte_115 : decode cX10_echoByte 115 = .ok (.iload_n 2, 1) := by decide +kernel
theorem dX10_echoByte_116 : decode cX10_echoByte 116 = .ok (.iload 4, 2) := by decide +kernel
theorem dX10_echoByte_118 : decode cX10_echoByte 118 = .ok (.iconst 1, 1) := by decide +kernel
theorem dX10_echoByte_119 : decode cX10_echoByte 119 = .ok (.iadd, 1) := by decide +kernel
theorem dX10_echoByte_120 : decode cX10_echoByte 120 = .ok (.iload 5, 2) := by decide +kernel
theorem dX10_echoByte_122 : decode cX10_echoByte 122 = .ok (.iadd, 1) := by decide +kernel
theorem dX10_echoByte_123 : decode cX10_echoByte 123 = .ok (.if_icmp .ne 6, 3) := by decide +kernel
theorem dX10_echoByte_126 : decode cX10_echoByte 126 = .ok (.bipush 59, 2) := by decide +kernel
theorem dX10_echoByte_128 : decode cX10_echoByte 128 = .ok (.ireturn, 1) := by decide +kernel
theorem dX10_echoByte_129 : decode cX10_echoByte 129 = .ok (.iload_n 2, 1) := by decide +kernel
theorem dX10_echoByte_130 : decode cX10_echoByte 130 = .ok (.iload 4, 2) := by decide +kernel
theorem dX10_echoByte_132 : decode cX10_echoByte 132 = .ok (.iload 5, 2) := by decide +kernel
theorem dX10_echoByte_134 : decode cX10_echoByte 134 = .ok (.iadd, 1) := by decide +kernel
theorem dX10_echoByte_135 : decode cX10_echoByte 135 = .ok (.iconst 2, 1) := by decide +kernel
theorem dX10_echoByte_136 : decode cX10_echoByte 136 = .ok (.iadd, 1) := by decide +kernel
theorem dX10_echoByte_137 : decode cX10_echoByte 137 = .ok (.isub, 1) := by decide +kernel
theorem dX10_echoByte_138 : decode cX10_echoByte 138 = .ok (.istore_n 2, 1) := by decide +kernel
theorem dX10_echoByte_139 : decode cX10_echoByte 139 = .ok (.iinc 3 1, 3) := by decide +kernel
theorem dX10_echoByte_142 : decode cX10_echoByte 142 = .ok (.goto (-112), 3) := by decide +kernel
theorem dX10_echoByte_145 : decode cX10_echoByte 145 = .ok (.iconst (-1), 1) := by decide +kernel
theorem dX10_echoByte_146 : decode cX10_echoByte 146 = .ok (.ireturn, 1) := by decide +kernel
theorem dX10_copies_0 : decode cX10_copies 0 = .ok (.aload_n 0, 1) := by decide +kernel
theorem dX10_copies_1 : decode cX10_copies 1 = .ok (.invokevirtual 193, 3) := by decide +kernel
theorem dX10_copies_4 : decode cX10_copies 4 = .ok (.iconst 0, 1) := by decide +kernel
theorem dX10_copies_5 : decode cX10_copies 5 = .ok (.istore_n 2, 1) := by decide +kernel
theorem dX10_copies_6 : decode cX10_copies 6 = .ok (.iconst 0, 1) := by decide +kernel
theorem dX10_copies_7 : decode cX10_copies 7 = .ok (.istore_n 3, 1) := by decide +kernel
theorem dX10_copies_8 : decode cX10_copies 8 = .ok (.iload_n 3, 1) := by decide +kernel
theorem dX10_copies_9 : decode cX10_copies 9 = .ok (.sipush 201, 3) := by decide +kernel
theorem dX10_copies_12 : decode cX10_copies 12 = .ok (.if_icmp .ge 42, 3) := by decide +kernel
theorem dX10_copies_15 : decode cX10_copies 15 = .ok (.aload_n 0, 1) := by decide +kernel
theorem dX10_copies_16 : decode cX10_copies 16 = .ok (.getfield 7, 3) := by decide +kernel
theorem dX10_copies_19 : decode cX10_copies 19 = .ok (.iload_n 1, 1) := by decide +kernel
theorem dX10_copies_20 : decode cX10_copies 20 = .ok (.iload_n 3, 1) := by decide +kernel
theorem dX10_copies_21 : decode cX10_copies 21 = .ok (.iadd, 1) := by decide +kernel
theorem dX10_copies_22 : decode cX10_copies 22 = .ok (.aload_n 0, 1) := by decide +kernel
theorem dX10_copies_23 : decode cX10_copies 23 = .ok (.getfield 38, 3) := by decide +kernel
theorem dX10_copies_26 : decode cX10_copies 26 = .ok (.iload_n 3, 1) := by decide +kernel
theorem dX10_copies_27 : decode cX10_copies 27 = .ok (.laload, 1) := by decide +kernel
theorem dX10_copies_28 : decode cX10_copies 28 = .ok (.lastore, 1) := by decide +kernel
theorem dX10_copies_29 : decode cX10_copies 29 = .ok (.iload_n 2, 1) := by decide +kernel
theorem dX10_copies_30 : decode cX10_copies 30 = .ok (.aload_n 0, 1) := by decide +kernel
theorem dX10_copies_31 : decode cX10_copies 31 = .ok (.getfield 38, 3) := by decide +kernel
theorem dX10_copies_34 : decode cX10_copies 34 = .ok (.iload_n 3, 1) := by decide +kernel
theorem dX10_copies_35 : decode cX10_copies 35 = .ok (.laload, 1) := by decide +kernel
theorem dX10_copies_36 : decode cX10_copies 36 = .ok (.lconst 0, 1) := by decide +kernel
theorem dX10_copies_37 : decode cX10_copies 37 = .ok (.lcmp, 1) := by decide +kernel
theorem dX10_copies_38 : decode cX10_copies 38 = .ok (.ifCond .le 7, 3) := by decide +kernel
theorem dX10_copies_41 : decode cX10_copies 41 = .ok (.iconst 1, 1) := by decide +kernel
theorem dX10_copies_42 : decode cX10_copies 42 = .ok (.goto 4, 3) := by decide +kernel
theorem dX10_copies_45 : decode cX10_copies 45 = .ok (.iconst 0, 1) := by decide +kernel
theorem dX10_copies_46 : decode cX10_copies 46 = .ok (.iadd, 1) := by decide +kernel
theorem dX10_copies_47 : decode cX10_copies 47 = .ok (.istore_n 2, 1) := by decide +kernel
theorem dX10_copies_48 : decode cX10_copies 48 = .ok (.iinc 3 1, 3) := by decide +kernel
theorem dX10_copies_51 : decode cX10_copies 51 = .ok (.goto (-43), 3) := by decide +kernel
theorem dX10_copies_54 : decode cX10_copies 54 = .ok (.iload_n 2, 1) := by decide +kernel
theorem dX10_copies_55 : decode cX10_copies 55 = .ok (.ireturn, 1) := by decide +kernel
theorem dX10_keepSound_0 : decode cX10_keepSound 0 = .ok (.aload_n 0, 1) := by decide +kernel
theorem dX10_keepSound_1 : decode cX10_keepSound 1 = .ok (.iconst 0, 1) := by decide +kernel
theorem dX10_keepSound_2 : decode cX10_keepSound 2 = .ok (.putfield 48, 3) := by decide +kernel
theorem dX10_keepSound_5 : decode cX10_keepSound 5 = .ok (.aload_n 0, 1) := by decide +kernel
theorem dX10_keepSound_6 : decode cX10_keepSound 6 = .ok (.invokevirtual 134, 3) := by decide +kernel
theorem dX10_keepSound_9 : decode cX10_keepSound 9 = .ok (.aload_n 0, 1) := by decide +kernel
theorem dX10_keepSound_10 : decode cX10_keepSound 10 = .ok (.bipush 29, 2) := by decide +kernel
theorem dX10_keepSound_12 : decode cX10_keepSound 12 = .ok (.invokevirtual 215, 3) := by decide +kernel
theorem dX10_keepSound_15 : decode cX10_keepSound 15 = .ok (.ireturn, 1) := by decide +kernel
theorem dX10_differencesNow_0 : decode cX10_differencesNow 0 = .ok (.iconst 0, 1) := by decide +kernel
theorem dX10_differencesNow_1 : decode cX10_differencesNow 1 = .ok (.istore_n 1, 1) := by decide +kernel
theorem dX10_differencesNow_2 : decode cX10_differencesNow 2 = .ok (.iconst 0, 1) := by decide +kernel
theorem dX10_differencesNow_3 : decode cX10_differencesNow 3 = .ok (.istore_n 2, 1) := by decide +kernel
theorem dX10_differencesNow_4 : decode cX10_differencesNow 4 = .ok (.iload_n 2, 1) := by decide +kernel
theorem dX10_differencesNow_5 : decode cX10_differencesNow 5 = .ok (.aload_n 0, 1) := by decide +kernel
theorem dX10_differencesNow_6 : decode cX10_differencesNow 6 = .ok (.invokevirtual 110, 3) := by decide +kernel
theorem dX10_differencesNow_9 : decode cX10_differencesNow 9 = .ok (.if_icmp .gt 36, 3) := by decide +kernel
theorem dX10_differencesNow_12 : decode cX10_differencesNow 12 = .ok (.iload_n 1, 1) := by decide +kernel
theorem dX10_differencesNow_13 : decode cX10_differencesNow 13 = .ok (.aload_n 0, 1) := by decide +kernel
theorem dX10_differencesNow_14 : decode cX10_differencesNow 14 = .ok (.getfield 38, 3) := by decide +kernel
theorem dX10_differencesNow_17 : decode cX10_differencesNow 17 = .ok (.iload_n 2, 1) := by decide +kernel
theorem dX10_differencesNow_18 : decode cX10_differencesNow 18 = .ok (.laload, 1) := by decide +kernel
theorem dX10_differencesNow_19 : decode cX10_differencesNow 19 = .ok (.aload_n 0, 1) := by decide +kernel
theorem dX10_differencesNow_20 : decode cX10_differencesNow 20 = .ok (.getfield 7, 3) := by decide +kernel
theorem dX10_differencesNow_23 : decode cX10_differencesNow 23 = .ok (.bipush 29, 2) := by decide +kernel
theorem dX10_differencesNow_25 : decode cX10_differencesNow 25 = .ok (.iload_n 2, 1) := by decide +kernel
theorem dX10_differencesNow_26 : decode cX10_differencesNow 26 = .ok (.iadd, 1) := by decide +kernel
theorem dX10_differencesNow_27 : decode cX10_differencesNow 27 = .ok (.laload, 1) := by decide +kernel
theorem dX10_differencesNow_28 : decode cX10_differencesNow 28 = .ok (.lcmp, 1) := by decide +kernel
theorem dX10_differencesNow_29 : decode cX10_differencesNow 29 = .ok (.ifCond .eq 7, 3) := by decide +kernel
theorem dX10_differencesNow_32 : decode cX10_differencesNow 32 = .ok (.iconst 1, 1) := by decide +kernel
theorem dX10_differencesNow_33 : decode cX10_differencesNow 33 = .ok (.goto 4, 3) := by decide +kernel
theorem dX10_differencesNow_36 : decode cX10_differencesNow 36 = .ok (.iconst 0, 1) := by decide +kernel
theorem dX10_differencesNow_37 : decode cX10_differencesNow 37 = .ok (.iadd, 1) := by decide +kernel
theorem dX10_differencesNow_38 : decode cX10_differencesNow 38 = .ok (.istore_n 1, 1) := by decide +kernel
theorem dX10_differencesNow_39 : decode cX10_differencesNow 39 = .ok (.iinc 2 1, 3) := by decide +kernel
theorem dX10_differencesNow_42 : decode cX10_differencesNow 42 = .ok (.goto (-38), 3) := by decide +kernel
theorem dX10_differencesNow_45 : decode cX10_differencesNow 45 = .ok (.iload_n 1, 1) := by decide +kernel
theorem dX10_differencesNow_46 : decode cX10_differencesNow 46 = .ok (.ireturn, 1) := by decide +kernel
theorem dX10_differences_0 : decode cX10_differences 0 = .ok (.aload_n 0, 1) := by decide +kernel
theorem dX10_differences_1 : decode cX10_differences 1 = .ok (.iconst 0, 1) := by decide +kernel
theorem dX10_differences_2 : decode cX10_differences 2 = .ok (.putfield 48, 3) := by decide +kernel
theorem dX10_differences_5 : decode cX10_differences 5 = .ok (.aload_n 0, 1) := by decide +kernel
theorem dX10_differences_6 : decode cX10_differences 6 = .ok (.invokevirtual 193, 3) := by decide +kernel
theorem dX10_differences_9 : decode cX10_differences 9 = .ok (.aload_n 0, 1) := by decide +kernel
theorem dX10_differences_10 : decode cX10_differences 10 = .ok (.invokevirtual 218, 3) := by decide +kernel
theorem dX10_differences_13 : decode cX10_differences 13 = .ok (.ireturn, 1) := by decide +kernel
theorem dX10_earliest_0 : decode cX10_earliest 0 = .ok (.aload_n 0, 1) := by decide +kernel
theorem dX10_earliest_1 : decode cX10_earliest 1 = .ok (.getfield 26, 3) := by decide +kernel
theorem dX10_earliest_4 : decode cX10_earliest 4 = .ok (.iconst 0, 1) := by decide +kernel
theorem dX10_earliest_5 : decode cX10_earliest 5 = .ok (.iaload, 1) := by decide +kernel
theorem dX10_earliest_6 : decode cX10_earliest 6 = .ok (.istore_n 1, 1) := by decide +kernel
theorem dX10_earliest_7 : decode cX10_earliest 7 = .ok (.iconst 1, 1) := by decide +kernel
theorem dX10_earliest_8 : decode cX10_earliest 8 = .ok (.istore_n 2, 1) := by decide +kernel
theorem dX10_earliest_9 : decode cX10_earliest 9 = .ok (.iload_n 2, 1) := by decide +kernel
theorem dX10_earliest_10 : decode cX10_earliest 10 = .ok (.aload_n 0, 1) := by decide +kernel
theorem dX10_earliest_11 : decode cX10_earliest 11 = .ok (.getfield 84, 3) := by decide +kernel
theorem dX10_earliest_14 : decode cX10_earliest 14 = .ok (.if_icmp .ge 30, 3) := by decide +kernel
theorem dX10_earliest_17 : decode cX10_earliest 17 = .ok (.aload_n 0, 1) := by decide +kernel
theorem dX10_earliest_18 : decode cX10_earliest 18 = .ok (.getfield 26, 3) := by decide +kernel
theorem dX10_earliest_21 : decode cX10_earliest 21 = .ok (.iload_n 2, 1) := by decide +kernel
theorem dX10_earliest_22 : decode cX10_earliest 22 = .ok (.iaload, 1) := by decide +kernel
theorem dX10_earliest_23 : decode cX10_earliest 23 = .ok (.iload_n 1, 1) := by decide +kernel
theorem dX10_earliest_24 : decode cX10_earliest 24 = .ok (.if_icmp .ge 12, 3) := by decide +kernel
theorem dX10_earliest_27 : decode cX10_earliest 27 = .ok (.aload_n 0, 1) := by decide +kernel
theorem dX10_earliest_28 : decode cX10_earliest 28 = .ok (.getfield 26, 3) := by decide +kernel
theorem dX10_earliest_31 : decode cX10_earliest 31 = .ok (.iload_n 2, 1) := by decide +kernel
theorem dX10_earliest_32 : decode cX10_earliest 32 = .ok (.iaload, 1) := by decide +kernel
theorem dX10_earliest_33 : decode cX10_earliest 33 = .ok (.goto 4, 3) := by decide +kernel
theorem dX10_earliest_36 : decode cX10_earliest 36 = .ok (.iload_n 1, 1) := by decide +kernel
theorem dX10_earliest_37 : decode cX10_earliest 37 = .ok (.istore_n 1, 1) := by decide +kernel
theorem dX10_earliest_38 : decode cX10_earliest 38 = .ok (.iinc 2 1, 3) := by decide +kernel
theorem dX10_earliest_41 : decode cX10_earliest 41 = .ok (.goto (-32), 3) := by decide +kernel
theorem dX10_earliest_44 : decode cX10_earliest 44 = .ok (.iload_n 1, 1) := by decide +kernel
theorem dX10_earliest_45 : decode cX10_earliest 45 = .ok (.ireturn, 1) := by decide +kernel
theorem dX10_faultOf_0 : decode cX10_faultOf 0 = .ok (.iconst 0, 1) := by decide +kernel
theorem dX10_faultOf_1 : decode cX10_faultOf 1 = .ok (.istore_n 2, 1) := by decide +kernel
theorem dX10_faultOf_2 : decode cX10_faultOf 2 = .ok (.iload_n 2, 1) := by decide +kernel
theorem dX10_faultOf_3 : decode cX10_faultOf 3 = .ok (.aload_n 0, 1) := by decide +kernel
theorem dX10_faultOf_4 : decode cX10_faultOf 4 = .ok (.invokevirtual 110, 3) := by decide +kernel
theorem dX10_faultOf_7 : decode cX10_faultOf 7 = .ok (.if_icmp .gt 28, 3) := by decide +kernel
theorem dX10_faultOf_10 : decode cX10_faultOf 10 = .ok (.aload_n 0, 1) := by decide +kernel
theorem dX10_faultOf_11 : decode cX10_faultOf 11 = .ok (.getfield 38, 3) := by decide +kernel
theorem dX10_faultOf_14 : decode cX10_faultOf 14 = .ok (.iload_n 2, 1) := by decide +kernel
theorem dX10_faultOf_15 : decode cX10_faultOf 15 = .ok (.laload, 1) := by decide +kernel
theorem dX10_faultOf_16 : decode cX10_faultOf 16 = .ok (.aload_n 0, 1) := by decide +kernel
theorem dX10_faultOf_17 : decode cX10_faultOf 17 = .ok (.getfield 7, 3) := by decide +kernel
theorem dX10_faultOf_20 : decode cX10_faultOf 20 = .ok (.bipush 29, 2) := by decide +kernel
theorem dX10_faultOf_22 : decode cX10_faultOf 22 = .ok (.iload_n 2, 1) := by decide +kernel
theorem dX10_faultOf_23 : decode cX10_faultOf 23 = .ok (.iadd, 1) := by decide +kernel
theorem dX10_faultOf_24 : decode cX10_faultOf 24 = .ok (.laload, 1) := by decide +kernel
theorem dX10_faultOf_25 : decode cX10_faultOf 25 = .ok (.lcmp, 1) := by decide +kernel
theorem dX10_faultOf_26 : decode cX10_faultOf 26 = .ok (.ifCond .ne 9, 3) := by decide +kernel
theorem dX10_faultOf_29 : decode cX10_faultOf 29 = .ok (.iinc 2 1, 3) := by decide +kernel
theorem dX10_faultOf_32 : decode cX10_faultOf 32 = .ok (.goto (-30), 3) := by decide +kernel
theorem dX10_faultOf_35 : decode cX10_faultOf 35 = .ok (.iload_n 2, 1) := by decide +kernel
theorem dX10_faultOf_36 : decode cX10_faultOf 36 = .ok (.aload_n 0, 1) := by decide +kernel
theorem dX10_faultOf_37 : decode cX10_faultOf 37 = .ok (.invokevirtual 110, 3) := by decide +kernel
theorem dX10_faultOf_40 : decode cX10_faultOf 40 = .ok (.if_icmp .le 5, 3) := by decide +kernel
theorem dX10_faultOf_43 : decode cX10_faultOf 43 = .ok (.iconst (-1), 1) := by decide +kernel
theorem dX10_faultOf_44 : decode cX10_faultOf 44 = .ok (.ireturn, 1) := by decide +kernel
theorem dX10_faultOf_45 : decode cX10_faultOf 45 = .ok (.iload_n 2, 1) := by decide +kernel
theorem dX10_faultOf_46 : decode cX10_faultOf 46 = .ok (.aload_n 0, 1) := by decide +kernel
theorem dX10_faultOf_47 : decode cX10_faultOf 47 = .ok (.invokevirtual 221, 3) := by decide +kernel
theorem dX10_faultOf_50 : decode cX10_faultOf 50 = .ok (.isub, 1) := by decide +kernel
theorem dX10_faultOf_51 : decode cX10_faultOf 51 = .ok (.istore_n 3, 1) := by decide +kernel
theorem dX10_faultOf_52 : decode cX10_faultOf 52 = .ok (.iload_n 1, 1) := by decide +kernel
theorem dX10_faultOf_53 : decode cX10_faultOf 53 = .ok (.iconst 2, 1) := by decide +kernel
theorem dX10_faultOf_54 : decode cX10_faultOf 54 = .ok (.if_icmp .ge 13, 3) := by decide +kernel
theorem dX10_faultOf_57 : decode cX10_faultOf 57 = .ok (.iload_n 1, 1) := by decide +kernel
theorem dX10_faultOf_58 : decode cX10_faultOf 58 = .ok (.ifCond .ne 7, 3) := by decide +kernel
theorem dX10_faultOf_61 : decode cX10_faultOf 61 = .ok (.iload_n 2, 1) := by decide +kernel
theorem dX10_faultOf_62 : decode cX10_faultOf 62 = .ok (.goto 4, 3) := by decide +kernel
theorem dX10_faultOf_65 : decode cX10_faultOf 65 = .ok (.iload_n 3, 1) := by decide +kernel
theorem dX10_faultOf_66 : decode cX10_faultOf 66 = .ok (.ireturn, 1) := by decide +kernel
theorem dX10_faultOf_67 : decode cX10_faultOf 67 = .ok (.iload_n 1, 1) := by decide +kernel
theorem dX10_faultOf_68 : decode cX10_faultOf 68 = .ok (.iconst 3, 1) := by decide +kernel
theorem dX10_faultOf_69 : decode cX10_faultOf 69 = .ok (.if_icmp .ne 28, 3) := by decide +kernel
theorem dX10_faultOf_72 : decode cX10_faultOf 72 = .ok (.aload_n 0, 1) := by decide +kernel
theorem dX10_faultOf_73 : decode cX10_faultOf 73 = .ok (.getfield 38, 3) := by decide +kernel
theorem dX10_faultOf_76 : decode cX10_faultOf 76 = .ok (.iload_n 2, 1) := by decide +kernel
theorem dX10_faultOf_77 : decode cX10_faultOf 77 = .ok (.laload, 1) := by decide +kernel
theorem dX10_faultOf_78 : decode cX10_faultOf 78 = .ok (.aload_n 0, 1) := by decide +kernel
theorem dX10_faultOf_79 : decode cX10_faultOf 79 = .ok (.getfield 7, 3) := by decide +kernel
theorem dX10_faultOf_82 : decode cX10_faultOf 82 = .ok (.bipush 29, 2) := by decide +kernel
theorem dX10_faultOf_84 : decode cX10_faultOf 84 = .ok (.iload_n 2, 1) := by decide +kernel
theorem dX10_faultOf_85 : decode cX10_faultOf 85 = .ok (.iadd, 1) := by decide +kernel
theorem dX10_faultOf_86 : decode cX10_faultOf 86 = .ok (.laload, 1) := by decide +kernel
theorem dX10_faultOf_87 : decode cX10_faultOf 87 = .ok (.lcmp, 1) := by decide +kernel
theorem dX10_faultOf_88 : decode cX10_faultOf 88 = .ok (.ifCond .le 7, 3) := by decide +kernel
theorem dX10_faultOf_91 : decode cX10_faultOf 91 = .ok (.iconst 1, 1) := by decide +kernel
theorem dX10_faultOf_92 : decode cX10_faultOf 92 = .ok (.goto 4, 3) := by decide +kernel
theorem dX10_faultOf_95 : decode cX10_faultOf 95 = .ok (.iconst (-1), 1) := by decide +kernel
theorem dX10_faultOf_96 : decode cX10_faultOf 96 = .ok (.ireturn, 1) := by decide +kernel
theorem dX10_faultOf_97 : decode cX10_faultOf 97 = .ok (.iconst 0, 1) := by decide +kernel
theorem dX10_faultOf_98 : decode cX10_faultOf 98 = .ok (.istore 4, 2) := by decide +kernel
theorem dX10_faultOf_100 : decode cX10_faultOf 100 = .ok (.iload 4, 2) := by decide +kernel
theorem dX10_faultOf_102 : decode cX10_faultOf 102 = .ok (.aload_n 0, 1) := by decide +kernel
theorem dX10_faultOf_103 : decode cX10_faultOf 103 = .ok (.invokevirtual 55, 3) := by decide +kernel
theorem dX10_faultOf_106 : decode cX10_faultOf 106 = .ok (.if_icmp .ge 51, 3) := by decide +kernel
theorem dX10_faultOf_109 : decode cX10_faultOf 109 = .ok (.iload_n 3, 1) := by decide +kernel
theorem dX10_faultOf_110 : decode cX10_faultOf 110 = .ok (.i2l, 1) := by decide +kernel
theorem dX10_faultOf_111 : decode cX10_faultOf 111 = .ok (.ldc2_w 183, 3) := by decide +kernel
theorem dX10_faultOf_114 : decode cX10_faultOf 114 = .ok (.aload_n 0, 1) := by decide +kernel
theorem dX10_faultOf_115 : decode cX10_faultOf 115 = .ok (.iload 4, 2) := by decide +kernel
theorem dX10_faultOf_117 : decode cX10_faultOf 117 = .ok (.invokevirtual 185, 3) := by decide +kernel
theorem dX10_faultOf_120 : decode cX10_faultOf 120 = .ok (.i2l, 1) := by decide +kernel
theorem dX10_faultOf_121 : decode cX10_faultOf 121 = .ok (.aload_n 0, 1) := by decide +kernel
theorem dX10_faultOf_122 : decode cX10_faultOf 122 = .ok (.getfield 7, 3) := by decide +kernel
theorem dX10_faultOf_125 : decode cX10_faultOf 125 = .ok (.iconst 1, 1) := by decide +kernel
theorem dX10_faultOf_126 : decode cX10_faultOf 126 = .ok (.iload 4, 2) := by decide +kernel
theorem dX10_faultOf_128 : decode cX10_faultOf 128 = .ok (.iadd, 1) := by decide +kernel
theorem dX10_faultOf_129 : decode cX10_faultOf 129 = .ok (.laload, 1) := by decide +kernel
theorem dX10_faultOf_130 : decode cX10_faultOf 130 = .ok (.lsub, 1) := by decide +kernel
theorem dX10_faultOf_131 : decode cX10_faultOf 131 = .ok (.lmul, 1) := by decide +kernel
theorem dX10_faultOf_132 : decode cX10_faultOf 132 = .ok (.lcmp, 1) := by decide +kernel
theorem dX10_faultOf_133 : decode cX10_faultOf 133 = .ok (.ifCond .le 18, 3) := by decide +kernel
theorem dX10_faultOf_136 : decode cX10_faultOf 136 = .ok (.iload_n 3, 1) := by decide +kernel
theorem dX10_faultOf_137 : decode cX10_faultOf 137 = .ok (.iconst 2, 1) := by decide +kernel
theorem dX10_faultOf_138 : decode cX10_faultOf 138 = .ok (.aload_n 0, 1) := by decide +kernel
theorem dX10_faultOf_139 : decode cX10_faultOf 139 = .ok (.iload 4, 2) := by decide +kernel
theorem dX10_faultOf_141 : decode cX10_faultOf 141 = .ok (.invokevirtual 185, 3) := by decide +kernel
theorem dX10_faultOf_144 : decode cX10_faultOf 144 = .ok (.imul, 1) := by decide +kernel
theorem dX10_faultOf_145 : decode cX10_faultOf 145 = .ok (.if_icmp .gt 6, 3) := by decide +kernel
theorem dX10_faultOf_148 : decode cX10_faultOf 148 = .ok (.iload 4, 2) := by decide +kernel
theorem dX10_faultOf_150 : decode cX10_faultOf 150 = .ok (.ireturn, 1) := by decide +kernel
theorem dX10_faultOf_151 : decode cX10_faultOf 151 = .ok (.iinc 4 1, 3) := by decide +kernel
theorem dX10_faultOf_154 : decode cX10_faultOf 154 = .ok (.goto (-54), 3) := by decide +kernel
theorem dX10_faultOf_157 : decode cX10_faultOf 157 = .ok (.iconst (-1), 1) := by decide +kernel
theorem dX10_faultOf_158 : decode cX10_faultOf 158 = .ok (.ireturn, 1) := by decide +kernel
theorem dX10_fault_0 : decode cX10_fault 0 = .ok (.aload_n 0, 1) := by decide +kernel
theorem dX10_fault_1 : decode cX10_fault 1 = .ok (.iload_n 1, 1) := by decide +kernel
theorem dX10_fault_2 : decode cX10_fault 2 = .ok (.i2l, 1) := by decide +kernel
theorem dX10_fault_3 : decode cX10_fault 3 = .ok (.lconst 0, 1) := by decide +kernel
theorem dX10_fault_4 : decode cX10_fault 4 = .ok (.ldc2_w 224, 3) := by decide +kernel
theorem dX10_fault_7 : decode cX10_fault 7 = .ok (.invokestatic 59, 3) := by decide +kernel
theorem dX10_fault_10 : decode cX10_fault 10 = .ok (.ifCond .eq 7, 3) := by decide +kernel
theorem dX10_fault_13 : decode cX10_fault 13 = .ok (.iconst 0, 1) := by decide +kernel
theorem dX10_fault_14 : decode cX10_fault 14 = .ok (.goto 4, 3) := by decide +kernel
theorem dX10_fault_17 : decode cX10_fault 17 = .ok (.iconst 1, 1) := by decide +kernel
theorem dX10_fault_18 : decode cX10_fault 18 = .ok (.putfield 48, 3) := by decide +kernel
theorem dX10_fault_21 : decode cX10_fault 21 = .ok (.aload_n 0, 1) := by decide +kernel
theorem dX10_fault_22 : decode cX10_fault 22 = .ok (.getfield 48, 3) := by decide +kernel
theorem dX10_fault_25 : decode cX10_fault 25 = .ok (.ifCond .eq 5, 3) := by decide +kernel
theorem dX10_fault_28 : decode cX10_fault 28 = .ok (.iconst 0, 1) := by decide +kernel
theorem dX10_fault_29 : decode cX10_fault 29 = .ok (.ireturn, 1) := by decide +kernel
theorem dX10_fault_30 : decode cX10_fault 30 = .ok (.aload_n 0, 1) := by decide +kernel
theorem dX10_fault_31 : decode cX10_fault 31 = .ok (.invokevirtual 193, 3) := by decide +kernel
theorem dX10_fault_34 : decode cX10_fault 34 = .ok (.aload_n 0, 1) := by decide +kernel
theorem dX10_fault_35 : decode cX10_fault 35 = .ok (.iload_n 1, 1) := by decide +kernel
theorem dX10_fault_36 : decode cX10_fault 36 = .ok (.invokevirtual 226, 3) := by decide +kernel
theorem dX10_fault_39 : decode cX10_fault 39 = .ok (.ireturn, 1) := by decide +kernel
theorem dX10_observe_0 : decode cX10_observe 0 = .ok (.aload_n 0, 1) := by decide +kernel
theorem dX10_observe_1 : decode cX10_observe 1 = .ok (.iconst 0, 1) := by decide +kernel
theorem dX10_observe_2 : decode cX10_observe 2 = .ok (.putfield 48, 3) := by decide +kernel
theorem dX10_observe_5 : decode cX10_observe 5 = .ok (.aload_n 0, 1) := by decide +kernel
theorem dX10_observe_6 : decode cX10_observe 6 = .ok (.invokevirtual 134, 3) := by decide +kernel
theorem dX10_observe_9 : decode cX10_observe 9 = .ok (.aload_n 0, 1) := by decide +kernel
theorem dX10_observe_10 : decode cX10_observe 10 = .ok (.sipush 230, 3) := by decide +kernel
theorem dX10_observe_13 : decode cX10_observe 13 = .ok (.invokevirtual 215, 3) := by decide +kernel
theorem dX10_observe_16 : decode cX10_observe 16 = .ok (.ireturn, 1) := by decide +kernel
theorem dX10_setObserved_0 : decode cX10_setObserved 0 = .ok (.aload_n 0, 1) := by decide +kernel
theorem dX10_setObserved_1 : decode cX10_setObserved 1 = .ok (.iload_n 1, 1) := by decide +kernel
theorem dX10_setObserved_2 : decode cX10_setObserved 2 = .ok (.i2l, 1) := by decide +kernel
theorem dX10_setObserved_3 : decode cX10_setObserved 3 = .ok (.lconst 0, 1) := by decide +kernel
theorem dX10_setObserved_4 : decode cX10_setObserved 4 = .ok (.ldc2_w 169, 3) := by decide +kernel
theorem dX10_setObserved_7 : decode cX10_setObserved 7 = .ok (.invokestatic 59, 3) := by decide +kernel
theorem dX10_setObserved_10 : decode cX10_setObserved 10 = .ok (.ifCond .eq 18, 3) := by decide +kernel
theorem dX10_setObserved_13 : decode cX10_setObserved 13 = .ok (.lload_n 2, 1) := by decide +kernel
theorem dX10_setObserved_14 : decode cX10_setObserved 14 = .ok (.lconst 0, 1) := by decide +kernel
theorem dX10_setObserved_15 : decode cX10_setObserved 15 = .ok (.ldc2_w 229, 3) := by decide +kernel
theorem dX10_setObserved_18 : decode cX10_setObserved 18 = .ok (.invokestatic 59, 3) := by decide +kernel
theorem dX10_setObserved_21 : decode cX10_setObserved 21 = .ok (.ifCond .eq 7, 3) := by decide +kernel
theorem dX10_setObserved_24 : decode cX10_setObserved 24 = .ok (.iconst 0, 1) := by decide +kernel
theorem dX10_setObserved_25 : decode cX10_setObserved 25 = .ok (.goto 4, 3) := by decide +kernel
theorem dX10_setObserved_28 : decode cX10_setObserved 28 = .ok (.iconst 1, 1) := by decide +kernel
theorem dX10_setObserved_29 : decode cX10_setObserved 29 = .ok (.putfield 48, 3) := by decide +kernel
theorem dX10_setObserved_32 : decode cX10_setObserved 32 = .ok (.aload_n 0, 1) := by decide +kernel
theorem dX10_setObserved_33 : decode cX10_setObserved 33 = .ok (.getfield 48, 3) := by decide +kernel
theorem dX10_setObserved_36 : decode cX10_setObserved 36 = .ok (.ifCond .eq 5, 3) := by decide +kernel
theorem dX10_setObserved_39 : decode cX10_setObserved 39 = .ok (.lconst 0, 1) := by decide +kernel
theorem dX10_setObserved_40 : decode cX10_setObserved 40 = .ok (.lreturn, 1) := by decide +kernel
theorem dX10_setObserved_41 : decode cX10_setObserved 41 = .ok (.aload_n 0, 1) := by decide +kernel
theorem dX10_setObserved_42 : decode cX10_setObserved 42 = .ok (.invokevirtual 134, 3) := by decide +kernel
theorem dX10_setObserved_45 : decode cX10_setObserved 45 = .ok (.aload_n 0, 1) := by decide +kernel
theorem dX10_setObserved_46 : decode cX10_setObserved 46 = .ok (.getfield 7, 3) := by decide +kernel
theorem dX10_setObserved_49 : decode cX10_setObserved 49 = .ok (.sipush 230, 3) := by decide +kernel
theorem dX10_setObserved_52 : decode cX10_setObserved 52 = .ok (.iload_n 1, 1) := by decide +kernel
theorem dX10_setObserved_53 : decode cX10_setObserved 53 = .ok (.iadd, 1) := by decide +kernel
theorem dX10_setObserved_54 : decode cX10_setObserved 54 = .ok (.laload, 1) := by decide +kernel
theorem dX10_setObserved_55 : decode cX10_setObserved 55 = .ok (.lstore 4, 2) := by decide +kernel
theorem dX10_setObserved_57 : decode cX10_setObserved 57 = .ok (.aload_n 0, 1) := by decide +kernel
theorem dX10_setObserved_58 : decode cX10_setObserved 58 = .ok (.getfield 7, 3) := by decide +kernel
theorem dX10_setObserved_61 : decode cX10_setObserved 61 = .ok (.sipush 230, 3) := by decide +kernel
theorem dX10_setObserved_64 : decode cX10_setObserved 64 = .ok (.iload_n 1, 1) := by decide +kernel
theorem dX10_setObserved_65 : decode cX10_setObserved 65 = .ok (.iadd, 1) := by decide +kernel
theorem dX10_setObserved_66 : decode cX10_setObserved 66 = .ok (.lload_n 2, 1) := by decide +kernel
theorem dX10_setObserved_67 : decode cX10_setObserved 67 = .ok (.lastore, 1) := by decide +kernel
theorem dX10_setObserved_68 : decode cX10_setObserved 68 = .ok (.lload 4, 2) := by decide +kernel
theorem dX10_setObserved_70 : decode cX10_setObserved 70 = .ok (.lreturn, 1) := by decide +kernel
theorem dX10_observed_0 : decode cX10_observed 0 = .ok (.aload_n 0, 1) := by decide +kernel
theorem dX10_observed_1 : decode cX10_observed 1 = .ok (.iload_n 1, 1) := by decide +kernel
theorem dX10_observed_2 : decode cX10_observed 2 = .ok (.i2l, 1) := by decide +kernel
theorem dX10_observed_3 : decode cX10_observed 3 = .ok (.lconst 0, 1) := by decide +kernel
theorem dX10_observed_4 : decode cX10_observed 4 = .ok (.ldc2_w 169, 3) := by decide +kernel
theorem dX10_observed_7 : decode cX10_observed 7 = .ok (.invokestatic 59, 3) := by decide +kernel
theorem dX10_observed_10 : decode cX10_observed 10 = .ok (.ifCond .eq 7, 3) := by decide +kernel
theorem dX10_observed_13 : decode cX10_observed 13 = .ok (.iconst 0, 1) := by decide +kernel
theorem dX10_observed_14 : decode cX10_observed 14 = .ok (.goto 4, 3) := by decide +kernel
theorem dX10_observed_17 : decode cX10_observed 17 = .ok (.iconst 1, 1) := by decide +kernel
theorem dX10_observed_18 : decode cX10_observed 18 = .ok (.putfield 48, 3) := by decide +kernel
theorem dX10_observed_21 : decode cX10_observed 21 = .ok (.aload_n 0, 1) := by decide +kernel
theorem dX10_observed_22 : decode cX10_observed 22 = .ok (.getfield 48, 3) := by decide +kernel
theorem dX10_observed_25 : decode cX10_observed 25 = .ok (.ifCond .eq 7, 3) := by decide +kernel
theorem dX10_observed_28 : decode cX10_observed 28 = .ok (.lconst 0, 1) := by decide +kernel
theorem dX10_observed_29 : decode cX10_observed 29 = .ok (.goto 13, 3) := by decide +kernel
theorem dX10_observed_32 : decode cX10_observed 32 = .ok (.aload_n 0, 1) := by decide +kernel
theorem dX10_observed_33 : decode cX10_observed 33 = .ok (.getfield 7, 3) := by decide +kernel
theorem dX10_observed_36 : decode cX10_observed 36 = .ok (.sipush 230, 3) := by decide +kernel
theorem dX10_observed_39 : decode cX10_observed 39 = .ok (.iload_n 1, 1) := by decide +kernel
theorem dX10_observed_40 : decode cX10_observed 40 = .ok (.iadd, 1) := by decide +kernel
theorem dX10_observed_41 : decode cX10_observed 41 = .ok (.laload, 1) := by decide +kernel
theorem dX10_observed_42 : decode cX10_observed 42 = .ok (.lreturn, 1) := by decide +kernel
theorem dX10_firstUnlike_0 : decode cX10_firstUnlike 0 = .ok (.iconst 0, 1) := by decide +kernel
theorem dX10_firstUnlike_1 : decode cX10_firstUnlike 1 = .ok (.istore_n 1, 1) := by decide +kernel
theorem dX10_firstUnlike_2 : decode cX10_firstUnlike 2 = .ok (.iload_n 1, 1) := by decide +kernel
theorem dX10_firstUnlike_3 : decode cX10_firstUnlike 3 = .ok (.aload_n 0, 1) := by decide +kernel
theorem dX10_firstUnlike_4 : decode cX10_firstUnlike 4 = .ok (.invokevirtual 110, 3) := by decide +kernel
theorem dX10_firstUnlike_7 : decode cX10_firstUnlike 7 = .ok (.if_icmp .gt 31, 3) := by decide +kernel
theorem dX10_firstUnlike_10 : decode cX10_firstUnlike 10 = .ok (.aload_n 0, 1) := by decide +kernel
theorem dX10_firstUnlike_11 : decode cX10_firstUnlike 11 = .ok (.getfield 7, 3) := by decide +kernel
theorem dX10_firstUnlike_14 : decode cX10_firstUnlike 14 = .ok (.sipush 230, 3) := by decide +kernel
theorem dX10_firstUnlike_17 : decode cX10_firstUnlike 17 = .ok (.iload_n 1, 1) := by decide +kernel
theorem dX10_firstUnlike_18 : decode cX10_firstUnlike 18 = .ok (.iadd, 1) := by decide +kernel
theorem dX10_firstUnlike_19 : decode cX10_firstUnlike 19 = .ok (.laload, 1) := by decide +kernel
theorem dX10_firstUnlike_20 : decode cX10_firstUnlike 20 = .ok (.aload_n 0, 1) := by decide +kernel
theorem dX10_firstUnlike_21 : decode cX10_firstUnlike 21 = .ok (.getfield 38, 3) := by decide +kernel
theorem dX10_firstUnlike_24 : decode cX10_firstUnlike 24 = .ok (.iload_n 1, 1) := by decide +kernel
theorem dX10_firstUnlike_25 : decode cX10_firstUnlike 25 = .ok (.laload, 1) := by decide +kernel
theorem dX10_firstUnlike_26 : decode cX10_firstUnlike 26 = .ok (.lcmp, 1) := by decide +kernel
theorem dX10_firstUnlike_27 : decode cX10_firstUnlike 27 = .ok (.ifCond .eq 5, 3) := by decide +kernel
theorem dX10_firstUnlike_30 : decode cX10_firstUnlike 30 = .ok (.iload_n 1, 1) := by decide +kernel
theorem dX10_firstUnlike_31 : decode cX10_firstUnlike 31 = .ok (.ireturn, 1) := by decide +kernel
theorem dX10_firstUnlike_32 : decode cX10_firstUnlike 32 = .ok (.iinc 1 1, 3) := by decide +kernel
theorem dX10_firstUnlike_35 : decode cX10_firstUnlike 35 = .ok (.goto (-33), 3) := by decide +kernel
theorem dX10_firstUnlike_38 : decode cX10_firstUnlike 38 = .ok (.iconst (-1), 1) := by decide +kernel
theorem dX10_firstUnlike_39 : decode cX10_firstUnlike 39 = .ok (.ireturn, 1) := by decide +kernel
theorem dX10_puts_0 : decode cX10_puts 0 = .ok (.iload_n 1, 1) := by decide +kernel
theorem dX10_puts_1 : decode cX10_puts 1 = .ok (.iconst 2, 1) := by decide +kernel
theorem dX10_puts_2 : decode cX10_puts 2 = .ok (.idiv, 1) := by decide +kernel
theorem dX10_puts_3 : decode cX10_puts 3 = .ok (.aload_n 0, 1) := by decide +kernel
theorem dX10_puts_4 : decode cX10_puts 4 = .ok (.getfield 231, 3) := by decide +kernel
theorem dX10_puts_7 : decode cX10_puts 7 = .ok (.isub, 1) := by decide +kernel
theorem dX10_puts_8 : decode cX10_puts 8 = .ok (.istore_n 2, 1) := by decide +kernel
theorem dX10_puts_9 : decode cX10_puts 9 = .ok (.iconst 1, 1) := by decide +kernel
theorem dX10_puts_10 : decode cX10_puts 10 = .ok (.istore_n 3, 1) := by decide +kernel
theorem dX10_puts_11 : decode cX10_puts 11 = .ok (.sipush 1000, 3) := by decide +kernel
theorem dX10_puts_14 : decode cX10_puts 14 = .ok (.istore 4, 2) := by decide +kernel
theorem dX10_puts_16 : decode cX10_puts 16 = .ok (.aload_n 0, 1) := by decide +kernel
theorem dX10_puts_17 : decode cX10_puts 17 = .ok (.getfield 20, 3) := by decide +kernel
theorem dX10_puts_20 : decode cX10_puts 20 = .ok (.aload_n 0, 1) := by decide +kernel
theorem dX10_puts_21 : decode cX10_puts 21 = .ok (.getfield 79, 3) := by decide +kernel
theorem dX10_puts_24 : decode cX10_puts 24 = .ok (.iload_n 2, 1) := by decide +kernel
theorem dX10_puts_25 : decode cX10_puts 25 = .ok (.iastore, 1) := by decide +kernel
theorem dX10_puts_26 : decode cX10_puts 26 = .ok (.aload_n 0, 1) := by decide +kernel
theorem dX10_puts_27 : decode cX10_puts 27 = .ok (.dup, 1) := by decide +kernel
theorem dX10_puts_28 : decode cX10_puts 28 = .ok (.getfield 79, 3) := by decide +kernel
theorem dX10_puts_31 : decode cX10_puts 31 = .ok (.iconst 1, 1) := by decide +kernel
theorem dX10_puts_32 : decode cX10_puts 32 = .ok (.iadd, 1) := by decide +kernel
theorem dX10_puts_33 : decode cX10_puts 33 = .ok (.putfield 79, 3) := by decide +kernel
theorem dX10_puts_36 : decode cX10_puts 36 = .ok (.iload_n 3, 1) := by decide +kernel
theorem dX10_puts_37 : decode cX10_puts 37 = .ok (.iload 4, 2) := by decide +kernel
theorem dX10_puts_39 : decode cX10_puts 39 = .ok (.if_icmp .ge 87, 3) := by decide +kernel
theorem dX10_puts_42 : decode cX10_puts 42 = .ok (.iload_n 3, 1) := by decide +kernel
theorem dX10_puts_43 : decode cX10_puts 43 = .ok (.iload 4, 2) := by decide +kernel
theorem dX10_puts_45 : decode cX10_puts 45 = .ok (.iadd, 1) := by decide +kernel
theorem dX10_puts_46 : decode cX10_puts 46 = .ok (.iconst 2, 1) := by decide +kernel
theorem dX10_puts_47 : decode cX10_puts 47 = .ok (.idiv, 1) := by decide +kernel
theorem dX10_puts_48 : decode cX10_puts 48 = .ok (.istore 5, 2) := by decide +kernel
theorem dX10_puts_50 : decode cX10_puts 50 = .ok (.aload_n 0, 1) := by decide +kernel
theorem dX10_puts_51 : decode cX10_puts 51 = .ok (.getfield 23, 3) := by decide +kernel
theorem dX10_puts_54 : decode cX10_puts 54 = .ok (.aload_n 0, 1) := by decide +kernel
theorem dX10_puts_55 : decode cX10_puts 55 = .ok (.getfield 79, 3) := by decide +kernel
theorem dX10_puts_58 : decode cX10_puts 58 = .ok (.iload 5, 2) := by decide +kernel
theorem dX10_puts_60 : decode cX10_puts 60 = .ok (.iastore, 1) := by decide +kernel
theorem dX10_puts_61 : decode cX10_puts 61 = .ok (.aload_n 0, 1) := by decide +kernel
theorem dX10_puts_62 : decode cX10_puts 62 = .ok (.invokevirtual 117, 3) := by decide +kernel
theorem dX10_puts_65 : decode cX10_puts 65 = .ok (.aload_n 0, 1) := by decide +kernel
theorem dX10_puts_66 : decode cX10_puts 66 = .ok (.getfield 38, 3) := by decide +kernel
theorem dX10_puts_69 : decode cX10_puts 69 = .ok (.iload_n 1, 1) := by decide +kernel
theorem dX10_puts_70 : decode cX10_puts 70 = .ok (.laload, 1) := by decide +kernel
theorem dX10_puts_71 : decode cX10_puts 71 = .ok (.aload_n 0, 1) := by decide +kernel
theorem dX10_puts_72 : decode cX10_puts 72 = .ok (.getfield 7, 3) := by decide +kernel
theorem dX10_puts_75 : decode cX10_puts 75 = .ok (.sipush 230, 3) := by decide +kernel
theorem dX10_puts_78 : decode cX10_puts 78 = .ok (.iload_n 1, 1) := by decide +kernel
theorem dX10_puts_79 : decode cX10_puts 79 = .ok (.iadd, 1) := by decide +kernel
theorem dX10_puts_80 : decode cX10_puts 80 = .ok (.laload, 1) := by decide +kernel
theorem dX10_puts_81 : decode cX10_puts 81 = .ok (.lcmp, 1) := by decide +kernel
theorem dX10_puts_82 : decode cX10_puts 82 = .ok (.ifCond .ge 10, 3) := by decide +kernel
theorem dX10_puts_85 : decode cX10_puts 85 = .ok (.iload 5, 2) := by decide +kernel
theorem dX10_puts_87 : decode cX10_puts 87 = .ok (.iconst 1, 1) := by decide +kernel
theorem dX10_puts_88 : decode cX10_puts 88 = .ok (.iadd, 1) := by decide +kernel
theorem dX10_puts_89 : decode cX10_puts 89 = .ok (.goto 4, 3) := by decide +kernel
theorem dX10_puts_92 : decode cX10_puts 92 = .ok (.iload_n 3, 1) := by decide +kernel
theorem dX10_puts_93 : decode cX10_puts 93 = .ok (.istore_n 3, 1) := by decide +kernel
theorem dX10_puts_94 : decode cX10_puts 94 = .ok (.aload_n 0, 1) := by decide +kernel
theorem dX10_puts_95 : decode cX10_puts 95 = .ok (.getfield 38, 3) := by decide +kernel
theorem dX10_puts_98 : decode cX10_puts 98 = .ok (.iload_n 1, 1) := by decide +kernel
theorem dX10_puts_99 : decode cX10_puts 99 = .ok (.laload, 1) := by decide +kernel
theorem dX10_puts_100 : decode cX10_puts 100 = .ok (.aload_n 0, 1) := by decide +kernel
theorem dX10_puts_101 : decode cX10_puts 101 = .ok (.getfield 7, 3) := by decide +kernel
theorem dX10_puts_104 : decode cX10_puts 104 = .ok (.sipush 230, 3) := by decide +kernel
theorem dX10_puts_107 : decode cX10_puts 107 = .ok (.iload_n 1, 1) := by decide +kernel
theorem dX10_puts_108 : decode cX10_puts 108 = .ok (.iadd, 1) := by decide +kernel
theorem dX10_puts_109 : decode cX10_puts 109 = .ok (.laload, 1) := by decide +kernel
theorem dX10_puts_110 : decode cX10_puts 110 = .ok (.lcmp, 1) := by decide +kernel
theorem dX10_puts_111 : decode cX10_puts 111 = .ok (.ifCond .ge 8, 3) := by decide +kernel
theorem dX10_puts_114 : decode cX10_puts 114 = .ok (.iload 4, 2) := by decide +kernel
theorem dX10_puts_116 : decode cX10_puts 116 = .ok (.goto 5, 3) := by decide +kernel
theorem dX10_puts_119 : decode cX10_puts 119 = .ok (.iload 5, 2) := by decide +kernel
theorem dX10_puts_121 : decode cX10_puts 121 = .ok (.istore 4, 2) := by decide +kernel
theorem dX10_puts_123 : decode cX10_puts 123 = .ok (.goto (-87), 3) := by decide +kernel
theorem dX10_puts_126 : decode cX10_puts 126 = .ok (.aload_n 0, 1) := by decide +kernel
theorem dX10_puts_127 : decode cX10_puts 127 = .ok (.getfield 23, 3) := by decide +kernel
theorem dX10_puts_130 : decode cX10_puts 130 = .ok (.aload_n 0, 1) := by decide +kernel
theorem dX10_puts_131 : decode cX10_puts 131 = .ok (.getfield 79, 3) := by decide +kernel
theorem dX10_puts_134 : decode cX10_puts 134 = .ok (.iload_n 3, 1) := by decide +kernel
theorem dX10_puts_135 : decode cX10_puts 135 = .ok (.iastore, 1) := by decide +kernel
theorem dX10_puts_136 : decode cX10_puts 136 = .ok (.aload_n 0, 1) := by decide +kernel
theorem dX10_puts_137 : decode cX10_puts 137 = .ok (.invokevirtual 117, 3) := by decide +kernel
theorem dX10_puts_140 : decode cX10_puts 140 = .ok (.aload_n 0, 1) := by decide +kernel
theorem dX10_puts_141 : decode cX10_puts 141 = .ok (.getfield 38, 3) := by decide +kernel
theorem dX10_puts_144 : decode cX10_puts 144 = .ok (.iload_n 1, 1) := by decide +kernel
theorem dX10_puts_145 : decode cX10_puts 145 = .ok (.laload, 1) := by decide +kernel
theorem dX10_puts_146 : decode cX10_puts 146 = .ok (.aload_n 0, 1) := by decide +kernel
theorem dX10_puts_147 : decode cX10_puts 147 = .ok (.getfield 7, 3) := by decide +kernel
theorem dX10_puts_150 : decode cX10_puts 150 = .ok (.sipush 230, 3) := by decide +kernel
theorem dX10_puts_153 : decode cX10_puts 153 = .ok (.iload_n 1, 1) := by decide +kernel
theorem dX10_puts_154 : decode cX10_puts 154 = .ok (.iadd, 1) := by decide +kernel
theorem dX10_puts_155 : decode cX10_puts 155 = .ok (.laload, 1) := by decide +kernel
theorem dX10_puts_156 : decode cX10_puts 156 = .ok (.lcmp, 1) := by decide +kernel
theorem dX10_puts_157 : decode cX10_puts 157 = .ok (.ifCond .ne 7, 3) := by decide +kernel
theorem dX10_puts_160 : decode cX10_puts 160 = .ok (.iconst 1, 1) := by decide +kernel
theorem dX10_puts_161 : decode cX10_puts 161 = .ok (.goto 4, 3) := by decide +kernel
theorem dX10_puts_164 : decode cX10_puts 164 = .ok (.iconst 0, 1) := by decide +kernel
theorem dX10_puts_165 : decode cX10_puts 165 = .ok (.istore 5, 2) := by decide +kernel
theorem dX10_puts_167 : decode cX10_puts 167 = .ok (.aload_n 0, 1) := by decide +kernel
theorem dX10_puts_168 : decode cX10_puts 168 = .ok (.dup, 1) := by decide +kernel
theorem dX10_puts_169 : decode cX10_puts 169 = .ok (.getfield 79, 3) := by decide +kernel
theorem dX10_puts_172 : decode cX10_puts 172 = .ok (.iload 5, 2) := by decide +kernel
theorem dX10_puts_174 : decode cX10_puts 174 = .ok (.ifCond .eq 7, 3) := by decide +kernel
theorem dX10_puts_177 : decode cX10_puts 177 = .ok (.iconst 0, 1) := by decide +kernel
theorem dX10_puts_178 : decode cX10_puts 178 = .ok (.goto 4, 3) := by decide +kernel
theorem dX10_puts_181 : decode cX10_puts 181 = .ok (.iconst 1, 1) := by decide +kernel
theorem dX10_puts_182 : decode cX10_puts 182 = .ok (.isub, 1) := by decide +kernel
theorem dX10_puts_183 : decode cX10_puts 183 = .ok (.putfield 79, 3) := by decide +kernel
theorem dX10_puts_186 : decode cX10_puts 186 = .ok (.aload_n 0, 1) := by decide +kernel
theorem dX10_puts_187 : decode cX10_puts 187 = .ok (.dup, 1) := by decide +kernel
theorem dX10_puts_188 : decode cX10_puts 188 = .ok (.getfield 231, 3) := by decide +kernel
theorem dX10_puts_191 : decode cX10_puts 191 = .ok (.iload 5, 2) := by decide +kernel
theorem dX10_puts_193 : decode cX10_puts 193 = .ok (.ifCond .eq 7, 3) := by decide +kernel
theorem dX10_puts_196 : decode cX10_puts 196 = .ok (.iload_n 2, 1) := by decide +kernel
theorem dX10_puts_197 : decode cX10_puts 197 = .ok (.goto 4, 3) := by decide +kernel
theorem dX10_puts_200 : decode cX10_puts 200 = .ok (.iconst 0, 1) := by decide +kernel
theorem dX10_puts_201 : decode cX10_puts 201 = .ok (.iadd, 1) := by decide +kernel
theorem dX10_puts_202 : decode cX10_puts 202 = .ok (.putfield 231, 3) := by decide +kernel
theorem dX10_puts_205 : decode cX10_puts 205 = .ok (.iload 5, 2) := by decide +kernel
theorem dX10_puts_207 : decode cX10_puts 207 = .ok (.ireturn, 1) := by decide +kernel
theorem dX10_peels_0 : decode cX10_peels 0 = .ok (.aload_n 0, 1) := by decide +kernel
theorem dX10_peels_1 : decode cX10_peels 1 = .ok (.invokevirtual 234, 3) := by decide +kernel
theorem dX10_peels_4 : decode cX10_peels 4 = .ok (.istore_n 1, 1) := by decide +kernel
theorem dX10_peels_5 : decode cX10_peels 5 = .ok (.aload_n 0, 1) := by decide +kernel
theorem dX10_peels_6 : decode cX10_peels 6 = .ok (.iload_n 1, 1) := by decide +kernel
theorem dX10_peels_7 : decode cX10_peels 7 = .ok (.putfield 237, 3) := by decide +kernel
theorem dX10_peels_10 : decode cX10_peels 10 = .ok (.iload_n 1, 1) := by decide +kernel
theorem dX10_peels_11 : decode cX10_peels 11 = .ok (.iconst (-1), 1) := by decide +kernel
theorem dX10_peels_12 : decode cX10_peels 12 = .ok (.if_icmp .ne 10, 3) := by decide +kernel
theorem dX10_peels_15 : decode cX10_peels 15 = .ok (.aload_n 0, 1) := by decide +kernel
theorem dX10_peels_16 : decode cX10_peels 16 = .ok (.iconst 0, 1) := by decide +kernel
theorem dX10_peels_17 : decode cX10_peels 17 = .ok (.putfield 240, 3) := by decide +kernel
theorem dX10_peels_20 : decode cX10_peels 20 = .ok (.iconst 0, 1) := by decide +kernel
theorem dX10_peels_21 : decode cX10_peels 21 = .ok (.ireturn, 1) := by decide +kernel
theorem dX10_peels_22 : decode cX10_peels 22 = .ok (.aload_n 0, 1) := by decide +kernel
theorem dX10_peels_23 : decode cX10_peels 23 = .ok (.getfield 7, 3) := by decide +kernel
theorem dX10_peels_26 : decode cX10_peels 26 = .ok (.sipush 230, 3) := by decide +kernel
theorem dX10_peels_29 : decode cX10_peels 29 = .ok (.iload_n 1, 1) := by decide +kernel
theorem dX10_peels_30 : decode cX10_peels 30 = .ok (.iadd, 1) := by decide +kernel
theorem dX10_peels_31 : decode cX10_peels 31 = .ok (.laload, 1) := by decide +kernel
theorem dX10_peels_32 : decode cX10_peels 32 = .ok (.aload_n 0, 1) := by decide +kernel
theorem dX10_peels_33 : decode cX10_peels 33 = .ok (.getfield 38, 3) := by decide +kernel
theorem dX10_peels_36 : decode cX10_peels 36 = .ok (.iload_n 1, 1) := by decide +kernel
theorem dX10_peels_37 : decode cX10_peels 37 = .ok (.laload, 1) := by decide +kernel
theorem dX10_peels_38 : decode cX10_peels 38 = .ok (.lcmp, 1) := by decide +kernel
theorem dX10_peels_39 : decode cX10_peels 39 = .ok (.ifCond .lt 20, 3) := by decide +kernel
theorem dX10_peels_42 : decode cX10_peels 42 = .ok (.iload_n 1, 1) := by decide +kernel
theorem dX10_peels_43 : decode cX10_peels 43 = .ok (.iconst 2, 1) := by decide +kernel
theorem dX10_peels_44 : decode cX10_peels 44 = .ok (.irem, 1) := by decide +kernel
theorem dX10_peels_45 : decode cX10_peels 45 = .ok (.iconst 1, 1) := by decide +kernel
theorem dX10_peels_46 : decode cX10_peels 46 = .ok (.if_icmp .eq 13, 3) := by decide +kernel
theorem dX10_peels_49 : decode cX10_peels 49 = .ok (.iload_n 1, 1) := by decide +kernel
theorem dX10_peels_50 : decode cX10_peels 50 = .ok (.iconst 2, 1) := by decide +kernel
theorem dX10_peels_51 : decode cX10_peels 51 = .ok (.aload_n 0, 1) := by decide +kernel
theorem dX10_peels_52 : decode cX10_peels 52 = .ok (.getfield 231, 3) := by decide +kernel
theorem dX10_peels_55 : decode cX10_peels 55 = .ok (.imul, 1) := by decide +kernel
theorem dX10_peels_56 : decode cX10_peels 56 = .ok (.if_icmp .gt 10, 3) := by decide +kernel
theorem dX10_peels_59 : decode cX10_peels 59 = .ok (.aload_n 0, 1) := by decide +kernel
theorem dX10_peels_60 : decode cX10_peels 60 = .ok (.iconst 1, 1) := by decide +kernel
theorem dX10_peels_61 : decode cX10_peels 61 = .ok (.putfield 240, 3) := by decide +kernel
theorem dX10_peels_64 : decode cX10_peels 64 = .ok (.iconst 0, 1) := by decide +kernel
theorem dX10_peels_65 : decode cX10_peels 65 = .ok (.ireturn, 1) := by decide +kernel
theorem dX10_peels_66 : decode cX10_peels 66 = .ok (.iload_n 1, 1) := by decide +kernel
theorem dX10_peels_67 : decode cX10_peels 67 = .ok (.iconst 2, 1) := by decide +kernel
theorem dX10_peels_68 : decode cX10_peels 68 = .ok (.idiv, 1) := by decide +kernel
theorem dX10_peels_69 : decode cX10_peels 69 = .ok (.aload_n 0, 1) := by decide +kernel
theorem dX10_peels_70 : decode cX10_peels 70 = .ok (.getfield 231, 3) := by decide +kernel
theorem dX10_peels_73 : decode cX10_peels 73 = .ok (.isub, 1) := by decide +kernel
theorem dX10_peels_74 : decode cX10_peels 74 = .ok (.bipush 20, 2) := by decide +kernel
theorem dX10_peels_76 : decode cX10_peels 76 = .ok (.if_icmp .gt 12, 3) := by decide +kernel
theorem dX10_peels_79 : decode cX10_peels 79 = .ok (.aload_n 0, 1) := by decide +kernel
theorem dX10_peels_80 : decode cX10_peels 80 = .ok (.getfield 79, 3) := by decide +kernel
theorem dX10_peels_83 : decode cX10_peels 83 = .ok (.bipush 8, 2) := by decide +kernel
theorem dX10_peels_85 : decode cX10_peels 85 = .ok (.if_icmp .ne 10, 3) := by decide +kernel
theorem dX10_peels_88 : decode cX10_peels 88 = .ok (.aload_n 0, 1) := by decide +kernel
theorem dX10_peels_89 : decode cX10_peels 89 = .ok (.iconst 2, 1) := by decide +kernel
theorem dX10_peels_90 : decode cX10_peels 90 = .ok (.putfield 240, 3) := by decide +kernel
theorem dX10_peels_93 : decode cX10_peels 93 = .ok (.iconst 0, 1) := by decide +kernel
theorem dX10_peels_94 : decode cX10_peels 94 = .ok (.ireturn, 1) := by decide +kernel
theorem dX10_peels_95 : decode cX10_peels 95 = .ok (.aload_n 0, 1) := by decide +kernel
theorem dX10_peels_96 : decode cX10_peels 96 = .ok (.iconst 1, 1) := by decide +kernel
theorem dX10_peels_97 : decode cX10_peels 97 = .ok (.putfield 240, 3) := by decide +kernel
theorem dX10_peels_100 : decode cX10_peels 100 = .ok (.aload_n 0, 1) := by decide +kernel
theorem dX10_peels_101 : decode cX10_peels 101 = .ok (.iload_n 1, 1) := by decide +kernel
theorem dX10_peels_102 : decode cX10_peels 102 = .ok (.invokevirtual 243, 3) := by decide +kernel
theorem dX10_peels_105 : decode cX10_peels 105 = .ok (.ireturn, 1) := by decide +kernel
theorem dX10_peelAll_0 : decode cX10_peelAll 0 = .ok (.aload_n 0, 1) := by decide +kernel
theorem dX10_peelAll_1 : decode cX10_peelAll 1 = .ok (.iconst 0, 1) := by decide +kernel
theorem dX10_peelAll_2 : decode cX10_peelAll 2 = .ok (.putfield 79, 3) := by decide +kernel
theorem dX10_peelAll_5 : decode cX10_peelAll 5 = .ok (.aload_n 0, 1) := by decide +kernel
theorem dX10_peelAll_6 : decode cX10_peelAll 6 = .ok (.getfield 23, 3) := by decide +kernel
theorem dX10_peelAll_9 : decode cX10_peelAll 9 = .ok (.iconst 0, 1) := by decide +kernel
theorem dX10_peelAll_10 : decode cX10_peelAll 10 = .ok (.aload_n 0, 1) := by decide +kernel
theorem dX10_peelAll_11 : decode cX10_peelAll 11 = .ok (.getfield 7, 3) := by decide +kernel
theorem dX10_peelAll_14 : decode cX10_peelAll 14 = .ok (.bipush 17, 2) := by decide +kernel
theorem dX10_peelAll_16 : decode cX10_peelAll 16 = .ok (.laload, 1) := by decide +kernel
theorem dX10_peelAll_17 : decode cX10_peelAll 17 = .ok (.l2i, 1) := by decide +kernel
theorem dX10_peelAll_18 : decode cX10_peelAll 18 = .ok (.iastore, 1) := by decide +kernel
theorem dX10_peelAll_19 : decode cX10_peelAll 19 = .ok (.aload_n 0, 1) := by decide +kernel
theorem dX10_peelAll_20 : decode cX10_peelAll 20 = .ok (.iconst 1, 1) := by decide +kernel
theorem dX10_peelAll_21 : decode cX10_peelAll 21 = .ok (.putfield 84, 3) := by decide +kernel
theorem dX10_peelAll_24 : decode cX10_peelAll 24 = .ok (.aload_n 0, 1) := by decide +kernel
theorem dX10_peelAll_25 : decode cX10_peelAll 25 = .ok (.getfield 26, 3) := by decide +kernel
theorem dX10_peelAll_28 : decode cX10_peelAll 28 = .ok (.iconst 0, 1) := by decide +kernel
theorem dX10_peelAll_29 : decode cX10_peelAll 29 = .ok (.iconst 0, 1) := by decide +kernel
theorem dX10_peelAll_30 : decode cX10_peelAll 30 = .ok (.iastore, 1) := by decide +kernel
theorem dX10_peelAll_31 : decode cX10_peelAll 31 = .ok (.aload_n 0, 1) := by decide +kernel
theorem dX10_peelAll_32 : decode cX10_peelAll 32 = .ok (.getfield 29, 3) := by decide +kernel
theorem dX10_peelAll_35 : decode cX10_peelAll 35 = .ok (.iconst 0, 1) := by decide +kernel
theorem dX10_peelAll_36 : decode cX10_peelAll 36 = .ok (.aload_n 0, 1) := by decide +kernel
theorem dX10_peelAll_37 : decode cX10_peelAll 37 = .ok (.getfield 7, 3) := by decide +kernel
theorem dX10_peelAll_40 : decode cX10_peelAll 40 = .ok (.bipush 22, 2) := by decide +kernel
theorem dX10_peelAll_42 : decode cX10_peelAll 42 = .ok (.laload, 1) := by decide +kernel
theorem dX10_peelAll_43 : decode cX10_peelAll 43 = .ok (.lastore, 1) := by decide +kernel
theorem dX10_peelAll_44 : decode cX10_peelAll 44 = .ok (.aload_n 0, 1) := by decide +kernel
theorem dX10_peelAll_45 : decode cX10_peelAll 45 = .ok (.iconst 0, 1) := by decide +kernel
theorem dX10_peelAll_46 : decode cX10_peelAll 46 = .ok (.putfield 231, 3) := by decide +kernel
theorem dX10_peelAll_49 : decode cX10_peelAll 49 = .ok (.aload_n 0, 1) := by decide +kernel
theorem dX10_peelAll_50 : decode cX10_peelAll 50 = .ok (.invokevirtual 117, 3) := by decide +kernel
theorem dX10_peelAll_53 : decode cX10_peelAll 53 = .ok (.iconst 1, 1) := by decide +kernel
theorem dX10_peelAll_54 : decode cX10_peelAll 54 = .ok (.istore_n 1, 1) := by decide +kernel
theorem dX10_peelAll_55 : decode cX10_peelAll 55 = .ok (.iload_n 1, 1) := by decide +kernel
theorem dX10_peelAll_56 : decode cX10_peelAll 56 = .ok (.ifCond .eq 11, 3) := by decide +kernel
theorem dX10_peelAll_59 : decode cX10_peelAll 59 = .ok (.aload_n 0, 1) := by decide +kernel
theorem dX10_peelAll_60 : decode cX10_peelAll 60 = .ok (.invokevirtual 246, 3) := by decide +kernel
theorem dX10_peelAll_63 : decode cX10_peelAll 63 = .ok (.istore_n 1, 1) := by decide +kernel
theorem dX10_peelAll_64 : decode cX10_peelAll 64 = .ok (.goto (-9), 3) := by decide +kernel
theorem dX10_peelAll_67 : decode cX10_peelAll 67 = .ok (.return_, 1) := by decide +kernel
theorem dX10_peelOf_0 : decode cX10_peelOf 0 = .ok (.iload_n 1, 1) := by decide +kernel
theorem dX10_peelOf_1 : decode cX10_peelOf 1 = .ok (.ifCond .ne 10, 3) := by decide +kernel
theorem dX10_peelOf_4 : decode cX10_peelOf 4 = .ok (.aload_n 0, 1) := by decide +kernel
theorem dX10_peelOf_5 : decode cX10_peelOf 5 = .ok (.getfield 240, 3) := by decide +kernel
theorem dX10_peelOf_8 : decode cX10_peelOf 8 = .ok (.goto 31, 3) := by decide +kernel
theorem dX10_peelOf_11 : decode cX10_peelOf 11 = .ok (.iload_n 1, 1) := by decide +kernel
theorem dX10_peelOf_12 : decode cX10_peelOf 12 = .ok (.iconst 1, 1) := by decide +kernel
theorem dX10_peelOf_13 : decode cX10_peelOf 13 = .ok (.if_icmp .ne 10, 3) := by decide +kernel
theorem dX10_peelOf_16 : decode cX10_peelOf 16 = .ok (.aload_n 0, 1) := by decide +kernel
theorem dX10_peelOf_17 : decode cX10_peelOf 17 = .ok (.getfield 237, 3) := by decide +kernel
theorem dX10_peelOf_20 : decode cX10_peelOf 20 = .ok (.goto 19, 3) := by decide +kernel
theorem dX10_peelOf_23 : decode cX10_peelOf 23 = .ok (.iload_n 1, 1) := by decide +kernel
theorem dX10_peelOf_24 : decode cX10_peelOf 24 = .ok (.iconst 2, 1) := by decide +kernel
theorem dX10_peelOf_25 : decode cX10_peelOf 25 = .ok (.if_icmp .ne 10, 3) := by decide +kernel
theorem dX10_peelOf_28 : decode cX10_peelOf 28 = .ok (.aload_n 0, 1) := by decide +kernel
theorem dX10_peelOf_29 : decode cX10_peelOf 29 = .ok (.getfield 79, 3) := by decide +kernel
theorem dX10_peelOf_32 : decode cX10_peelOf 32 = .ok (.goto 7, 3) := by decide +kernel
theorem dX10_peelOf_35 : decode cX10_peelOf 35 = .ok (.aload_n 0, 1) := by decide +kernel
theorem dX10_peelOf_36 : decode cX10_peelOf 36 = .ok (.getfield 231, 3) := by decide +kernel
theorem dX10_peelOf_39 : decode cX10_peelOf 39 = .ok (.ireturn, 1) := by decide +kernel
theorem dX10_peel_0 : decode cX10_peel 0 = .ok (.aload_n 0, 1) := by decide +kernel
theorem dX10_peel_1 : decode cX10_peel 1 = .ok (.iload_n 1, 1) := by decide +kernel
theorem dX10_peel_2 : decode cX10_peel 2 = .ok (.i2l, 1) := by decide +kernel
theorem dX10_peel_3 : decode cX10_peel 3 = .ok (.lconst 0, 1) := by decide +kernel
theorem dX10_peel_4 : decode cX10_peel 4 = .ok (.ldc2_w 224, 3) := by decide +kernel
theorem dX10_peel_7 : decode cX10_peel 7 = .ok (.invokestatic 59, 3) := by decide +kernel
theorem dX10_peel_10 : decode cX10_peel 10 = .ok (.ifCond .eq 7, 3) := by decide +kernel
theorem dX10_peel_13 : decode cX10_peel 13 = .ok (.iconst 0, 1) := by decide +kernel
theorem dX10_peel_14 : decode cX10_peel 14 = .ok (.goto 4, 3) := by decide +kernel
theorem dX10_peel_17 : decode cX10_peel 17 = .ok (.iconst 1, 1) := by decide +kernel
theorem dX10_peel_18 : decode cX10_peel 18 = .ok (.putfield 48, 3) := by decide +kernel
theorem dX10_peel_21 : decode cX10_peel 21 = .ok (.aload_n 0, 1) := by decide +kernel
theorem dX10_peel_22 : decode cX10_peel 22 = .ok (.getfield 48, 3) := by decide +kernel
theorem dX10_peel_25 : decode cX10_peel 25 = .ok (.ifCond .eq 5, 3) := by decide +kernel
theorem dX10_peel_28 : decode cX10_peel 28 = .ok (.iconst 0, 1) := by decide +kernel
theorem dX10_peel_29 : decode cX10_peel 29 = .ok (.ireturn, 1) := by decide +kernel
theorem dX10_peel_30 : decode cX10_peel 30 = .ok (.aload_n 0, 1) := by decide +kernel
theorem dX10_peel_31 : decode cX10_peel 31 = .ok (.invokevirtual 250, 3) := by decide +kernel
theorem dX10_peel_34 : decode cX10_peel 34 = .ok (.aload_n 0, 1) := by decide +kernel
theorem dX10_peel_35 : decode cX10_peel 35 = .ok (.iload_n 1, 1) := by decide +kernel
theorem dX10_peel_36 : decode cX10_peel 36 = .ok (.invokevirtual 253, 3) := by decide +kernel
theorem dX10_peel_39 : decode cX10_peel 39 = .ok (.ireturn, 1) := by decide +kernel
theorem dX10_found_0 : decode cX10_found 0 = .ok (.aload_n 0, 1) := by decide +kernel
theorem dX10_found_1 : decode cX10_found 1 = .ok (.iload_n 1, 1) := by decide +kernel
theorem dX10_found_2 : decode cX10_found 2 = .ok (.ifCond .lt 17, 3) := by decide +kernel
theorem dX10_found_5 : decode cX10_found 5 = .ok (.iload_n 2, 1) := by decide +kernel
theorem dX10_found_6 : decode cX10_found 6 = .ok (.i2l, 1) := by decide +kernel
theorem dX10_found_7 : decode cX10_found 7 = .ok (.lconst 0, 1) := by decide +kernel
theorem dX10_found_8 : decode cX10_found 8 = .ok (.lconst 1, 1) := by decide +kernel
theorem dX10_found_9 : decode cX10_found 9 = .ok (.invokestatic 59, 3) := by decide +kernel
theorem dX10_found_12 : decode cX10_found 12 = .ok (.ifCond .eq 7, 3) := by decide +kernel
theorem dX10_found_15 : decode cX10_found 15 = .ok (.iconst 0, 1) := by decide +kernel
theorem dX10_found_16 : decode cX10_found 16 = .ok (.goto 4, 3) := by decide +kernel
theorem dX10_found_19 : decode cX10_found 19 = .ok (.iconst 1, 1) := by decide +kernel
theorem dX10_found_20 : decode cX10_found 20 = .ok (.putfield 48, 3) := by decide +kernel
theorem dX10_found_23 : decode cX10_found 23 = .ok (.aload_n 0, 1) := by decide +kernel
theorem dX10_found_24 : decode cX10_found 24 = .ok (.getfield 48, 3) := by decide +kernel
theorem dX10_found_27 : decode cX10_found 27 = .ok (.ifCond .eq 5, 3) := by decide +kernel
theorem dX10_found_30 : decode cX10_found 30 = .ok (.iconst 0, 1) := by decide +kernel
theorem dX10_found_31 : decode cX10_found 31 = .ok (.ireturn, 1) := by decide +kernel
theorem dX10_found_32 : decode cX10_found 32 = .ok (.aload_n 0, 1) := by decide +kernel
theorem dX10_found_33 : decode cX10_found 33 = .ok (.invokevirtual 250, 3) := by decide +kernel
theorem dX10_found_36 : decode cX10_found 36 = .ok (.iload_n 1, 1) := by decide +kernel
theorem dX10_found_37 : decode cX10_found 37 = .ok (.aload_n 0, 1) := by decide +kernel
theorem dX10_found_38 : decode cX10_found 38 = .ok (.getfield 79, 3) := by decide +kernel
theorem dX10_found_41 : decode cX10_found 41 = .ok (.if_icmp .lt 5, 3) := by decide +kernel
theorem dX10_found_44 : decode cX10_found 44 = .ok (.iconst (-1), 1) := by decide +kernel
theorem dX10_found_45 : decode cX10_found 45 = .ok (.ireturn, 1) := by decide +kernel
theorem dX10_found_46 : decode cX10_found 46 = .ok (.iload_n 2, 1) := by decide +kernel
theorem dX10_found_47 : decode cX10_found 47 = .ok (.ifCond .ne 12, 3) := by decide +kernel
theorem dX10_found_50 : decode cX10_found 50 = .ok (.aload_n 0, 1) := by decide +kernel
theorem dX10_found_51 : decode cX10_found 51 = .ok (.getfield 20, 3) := by decide +kernel
theorem dX10_found_54 : decode cX10_found 54 = .ok (.iload_n 1, 1) := by decide +kernel
theorem dX10_found_55 : decode cX10_found 55 = .ok (.iaload, 1) := by decide +kernel
theorem dX10_found_56 : decode cX10_found 56 = .ok (.goto 11, 3) := by decide +kernel
theorem dX10_found_59 : decode cX10_found 59 = .ok (.aload_n 0, 1) := by decide +kernel
theorem dX10_found_60 : decode cX10_found 60 = .ok (.getfield 23, 3) := by decide +kernel
theorem dX10_found_63 : decode cX10_found 63 = .ok (.iload_n 1, 1) := by decide +kernel
theorem dX10_found_64 : decode cX10_found 64 = .ok (.iconst 1, 1) := by decide +kernel
theorem dX10_found_65 : decode cX10_found 65 = .ok (.iadd, 1) := by decide +kernel
theorem dX10_found_66 : decode cX10_found 66 = .ok (.iaload, 1) := by decide +kernel
theorem dX10_found_67 : decode cX10_found 67 = .ok (.ireturn, 1) := by decide +kernel
theorem dX10_adopts_0 : decode cX10_adopts 0 = .ok (.aload_n 0, 1) := by decide +kernel
theorem dX10_adopts_1 : decode cX10_adopts 1 = .ok (.invokevirtual 250, 3) := by decide +kernel
theorem dX10_adopts_4 : decode cX10_adopts 4 = .ok (.aload_n 0, 1) := by decide +kernel
theorem dX10_adopts_5 : decode cX10_adopts 5 = .ok (.getfield 7, 3) := by decide +kernel
theorem dX10_adopts_8 : decode cX10_adopts 8 = .ok (.iconst 0, 1) := by decide +kernel
theorem dX10_adopts_9 : decode cX10_adopts 9 = .ok (.aload_n 0, 1) := by decide +kernel
theorem dX10_adopts_10 : decode cX10_adopts 10 = .ok (.getfield 79, 3) := by decide +kernel
theorem dX10_adopts_13 : decode cX10_adopts 13 = .ok (.i2l, 1) := by decide +kernel
theorem dX10_adopts_14 : decode cX10_adopts 14 = .ok (.lastore, 1) := by decide +kernel
theorem dX10_adopts_15 : decode cX10_adopts 15 = .ok (.iconst 0, 1) := by decide +kernel
theorem dX10_adopts_16 : decode cX10_adopts 16 = .ok (.istore_n 1, 1) := by decide +kernel
theorem dX10_adopts_17 : decode cX10_adopts 17 = .ok (.iload_n 1, 1) := by decide +kernel
theorem dX10_adopts_18 : decode cX10_adopts 18 = .ok (.aload_n 0, 1) := by decide +kernel
theorem dX10_adopts_19 : decode cX10_adopts 19 = .ok (.getfield 79, 3) := by decide +kernel
theorem dX10_adopts_22 : decode cX10_adopts 22 = .ok (.if_icmp .ge 28, 3) := by decide +kernel
theorem dX10_adopts_25 : decode cX10_adopts 25 = .ok (.aload_n 0, 1) := by decide +kernel
theorem dX10_adopts_26 : decode cX10_adopts 26 = .ok (.iload_n 1, 1) := by decide +kernel
theorem dX10_adopts_27 : decode cX10_adopts 27 = .ok (.aload_n 0, 1) := by decide +kernel
theorem dX10_adopts_28 : decode cX10_adopts 28 = .ok (.getfield 20, 3) := by decide +kernel
theorem dX10_adopts_31 : decode cX10_adopts 31 = .ok (.iload_n 1, 1) := by decide +kernel
theorem dX10_adopts_32 : decode cX10_adopts 32 = .ok (.iaload, 1) := by decide +kernel
theorem dX10_adopts_33 : decode cX10_adopts 33 = .ok (.aload_n 0, 1) := by decide +kernel
theorem dX10_adopts_34 : decode cX10_adopts 34 = .ok (.getfield 23, 3) := by decide +kernel
theorem dX10_adopts_37 : decode cX10_adopts 37 = .ok (.iload_n 1, 1) := by decide +kernel
theorem dX10_adopts_38 : decode cX10_adopts 38 = .ok (.iconst 1, 1) := by decide +kernel
theorem dX10_adopts_39 : decode cX10_adopts 39 = .ok (.iadd, 1) := by decide +kernel
theorem dX10_adopts_40 : decode cX10_adopts 40 = .ok (.iaload, 1) := by decide +kernel
theorem dX10_adopts_41 : decode cX10_adopts 41 = .ok (.invokevirtual 126, 3) := by decide +kernel
theorem dX10_adopts_44 : decode cX10_adopts 44 = .ok (.iinc 1 1, 3) := by decide +kernel
theorem dX10_adopts_47 : decode cX10_adopts 47 = .ok (.goto (-30), 3) := by decide +kernel
theorem dX10_adopts_50 : decode cX10_adopts 50 = .ok (.aload_n 0, 1) := by decide +kernel
theorem dX10_adopts_51 : decode cX10_adopts 51 = .ok (.getfield 79, 3) := by decide +kernel
theorem dX10_adopts_54 : decode cX10_adopts 54 = .ok (.ireturn, 1) := by decide +kernel
theorem dX10_adopt_0 : decode cX10_adopt 0 = .ok (.aload_n 0, 1) := by decide +kernel
theorem dX10_adopt_1 : decode cX10_adopt 1 = .ok (.iconst 0, 1) := by decide +kernel
theorem dX10_adopt_2 : decode cX10_adopt 2 = .ok (.putfield 48, 3) := by decide +kernel
theorem dX10_adopt_5 : decode cX10_adopt 5 = .ok (.aload_n 0, 1) := by decide +kernel
theorem dX10_adopt_6 : decode cX10_adopt 6 = .ok (.invokevirtual 134, 3) := by decide +kernel
theorem dX10_adopt_9 : decode cX10_adopt 9 = .ok (.aload_n 0, 1) := by decide +kernel
theorem dX10_adopt_10 : decode cX10_adopt 10 = .ok (.invokevirtual 256, 3) := by decide +kernel
theorem dX10_adopt_13 : decode cX10_adopt 13 = .ok (.ireturn, 1) := by decide +kernel
theorem dX10_type_0 : decode cX10_type 0 = .ok (.aload_n 0, 1) := by decide +kernel
theorem dX10_type_1 : decode cX10_type 1 = .ok (.iload_n 1, 1) := by decide +kernel
theorem dX10_type_2 : decode cX10_type 2 = .ok (.i2l, 1) := by decide +kernel
theorem dX10_type_3 : decode cX10_type 3 = .ok (.lconst 0, 1) := by decide +kernel
theorem dX10_type_4 : decode cX10_type 4 = .ok (.ldc2_w 259, 3) := by decide +kernel
theorem dX10_type_7 : decode cX10_type 7 = .ok (.invokestatic 59, 3) := by decide +kernel
theorem dX10_type_10 : decode cX10_type 10 = .ok (.ifCond .ne 7, 3) := by decide +kernel
theorem dX10_type_13 : decode cX10_type 13 = .ok (.iconst 1, 1) := by decide +kernel
theorem dX10_type_14 : decode cX10_type 14 = .ok (.goto 17, 3) := by decide +kernel
theorem dX10_type_17 : decode cX10_type 17 = .ok (.aload_n 0, 1) := by decide +kernel
theorem dX10_type_18 : decode cX10_type 18 = .ok (.getfield 261, 3) := by decide +kernel
theorem dX10_type_21 : decode cX10_type 21 = .ok (.bipush 120, 2) := by decide +kernel
theorem dX10_type_23 : decode cX10_type 23 = .ok (.if_icmp .ne 7, 3) := by decide +kernel
theorem dX10_type_26 : decode cX10_type 26 = .ok (.iconst 2, 1) := by decide +kernel
theorem dX10_type_27 : decode cX10_type 27 = .ok (.goto 4, 3) := by decide +kernel
theorem dX10_type_30 : decode cX10_type 30 = .ok (.iconst 0, 1) := by decide +kernel
theorem dX10_type_31 : decode cX10_type 31 = .ok (.putfield 48, 3) := by decide +kernel
theorem dX10_type_34 : decode cX10_type 34 = .ok (.aload_n 0, 1) := by decide +kernel
theorem dX10_type_35 : decode cX10_type 35 = .ok (.getfield 48, 3) := by decide +kernel
theorem dX10_type_38 : decode cX10_type 38 = .ok (.ifCond .eq 5, 3) := by decide +kernel
theorem dX10_type_41 : decode cX10_type 41 = .ok (.iconst 0, 1) := by decide +kernel
theorem dX10_type_42 : decode cX10_type 42 = .ok (.ireturn, 1) := by decide +kernel
theorem dX10_type_43 : decode cX10_type 43 = .ok (.aload_n 0, 1) := by decide +kernel
theorem dX10_type_44 : decode cX10_type 44 = .ok (.getfield 16, 3) := by decide +kernel
theorem dX10_type_47 : decode cX10_type 47 = .ok (.aload_n 0, 1) := by decide +kernel
theorem dX10_type_48 : decode cX10_type 48 = .ok (.getfield 261, 3) := by decide +kernel
theorem dX10_type_51 : decode cX10_type 51 = .ok (.iload_n 1, 1) := by decide +kernel
theorem dX10_type_52 : decode cX10_type 52 = .ok (.iastore, 1) := by decide +kernel
theorem dX10_type_53 : decode cX10_type 53 = .ok (.aload_n 0, 1) := by decide +kernel
theorem dX10_type_54 : decode cX10_type 54 = .ok (.dup, 1) := by decide +kernel
theorem dX10_type_55 : decode cX10_type 55 = .ok (.getfield 261, 3) := by decide +kernel
theorem dX10_type_58 : decode cX10_type 58 = .ok (.iconst 1, 1) := by decide +kernel
theorem dX10_type_59 : decode cX10_type 59 = .ok (.iadd, 1) := by decide +kernel
theorem dX10_type_60 : decode cX10_type 60 = .ok (.putfield 261, 3) := by decide +kernel
theorem dX10_type_63 : decode cX10_type 63 = .ok (.aload_n 0, 1) := by decide +kernel
theorem dX10_type_64 : decode cX10_type 64 = .ok (.getfield 261, 3) := by decide +kernel
theorem dX10_type_67 : decode cX10_type 67 = .ok (.ireturn, 1) := by decide +kernel
theorem dX10_clearScript_0 : decode cX10_clearScript 0 = .ok (.aload_n 0, 1) := by decide +kernel
theorem dX10_clearScript_1 : decode cX10_clearScript 1 = .ok (.iconst 0, 1) := by decide +kernel
theorem dX10_clearScript_2 : decode cX10_clearScript 2 = .ok (.putfield 48, 3) := by decide +kernel
theorem dX10_clearScript_5 : decode cX10_clearScript 5 = .ok (.aload_n 0, 1) := by decide +kernel
theorem dX10_clearScript_6 : decode cX10_clearScript 6 = .ok (.getfield 261, 3) := by decide +kernel
theorem dX10_clearScript_9 : decode cX10_clearScript 9 = .ok (.istore_n 1, 1) := by decide +kernel
theorem dX10_clearScript_10 : decode cX10_clearScript 10 = .ok (.aload_n 0, 1) := by decide +kernel
theorem dX10_clearScript_11 : decode cX10_clearScript 11 = .ok (.iconst 0, 1) := by decide +kernel
theorem dX10_clearScript_12 : decode cX10_clearScript 12 = .ok (.putfield 261, 3) := by decide +kernel
theorem dX10_clearScript_15 : decode cX10_clearScript 15 = .ok (.iload_n 1, 1) := by decide +kernel
theorem dX10_clearScript_16 : decode cX10_clearScript 16 = .ok (.ireturn, 1) := by decide +kernel
theorem dX10_here_0 : decode cX10_here 0 = .ok (.aload_n 0, 1) := by decide +kernel
theorem dX10_here_1 : decode cX10_here 1 = .ok (.getfield 264, 3) := by decide +kernel
theorem dX10_here_4 : decode cX10_here 4 = .ok (.aload_n 0, 1) := by decide +kernel
theorem dX10_here_5 : decode cX10_here 5 = .ok (.getfield 261, 3) := by decide +kernel
theorem dX10_here_8 : decode cX10_here 8 = .ok (.if_icmp .ge 15, 3) := by decide +kernel
theorem dX10_here_11 : decode cX10_here 11 = .ok (.aload_n 0, 1) := by decide +kernel
theorem dX10_here_12 : decode cX10_here 12 = .ok (.getfield 16, 3) := by decide +kernel
theorem dX10_here_15 : decode cX10_here 15 = .ok (.aload_n 0, 1) := by decide +kernel
theorem dX10_here_16 : decode cX10_here 16 = .ok (.getfield 264, 3) := by decide +kernel
theorem dX10_here_19 : decode cX10_here 19 = .ok (.iaload, 1) := by decide +kernel
theorem dX10_here_20 : decode cX10_here 20 = .ok (.goto 4, 3) := by decide +kernel
theorem dX10_here_23 : decode cX10_here 23 = .ok (.iconst (-1), 1) := by decide +kernel
theorem dX10_here_24 : decode cX10_here 24 = .ok (.ireturn, 1) := by decide +kernel
theorem dX10_spaces_0 : decode cX10_spaces 0 = .ok (.aload_n 0, 1) := by decide +kernel
theorem dX10_spaces_1 : decode cX10_spaces 1 = .ok (.getfield 264, 3) := by decide +kernel
theorem dX10_spaces_4 : decode cX10_spaces 4 = .ok (.istore_n 1, 1) := by decide +kernel
theorem dX10_spaces_5 : decode cX10_spaces 5 = .ok (.aload_n 0, 1) := by decide +kernel
theorem dX10_spaces_6 : decode cX10_spaces 6 = .ok (.invokevirtual 267, 3) := by decide +kernel
theorem dX10_spaces_9 : decode cX10_spaces 9 = .ok (.bipush 32, 2) := by decide +kernel
theorem dX10_spaces_11 : decode cX10_spaces 11 = .ok (.if_icmp .ne 16, 3) := by decide +kernel
theorem dX10_spaces_14 : decode cX10_spaces 14 = .ok (.aload_n 0, 1) := by decide +kernel
theorem dX10_spaces_15 : decode cX10_spaces 15 = .ok (.dup, 1) := by decide +kernel
theorem dX10_spaces_16 : decode cX10_spaces 16 = .ok (.getfield 264, 3) := by decide +kernel
theorem dX10_spaces_19 : decode cX10_spaces 19 = .ok (.iconst 1, 1) := by decide +kernel
theorem dX10_spaces_20 : decode cX10_spaces 20 = .ok (.iadd, 1) := by decide +kernel
theorem dX10_spaces_21 : decode cX10_spaces 21 = .ok (.putfield 264, 3) := by decide +kernel
theorem dX10_spaces_24 : decode cX10_spaces 24 = .ok (.goto (-19), 3) := by decide +kernel
theorem dX10_spaces_27 : decode cX10_spaces 27 = .ok (.aload_n 0, 1) := by decide +kernel
theorem dX10_spaces_28 : decode cX10_spaces 28 = .ok (.getfield 264, 3) := by decide +kernel
theorem dX10_spaces_31 : decode cX10_spaces 31 = .ok (.iload_n 1, 1) := by decide +kernel
theorem dX10_spaces_32 : decode cX10_spaces 32 = .ok (.if_icmp .le 7, 3) := by decide +kernel
theorem dX10_spaces_35 : decode cX10_spaces 35 = .ok (.iconst 1, 1) := by decide +kernel
theorem dX10_spaces_36 : decode cX10_spaces 36 = .ok (.goto 4, 3) := by decide +kernel
theorem dX10_spaces_39 : decode cX10_spaces 39 = .ok (.iconst 0, 1) := by decide +kernel
theorem dX10_spaces_40 : decode cX10_spaces 40 = .ok (.ireturn, 1) := by decide +kernel
theorem dX10_kindOf_0 : decode cX10_kindOf 0 = .ok (.lload_n 0, 1) := by decide +kernel
theorem dX10_kindOf_1 : decode cX10_kindOf 1 = .ok (.ldc2_w 270, 3) := by decide +kernel
theorem dX10_kindOf_4 : decode cX10_kindOf 4 = .ok (.lcmp, 1) := by decide +kernel
theorem dX10_kindOf_5 : decode cX10_kindOf 5 = .ok (.ifCond .eq 11, 3) := by decide +kernel
theorem dX10_kindOf_8 : decode cX10_kindOf 8 = .ok (.lload_n 0, 1) := by decide +kernel
theorem dX10_kindOf_9 : decode cX10_kindOf 9 = .ok (.ldc2_w 272, 3) := by decide +kernel
theorem dX10_kindOf_12 : decode cX10_kindOf 12 = .ok (.lcmp, 1) := by decide +kernel
theorem dX10_kindOf_13 : decode cX10_kindOf 13 = .ok (.ifCond .ne 17, 3) := by decide +kernel
theorem dX10_kindOf_16 : decode cX10_kindOf 16 = .ok (.lload_n 0, 1) := by decide +kernel
theorem dX10_kindOf_17 : decode cX10_kindOf 17 = .ok (.ldc2_w 270, 3) := by decide +kernel
theorem dX10_kindOf_20 : decode cX10_kindOf 20 = .ok (.lcmp, 1) := by decide +kernel
theorem dX10_kindOf_21 : decode cX10_kindOf 21 = .ok (.ifCond .ne 7, 3) := by decide +kernel
theorem dX10_kindOf_24 : decode cX10_kindOf 24 = .ok (.iconst 0, 1) := by decide +kernel
theorem dX10_kindOf_25 : decode cX10_kindOf 25 = .ok (.goto 4, 3) := by decide +kernel
theorem dX10_kindOf_28 : decode cX10_kindOf 28 = .ok (.iconst 1, 1) := by decide +kernel
theorem dX10_kindOf_29 : decode cX10_kindOf 29 = .ok (.ireturn, 1) := by decide +kernel
theorem dX10_kindOf_30 : decode cX10_kindOf 30 = .ok (.lload_n 0, 1) := by decide +kernel
theorem dX10_kindOf_31 : decode cX10_kindOf 31 = .ok (.ldc2_w 274, 3) := by decide +kernel
theorem dX10_kindOf_34 : decode cX10_kindOf 34 = .ok (.lcmp, 1) := by decide +kernel
theorem dX10_kindOf_35 : decode cX10_kindOf 35 = .ok (.ifCond .eq 11, 3) := by decide +kernel
theorem dX10_kindOf_38 : decode cX10_kindOf 38 = .ok (.lload_n 0, 1) := by decide +kernel
theorem dX10_kindOf_39 : decode cX10_kindOf 39 = .ok (.ldc2_w 276, 3) := by decide +kernel
theorem dX10_kindOf_42 : decode cX10_kindOf 42 = .ok (.lcmp, 1) := by decide +kernel
theorem dX10_kindOf_43 : decode cX10_kindOf 43 = .ok (.ifCond .ne 17, 3) := by decide +kernel
theorem dX10_kindOf_46 : decode cX10_kindOf 46 = .ok (.lload_n 0, 1) := by decide +kernel
theorem dX10_kindOf_47 : decode cX10_kindOf 47 = .ok (.ldc2_w 274, 3) := by decide +kernel
theorem dX10_kindOf_50 : decode cX10_kindOf 50 = .ok (.lcmp, 1) := by decide +kernel
theorem dX10_kindOf_51 : decode cX10_kindOf 51 = .ok (.ifCond .ne 7, 3) := by decide +kernel
theorem dX10_kindOf_54 : decode cX10_kindOf 54 = .ok (.iconst 2, 1) := by decide +kernel
theorem dX10_kindOf_55 : decode cX10_kindOf 55 = .ok (.goto 4, 3) := by decide +kernel
theorem dX10_kindOf_58 : decode cX10_kindOf 58 = .ok (.iconst 3, 1) := by decide +kernel
theorem dX10_kindOf_59 : decode cX10_kindOf 59 = .ok (.ireturn, 1) := by decide +kernel
theorem dX10_kindOf_60 : decode cX10_kindOf 60 = .ok (.lload_n 0, 1) := by decide +kernel
theorem dX10_kindOf_61 : decode cX10_kindOf 61 = .ok (.ldc2_w 278, 3) := by decide +kernel
theorem dX10_kindOf_64 : decode cX10_kindOf 64 = .ok (.lcmp, 1) := by decide +kernel
theorem dX10_kindOf_65 : decode cX10_kindOf 65 = .ok (.ifCond .eq 11, 3) := by decide +kernel
theorem dX10_kindOf_68 : decode cX10_kindOf 68 = .ok (.lload_n 0, 1) := by decide +kernel
theorem dX10_kindOf_69 : decode cX10_kindOf 69 = .ok (.ldc2_w 280, 3) := by decide +kernel
theorem dX10_kindOf_72 : decode cX10_kindOf 72 = .ok (.lcmp, 1) := by decide +kernel
theorem dX10_kindOf_73 : decode cX10_kindOf 73 = .ok (.ifCond .ne 17, 3) := by decide +kernel
theorem dX10_kindOf_76 : decode cX10_kindOf 76 = .ok (.lload_n 0, 1) := by decide +kernel
theorem dX10_kindOf_77 : decode cX10_kindOf 77 = .ok (.ldc2_w 278, 3) := by decide +kernel
theorem dX10_kindOf_80 : decode cX10_kindOf 80 = .ok (.lcmp, 1) := by decide +kernel
theorem dX10_kindOf_81 : decode cX10_kindOf 81 = .ok (.ifCond .ne 7, 3) := by decide +kernel
theorem dX10_kindOf_84 : decode cX10_kindOf 84 = .ok (.iconst 4, 1) := by decide +kernel
theorem dX10_kindOf_85 : decode cX10_kindOf 85 = .ok (.goto 4, 3) := by decide +kernel
theorem dX10_kindOf_88 : decode cX10_kindOf 88 = .ok (.iconst 5, 1) := by decide +kernel
theorem dX10_kindOf_89 : decode cX10_kindOf 89 = .ok (.ireturn, 1) := by decide +kernel
theorem dX10_kindOf_90 : decode cX10_kindOf 90 = .ok (.lload_n 0, 1) := by decide +kernel
theorem dX10_kindOf_91 : decode cX10_kindOf 91 = .ok (.ldc2_w 282, 3) := by decide +kernel
theorem dX10_kindOf_94 : decode cX10_kindOf 94 = .ok (.lcmp, 1) := by decide +kernel
theorem dX10_kindOf_95 : decode cX10_kindOf 95 = .ok (.ifCond .ne 8, 3) := by decide +kernel
theorem dX10_kindOf_98 : decode cX10_kindOf 98 = .ok (.bipush 6, 2) := by decide +kernel
theorem dX10_kindOf_100 : decode cX10_kindOf 100 = .ok (.goto 17, 3) := by decide +kernel
theorem dX10_kindOf_103 : decode cX10_kindOf 103 = .ok (.lload_n 0, 1) := by decide +kernel
theorem dX10_kindOf_104 : decode cX10_kindOf 104 = .ok (.ldc2_w 284, 3) := by decide +kernel
theorem dX10_kindOf_107 : decode cX10_kindOf 107 = .ok (.lcmp, 1) := by decide +kernel
theorem dX10_kindOf_108 : decode cX10_kindOf 108 = .ok (.ifCond .ne 8, 3) := by decide +kernel
theorem dX10_kindOf_111 : decode cX10_kindOf 111 = .ok (.bipush 7, 2) := by decide +kernel
theorem dX10_kindOf_113 : decode cX10_kindOf 113 = .ok (.goto 4, 3) := by decide +kernel
theorem dX10_kindOf_116 : decode cX10_kindOf 116 = .ok (.iconst (-1), 1) := by decide +kernel
theorem dX10_kindOf_117 : decode cX10_kindOf 117 = .ok (.ireturn, 1) := by decide +kernel
theorem dX10_readWord_0 : decode cX10_readWord 0 = .ok (.aload_n 0, 1) := by decide +kernel
theorem dX10_readWord_1 : decode cX10_readWord 1 = .ok (.getfield 264, 3) := by decide +kernel
theorem dX10_readWord_4 : decode cX10_readWord 4 = .ok (.istore_n 2, 1) := by decide +kernel
theorem dX10_readWord_5 : decode cX10_readWord 5 = .ok (.lconst 0, 1) := by decide +kernel
theorem dX10_readWord_6 : decode cX10_readWord 6 = .ok (.lstore_n 3, 1) := by decide +kernel
theorem dX10_readWord_7 : decode cX10_readWord 7 = .ok (.aload_n 0, 1) := by decide +kernel
theorem dX10_readWord_8 : decode cX10_readWord 8 = .ok (.invokevirtual 267, 3) := by decide +kernel
theorem dX10_readWord_11 : decode cX10_readWord 11 = .ok (.i2l, 1) := by decide +kernel
theorem dX10_readWord_12 : decode cX10_readWord 12 = .ok (.ldc2_w 286, 3) := by decide +kernel
theorem dX10_readWord_15 : decode cX10_readWord 15 = .ok (.ldc2_w 288, 3) := by decide +kernel
theorem dX10_readWord_18 : decode cX10_readWord 18 = .ok (.invokestatic 59, 3) := by decide +kernel
theorem dX10_readWord_21 : decode cX10_readWord 21 = .ok (.ifCond .eq 44, 3) := by decide +kernel
theorem dX10_readWord_24 : decode cX10_readWord 24 = .ok (.aload_n 0, 1) := by decide +kernel
theorem dX10_readWord_25 : decode cX10_readWord 25 = .ok (.getfield 264, 3) := by decide +kernel
theorem dX10_readWord_28 : decode cX10_readWord 28 = .ok (.iload_n 2, 1) := by decide +kernel
theorem dX10_readWord_29 : decode cX10_readWord 29 = .ok (.isub, 1) := by decide +kernel
theorem dX10_readWord_30 : decode cX10_readWord 30 = .ok (.iconst 5, 1) := by decide +kernel
theorem dX10_readWord_31 : decode cX10_readWord 31 = .ok (.if_icmp .ge 17, 3) := by decide +kernel
theorem dX10_readWord_34 : decode cX10_readWord 34 = .ok (.lload_n 3, 1) := by decide +kernel
theorem dX10_readWord_35 : decode cX10_readWord 35 = .ok (.ldc2_w 290, 3) := by decide +kernel
theorem dX10_readWord_38 : decode cX10_readWord 38 = .ok (.lmul, 1) := by decide +kernel
theorem dX10_readWord_39 : decode cX10_readWord 39 = .ok (.aload_n 0, 1) := by decide +kernel
theorem dX10_readWord_40 : decode cX10_readWord 40 = .ok (.invokevirtual 267, 3) := by decide +kernel
theorem dX10_readWord_43 : decode cX10_readWord 43 = .ok (.i2l, 1) := by decide +kernel
theorem dX10_readWord_44 : decode cX10_readWord 44 = .ok (.ladd, 1) := by decide +kernel
theorem dX10_readWord_45 : decode cX10_readWord 45 = .ok (.goto 6, 3) := by decide +kernel
theorem dX10_readWord_48 : decode cX10_readWord 48 = .ok (.ldc2_w 292, 3) := by decide +kernel
theorem dX10_readWord_51 : decode cX10_readWord 51 = .ok (.lstore_n 3, 1) := by decide +kernel
theorem dX10_readWord_52 : decode cX10_readWord 52 = .ok (.aload_n 0, 1) := by decide +kernel
theorem dX10_readWord_53 : decode cX10_readWord 53 = .ok (.dup, 1) := by decide +kernel
theorem dX10_readWord_54 : decode cX10_readWord 54 = .ok (.getfield 264, 3) := by decide +kernel
theorem dX10_readWord_57 : decode cX10_readWord 57 = .ok (.iconst 1, 1) := by decide +kernel
theorem dX10_readWord_58 : decode cX10_readWord 58 = .ok (.iadd, 1) := by decide +kernel
theorem dX10_readWord_59 : decode cX10_readWord 59 = .ok (.putfield 264, 3) := by decide +kernel
theorem dX10_readWord_62 : decode cX10_readWord 62 = .ok (.goto (-55), 3) := by decide +kernel
theorem dX10_readWord_65 : decode cX10_readWord 65 = .ok (.aload_n 0, 1) := by decide +kernel
theorem dX10_readWord_66 : decode cX10_readWord 66 = .ok (.getfield 264, 3) := by decide +kernel
theorem dX10_readWord_69 : decode cX10_readWord 69 = .ok (.iload_n 2, 1) := by decide +kernel
theorem dX10_readWord_70 : decode cX10_readWord 70 = .ok (.if_icmp .ne 5, 3) := by decide +kernel
theorem dX10_readWord_73 : decode cX10_readWord 73 = .ok (.iconst 0, 1) := by decide +kernel
theorem dX10_readWord_74 : decode cX10_readWord 74 = .ok (.ireturn, 1) := by decide +kernel
theorem dX10_readWord_75 : decode cX10_readWord 75 = .ok (.aload_n 0, 1) := by decide +kernel
theorem dX10_readWord_76 : decode cX10_readWord 76 = .ok (.getfield 41, 3) := by decide +kernel
theorem dX10_readWord_79 : decode cX10_readWord 79 = .ok (.iload_n 1, 1) := by decide +kernel
theorem dX10_readWord_80 : decode cX10_readWord 80 = .ok (.aload_n 0, 1) := by decide +kernel
theorem dX10_readWord_81 : decode cX10_readWord 81 = .ok (.getfield 264, 3) := by decide +kernel
theorem dX10_readWord_84 : decode cX10_readWord 84 = .ok (.iload_n 2, 1) := by decide +kernel
theorem dX10_readWord_85 : decode cX10_readWord 85 = .ok (.isub, 1) := by decide +kernel
theorem dX10_readWord_86 : decode cX10_readWord 86 = .ok (.iconst 5, 1) := by decide +kernel
theorem dX10_readWord_87 : decode cX10_readWord 87 = .ok (.if_icmp .le 7, 3) := by decide +kernel
theorem dX10_readWord_90 : decode cX10_readWord 90 = .ok (.iconst (-1), 1) := by decide +kernel
theorem dX10_readWord_91 : decode cX10_readWord 91 = .ok (.goto 7, 3) := by decide +kernel
theorem dX10_readWord_94 : decode cX10_readWord 94 = .ok (.lload_n 3, 1) := by decide +kernel
theorem dX10_readWord_95 : decode cX10_readWord 95 = .ok (.invokestatic 294, 3) := by decide +kernel
theorem dX10_readWord_98 : decode cX10_readWord 98 = .ok (.iastore, 1) := by decide +kernel
theorem dX10_readWord_99 : decode cX10_readWord 99 = .ok (.aload_n 0, 1) := by decide +kernel
theorem dX10_readWord_100 : decode cX10_readWord 100 = .ok (.aload_n 0, 1) := by decide +kernel
theorem dX10_readWord_101 : decode cX10_readWord 101 = .ok (.getfield 41, 3) := by decide +kernel
theorem dX10_readWord_104 : decode cX10_readWord 104 = .ok (.iload_n 1, 1) := by decide +kernel
theorem dX10_readWord_105 : decode cX10_readWord 105 = .ok (.iaload, 1) := by decide +kernel
theorem dX10_readWord_106 : decode cX10_readWord 106 = .ok (.iconst (-1), 1) := by decide +kernel
theorem dX10_readWord_107 : decode cX10_readWord 107 = .ok (.if_icmp .ne 7, 3) := by decide +kernel
theorem dX10_readWord_110 : decode cX10_readWord 110 = .ok (.iload_n 2, 1) := by decide +kernel
theorem dX10_readWord_111 : decode cX10_readWord 111 = .ok (.goto 7, 3) := by decide +kernel
theorem dX10_readWord_114 : decode cX10_readWord 114 = .ok (.aload_n 0, 1) := by decide +kernel
theorem dX10_readWord_115 : decode cX10_readWord 115 = .ok (.getfield 264, 3) := by decide +kernel
theorem dX10_readWord_118 : decode cX10_readWord 118 = .ok (.putfield 264, 3) := by decide +kernel
theorem dX10_readWord_121 : decode cX10_readWord 121 = .ok (.aload_n 0, 1) := by decide +kernel
theorem dX10_readWord_122 : decode cX10_readWord 122 = .ok (.getfield 41, 3) := by decide +kernel
theorem dX10_readWord_125 : decode cX10_readWord 125 = .ok (.iload_n 1, 1) := by decide +kernel
theorem dX10_readWord_126 : decode cX10_readWord 126 = .ok (.iaload, 1) := by decide +kernel
theorem dX10_readWord_127 : decode cX10_readWord 127 = .ok (.iconst (-1), 1) := by decide +kernel
theorem dX10_readWord_128 : decode cX10_readWord 128 = .ok (.if_icmp .eq 7, 3) := by decide +kernel
theorem dX10_readWord_131 : decode cX10_readWord 131 = .ok (.iconst 1, 1) := by decide +kernel
theorem dX10_readWord_132 : decode cX10_readWord 132 = .ok (.goto 4, 3) := by decide +kernel
theorem dX10_readWord_135 : decode cX10_readWord 135 = .ok (.iconst 0, 1) := by decide +kernel
theorem dX10_readWord_136 : decode cX10_readWord 136 = .ok (.ireturn, 1) := by decide +kernel
theorem dX10_readNumber_0 : decode cX10_readNumber 0 = .ok (.aload_n 0, 1) := by decide +kernel
theorem dX10_readNumber_1 : decode cX10_readNumber 1 = .ok (.invokevirtual 297, 3) := by decide +kernel
theorem dX10_readNumber_4 : decode cX10_readNumber 4 = .ok (.ifCond .ne 5, 3) := by decide +kernel
theorem dX10_readNumber_7 : decode cX10_readNumber 7 = .ok (.iconst 0, 1) := by decide +kernel
theorem dX10_readNumber_8 : decode cX10_readNumber 8 = .ok (.ireturn, 1) := by decide +kernel
theorem dX10_readNumber_9 : decode cX10_readNumber 9 = .ok (.aload_n 0, 1) := by decide +kernel
theorem dX10_readNumber_10 : decode cX10_readNumber 10 = .ok (.getfield 264, 3) := by decide +kernel
theorem dX10_readNumber_13 : decode cX10_readNumber 13 = .ok (.istore_n 2, 1) := by decide +kernel
theorem dX10_readNumber_14 : decode cX10_readNumber 14 = .ok (.iconst 0, 1) := by decide +kernel
theorem dX10_readNumber_15 : decode cX10_readNumber 15 = .ok (.istore_n 3, 1) := by decide +kernel
theorem dX10_readNumber_16 : decode cX10_readNumber 16 = .ok (.aload_n 0, 1) := by decide +kernel
theorem dX10_readNumber_17 : decode cX10_readNumber 17 = .ok (.getfield 264, 3) := by decide +kernel
theorem dX10_readNumber_20 : decode cX10_readNumber 20 = .ok (.iload_n 2, 1) := by decide +kernel
theorem dX10_readNumber_21 : decode cX10_readNumber 21 = .ok (.bipush 6, 2) := by decide +kernel
theorem dX10_readNumber_23 : decode cX10_readNumber 23 = .ok (.iadd, 1) := by decide +kernel
theorem dX10_readNumber_24 : decode cX10_readNumber 24 = .ok (.if_icmp .ge 46, 3) := by decide +kernel
theorem dX10_readNumber_27 : decode cX10_readNumber 27 = .ok (.aload_n 0, 1) := by decide +kernel
theorem dX10_readNumber_28 : decode cX10_readNumber 28 = .ok (.invokevirtual 267, 3) := by decide +kernel
theorem dX10_readNumber_31 : decode cX10_readNumber 31 = .ok (.i2l, 1) := by decide +kernel
theorem dX10_readNumber_32 : decode cX10_readNumber 32 = .ok (.ldc2_w 300, 3) := by decide +kernel
theorem dX10_readNumber_35 : decode cX10_readNumber 35 = .ok (.ldc2_w 302, 3) := by decide +kernel
theorem dX10_readNumber_38 : decode cX10_readNumber 38 = .ok (.invokestatic 59, 3) := by decide +kernel
theorem dX10_readNumber_41 : decode cX10_readNumber 41 = .ok (.ifCond .eq 29, 3) := by decide +kernel
theorem dX10_readNumber_44 : decode cX10_readNumber 44 = .ok (.bipush 10, 2) := by decide +kernel
theorem dX10_readNumber_46 : decode cX10_readNumber 46 = .ok (.iload_n 3, 1) := by decide +kernel
theorem dX10_readNumber_47 : decode cX10_readNumber 47 = .ok (.imul, 1) := by decide +kernel
theorem dX10_readNumber_48 : decode cX10_readNumber 48 = .ok (.aload_n 0, 1) := by decide +kernel
theorem dX10_readNumber_49 : decode cX10_readNumber 49 = .ok (.invokevirtual 267, 3) := by decide +kernel
theorem dX10_readNumber_52 : decode cX10_readNumber 52 = .ok (.iadd, 1) := by decide +kernel
theorem dX10_readNumber_53 : decode cX10_readNumber 53 = .ok (.bipush 48, 2) := by decide +kernel
theorem dX10_readNumber_55 : decode cX10_readNumber 55 = .ok (.isub, 1) := by decide +kernel
theorem dX10_readNumber_56 : decode cX10_readNumber 56 = .ok (.istore_n 3, 1) := by decide +kernel
theorem dX10_readNumber_57 : decode cX10_readNumber 57 = .ok (.aload_n 0, 1) := by decide +kernel
theorem dX10_readNumber_58 : decode cX10_readNumber 58 = .ok (.dup, 1) := by decide +kernel
theorem dX10_readNumber_59 : decode cX10_readNumber 59 = .ok (.getfield 264, 3) := by decide +kernel
theorem dX10_readNumber_62 : decode cX10_readNumber 62 = .ok (.iconst 1, 1) := by decide +kernel
theorem dX10_readNumber_63 : decode cX10_readNumber 63 = .ok (.iadd, 1) := by decide +kernel
theorem dX10_readNumber_64 : decode cX10_readNumber 64 = .ok (.putfield 264, 3) := by decide +kernel
theorem dX10_readNumber_67 : decode cX10_readNumber 67 = .ok (.goto (-51), 3) := by decide +kernel
theorem dX10_readNumber_70 : decode cX10_readNumber 70 = .ok (.aload_n 0, 1) := by decide +kernel
theorem dX10_readNumber_71 : decode cX10_readNumber 71 = .ok (.getfield 41, 3) := by decide +kernel
theorem dX10_readNumber_74 : decode cX10_readNumber 74 = .ok (.iload_n 1, 1) := by decide +kernel
theorem dX10_readNumber_75 : decode cX10_readNumber 75 = .ok (.iload_n 3, 1) := by decide +kernel
theorem dX10_readNumber_76 : decode cX10_readNumber 76 = .ok (.iastore, 1) := by decide +kernel
theorem dX10_readNumber_77 : decode cX10_readNumber 77 = .ok (.aload_n 0, 1) := by decide +kernel
theorem dX10_readNumber_78 : decode cX10_readNumber 78 = .ok (.getfield 264, 3) := by decide +kernel
theorem dX10_readNumber_81 : decode cX10_readNumber 81 = .ok (.iload_n 2, 1) := by decide +kernel
theorem dX10_readNumber_82 : decode cX10_readNumber 82 = .ok (.if_icmp .le 24, 3) := by decide +kernel
theorem dX10_readNumber_85 : decode cX10_readNumber 85 = .ok (.aload_n 0, 1) := by decide +kernel
theorem dX10_readNumber_86 : decode cX10_readNumber 86 = .ok (.invokevirtual 267, 3) := by decide +kernel
theorem dX10_readNumber_89 : decode cX10_readNumber 89 = .ok (.i2l, 1) := by decide +kernel
theorem dX10_readNumber_90 : decode cX10_readNumber 90 = .ok (.ldc2_w 300, 3) := by decide +kernel
theorem dX10_readNumber_93 : decode cX10_readNumber 93 = .ok (.ldc2_w 302, 3) := by decide +kernel
theorem dX10_readNumber_96 : decode cX10_readNumber 96 = .ok (.invokestatic 59, 3) := by decide +kernel
theorem dX10_readNumber_99 : decode cX10_readNumber 99 = .ok (.ifCond .ne 7, 3) := by decide +kernel
theorem dX10_readNumber_102 : decode cX10_readNumber 102 = .ok (.iconst 1, 1) := by decide +kernel
theorem dX10_readNumber_103 : decode cX10_readNumber 103 = .ok (.goto 4, 3) := by decide +kernel
theorem dX10_readNumber_106 : decode cX10_readNumber 106 = .ok (.iconst 0, 1) := by decide +kernel
theorem dX10_readNumber_107 : decode cX10_readNumber 107 = .ok (.ireturn, 1) := by decide +kernel
theorem dX10_readCommand_0 : decode cX10_readCommand 0 = .ok (.iconst 4, 1) := by decide +kernel
theorem dX10_readCommand_1 : decode cX10_readCommand 1 = .ok (.aload_n 0, 1) := by decide +kernel
theorem dX10_readCommand_2 : decode cX10_readCommand 2 = .ok (.getfield 304, 3) := by decide +kernel
theorem dX10_readCommand_5 : decode cX10_readCommand 5 = .ok (.imul, 1) := by decide +kernel
theorem dX10_readCommand_6 : decode cX10_readCommand 6 = .ok (.istore_n 1, 1) := by decide +kernel
theorem dX10_readCommand_7 : decode cX10_readCommand 7 = .ok (.aload_n 0, 1) := by decide +kernel
theorem dX10_readCommand_8 : decode cX10_readCommand 8 = .ok (.iload_n 1, 1) := by decide +kernel
theorem dX10_readCommand_9 : decode cX10_readCommand 9 = .ok (.invokevirtual 307, 3) := by decide +kernel
theorem dX10_readCommand_12 : decode cX10_readCommand 12 = .ok (.ifCond .ne 5, 3) := by decide +kernel
theorem dX10_readCommand_15 : decode cX10_readCommand 15 = .ok (.iconst 0, 1) := by decide +kernel
theorem dX10_readCommand_16 : decode cX10_readCommand 16 = .ok (.ireturn, 1) := by decide +kernel
theorem dX10_readCommand_17 : decode cX10_readCommand 17 = .ok (.aload_n 0, 1) := by decide +kernel
theorem dX10_readCommand_18 : decode cX10_readCommand 18 = .ok (.getfield 41, 3) := by decide +kernel
theorem dX10_readCommand_21 : decode cX10_readCommand 21 = .ok (.iload_n 1, 1) := by decide +kernel
theorem dX10_readCommand_22 : decode cX10_readCommand 22 = .ok (.iaload, 1) := by decide +kernel
theorem dX10_readCommand_23 : decode cX10_readCommand 23 = .ok (.istore_n 2, 1) := by decide +kernel
theorem dX10_readCommand_24 : decode cX10_readCommand 24 = .ok (.iload_n 2, 1) := by decide +kernel
theorem dX10_readCommand_25 : decode cX10_readCommand 25 = .ok (.iconst 2, 1) := by decide +kernel
theorem dX10_readCommand_26 : decode cX10_readCommand 26 = .ok (.if_icmp .ge 7, 3) := by decide +kernel
theorem dX10_readCommand_29 : decode cX10_readCommand 29 = .ok (.iconst 3, 1) := by decide +kernel
theorem dX10_readCommand_30 : decode cX10_readCommand 30 = .ok (.goto 22, 3) := by decide +kernel
theorem dX10_readCommand_33 : decode cX10_readCommand 33 = .ok (.iload_n 2, 1) := by decide +kernel
theorem dX10_readCommand_34 : decode cX10_readCommand 34 = .ok (.iconst 4, 1) := by decide +kernel
theorem dX10_readCommand_35 : decode cX10_readCommand 35 = .ok (.if_icmp .ge 7, 3) := by decide +kernel
theorem dX10_readCommand_38 : decode cX10_readCommand 38 = .ok (.iconst 2, 1) := by decide +kernel
theorem dX10_readCommand_39 : decode cX10_readCommand 39 = .ok (.goto 13, 3) := by decide +kernel
theorem dX10_readCommand_42 : decode cX10_readCommand 42 = .ok (.iload_n 2, 1) := by decide +kernel
theorem dX10_readCommand_43 : decode cX10_readCommand 43 = .ok (.iconst 4, 1) := by decide +kernel
theorem dX10_readCommand_44 : decode cX10_readCommand 44 = .ok (.if_icmp .ne 7, 3) := by decide +kernel
theorem dX10_readCommand_47 : decode cX10_readCommand 47 = .ok (.iconst 1, 1) := by decide +kernel
theorem dX10_readCommand_48 : decode cX10_readCommand 48 = .ok (.goto 4, 3) := by decide +kernel
theorem dX10_readCommand_51 : decode cX10_readCommand 51 = .ok (.iconst 0, 1) := by decide +kernel
theorem dX10_readCommand_52 : decode cX10_readCommand 52 = .ok (.istore_n 3, 1) := by decide +kernel
theorem dX10_readCommand_53 : decode cX10_readCommand 53 = .ok (.iconst 0, 1) := by decide +kernel
theorem dX10_readCommand_54 : decode cX10_readCommand 54 = .ok (.istore 4, 2) := by decide +kernel
theorem dX10_readCommand_56 : decode cX10_readCommand 56 = .ok (.iload 4, 2) := by decide +kernel
theorem dX10_readCommand_58 : decode cX10_readCommand 58 = .ok (.iload_n 3, 1) := by decide +kernel
theorem dX10_readCommand_59 : decode cX10_readCommand 59 = .ok (.if_icmp .ge 24, 3) := by decide +kernel
theorem dX10_readCommand_62 : decode cX10_readCommand 62 = .ok (.aload_n 0, 1) := by decide +kernel
theorem dX10_readCommand_63 : decode cX10_readCommand 63 = .ok (.iload_n 1, 1) := by decide +kernel
theorem dX10_readCommand_64 : decode cX10_readCommand 64 = .ok (.iconst 1, 1) := by decide +kernel
theorem dX10_readCommand_65 : decode cX10_readCommand 65 = .ok (.iadd, 1) := by decide +kernel
theorem dX10_readCommand_66 : decode cX10_readCommand 66 = .ok (.iload 4, 2) := by decide +kernel
theorem dX10_readCommand_68 : decode cX10_readCommand 68 = .ok (.iadd, 1) := by decide +kernel
theorem dX10_readCommand_69 : decode cX10_readCommand 69 = .ok (.invokevirtual 310, 3) := by decide +kernel
theorem dX10_readCommand_72 : decode cX10_readCommand 72 = .ok (.ifCond .ne 5, 3) := by decide +kernel
theorem dX10_readCommand_75 : decode cX10_readCommand 75 = .ok (.iconst 0, 1) := by decide +kernel
theorem dX10_readCommand_76 : decode cX10_readCommand 76 = .ok (.ireturn, 1) := by decide +kernel
theorem dX10_readCommand_77 : decode cX10_readCommand 77 = .ok (.iinc 4 1, 3) := by decide +kernel
theorem dX10_readCommand_80 : decode cX10_readCommand 80 = .ok (.goto (-24), 3) := by decide +kernel
theorem dX10_readCommand_83 : decode cX10_readCommand 83 = .ok (.aload_n 0, 1) := by decide +kernel
theorem dX10_readCommand_84 : decode cX10_readCommand 84 = .ok (.invokevirtual 297, 3) := by decide +kernel
theorem dX10_readCommand_87 : decode cX10_readCommand 87 = .ok (.istore 4, 2) := by decide +kernel
theorem dX10_readCommand_89 : decode cX10_readCommand 89 = .ok (.aload_n 0, 1) := by decide +kernel
theorem dX10_readCommand_90 : decode cX10_readCommand 90 = .ok (.invokevirtual 267, 3) := by decide +kernel
theorem dX10_readCommand_93 : decode cX10_readCommand 93 = .ok (.bipush 59, 2) := by decide +kernel
theorem dX10_readCommand_95 : decode cX10_readCommand 95 = .ok (.if_icmp .eq 5, 3) := by decide +kernel
theorem dX10_readCommand_98 : decode cX10_readCommand 98 = .ok (.iconst 0, 1) := by decide +kernel
theorem dX10_readCommand_99 : decode cX10_readCommand 99 = .ok (.ireturn, 1) := by decide +kernel
theorem dX10_readCommand_100 : decode cX10_readCommand 100 = .ok (.aload_n 0, 1) := by decide +kernel
theorem dX10_readCommand_101 : decode cX10_readCommand 101 = .ok (.dup, 1) := by decide +kernel
theorem dX10_readCommand_102 : decode cX10_readCommand 102 = .ok (.getfield 264, 3) := by decide +kernel
theorem dX10_readCommand_105 : decode cX10_readCommand 105 = .ok (.iconst 1, 1) := by decide +kernel
theorem dX10_readCommand_106 : decode cX10_readCommand 106 = .ok (.iadd, 1) := by decide +kernel
theorem dX10_readCommand_107 : decode cX10_readCommand 107 = .ok (.putfield 264, 3) := by decide +kernel
theorem dX10_readCommand_110 : decode cX10_readCommand 110 = .ok (.aload_n 0, 1) := by decide +kernel
theorem dX10_readCommand_111 : decode cX10_readCommand 111 = .ok (.dup, 1) := by decide +kernel
theorem dX10_readCommand_112 : decode cX10_readCommand 112 = .ok (.getfield 304, 3) := by decide +kernel
theorem dX10_readCommand_115 : decode cX10_readCommand 115 = .ok (.iconst 1, 1) := by decide +kernel
theorem dX10_readCommand_116 : decode cX10_readCommand 116 = .ok (.iadd, 1) := by decide +kernel
theorem dX10_readCommand_117 : decode cX10_readCommand 117 = .ok (.putfield 304, 3) := by decide +kernel
theorem dX10_readCommand_120 : decode cX10_readCommand 120 = .ok (.iconst 1, 1) := by decide +kernel
theorem dX10_readCommand_121 : decode cX10_readCommand 121 = .ok (.ireturn, 1) := by decide +kernel
theorem dX10_readAll_0 : decode cX10_readAll 0 = .ok (.aload_n 0, 1) := by decide +kernel
theorem dX10_readAll_1 : decode cX10_readAll 1 = .ok (.iconst 0, 1) := by decide +kernel
theorem dX10_readAll_2 : decode cX10_readAll 2 = .ok (.putfield 264, 3) := by decide +kernel
theorem dX10_readAll_5 : decode cX10_readAll 5 = .ok (.aload_n 0, 1) := by decide +kernel
theorem dX10_readAll_6 : decode cX10_readAll 6 = .ok (.iconst 0, 1) := by decide +kernel
theorem dX10_readAll_7 : decode cX10_readAll 7 = .ok (.putfield 304, 3) := by decide +kernel
theorem dX10_readAll_10 : decode cX10_readAll 10 = .ok (.aload_n 0, 1) := by decide +kernel
theorem dX10_readAll_11 : decode cX10_readAll 11 = .ok (.invokevirtual 297, 3) := by decide +kernel
theorem dX10_readAll_14 : decode cX10_readAll 14 = .ok (.istore_n 1, 1) := by decide +kernel
theorem dX10_readAll_15 : decode cX10_readAll 15 = .ok (.aload_n 0, 1) := by decide +kernel
theorem dX10_readAll_16 : decode cX10_readAll 16 = .ok (.getfield 264, 3) := by decide +kernel
theorem dX10_readAll_19 : decode cX10_readAll 19 = .ok (.aload_n 0, 1) := by decide +kernel
theorem dX10_readAll_20 : decode cX10_readAll 20 = .ok (.getfield 261, 3) := by decide +kernel
theorem dX10_readAll_23 : decode cX10_readAll 23 = .ok (.if_icmp .ge 20, 3) := by decide +kernel
theorem dX10_readAll_26 : decode cX10_readAll 26 = .ok (.aload_n 0, 1) := by decide +kernel
theorem dX10_readAll_27 : decode cX10_readAll 27 = .ok (.invokevirtual 313, 3) := by decide +kernel
theorem dX10_readAll_30 : decode cX10_readAll 30 = .ok (.ifCond .ne 5, 3) := by decide +kernel
theorem dX10_readAll_33 : decode cX10_readAll 33 = .ok (.iconst 0, 1) := by decide +kernel
theorem dX10_readAll_34 : decode cX10_readAll 34 = .ok (.ireturn, 1) := by decide +kernel
theorem dX10_readAll_35 : decode cX10_readAll 35 = .ok (.aload_n 0, 1) := by decide +kernel
theorem dX10_readAll_36 : decode cX10_readAll 36 = .ok (.invokevirtual 297, 3) := by decide +kernel
theorem dX10_readAll_39 : decode cX10_readAll 39 = .ok (.istore_n 1, 1) := by decide +kernel
theorem dX10_readAll_40 : decode cX10_readAll 40 = .ok (.goto (-25), 3) := by decide +kernel
theorem dX10_readAll_43 : decode cX10_readAll 43 = .ok (.iconst 1, 1) := by decide +kernel
theorem dX10_readAll_44 : decode cX10_readAll 44 = .ok (.ireturn, 1) := by decide +kernel
theorem dX10_does_0 : decode cX10_does 0 = .ok (.aload_n 0, 1) := by decide +kernel
theorem dX10_does_1 : decode cX10_does 1 = .ok (.getfield 41, 3) := by decide +kernel
theorem dX10_does_4 : decode cX10_does 4 = .ok (.iload_n 1, 1) := by decide +kernel
theorem dX10_does_5 : decode cX10_does 5 = .ok (.iconst 1, 1) := by decide +kernel
theorem dX10_does_6 : decode cX10_does 6 = .ok (.iadd, 1) := by decide +kernel
theorem dX10_does_7 : decode cX10_does 7 = .ok (.iaload, 1) := by decide +kernel
theorem dX10_does_8 : decode cX10_does 8 = .ok (.istore_n 2, 1) := by decide +kernel
theorem dX10_does_9 : decode cX10_does 9 = .ok (.aload_n 0, 1) := by decide +kernel
theorem dX10_does_10 : decode cX10_does 10 = .ok (.getfield 41, 3) := by decide +kernel
theorem dX10_does_13 : decode cX10_does 13 = .ok (.iload_n 1, 1) := by decide +kernel
theorem dX10_does_14 : decode cX10_does 14 = .ok (.iconst 2, 1) := by decide +kernel
theorem dX10_does_15 : decode cX10_does 15 = .ok (.iadd, 1) := by decide +kernel
theorem dX10_does_16 : decode cX10_does 16 = .ok (.iaload, 1) := by decide +kernel
theorem dX10_does_17 : decode cX10_does 17 = .ok (.istore_n 3, 1) := by decide +kernel
theorem dX10_does_18 : decode cX10_does 18 = .ok (.aload_n 0, 1) := by decide +kernel
theorem dX10_does_19 : decode cX10_does 19 = .ok (.getfield 41, 3) := by decide +kernel
theorem dX10_does_22 : decode cX10_does 22 = .ok (.iload_n 1, 1) := by decide +kernel
theorem dX10_does_23 : decode cX10_does 23 = .ok (.iconst 3, 1) := by decide +kernel
theorem dX10_does_24 : decode cX10_does 24 = .ok (.iadd, 1) := by decide +kernel
theorem dX10_does_25 : decode cX10_does 25 = .ok (.iaload, 1) := by decide +kernel
theorem dX10_does_26 : decode cX10_does 26 = .ok (.istore 4, 2) := by decide +kernel
theorem dX10_does_28 : decode cX10_does 28 = .ok (.iconst 0, 1) := by decide +kernel
theorem dX10_does_29 : decode cX10_does 29 = .ok (.istore 5, 2) := by decide +kernel
theorem dX10_does_31 : decode cX10_does 31 = .ok (.aload_n 0, 1) := by decide +kernel
theorem dX10_does_32 : decode cX10_does 32 = .ok (.getfield 41, 3) := by decide +kernel
theorem dX10_does_35 : decode cX10_does 35 = .ok (.iload_n 1, 1) := by decide +kernel
theorem dX10_does_36 : decode cX10_does 36 = .ok (.iaload, 1) := by decide +kernel
theorem dX10_does_37 : decode cX10_does 37 = .ok (.tableswitch 250 0 6 #[43, 79, 115, 147, 179, 217, 233], 43) := by decide +kernel
theorem dX10_does_80 : decode cX10_does 80 = .ok (.aload_n 0, 1) := by decide +kernel
theorem dX10_does_81 : decode cX10_does 81 = .ok (.aload_n 0, 1) := by decide +kernel
theorem dX10_does_82 : decode cX10_does 82 = .ok (.iload_n 2, 1) := by decide +kernel
theorem dX10_does_83 : decode cX10_does 83 = .ok (.iload_n 3, 1) := by decide +kernel
theorem dX10_does_84 : decode cX10_does 84 = .ok (.iload 4, 2) := by decide +kernel
theorem dX10_does_86 : decode cX10_does 86 = .ok (.invokevirtual 144, 3) := by decide +kernel
theorem dX10_does_89 : decode cX10_does 89 = .ok (.putfield 48, 3) := by decide +kernel
theorem dX10_does_92 : decode cX10_does 92 = .ok (.aload_n 0, 1) := by decide +kernel
theorem dX10_does_93 : decode cX10_does 93 = .ok (.getfield 48, 3) := by decide +kernel
theorem dX10_does_96 : decode cX10_does 96 = .ok (.ifCond .ne 14, 3) := by decide +kernel
theorem dX10_does_99 : decode cX10_does 99 = .ok (.aload_n 0, 1) := by decide +kernel
theorem dX10_does_100 : decode cX10_does 100 = .ok (.iload_n 2, 1) := by decide +kernel
theorem dX10_does_101 : decode cX10_does 101 = .ok (.iload_n 3, 1) := by decide +kernel
theorem dX10_does_102 : decode cX10_does 102 = .ok (.iload 4, 2) := by decide +kernel
theorem dX10_does_104 : decode cX10_does 104 = .ok (.invokevirtual 148, 3) := by decide +kernel
theorem dX10_does_107 : decode cX10_does 107 = .ok (.goto 4, 3) := by decide +kernel
theorem dX10_does_110 : decode cX10_does 110 = .ok (.iconst 0, 1) := by decide +kernel
theorem dX10_does_111 : decode cX10_does 111 = .ok (.istore 5, 2) := by decide +kernel
theorem dX10_does_113 : decode cX10_does 113 = .ok (.goto 185, 3) := by decide +kernel
theorem dX10_does_116 : decode cX10_does 116 = .ok (.aload_n 0, 1) := by decide +kernel
theorem dX10_does_117 : decode cX10_does 117 = .ok (.aload_n 0, 1) := by decide +kernel
theorem dX10_does_118 : decode cX10_does 118 = .ok (.iload_n 2, 1) := by decide +kernel
theorem dX10_does_119 : decode cX10_does 119 = .ok (.iload_n 3, 1) := by decide +kernel
theorem dX10_does_120 : decode cX10_does 120 = .ok (.iload 4, 2) := by decide +kernel
theorem dX10_does_122 : decode cX10_does 122 = .ok (.invokevirtual 155, 3) := by decide +kernel
theorem dX10_does_125 : decode cX10_does 125 = .ok (.putfield 48, 3) := by decide +kernel
theorem dX10_does_128 : decode cX10_does 128 = .ok (.aload_n 0, 1) := by decide +kernel
theorem dX10_does_129 : decode cX10_does 129 = .ok (.getfield 48, 3) := by decide +kernel
theorem dX10_does_132 : decode cX10_does 132 = .ok (.ifCond .ne 14, 3) := by decide +kernel
theorem dX10_does_135 : decode cX10_does 135 = .ok (.aload_n 0, 1) := by decide +kernel
theorem dX10_does_136 : decode cX10_does 136 = .ok (.iload_n 2, 1) := by decide +kernel
theorem dX10_does_137 : decode cX10_does 137 = .ok (.iload_n 3, 1) := by decide +kernel
theorem dX10_does_138 : decode cX10_does 138 = .ok (.iload 4, 2) := by decide +kernel
theorem dX10_does_140 : decode cX10_does 140 = .ok (.invokevirtual 158, 3) := by decide +kernel
theorem dX10_does_143 : decode cX10_does 143 = .ok (.goto 4, 3) := by decide +kernel
theorem dX10_does_146 : decode cX10_does 146 = .ok (.iconst 0, 1) := by decide +kernel
theorem dX10_does_147 : decode cX10_does 147 = .ok (.istore 5, 2) := by decide +kernel
theorem dX10_does_149 : decode cX10_does 149 = .ok (.goto 149, 3) := by decide +kernel
theorem dX10_does_152 : decode cX10_does 152 = .ok (.aload_n 0, 1) := by decide +kernel
theorem dX10_does_153 : decode cX10_does 153 = .ok (.aload_n 0, 1) := by decide +kernel
theorem dX10_does_154 : decode cX10_does 154 = .ok (.iload_n 2, 1) := by decide +kernel
theorem dX10_does_155 : decode cX10_does 155 = .ok (.iload_n 3, 1) := by decide +kernel
theorem dX10_does_156 : decode cX10_does 156 = .ok (.invokevirtual 130, 3) := by decide +kernel
theorem dX10_does_159 : decode cX10_does 159 = .ok (.putfield 48, 3) := by decide +kernel
theorem dX10_does_162 : decode cX10_does 162 = .ok (.aload_n 0, 1) := by decide +kernel
theorem dX10_does_163 : decode cX10_does 163 = .ok (.getfield 48, 3) := by decide +kernel
theorem dX10_does_166 : decode cX10_does 166 = .ok (.ifCond .ne 12, 3) := by decide +kernel
theorem dX10_does_169 : decode cX10_does 169 = .ok (.aload_n 0, 1) := by decide +kernel
theorem dX10_does_170 : decode cX10_does 170 = .ok (.iload_n 2, 1) := by decide +kernel
theorem dX10_does_171 : decode cX10_does 171 = .ok (.iload_n 3, 1) := by decide +kernel
theorem dX10_does_172 : decode cX10_does 172 = .ok (.invokevirtual 137, 3) := by decide +kernel
theorem dX10_does_175 : decode cX10_does 175 = .ok (.goto 4, 3) := by decide +kernel
theorem dX10_does_178 : decode cX10_does 178 = .ok (.iconst 0, 1) := by decide +kernel
theorem dX10_does_179 : decode cX10_does 179 = .ok (.istore 5, 2) := by decide +kernel
theorem dX10_does_181 : decode cX10_does 181 = .ok (.goto 117, 3) := by decide +kernel
theorem dX10_does_184 : decode cX10_does 184 = .ok (.aload_n 0, 1) := by decide +kernel
theorem dX10_does_185 : decode cX10_does 185 = .ok (.aload_n 0, 1) := by decide +kernel
theorem dX10_does_186 : decode cX10_does 186 = .ok (.iload_n 2, 1) := by decide +kernel
theorem dX10_does_187 : decode cX10_does 187 = .ok (.iload_n 3, 1) := by decide +kernel
theorem dX10_does_188 : decode cX10_does 188 = .ok (.invokevirtual 175, 3) := by decide +kernel
theorem dX10_does_191 : decode cX10_does 191 = .ok (.putfield 48, 3) := by decide +kernel
theorem dX10_does_194 : decode cX10_does 194 = .ok (.aload_n 0, 1) := by decide +kernel
theorem dX10_does_195 : decode cX10_does 195 = .ok (.getfield 48, 3) := by decide +kernel
theorem dX10_does_198 : decode cX10_does 198 = .ok (.ifCond .ne 12, 3) := by decide +kernel
theorem dX10_does_201 : decode cX10_does 201 = .ok (.aload_n 0, 1) := by decide +kernel
theorem dX10_does_202 : decode cX10_does 202 = .ok (.iload_n 2, 1) := by decide +kernel
theorem dX10_does_203 : decode cX10_does 203 = .ok (.iload_n 3, 1) := by decide +kernel
theorem dX10_does_204 : decode cX10_does 204 = .ok (.invokevirtual 178, 3) := by decide +kernel
theorem dX10_does_207 : decode cX10_does 207 = .ok (.goto 4, 3) := by decide +kernel
theorem dX10_does_210 : decode cX10_does 210 = .ok (.iconst 0, 1) := by decide +kernel
theorem dX10_does_211 : decode cX10_does 211 = .ok (.istore 5, 2) := by decide +kernel
theorem dX10_does_213 : decode cX10_does 213 = .ok (.goto 85, 3) := by decide +kernel
theorem dX10_does_216 : decode cX10_does 216 = .ok (.aload_n 0, 1) := by decide +kernel
theorem dX10_does_217 : decode cX10_does 217 = .ok (.aload_n 0, 1) := by decide +kernel
theorem dX10_does_218 : decode cX10_does 218 = .ok (.iload_n 2, 1) := by decide +kernel
theorem dX10_does_219 : decode cX10_does 219 = .ok (.invokevirtual 140, 3) := by decide +kernel
theorem dX10_does_222 : decode cX10_does 222 = .ok (.ifCond .eq 7, 3) := by decide +kernel
theorem dX10_does_225 : decode cX10_does 225 = .ok (.iconst 0, 1) := by decide +kernel
theorem dX10_does_226 : decode cX10_does 226 = .ok (.goto 4, 3) := by decide +kernel
theorem dX10_does_229 : decode cX10_does 229 = .ok (.iconst 1, 1) := by decide +kernel
theorem dX10_does_230 : decode cX10_does 230 = .ok (.putfield 48, 3) := by decide +kernel
theorem dX10_does_233 : decode cX10_does 233 = .ok (.aload_n 0, 1) := by decide +kernel
theorem dX10_does_234 : decode cX10_does 234 = .ok (.getfield 48, 3) := by decide +kernel
theorem dX10_does_237 : decode cX10_does 237 = .ok (.ifCond .ne 11, 3) := by decide +kernel
theorem dX10_does_240 : decode cX10_does 240 = .ok (.aload_n 0, 1) := by decide +kernel
theorem dX10_does_241 : decode cX10_does 241 = .ok (.iload_n 2, 1) := by decide +kernel
theorem dX10_does_242 : decode cX10_does 242 = .ok (.invokevirtual 151, 3) := by decide +kernel
theorem dX10_does_245 : decode cX10_does 245 = .ok (.goto 4, 3) := by decide +kernel
theorem dX10_does_248 : decode cX10_does 248 = .ok (.iconst 0, 1) := by decide +kernel
theorem dX10_does_249 : decode cX10_does 249 = .ok (.istore 5, 2) := by decide +kernel
theorem dX10_does_251 : decode cX10_does 251 = .ok (.goto 47, 3) := by decide +kernel
theorem dX10_does_254 : decode cX10_does 254 = .ok (.aload_n 0, 1) := by decide +kernel
theorem dX10_does_255 : decode cX10_does 255 = .ok (.iconst 0, 1) := by decide +kernel
theorem dX10_does_256 : decode cX10_does 256 = .ok (.putfield 48, 3) := by decide +kernel
theorem dX10_does_259 : decode cX10_does 259 = .ok (.aload_n 0, 1) := by decide +kernel
theorem dX10_does_260 : decode cX10_does 260 = .ok (.bipush 29, 2) := by decide +kernel
theorem dX10_does_262 : decode cX10_does 262 = .ok (.invokevirtual 215, 3) := by decide +kernel
theorem dX10_does_265 : decode cX10_does 265 = .ok (.istore 5, 2) := by decide +kernel
theorem dX10_does_267 : decode cX10_does 267 = .ok (.goto 31, 3) := by decide +kernel
theorem dX10_does_270 : decode cX10_does 270 = .ok (.aload_n 0, 1) := by decide +kernel
theorem dX10_does_271 : decode cX10_does 271 = .ok (.iconst 0, 1) := by decide +kernel
theorem dX10_does_272 : decode cX10_does 272 = .ok (.putfield 48, 3) := by decide +kernel
theorem dX10_does_275 : decode cX10_does 275 = .ok (.aload_n 0, 1) := by decide +kernel
theorem dX10_does_276 : decode cX10_does 276 = .ok (.sipush 230, 3) := by decide +kernel
theorem dX10_does_279 : decode cX10_does 279 = .ok (.invokevirtual 215, 3) := by decide +kernel
theorem dX10_does_282 : decode cX10_does 282 = .ok (.istore 5, 2) := by decide +kernel
theorem dX10_does_284 : decode cX10_does 284 = .ok (.goto 14, 3) := by decide +kernel
theorem dX10_does_287 : decode cX10_does 287 = .ok (.aload_n 0, 1) := by decide +kernel
theorem dX10_does_288 : decode cX10_does 288 = .ok (.iconst 0, 1) := by decide +kernel
theorem dX10_does_289 : decode cX10_does 289 = .ok (.putfield 48, 3) := by decide +kernel
theorem dX10_does_292 : decode cX10_does 292 = .ok (.aload_n 0, 1) := by decide +kernel
theorem dX10_does_293 : decode cX10_does 293 = .ok (.invokevirtual 256, 3) := by decide +kernel
theorem dX10_does_296 : decode cX10_does 296 = .ok (.istore 5, 2) := by decide +kernel
theorem dX10_does_298 : decode cX10_does 298 = .ok (.aload_n 0, 1) := by decide +kernel
theorem dX10_does_299 : decode cX10_does 299 = .ok (.getfield 48, 3) := by decide +kernel
theorem dX10_does_302 : decode cX10_does 302 = .ok (.ifCond .ne 12, 3) := by decide +kernel
theorem dX10_does_305 : decode cX10_does 305 = .ok (.iload 5, 2) := by decide +kernel
theorem dX10_does_307 : decode cX10_does 307 = .ok (.ifCond .lt 7, 3) := by decide +kernel
theorem dX10_does_310 : decode cX10_does 310 = .ok (.iconst 1, 1) := by decide +kernel
theorem dX10_does_311 : decode cX10_does 311 = .ok (.goto 4, 3) := by decide +kernel
theorem dX10_does_314 : decode cX10_does 314 = .ok (.iconst 0, 1) := by decide +kernel
theorem dX10_does_315 : decode cX10_does 315 = .ok (.ireturn, 1) := by decide +kernel
theorem dX10_run_0 : decode cX10_run 0 = .ok (.aload_n 0, 1) := by decide +kernel
theorem dX10_run_1 : decode cX10_run 1 = .ok (.iconst 0, 1) := by decide +kernel
theorem dX10_run_2 : decode cX10_run 2 = .ok (.putfield 48, 3) := by decide +kernel
theorem dX10_run_5 : decode cX10_run 5 = .ok (.aload_n 0, 1) := by decide +kernel
theorem dX10_run_6 : decode cX10_run 6 = .ok (.invokevirtual 316, 3) := by decide +kernel
theorem dX10_run_9 : decode cX10_run 9 = .ok (.ifCond .ne 11, 3) := by decide +kernel
theorem dX10_run_12 : decode cX10_run 12 = .ok (.bipush (-10), 2) := by decide +kernel
theorem dX10_run_14 : decode cX10_run 14 = .ok (.aload_n 0, 1) := by decide +kernel
theorem dX10_run_15 : decode cX10_run 15 = .ok (.getfield 264, 3) := by decide +kernel
theorem dX10_run_18 : decode cX10_run 18 = .ok (.isub, 1) := by decide +kernel
theorem dX10_run_19 : decode cX10_run 19 = .ok (.ireturn, 1) := by decide +kernel
theorem dX10_run_20 : decode cX10_run 20 = .ok (.aload_n 0, 1) := by decide +kernel
theorem dX10_run_21 : decode cX10_run 21 = .ok (.invokevirtual 134, 3) := by decide +kernel
theorem dX10_run_24 : decode cX10_run 24 = .ok (.iconst 0, 1) := by decide +kernel
theorem dX10_run_25 : decode cX10_run 25 = .ok (.istore_n 1, 1) := by decide +kernel
theorem dX10_run_26 : decode cX10_run 26 = .ok (.iload_n 1, 1) := by decide +kernel
theorem dX10_run_27 : decode cX10_run 27 = .ok (.aload_n 0, 1) := by decide +kernel
theorem dX10_run_28 : decode cX10_run 28 = .ok (.getfield 304, 3) := by decide +kernel
theorem dX10_run_31 : decode cX10_run 31 = .ok (.if_icmp .ge 19, 3) := by decide +kernel
theorem dX10_run_34 : decode cX10_run 34 = .ok (.aload_n 0, 1) := by decide +kernel
theorem dX10_run_35 : decode cX10_run 35 = .ok (.iconst 4, 1) := by decide +kernel
theorem dX10_run_36 : decode cX10_run 36 = .ok (.iload_n 1, 1) := by decide +kernel
theorem dX10_run_37 : decode cX10_run 37 = .ok (.imul, 1) := by decide +kernel
theorem dX10_run_38 : decode cX10_run 38 = .ok (.invokevirtual 319, 3) := by decide +kernel
theorem dX10_run_41 : decode cX10_run 41 = .ok (.ifCond .eq 9, 3) := by decide +kernel
theorem dX10_run_44 : decode cX10_run 44 = .ok (.iinc 1 1, 3) := by decide +kernel
theorem dX10_run_47 : decode cX10_run 47 = .ok (.goto (-21), 3) := by decide +kernel
theorem dX10_run_50 : decode cX10_run 50 = .ok (.aload_n 0, 1) := by decide +kernel
theorem dX10_run_51 : decode cX10_run 51 = .ok (.iconst 0, 1) := by decide +kernel
theorem dX10_run_52 : decode cX10_run 52 = .ok (.putfield 48, 3) := by decide +kernel
theorem dX10_run_55 : decode cX10_run 55 = .ok (.iload_n 1, 1) := by decide +kernel
theorem dX10_run_56 : decode cX10_run 56 = .ok (.ireturn, 1) := by decide +kernel
theorem dX10_undo_0 : decode cX10_undo 0 = .ok (.aload_n 0, 1) := by decide +kernel
theorem dX10_undo_1 : decode cX10_undo 1 = .ok (.aload_n 0, 1) := by decide +kernel
theorem dX10_undo_2 : decode cX10_undo 2 = .ok (.getfield 52, 3) := by decide +kernel
theorem dX10_undo_5 : decode cX10_undo 5 = .ok (.ifCond .ne 7, 3) := by decide +kernel
theorem dX10_undo_8 : decode cX10_undo 8 = .ok (.iconst 1, 1) := by decide +kernel
theorem dX10_undo_9 : decode cX10_undo 9 = .ok (.goto 4, 3) := by decide +kernel
theorem dX10_undo_12 : decode cX10_undo 12 = .ok (.iconst 0, 1) := by decide +kernel
theorem dX10_undo_13 : decode cX10_undo 13 = .ok (.putfield 48, 3) := by decide +kernel
theorem dX10_undo_16 : decode cX10_undo 16 = .ok (.aload_n 0, 1) := by decide +kernel
theorem dX10_undo_17 : decode cX10_undo 17 = .ok (.getfield 48, 3) := by decide +kernel
theorem dX10_undo_20 : decode cX10_undo 20 = .ok (.ifCond .eq 5, 3) := by decide +kernel
theorem dX10_undo_23 : decode cX10_undo 23 = .ok (.iconst 0, 1) := by decide +kernel
theorem dX10_undo_24 : decode cX10_undo 24 = .ok (.ireturn, 1) := by decide +kernel
theorem dX10_undo_25 : decode cX10_undo 25 = .ok (.aload_n 0, 1) := by decide +kernel
theorem dX10_undo_26 : decode cX10_undo 26 = .ok (.dup, 1) := by decide +kernel
theorem dX10_undo_27 : decode cX10_undo 27 = .ok (.getfield 52, 3) := by decide +kernel
theorem dX10_undo_30 : decode cX10_undo 30 = .ok (.iconst 1, 1) := by decide +kernel
theorem dX10_undo_31 : decode cX10_undo 31 = .ok (.isub, 1) := by decide +kernel
theorem dX10_undo_32 : decode cX10_undo 32 = .ok (.putfield 52, 3) := by decide +kernel
theorem dX10_undo_35 : decode cX10_undo 35 = .ok (.iconst 0, 1) := by decide +kernel
theorem dX10_undo_36 : decode cX10_undo 36 = .ok (.istore_n 1, 1) := by decide +kernel
theorem dX10_undo_37 : decode cX10_undo 37 = .ok (.iload_n 1, 1) := by decide +kernel
theorem dX10_undo_38 : decode cX10_undo 38 = .ok (.sipush 431, 3) := by decide +kernel
theorem dX10_undo_41 : decode cX10_undo 41 = .ok (.if_icmp .ge 30, 3) := by decide +kernel
theorem dX10_undo_44 : decode cX10_undo 44 = .ok (.aload_n 0, 1) := by decide +kernel
theorem dX10_undo_45 : decode cX10_undo 45 = .ok (.getfield 7, 3) := by decide +kernel
theorem dX10_undo_48 : decode cX10_undo 48 = .ok (.iload_n 1, 1) := by decide +kernel
theorem dX10_undo_49 : decode cX10_undo 49 = .ok (.aload_n 0, 1) := by decide +kernel
theorem dX10_undo_50 : decode cX10_undo 50 = .ok (.getfield 13, 3) := by decide +kernel
theorem dX10_undo_53 : decode cX10_undo 53 = .ok (.sipush 431, 3) := by decide +kernel
theorem dX10_undo_56 : decode cX10_undo 56 = .ok (.aload_n 0, 1) := by decide +kernel
theorem dX10_undo_57 : decode cX10_undo 57 = .ok (.getfield 52, 3) := by decide +kernel
theorem dX10_undo_60 : decode cX10_undo 60 = .ok (.imul, 1) := by decide +kernel
theorem dX10_undo_61 : decode cX10_undo 61 = .ok (.iload_n 1, 1) := by decide +kernel
theorem dX10_undo_62 : decode cX10_undo 62 = .ok (.iadd, 1) := by decide +kernel
theorem dX10_undo_63 : decode cX10_undo 63 = .ok (.laload, 1) := by decide +kernel
theorem dX10_undo_64 : decode cX10_undo 64 = .ok (.lastore, 1) := by decide +kernel
theorem dX10_undo_65 : decode cX10_undo 65 = .ok (.iinc 1 1, 3) := by decide +kernel
theorem dX10_undo_68 : decode cX10_undo 68 = .ok (.goto (-31), 3) := by decide +kernel
theorem dX10_undo_71 : decode cX10_undo 71 = .ok (.aload_n 0, 1) := by decide +kernel
theorem dX10_undo_72 : decode cX10_undo 72 = .ok (.getfield 52, 3) := by decide +kernel
theorem dX10_undo_75 : decode cX10_undo 75 = .ok (.ireturn, 1) := by decide +kernel
theorem dX10_mix_0 : decode cX10_mix 0 = .ok (.aload_n 0, 1) := by decide +kernel
theorem dX10_mix_1 : decode cX10_mix 1 = .ok (.ldc2_w 322, 3) := by decide +kernel
theorem dX10_mix_4 : decode cX10_mix 4 = .ok (.aload_n 0, 1) := by decide +kernel
theorem dX10_mix_5 : decode cX10_mix 5 = .ok (.getfield 324, 3) := by decide +kernel
theorem dX10_mix_8 : decode cX10_mix 8 = .ok (.lmul, 1) := by decide +kernel
theorem dX10_mix_9 : decode cX10_mix 9 = .ok (.lload_n 1, 1) := by decide +kernel
theorem dX10_mix_10 : decode cX10_mix 10 = .ok (.ladd, 1) := by decide +kernel
theorem dX10_mix_11 : decode cX10_mix 11 = .ok (.putfield 324, 3) := by decide +kernel
theorem dX10_mix_14 : decode cX10_mix 14 = .ok (.return_, 1) := by decide +kernel
theorem dX10_mixEchoes_0 : decode cX10_mixEchoes 0 = .ok (.aload_n 0, 1) := by decide +kernel
theorem dX10_mixEchoes_1 : decode cX10_mixEchoes 1 = .ok (.invokevirtual 193, 3) := by decide +kernel
theorem dX10_mixEchoes_4 : decode cX10_mixEchoes 4 = .ok (.iconst 0, 1) := by decide +kernel
theorem dX10_mixEchoes_5 : decode cX10_mixEchoes 5 = .ok (.istore_n 1, 1) := by decide +kernel
theorem dX10_mixEchoes_6 : decode cX10_mixEchoes 6 = .ok (.iload_n 1, 1) := by decide +kernel
theorem dX10_mixEchoes_7 : decode cX10_mixEchoes 7 = .ok (.bipush 9, 2) := by decide +kernel
theorem dX10_mixEchoes_9 : decode cX10_mixEchoes 9 = .ok (.if_icmp .ge 18, 3) := by decide +kernel
theorem dX10_mixEchoes_12 : decode cX10_mixEchoes 12 = .ok (.aload_n 0, 1) := by decide +kernel
theorem dX10_mixEchoes_13 : decode cX10_mixEchoes 13 = .ok (.aload_n 0, 1) := by decide +kernel
theorem dX10_mixEchoes_14 : decode cX10_mixEchoes 14 = .ok (.iload_n 1, 1) := by decide +kernel
theorem dX10_mixEchoes_15 : decode cX10_mixEchoes 15 = .ok (.invokevirtual 201, 3) := by decide +kernel
theorem dX10_mixEchoes_18 : decode cX10_mixEchoes 18 = .ok (.invokevirtual 327, 3) := by decide +kernel
theorem dX10_mixEchoes_21 : decode cX10_mixEchoes 21 = .ok (.iinc 1 1, 3) := by decide +kernel
theorem dX10_mixEchoes_24 : decode cX10_mixEchoes 24 = .ok (.goto (-18), 3) := by decide +kernel
theorem dX10_mixEchoes_27 : decode cX10_mixEchoes 27 = .ok (.iconst 0, 1) := by decide +kernel
theorem dX10_mixEchoes_28 : decode cX10_mixEchoes 28 = .ok (.istore_n 1, 1) := by decide +kernel
theorem dX10_mixEchoes_29 : decode cX10_mixEchoes 29 = .ok (.iload_n 1, 1) := by decide +kernel
theorem dX10_mixEchoes_30 : decode cX10_mixEchoes 30 = .ok (.aload_n 0, 1) := by decide +kernel
theorem dX10_mixEchoes_31 : decode cX10_mixEchoes 31 = .ok (.invokevirtual 110, 3) := by decide +kernel
theorem dX10_mixEchoes_34 : decode cX10_mixEchoes 34 = .ok (.if_icmp .gt 19, 3) := by decide +kernel
theorem dX10_mixEchoes_37 : decode cX10_mixEchoes 37 = .ok (.aload_n 0, 1) := by decide +kernel
theorem dX10_mixEchoes_38 : decode cX10_mixEchoes 38 = .ok (.aload_n 0, 1) := by decide +kernel
theorem dX10_mixEchoes_39 : decode cX10_mixEchoes 39 = .ok (.getfield 38, 3) := by decide +kernel
theorem dX10_mixEchoes_42 : decode cX10_mixEchoes 42 = .ok (.iload_n 1, 1) := by decide +kernel
theorem dX10_mixEchoes_43 : decode cX10_mixEchoes 43 = .ok (.laload, 1) := by decide +kernel
theorem dX10_mixEchoes_44 : decode cX10_mixEchoes 44 = .ok (.invokevirtual 327, 3) := by decide +kernel
theorem dX10_mixEchoes_47 : decode cX10_mixEchoes 47 = .ok (.iinc 1 1, 3) := by decide +kernel
theorem dX10_mixEchoes_50 : decode cX10_mixEchoes 50 = .ok (.goto (-21), 3) := by decide +kernel
theorem dX10_mixEchoes_53 : decode cX10_mixEchoes 53 = .ok (.aload_n 0, 1) := by decide +kernel
theorem dX10_mixEchoes_54 : decode cX10_mixEchoes 54 = .ok (.aload_n 0, 1) := by decide +kernel
theorem dX10_mixEchoes_55 : decode cX10_mixEchoes 55 = .ok (.invokevirtual 218, 3) := by decide +kernel
theorem dX10_mixEchoes_58 : decode cX10_mixEchoes 58 = .ok (.i2l, 1) := by decide +kernel
theorem dX10_mixEchoes_59 : decode cX10_mixEchoes 59 = .ok (.invokevirtual 327, 3) := by decide +kernel
theorem dX10_mixEchoes_62 : decode cX10_mixEchoes 62 = .ok (.iconst 0, 1) := by decide +kernel
theorem dX10_mixEchoes_63 : decode cX10_mixEchoes 63 = .ok (.istore_n 1, 1) := by decide +kernel
theorem dX10_mixEchoes_64 : decode cX10_mixEchoes 64 = .ok (.iload_n 1, 1) := by decide +kernel
theorem dX10_mixEchoes_65 : decode cX10_mixEchoes 65 = .ok (.iconst 4, 1) := by decide +kernel
theorem dX10_mixEchoes_66 : decode cX10_mixEchoes 66 = .ok (.if_icmp .ge 19, 3) := by decide +kernel
theorem dX10_mixEchoes_69 : decode cX10_mixEchoes 69 = .ok (.aload_n 0, 1) := by decide +kernel
theorem dX10_mixEchoes_70 : decode cX10_mixEchoes 70 = .ok (.aload_n 0, 1) := by decide +kernel
theorem dX10_mixEchoes_71 : decode cX10_mixEchoes 71 = .ok (.iload_n 1, 1) := by decide +kernel
theorem dX10_mixEchoes_72 : decode cX10_mixEchoes 72 = .ok (.invokevirtual 226, 3) := by decide +kernel
theorem dX10_mixEchoes_75 : decode cX10_mixEchoes 75 = .ok (.i2l, 1) := by decide +kernel
theorem dX10_mixEchoes_76 : decode cX10_mixEchoes 76 = .ok (.invokevirtual 327, 3) := by decide +kernel
theorem dX10_mixEchoes_79 : decode cX10_mixEchoes 79 = .ok (.iinc 1 1, 3) := by decide +kernel
theorem dX10_mixEchoes_82 : decode cX10_mixEchoes 82 = .ok (.goto (-18), 3) := by decide +kernel
theorem dX10_mixEchoes_85 : decode cX10_mixEchoes 85 = .ok (.return_, 1) := by decide +kernel
theorem dX10_digest_0 : decode cX10_digest 0 = .ok (.aload_n 0, 1) := by decide +kernel
theorem dX10_digest_1 : decode cX10_digest 1 = .ok (.iconst 0, 1) := by decide +kernel
theorem dX10_digest_2 : decode cX10_digest 2 = .ok (.putfield 48, 3) := by decide +kernel
theorem dX10_digest_5 : decode cX10_digest 5 = .ok (.aload_n 0, 1) := by decide +kernel
theorem dX10_digest_6 : decode cX10_digest 6 = .ok (.ldc2_w 330, 3) := by decide +kernel
theorem dX10_digest_9 : decode cX10_digest 9 = .ok (.putfield 324, 3) := by decide +kernel
theorem dX10_digest_12 : decode cX10_digest 12 = .ok (.aload_n 0, 1) := by decide +kernel
theorem dX10_digest_13 : decode cX10_digest 13 = .ok (.aload_n 0, 1) := by decide +kernel
theorem dX10_digest_14 : decode cX10_digest 14 = .ok (.getfield 52, 3) := by decide +kernel
theorem dX10_digest_17 : decode cX10_digest 17 = .ok (.i2l, 1) := by decide +kernel
theorem dX10_digest_18 : decode cX10_digest 18 = .ok (.invokevirtual 327, 3) := by decide +kernel
theorem dX10_digest_21 : decode cX10_digest 21 = .ok (.aload_n 0, 1) := by decide +kernel
theorem dX10_digest_22 : decode cX10_digest 22 = .ok (.aload_n 0, 1) := by decide +kernel
theorem dX10_digest_23 : decode cX10_digest 23 = .ok (.getfield 261, 3) := by decide +kernel
theorem dX10_digest_26 : decode cX10_digest 26 = .ok (.i2l, 1) := by decide +kernel
theorem dX10_digest_27 : decode cX10_digest 27 = .ok (.invokevirtual 327, 3) := by decide +kernel
theorem dX10_digest_30 : decode cX10_digest 30 = .ok (.iconst 0, 1) := by decide +kernel
theorem dX10_digest_31 : decode cX10_digest 31 = .ok (.istore_n 1, 1) := by decide +kernel
theorem dX10_digest_32 : decode cX10_digest 32 = .ok (.iload_n 1, 1) := by decide +kernel
theorem dX10_digest_33 : decode cX10_digest 33 = .ok (.bipush 6, 2) := by decide +kernel
theorem dX10_digest_35 : decode cX10_digest 35 = .ok (.if_icmp .ge 19, 3) := by decide +kernel
theorem dX10_digest_38 : decode cX10_digest 38 = .ok (.aload_n 0, 1) := by decide +kernel
theorem dX10_digest_39 : decode cX10_digest 39 = .ok (.aload_n 0, 1) := by decide +kernel
theorem dX10_digest_40 : decode cX10_digest 40 = .ok (.iload_n 1, 1) := by decide +kernel
theorem dX10_digest_41 : decode cX10_digest 41 = .ok (.invokevirtual 190, 3) := by decide +kernel
theorem dX10_digest_44 : decode cX10_digest 44 = .ok (.i2l, 1) := by decide +kernel
theorem dX10_digest_45 : decode cX10_digest 45 = .ok (.invokevirtual 327, 3) := by decide +kernel
theorem dX10_digest_48 : decode cX10_digest 48 = .ok (.iinc 1 1, 3) := by decide +kernel
theorem dX10_digest_51 : decode cX10_digest 51 = .ok (.goto (-19), 3) := by decide +kernel
theorem dX10_digest_54 : decode cX10_digest 54 = .ok (.iconst 0, 1) := by decide +kernel
theorem dX10_digest_55 : decode cX10_digest 55 = .ok (.istore_n 1, 1) := by decide +kernel
theorem dX10_digest_56 : decode cX10_digest 56 = .ok (.iload_n 1, 1) := by decide +kernel
theorem dX10_digest_57 : decode cX10_digest 57 = .ok (.aload_n 0, 1) := by decide +kernel
theorem dX10_digest_58 : decode cX10_digest 58 = .ok (.invokevirtual 55, 3) := by decide +kernel
theorem dX10_digest_61 : decode cX10_digest 61 = .ok (.if_icmp .ge 34, 3) := by decide +kernel
theorem dX10_digest_64 : decode cX10_digest 64 = .ok (.aload_n 0, 1) := by decide +kernel
theorem dX10_digest_65 : decode cX10_digest 65 = .ok (.aload_n 0, 1) := by decide +kernel
theorem dX10_digest_66 : decode cX10_digest 66 = .ok (.getfield 7, 3) := by decide +kernel
theorem dX10_digest_69 : decode cX10_digest 69 = .ok (.iconst 1, 1) := by decide +kernel
theorem dX10_digest_70 : decode cX10_digest 70 = .ok (.iload_n 1, 1) := by decide +kernel
theorem dX10_digest_71 : decode cX10_digest 71 = .ok (.iadd, 1) := by decide +kernel
theorem dX10_digest_72 : decode cX10_digest 72 = .ok (.laload, 1) := by decide +kernel
theorem dX10_digest_73 : decode cX10_digest 73 = .ok (.invokevirtual 327, 3) := by decide +kernel
theorem dX10_digest_76 : decode cX10_digest 76 = .ok (.aload_n 0, 1) := by decide +kernel
theorem dX10_digest_77 : decode cX10_digest 77 = .ok (.aload_n 0, 1) := by decide +kernel
theorem dX10_digest_78 : decode cX10_digest 78 = .ok (.getfield 7, 3) := by decide +kernel
theorem dX10_digest_81 : decode cX10_digest 81 = .ok (.bipush 9, 2) := by decide +kernel
theorem dX10_digest_83 : decode cX10_digest 83 = .ok (.iload_n 1, 1) := by decide +kernel
theorem dX10_digest_84 : decode cX10_digest 84 = .ok (.iadd, 1) := by decide +kernel
theorem dX10_digest_85 : decode cX10_digest 85 = .ok (.laload, 1) := by decide +kernel
theorem dX10_digest_86 : decode cX10_digest 86 = .ok (.invokevirtual 327, 3) := by decide +kernel
theorem dX10_digest_89 : decode cX10_digest 89 = .ok (.iinc 1 1, 3) := by decide +kernel
theorem dX10_digest_92 : decode cX10_digest 92 = .ok (.goto (-36), 3) := by decide +kernel
theorem dX10_digest_95 : decode cX10_digest 95 = .ok (.iconst 0, 1) := by decide +kernel
theorem dX10_digest_96 : decode cX10_digest 96 = .ok (.istore_n 1, 1) := by decide +kernel
theorem dX10_digest_97 : decode cX10_digest 97 = .ok (.iload_n 1, 1) := by decide +kernel
theorem dX10_digest_98 : decode cX10_digest 98 = .ok (.i2l, 1) := by decide +kernel
theorem dX10_digest_99 : decode cX10_digest 99 = .ok (.ldc2_w 183, 3) := by decide +kernel
theorem dX10_digest_102 : decode cX10_digest 102 = .ok (.aload_n 0, 1) := by decide +kernel
theorem dX10_digest_103 : decode cX10_digest 103 = .ok (.getfield 7, 3) := by decide +kernel
theorem dX10_digest_106 : decode cX10_digest 106 = .ok (.bipush 20, 2) := by decide +kernel
theorem dX10_digest_108 : decode cX10_digest 108 = .ok (.laload, 1) := by decide +kernel
theorem dX10_digest_109 : decode cX10_digest 109 = .ok (.lmul, 1) := by decide +kernel
theorem dX10_digest_110 : decode cX10_digest 110 = .ok (.lcmp, 1) := by decide +kernel
theorem dX10_digest_111 : decode cX10_digest 111 = .ok (.ifCond .ge 22, 3) := by decide +kernel
theorem dX10_digest_114 : decode cX10_digest 114 = .ok (.aload_n 0, 1) := by decide +kernel
theorem dX10_digest_115 : decode cX10_digest 115 = .ok (.aload_n 0, 1) := by decide +kernel
theorem dX10_digest_116 : decode cX10_digest 116 = .ok (.getfield 7, 3) := by decide +kernel
theorem dX10_digest_119 : decode cX10_digest 119 = .ok (.bipush 21, 2) := by decide +kernel
theorem dX10_digest_121 : decode cX10_digest 121 = .ok (.iload_n 1, 1) := by decide +kernel
theorem dX10_digest_122 : decode cX10_digest 122 = .ok (.iadd, 1) := by decide +kernel
theorem dX10_digest_123 : decode cX10_digest 123 = .ok (.laload, 1) := by decide +kernel
theorem dX10_digest_124 : decode cX10_digest 124 = .ok (.invokevirtual 327, 3) := by decide +kernel
theorem dX10_digest_127 : decode cX10_digest 127 = .ok (.iinc 1 1, 3) := by decide +kernel
theorem dX10_digest_130 : decode cX10_digest 130 = .ok (.goto (-33), 3) := by decide +kernel
theorem dX10_digest_133 : decode cX10_digest 133 = .ok (.aload_n 0, 1) := by decide +kernel
theorem dX10_digest_134 : decode cX10_digest 134 = .ok (.invokevirtual 332, 3) := by decide +kernel
theorem dX10_digest_137 : decode cX10_digest 137 = .ok (.iconst 0, 1) := by decide +kernel
theorem dX10_digest_138 : decode cX10_digest 138 = .ok (.istore_n 1, 1) := by decide +kernel
theorem dX10_digest_139 : decode cX10_digest 139 = .ok (.iload_n 1, 1) := by decide +kernel
theorem dX10_digest_140 : decode cX10_digest 140 = .ok (.sipush 201, 3) := by decide +kernel
theorem dX10_digest_143 : decode cX10_digest 143 = .ok (.if_icmp .ge 23, 3) := by decide +kernel
theorem dX10_digest_146 : decode cX10_digest 146 = .ok (.aload_n 0, 1) := by decide +kernel
theorem dX10_digest_147 : decode cX10_digest 147 = .ok (.aload_n 0, 1) := by decide +kernel
theorem dX10_digest_148 : decode cX10_digest 148 = .ok (.getfield 7, 3) := by decide +kernel
theorem dX10_digest_151 : decode cX10_digest 151 = .ok (.sipush 230, 3) := by decide +kernel
theorem dX10_digest_154 : decode cX10_digest 154 = .ok (.iload_n 1, 1) := by decide +kernel
theorem dX10_digest_155 : decode cX10_digest 155 = .ok (.iadd, 1) := by decide +kernel
theorem dX10_digest_156 : decode cX10_digest 156 = .ok (.laload, 1) := by decide +kernel
theorem dX10_digest_157 : decode cX10_digest 157 = .ok (.invokevirtual 327, 3) := by decide +kernel
theorem dX10_digest_160 : decode cX10_digest 160 = .ok (.iinc 1 1, 3) := by decide +kernel
theorem dX10_digest_163 : decode cX10_digest 163 = .ok (.goto (-24), 3) := by decide +kernel
theorem dX10_digest_166 : decode cX10_digest 166 = .ok (.aload_n 0, 1) := by decide +kernel
theorem dX10_digest_167 : decode cX10_digest 167 = .ok (.invokevirtual 250, 3) := by decide +kernel
theorem dX10_digest_170 : decode cX10_digest 170 = .ok (.iconst 0, 1) := by decide +kernel
theorem dX10_digest_171 : decode cX10_digest 171 = .ok (.istore_n 1, 1) := by decide +kernel
theorem dX10_digest_172 : decode cX10_digest 172 = .ok (.iload_n 1, 1) := by decide +kernel
theorem dX10_digest_173 : decode cX10_digest 173 = .ok (.iconst 4, 1) := by decide +kernel
theorem dX10_digest_174 : decode cX10_digest 174 = .ok (.if_icmp .ge 19, 3) := by decide +kernel
theorem dX10_digest_177 : decode cX10_digest 177 = .ok (.aload_n 0, 1) := by decide +kernel
theorem dX10_digest_178 : decode cX10_digest 178 = .ok (.aload_n 0, 1) := by decide +kernel
theorem dX10_digest_179 : decode cX10_digest 179 = .ok (.iload_n 1, 1) := by decide +kernel
theorem dX10_digest_180 : decode cX10_digest 180 = .ok (.invokevirtual 253, 3) := by decide +kernel
theorem dX10_digest_183 : decode cX10_digest 183 = .ok (.i2l, 1) := by decide +kernel
theorem dX10_digest_184 : decode cX10_digest 184 = .ok (.invokevirtual 327, 3) := by decide +kernel
theorem dX10_digest_187 : decode cX10_digest 187 = .ok (.iinc 1 1, 3) := by decide +kernel
theorem dX10_digest_190 : decode cX10_digest 190 = .ok (.goto (-18), 3) := by decide +kernel
theorem dX10_digest_193 : decode cX10_digest 193 = .ok (.iconst 0, 1) := by decide +kernel
theorem dX10_digest_194 : decode cX10_digest 194 = .ok (.istore_n 1, 1) := by decide +kernel
theorem dX10_digest_195 : decode cX10_digest 195 = .ok (.iload_n 1, 1) := by decide +kernel
theorem dX10_digest_196 : decode cX10_digest 196 = .ok (.aload_n 0, 1) := by decide +kernel
theorem dX10_digest_197 : decode cX10_digest 197 = .ok (.getfield 79, 3) := by decide +kernel
theorem dX10_digest_200 : decode cX10_digest 200 = .ok (.if_icmp .ge 33, 3) := by decide +kernel
theorem dX10_digest_203 : decode cX10_digest 203 = .ok (.aload_n 0, 1) := by decide +kernel
theorem dX10_digest_204 : decode cX10_digest 204 = .ok (.aload_n 0, 1) := by decide +kernel
theorem dX10_digest_205 : decode cX10_digest 205 = .ok (.getfield 20, 3) := by decide +kernel
theorem dX10_digest_208 : decode cX10_digest 208 = .ok (.iload_n 1, 1) := by decide +kernel
theorem dX10_digest_209 : decode cX10_digest 209 = .ok (.iaload, 1) := by decide +kernel
theorem dX10_digest_210 : decode cX10_digest 210 = .ok (.i2l, 1) := by decide +kernel
theorem dX10_digest_211 : decode cX10_digest 211 = .ok (.invokevirtual 327, 3) := by decide +kernel
theorem dX10_digest_214 : decode cX10_digest 214 = .ok (.aload_n 0, 1) := by decide +kernel
theorem dX10_digest_215 : decode cX10_digest 215 = .ok (.aload_n 0, 1) := by decide +kernel
theorem dX10_digest_216 : decode cX10_digest 216 = .ok (.getfield 23, 3) := by decide +kernel
theorem dX10_digest_219 : decode cX10_digest 219 = .ok (.iload_n 1, 1) := by decide +kernel
theorem dX10_digest_220 : decode cX10_digest 220 = .ok (.iconst 1, 1) := by decide +kernel
theorem dX10_digest_221 : decode cX10_digest 221 = .ok (.iadd, 1) := by decide +kernel
theorem dX10_digest_222 : decode cX10_digest 222 = .ok (.iaload, 1) := by decide +kernel
theorem dX10_digest_223 : decode cX10_digest 223 = .ok (.i2l, 1) := by decide +kernel
theorem dX10_digest_224 : decode cX10_digest 224 = .ok (.invokevirtual 327, 3) := by decide +kernel
theorem dX10_digest_227 : decode cX10_digest 227 = .ok (.iinc 1 1, 3) := by decide +kernel
theorem dX10_digest_230 : decode cX10_digest 230 = .ok (.goto (-35), 3) := by decide +kernel
theorem dX10_digest_233 : decode cX10_digest 233 = .ok (.aload_n 0, 1) := by decide +kernel
theorem dX10_digest_234 : decode cX10_digest 234 = .ok (.getfield 324, 3) := by decide +kernel
theorem dX10_digest_237 : decode cX10_digest 237 = .ok (.lreturn, 1) := by decide +kernel
